/-! the class, as functions -/
theorem dX8_ahead_0 : decode cX8_ahead 0 = .ok (.aload_n 0, 1) := of_0 ok_aload_n_0 (by decide +kernel)
theorem dX8_ahead_1 : decode cX8_ahead 1 = .ok (.getfield 29, 3) := of_u2 ok_getfield 0 29 (by decide +kernel)
theorem dX8_ahead_4 : decode cX8_ahead 4 = .ok (.getfield 81, 3) := of_u2 ok_getfield 0 81 (by decide +kernel)
theorem dX8_ahead_7 : decode cX8_ahead 7 = .ok (.astore 4, 2) := of_u1 ok_astore (by decide +kernel)
theorem dX8_ahead_9 : decode cX8_ahead 9 = .ok (.aload 4, 2) := of_u1 ok_aload (by decide +kernel)
theorem dX8_ahead_11 : decode cX8_ahead 11 = .ok (.getfield 150, 3) := of_u2 ok_getfield 0 150 (by decide +kernel)
theorem dX8_ahead_14 : decode cX8_ahead 14 = .ok (.ifCond .eq 22, 3) := of_s2 ok_ifCond_eq 0 22 (by decide +kernel)
theorem dX8_ahead_17 : decode cX8_ahead 17 = .ok (.iload_n 2, 1) := of_0 ok_iload_n_2 (by decide +kernel)
theorem dX8_ahead_18 : decode cX8_ahead 18 = .ok (.ifCond .lt 18, 3) := of_s2 ok_ifCond_lt 0 18 (by decide +kernel)
theorem dX8_ahead_21 : decode cX8_ahead 21 = .ok (.iload_n 2, 1) := of_0 ok_iload_n_2 (by decide +kernel)
theorem dX8_ahead_22 : decode cX8_ahead 22 = .ok (.bipush 100, 2) := of_s1 ok_bipush 100 (by decide +kernel)
theorem dX8_ahead_24 : decode cX8_ahead 24 = .ok (.if_icmp .gt 12, 3) := of_s2 ok_if_icmp_gt 0 12 (by decide +kernel)
theorem dX8_ahead_27 : decode cX8_ahead 27 = .ok (.iload_n 3, 1) := of_0 ok_iload_n_3 (by decide +kernel)
theorem dX8_ahead_28 : decode cX8_ahead 28 = .ok (.ifCond .lt 8, 3) := of_s2 ok_ifCond_lt 0 8 (by decide +kernel)
theorem dX8_ahead_31 : decode cX8_ahead 31 = .ok (.iload_n 3, 1) := of_0 ok_iload_n_3 (by decide +kernel)
theorem dX8_ahead_32 : decode cX8_ahead 32 = .ok (.iconst 2, 1) := of_0 ok_iconst_2 (by decide +kernel)
theorem dX8_ahead_33 : decode cX8_ahead 33 = .ok (.if_icmp .le 5, 3) := of_s2 ok_if_icmp_le 0 5 (by decide +kernel)
theorem dX8_ahead_36 : decode cX8_ahead 36 = .ok (.iconst (-1), 1) := of_0 ok_iconst_m1 (by decide +kernel)
theorem dX8_ahead_37 : decode cX8_ahead 37 = .ok (.ireturn, 1) := of_0 ok_ireturn (by decide +kernel)
theorem dX8_ahead_38 : decode cX8_ahead 38 = .ok (.iload_n 3, 1) := of_0 ok_iload_n_3 (by decide +kernel)
theorem dX8_ahead_39 : decode cX8_ahead 39 = .ok (.iconst 2, 1) := of_0 ok_iconst_2 (by decide +kernel)
theorem dX8_ahead_40 : decode cX8_ahead 40 = .ok (.if_icmp .eq 14, 3) := of_s2 ok_if_icmp_eq 0 14 (by decide +kernel)
theorem dX8_ahead_43 : decode cX8_ahead 43 = .ok (.aload 4, 2) := of_u1 ok_aload (by decide +kernel)
theorem dX8_ahead_45 : decode cX8_ahead 45 = .ok (.iload_n 1, 1) := of_0 ok_iload_n_1 (by decide +kernel)
theorem dX8_ahead_46 : decode cX8_ahead 46 = .ok (.invokevirtual 138, 3) := of_u2 ok_invokevirtual 0 138 (by decide +kernel)
theorem dX8_ahead_49 : decode cX8_ahead 49 = .ok (.ifCond .ne 5, 3) := of_s2 ok_ifCond_ne 0 5 (by decide +kernel)
theorem dX8_ahead_52 : decode cX8_ahead 52 = .ok (.iconst (-1), 1) := of_0 ok_iconst_m1 (by decide +kernel)
theorem dX8_ahead_53 : decode cX8_ahead 53 = .ok (.ireturn, 1) := of_0 ok_ireturn (by decide +kernel)
theorem dX8_ahead_54 : decode cX8_ahead 54 = .ok (.aload_n 0, 1) := of_0 ok_aload_n_0 (by decide +kernel)
theorem dX8_ahead_55 : decode cX8_ahead 55 = .ok (.getfield 44, 3) := of_u2 ok_getfield 0 44 (by decide +kernel)
theorem dX8_ahead_58 : decode cX8_ahead 58 = .ok (.aload 4, 2) := of_u1 ok_aload (by decide +kernel)
theorem dX8_ahead_60 : decode cX8_ahead 60 = .ok (.invokevirtual 84, 3) := of_u2 ok_invokevirtual 0 84 (by decide +kernel)
theorem dX8_ahead_63 : decode cX8_ahead 63 = .ok (.aload_n 0, 1) := of_0 ok_aload_n_0 (by decide +kernel)
theorem dX8_ahead_64 : decode cX8_ahead 64 = .ok (.getfield 44, 3) := of_u2 ok_getfield 0 44 (by decide +kernel)
theorem dX8_ahead_67 : decode cX8_ahead 67 = .ok (.iload_n 2, 1) := of_0 ok_iload_n_2 (by decide +kernel)
theorem dX8_ahead_68 : decode cX8_ahead 68 = .ok (.aload_n 0, 1) := of_0 ok_aload_n_0 (by decide +kernel)
theorem dX8_ahead_69 : decode cX8_ahead 69 = .ok (.invokevirtual 160, 3) := of_u2 ok_invokevirtual 0 160 (by decide +kernel)
theorem dX8_ahead_72 : decode cX8_ahead 72 = .ok (.invokevirtual 193, 3) := of_u2 ok_invokevirtual 0 193 (by decide +kernel)
theorem dX8_ahead_75 : decode cX8_ahead 75 = .ok (.iload_n 3, 1) := of_0 ok_iload_n_3 (by decide +kernel)
theorem dX8_ahead_76 : decode cX8_ahead 76 = .ok (.iconst 2, 1) := of_0 ok_iconst_2 (by decide +kernel)
theorem dX8_ahead_77 : decode cX8_ahead 77 = .ok (.if_icmp .ne 14, 3) := of_s2 ok_if_icmp_ne 0 14 (by decide +kernel)
theorem dX8_ahead_80 : decode cX8_ahead 80 = .ok (.aload_n 0, 1) := of_0 ok_aload_n_0 (by decide +kernel)
theorem dX8_ahead_81 : decode cX8_ahead 81 = .ok (.getfield 44, 3) := of_u2 ok_getfield 0 44 (by decide +kernel)
theorem dX8_ahead_84 : decode cX8_ahead 84 = .ok (.getfield 179, 3) := of_u2 ok_getfield 0 179 (by decide +kernel)
theorem dX8_ahead_87 : decode cX8_ahead 87 = .ok (.invokestatic 182, 3) := of_u2 ok_invokestatic 0 182 (by decide +kernel)
theorem dX8_ahead_90 : decode cX8_ahead 90 = .ok (.ireturn, 1) := of_0 ok_ireturn (by decide +kernel)
theorem dX8_ahead_91 : decode cX8_ahead 91 = .ok (.iload_n 3, 1) := of_0 ok_iload_n_3 (by decide +kernel)
theorem dX8_ahead_92 : decode cX8_ahead 92 = .ok (.ifCond .ne 14, 3) := of_s2 ok_ifCond_ne 0 14 (by decide +kernel)
theorem dX8_ahead_95 : decode cX8_ahead 95 = .ok (.aload_n 0, 1) := of_0 ok_aload_n_0 (by decide +kernel)
theorem dX8_ahead_96 : decode cX8_ahead 96 = .ok (.getfield 44, 3) := of_u2 ok_getfield 0 44 (by decide +kernel)
theorem dX8_ahead_99 : decode cX8_ahead 99 = .ok (.iload_n 1, 1) := of_0 ok_iload_n_1 (by decide +kernel)
theorem dX8_ahead_100 : decode cX8_ahead 100 = .ok (.invokevirtual 147, 3) := of_u2 ok_invokevirtual 0 147 (by decide +kernel)
theorem dX8_ahead_103 : decode cX8_ahead 103 = .ok (.goto 11, 3) := of_s2 ok_goto 0 11 (by decide +kernel)
theorem dX8_ahead_106 : decode cX8_ahead 106 = .ok (.aload_n 0, 1) := of_0 ok_aload_n_0 (by decide +kernel)
theorem dX8_ahead_107 : decode cX8_ahead 107 = .ok (.getfield 44, 3) := of_u2 ok_getfield 0 44 (by decide +kernel)
theorem dX8_ahead_110 : decode cX8_ahead 110 = .ok (.iload_n 1, 1) := of_0 ok_iload_n_1 (by decide +kernel)
theorem dX8_ahead_111 : decode cX8_ahead 111 = .ok (.invokevirtual 135, 3) := of_u2 ok_invokevirtual 0 135 (by decide +kernel)
theorem dX8_ahead_114 : decode cX8_ahead 114 = .ok (.ireturn, 1) := of_0 ok_ireturn (by decide +kernel)
theorem dX8_chair_0 : decode cX8_chair 0 = .ok (.aload_n 0, 1) := of_0 ok_aload_n_0 (by decide +kernel)
theorem dX8_chair_1 : decode cX8_chair 1 = .ok (.getfield 29, 3) := of_u2 ok_getfield 0 29 (by decide +kernel)
theorem dX8_chair_4 : decode cX8_chair 4 = .ok (.getfield 81, 3) := of_u2 ok_getfield 0 81 (by decide +kernel)
theorem dX8_chair_7 : decode cX8_chair 7 = .ok (.astore_n 3, 1) := of_0 ok_astore_n_3 (by decide +kernel)
theorem dX8_chair_8 : decode cX8_chair 8 = .ok (.aload_n 3, 1) := of_0 ok_aload_n_3 (by decide +kernel)
theorem dX8_chair_9 : decode cX8_chair 9 = .ok (.iload_n 1, 1) := of_0 ok_iload_n_1 (by decide +kernel)
theorem dX8_chair_10 : decode cX8_chair 10 = .ok (.invokevirtual 122, 3) := of_u2 ok_invokevirtual 0 122 (by decide +kernel)
theorem dX8_chair_13 : decode cX8_chair 13 = .ok (.ifCond .ne 6, 3) := of_s2 ok_ifCond_ne 0 6 (by decide +kernel)
theorem dX8_chair_16 : decode cX8_chair 16 = .ok (.bipush (-2), 2) := of_s1 ok_bipush 254 (by decide +kernel)
theorem dX8_chair_18 : decode cX8_chair 18 = .ok (.ireturn, 1) := of_0 ok_ireturn (by decide +kernel)
theorem dX8_chair_19 : decode cX8_chair 19 = .ok (.iload_n 2, 1) := of_0 ok_iload_n_2 (by decide +kernel)
theorem dX8_chair_20 : decode cX8_chair 20 = .ok (.tableswitch 62 0 3 #[32, 39, 46, 52], 32) := by decide +kernel
theorem dX8_chair_52 : decode cX8_chair 52 = .ok (.aload_n 3, 1) := of_0 ok_aload_n_3 (by decide +kernel)
theorem dX8_chair_53 : decode cX8_chair 53 = .ok (.getfield 125, 3) := of_u2 ok_getfield 0 125 (by decide +kernel)
theorem dX8_chair_56 : decode cX8_chair 56 = .ok (.iload_n 1, 1) := of_0 ok_iload_n_1 (by decide +kernel)
theorem dX8_chair_57 : decode cX8_chair 57 = .ok (.iaload, 1) := of_0 ok_iaload (by decide +kernel)
theorem dX8_chair_58 : decode cX8_chair 58 = .ok (.ireturn, 1) := of_0 ok_ireturn (by decide +kernel)
theorem dX8_chair_59 : decode cX8_chair 59 = .ok (.aload_n 3, 1) := of_0 ok_aload_n_3 (by decide +kernel)
theorem dX8_chair_60 : decode cX8_chair 60 = .ok (.getfield 128, 3) := of_u2 ok_getfield 0 128 (by decide +kernel)
theorem dX8_chair_63 : decode cX8_chair 63 = .ok (.iload_n 1, 1) := of_0 ok_iload_n_1 (by decide +kernel)
theorem dX8_chair_64 : decode cX8_chair 64 = .ok (.iaload, 1) := of_0 ok_iaload (by decide +kernel)
theorem dX8_chair_65 : decode cX8_chair 65 = .ok (.ireturn, 1) := of_0 ok_ireturn (by decide +kernel)
theorem dX8_chair_66 : decode cX8_chair 66 = .ok (.aload_n 3, 1) := of_0 ok_aload_n_3 (by decide +kernel)
theorem dX8_chair_67 : decode cX8_chair 67 = .ok (.iload_n 1, 1) := of_0 ok_iload_n_1 (by decide +kernel)
theorem dX8_chair_68 : decode cX8_chair 68 = .ok (.invokevirtual 131, 3) := of_u2 ok_invokevirtual 0 131 (by decide +kernel)
theorem dX8_chair_71 : decode cX8_chair 71 = .ok (.ireturn, 1) := of_0 ok_ireturn (by decide +kernel)
theorem dX8_chair_72 : decode cX8_chair 72 = .ok (.aload_n 3, 1) := of_0 ok_aload_n_3 (by decide +kernel)
theorem dX8_chair_73 : decode cX8_chair 73 = .ok (.aload_n 3, 1) := of_0 ok_aload_n_3 (by decide +kernel)
theorem dX8_chair_74 : decode cX8_chair 74 = .ok (.iload_n 1, 1) := of_0 ok_iload_n_1 (by decide +kernel)
theorem dX8_chair_75 : decode cX8_chair 75 = .ok (.invokevirtual 131, 3) := of_u2 ok_invokevirtual 0 131 (by decide +kernel)
theorem dX8_chair_78 : decode cX8_chair 78 = .ok (.invokevirtual 135, 3) := of_u2 ok_invokevirtual 0 135 (by decide +kernel)
theorem dX8_chair_81 : decode cX8_chair 81 = .ok (.ireturn, 1) := of_0 ok_ireturn (by decide +kernel)
theorem dX8_chair_82 : decode cX8_chair 82 = .ok (.bipush (-2), 2) := of_s1 ok_bipush 254 (by decide +kernel)
theorem dX8_chair_84 : decode cX8_chair 84 = .ok (.ireturn, 1) := of_0 ok_ireturn (by decide +kernel)
theorem dX8_drawOf_0 : decode cX8_drawOf 0 = .ok (.iload_n 0, 1) := of_0 ok_iload_n_0 (by decide +kernel)
theorem dX8_drawOf_1 : decode cX8_drawOf 1 = .ok (.ldc_w 314, 3) := of_u2 ok_ldc_w 1 58 (by decide +kernel)
theorem dX8_drawOf_4 : decode cX8_drawOf 4 = .ok (.idiv, 1) := of_0 ok_idiv (by decide +kernel)
theorem dX8_drawOf_5 : decode cX8_drawOf 5 = .ok (.ireturn, 1) := of_0 ok_ireturn (by decide +kernel)
theorem dX8_ease_0 : decode cX8_ease 0 = .ok (.aload_n 0, 1) := of_0 ok_aload_n_0 (by decide +kernel)
theorem dX8_ease_1 : decode cX8_ease 1 = .ok (.getfield 29, 3) := of_u2 ok_getfield 0 29 (by decide +kernel)
theorem dX8_ease_4 : decode cX8_ease 4 = .ok (.getfield 81, 3) := of_u2 ok_getfield 0 81 (by decide +kernel)
theorem dX8_ease_7 : decode cX8_ease 7 = .ok (.astore_n 2, 1) := of_0 ok_astore_n_2 (by decide +kernel)
theorem dX8_ease_8 : decode cX8_ease 8 = .ok (.aload_n 2, 1) := of_0 ok_aload_n_2 (by decide +kernel)
theorem dX8_ease_9 : decode cX8_ease 9 = .ok (.getfield 150, 3) := of_u2 ok_getfield 0 150 (by decide +kernel)
theorem dX8_ease_12 : decode cX8_ease 12 = .ok (.ifCond .eq 12, 3) := of_s2 ok_ifCond_eq 0 12 (by decide +kernel)
theorem dX8_ease_15 : decode cX8_ease 15 = .ok (.iload_n 1, 1) := of_0 ok_iload_n_1 (by decide +kernel)
theorem dX8_ease_16 : decode cX8_ease 16 = .ok (.ifCond .lt 8, 3) := of_s2 ok_ifCond_lt 0 8 (by decide +kernel)
theorem dX8_ease_19 : decode cX8_ease 19 = .ok (.iload_n 1, 1) := of_0 ok_iload_n_1 (by decide +kernel)
theorem dX8_ease_20 : decode cX8_ease 20 = .ok (.iconst 1, 1) := of_0 ok_iconst_1 (by decide +kernel)
theorem dX8_ease_21 : decode cX8_ease 21 = .ok (.if_icmp .le 5, 3) := of_s2 ok_if_icmp_le 0 5 (by decide +kernel)
theorem dX8_ease_24 : decode cX8_ease 24 = .ok (.iconst (-1), 1) := of_0 ok_iconst_m1 (by decide +kernel)
theorem dX8_ease_25 : decode cX8_ease 25 = .ok (.ireturn, 1) := of_0 ok_ireturn (by decide +kernel)
theorem dX8_ease_26 : decode cX8_ease 26 = .ok (.aload_n 2, 1) := of_0 ok_aload_n_2 (by decide +kernel)
theorem dX8_ease_27 : decode cX8_ease 27 = .ok (.invokevirtual 206, 3) := of_u2 ok_invokevirtual 0 206 (by decide +kernel)
theorem dX8_ease_30 : decode cX8_ease 30 = .ok (.istore_n 3, 1) := of_0 ok_istore_n_3 (by decide +kernel)
theorem dX8_ease_31 : decode cX8_ease 31 = .ok (.iconst 0, 1) := of_0 ok_iconst_0 (by decide +kernel)
theorem dX8_ease_32 : decode cX8_ease 32 = .ok (.istore 4, 2) := of_u1 ok_istore (by decide +kernel)
theorem dX8_ease_34 : decode cX8_ease 34 = .ok (.iconst 0, 1) := of_0 ok_iconst_0 (by decide +kernel)
theorem dX8_ease_35 : decode cX8_ease 35 = .ok (.istore 5, 2) := of_u1 ok_istore (by decide +kernel)
theorem dX8_ease_37 : decode cX8_ease 37 = .ok (.aload_n 0, 1) := of_0 ok_aload_n_0 (by decide +kernel)
theorem dX8_ease_38 : decode cX8_ease 38 = .ok (.getfield 44, 3) := of_u2 ok_getfield 0 44 (by decide +kernel)
theorem dX8_ease_41 : decode cX8_ease 41 = .ok (.aload_n 2, 1) := of_0 ok_aload_n_2 (by decide +kernel)
theorem dX8_ease_42 : decode cX8_ease 42 = .ok (.invokevirtual 84, 3) := of_u2 ok_invokevirtual 0 84 (by decide +kernel)
theorem dX8_ease_45 : decode cX8_ease 45 = .ok (.iconst 1, 1) := of_0 ok_iconst_1 (by decide +kernel)
theorem dX8_ease_46 : decode cX8_ease 46 = .ok (.istore 6, 2) := of_u1 ok_istore (by decide +kernel)
theorem dX8_ease_48 : decode cX8_ease 48 = .ok (.iload 6, 2) := of_u1 ok_iload (by decide +kernel)
theorem dX8_ease_50 : decode cX8_ease 50 = .ok (.iload_n 3, 1) := of_0 ok_iload_n_3 (by decide +kernel)
theorem dX8_ease_51 : decode cX8_ease 51 = .ok (.if_icmp .gt 56, 3) := of_s2 ok_if_icmp_gt 0 56 (by decide +kernel)
theorem dX8_ease_54 : decode cX8_ease 54 = .ok (.iload 6, 2) := of_u1 ok_iload (by decide +kernel)
theorem dX8_ease_56 : decode cX8_ease 56 = .ok (.iload_n 3, 1) := of_0 ok_iload_n_3 (by decide +kernel)
theorem dX8_ease_57 : decode cX8_ease 57 = .ok (.iconst (-1), 1) := of_0 ok_iconst_m1 (by decide +kernel)
theorem dX8_ease_58 : decode cX8_ease 58 = .ok (.ixor, 1) := of_0 ok_ixor (by decide +kernel)
theorem dX8_ease_59 : decode cX8_ease 59 = .ok (.iand, 1) := of_0 ok_iand (by decide +kernel)
theorem dX8_ease_60 : decode cX8_ease 60 = .ok (.ifCond .ne 41, 3) := of_s2 ok_ifCond_ne 0 41 (by decide +kernel)
theorem dX8_ease_63 : decode cX8_ease 63 = .ok (.iload 6, 2) := of_u1 ok_iload (by decide +kernel)
theorem dX8_ease_65 : decode cX8_ease 65 = .ok (.invokestatic 182, 3) := of_u2 ok_invokestatic 0 182 (by decide +kernel)
theorem dX8_ease_68 : decode cX8_ease 68 = .ok (.iload 4, 2) := of_u1 ok_iload (by decide +kernel)
theorem dX8_ease_70 : decode cX8_ease 70 = .ok (.if_icmp .le 31, 3) := of_s2 ok_if_icmp_le 0 31 (by decide +kernel)
theorem dX8_ease_73 : decode cX8_ease 73 = .ok (.aload_n 0, 1) := of_0 ok_aload_n_0 (by decide +kernel)
theorem dX8_ease_74 : decode cX8_ease 74 = .ok (.getfield 44, 3) := of_u2 ok_getfield 0 44 (by decide +kernel)
theorem dX8_ease_77 : decode cX8_ease 77 = .ok (.aload_n 2, 1) := of_0 ok_aload_n_2 (by decide +kernel)
theorem dX8_ease_78 : decode cX8_ease 78 = .ok (.getfield 200, 3) := of_u2 ok_getfield 0 200 (by decide +kernel)
theorem dX8_ease_81 : decode cX8_ease 81 = .ok (.iload 6, 2) := of_u1 ok_iload (by decide +kernel)
theorem dX8_ease_83 : decode cX8_ease 83 = .ok (.ior, 1) := of_0 ok_ior (by decide +kernel)
theorem dX8_ease_84 : decode cX8_ease 84 = .ok (.invokevirtual 209, 3) := of_u2 ok_invokevirtual 0 209 (by decide +kernel)
theorem dX8_ease_87 : decode cX8_ease 87 = .ok (.ifCond .eq 14, 3) := of_s2 ok_ifCond_eq 0 14 (by decide +kernel)
theorem dX8_ease_90 : decode cX8_ease 90 = .ok (.iload 6, 2) := of_u1 ok_iload (by decide +kernel)
theorem dX8_ease_92 : decode cX8_ease 92 = .ok (.invokestatic 182, 3) := of_u2 ok_invokestatic 0 182 (by decide +kernel)
theorem dX8_ease_95 : decode cX8_ease 95 = .ok (.istore 4, 2) := of_u1 ok_istore (by decide +kernel)
theorem dX8_ease_97 : decode cX8_ease 97 = .ok (.iload 6, 2) := of_u1 ok_iload (by decide +kernel)
theorem dX8_ease_99 : decode cX8_ease 99 = .ok (.istore 5, 2) := of_u1 ok_istore (by decide +kernel)
theorem dX8_ease_101 : decode cX8_ease 101 = .ok (.iinc 6 1, 3) := of_ii ok_iinc 1 (by decide +kernel)
theorem dX8_ease_104 : decode cX8_ease 104 = .ok (.goto (-56), 3) := of_s2 ok_goto 255 200 (by decide +kernel)
theorem dX8_ease_107 : decode cX8_ease 107 = .ok (.iload_n 1, 1) := of_0 ok_iload_n_1 (by decide +kernel)
theorem dX8_ease_108 : decode cX8_ease 108 = .ok (.ifCond .ne 8, 3) := of_s2 ok_ifCond_ne 0 8 (by decide +kernel)
theorem dX8_ease_111 : decode cX8_ease 111 = .ok (.iload 4, 2) := of_u1 ok_iload (by decide +kernel)
theorem dX8_ease_113 : decode cX8_ease 113 = .ok (.goto 5, 3) := of_s2 ok_goto 0 5 (by decide +kernel)
theorem dX8_ease_116 : decode cX8_ease 116 = .ok (.iload 5, 2) := of_u1 ok_iload (by decide +kernel)
theorem dX8_ease_118 : decode cX8_ease 118 = .ok (.ireturn, 1) := of_0 ok_ireturn (by decide +kernel)
theorem dX8_end_0 : decode cX8_end 0 = .ok (.iload_n 1, 1) := of_0 ok_iload_n_1 (by decide +kernel)
theorem dX8_end_1 : decode cX8_end 1 = .ok (.ifCond .lt 14, 3) := of_s2 ok_ifCond_lt 0 14 (by decide +kernel)
theorem dX8_end_4 : decode cX8_end 4 = .ok (.iload_n 1, 1) := of_0 ok_iload_n_1 (by decide +kernel)
theorem dX8_end_5 : decode cX8_end 5 = .ok (.aload_n 0, 1) := of_0 ok_aload_n_0 (by decide +kernel)
theorem dX8_end_6 : decode cX8_end 6 = .ok (.getfield 10, 3) := of_u2 ok_getfield 0 10 (by decide +kernel)
theorem dX8_end_9 : decode cX8_end 9 = .ok (.getfield 65, 3) := of_u2 ok_getfield 0 65 (by decide +kernel)
theorem dX8_end_12 : decode cX8_end 12 = .ok (.if_icmp .le 5, 3) := of_s2 ok_if_icmp_le 0 5 (by decide +kernel)
theorem dX8_end_15 : decode cX8_end 15 = .ok (.iconst (-1), 1) := of_0 ok_iconst_m1 (by decide +kernel)
theorem dX8_end_16 : decode cX8_end 16 = .ok (.ireturn, 1) := of_0 ok_ireturn (by decide +kernel)
theorem dX8_end_17 : decode cX8_end 17 = .ok (.aload_n 0, 1) := of_0 ok_aload_n_0 (by decide +kernel)
theorem dX8_end_18 : decode cX8_end 18 = .ok (.getfield 10, 3) := of_u2 ok_getfield 0 10 (by decide +kernel)
theorem dX8_end_21 : decode cX8_end 21 = .ok (.iload_n 1, 1) := of_0 ok_iload_n_1 (by decide +kernel)
theorem dX8_end_22 : decode cX8_end 22 = .ok (.putfield 65, 3) := of_u2 ok_putfield 0 65 (by decide +kernel)
theorem dX8_end_25 : decode cX8_end 25 = .ok (.iload_n 1, 1) := of_0 ok_iload_n_1 (by decide +kernel)
theorem dX8_end_26 : decode cX8_end 26 = .ok (.ireturn, 1) := of_0 ok_ireturn (by decide +kernel)
theorem dX8_falls_0 : decode cX8_falls 0 = .ok (.aload_n 0, 1) := of_0 ok_aload_n_0 (by decide +kernel)
theorem dX8_falls_1 : decode cX8_falls 1 = .ok (.getfield 29, 3) := of_u2 ok_getfield 0 29 (by decide +kernel)
theorem dX8_falls_4 : decode cX8_falls 4 = .ok (.getfield 81, 3) := of_u2 ok_getfield 0 81 (by decide +kernel)
theorem dX8_falls_7 : decode cX8_falls 7 = .ok (.getfield 150, 3) := of_u2 ok_getfield 0 150 (by decide +kernel)
theorem dX8_falls_10 : decode cX8_falls 10 = .ok (.ifCond .eq 12, 3) := of_s2 ok_ifCond_eq 0 12 (by decide +kernel)
theorem dX8_falls_13 : decode cX8_falls 13 = .ok (.iload_n 1, 1) := of_0 ok_iload_n_1 (by decide +kernel)
theorem dX8_falls_14 : decode cX8_falls 14 = .ok (.ifCond .lt 8, 3) := of_s2 ok_ifCond_lt 0 8 (by decide +kernel)
theorem dX8_falls_17 : decode cX8_falls 17 = .ok (.iload_n 1, 1) := of_0 ok_iload_n_1 (by decide +kernel)
theorem dX8_falls_18 : decode cX8_falls 18 = .ok (.iconst 1, 1) := of_0 ok_iconst_1 (by decide +kernel)
theorem dX8_falls_19 : decode cX8_falls 19 = .ok (.if_icmp .le 5, 3) := of_s2 ok_if_icmp_le 0 5 (by decide +kernel)
theorem dX8_falls_22 : decode cX8_falls 22 = .ok (.iconst (-1), 1) := of_0 ok_iconst_m1 (by decide +kernel)
theorem dX8_falls_23 : decode cX8_falls 23 = .ok (.ireturn, 1) := of_0 ok_ireturn (by decide +kernel)
theorem dX8_falls_24 : decode cX8_falls 24 = .ok (.aload_n 0, 1) := of_0 ok_aload_n_0 (by decide +kernel)
theorem dX8_falls_25 : decode cX8_falls 25 = .ok (.invokevirtual 160, 3) := of_u2 ok_invokevirtual 0 160 (by decide +kernel)
theorem dX8_falls_28 : decode cX8_falls 28 = .ok (.astore_n 2, 1) := of_0 ok_astore_n_2 (by decide +kernel)
theorem dX8_falls_29 : decode cX8_falls 29 = .ok (.aload_n 0, 1) := of_0 ok_aload_n_0 (by decide +kernel)
theorem dX8_falls_30 : decode cX8_falls 30 = .ok (.getfield 44, 3) := of_u2 ok_getfield 0 44 (by decide +kernel)
theorem dX8_falls_33 : decode cX8_falls 33 = .ok (.aload_n 0, 1) := of_0 ok_aload_n_0 (by decide +kernel)
theorem dX8_falls_34 : decode cX8_falls 34 = .ok (.getfield 29, 3) := of_u2 ok_getfield 0 29 (by decide +kernel)
theorem dX8_falls_37 : decode cX8_falls 37 = .ok (.getfield 81, 3) := of_u2 ok_getfield 0 81 (by decide +kernel)
theorem dX8_falls_40 : decode cX8_falls 40 = .ok (.invokevirtual 84, 3) := of_u2 ok_invokevirtual 0 84 (by decide +kernel)
theorem dX8_falls_43 : decode cX8_falls 43 = .ok (.iconst 0, 1) := of_0 ok_iconst_0 (by decide +kernel)
theorem dX8_falls_44 : decode cX8_falls 44 = .ok (.istore_n 3, 1) := of_0 ok_istore_n_3 (by decide +kernel)
theorem dX8_falls_45 : decode cX8_falls 45 = .ok (.iload_n 3, 1) := of_0 ok_iload_n_3 (by decide +kernel)
theorem dX8_falls_46 : decode cX8_falls 46 = .ok (.sipush 200, 3) := of_s2 ok_sipush 0 200 (by decide +kernel)
theorem dX8_falls_49 : decode cX8_falls 49 = .ok (.if_icmp .ge 45, 3) := of_s2 ok_if_icmp_ge 0 45 (by decide +kernel)
theorem dX8_falls_52 : decode cX8_falls 52 = .ok (.aload_n 0, 1) := of_0 ok_aload_n_0 (by decide +kernel)
theorem dX8_falls_53 : decode cX8_falls 53 = .ok (.getfield 44, 3) := of_u2 ok_getfield 0 44 (by decide +kernel)
theorem dX8_falls_56 : decode cX8_falls 56 = .ok (.getfield 154, 3) := of_u2 ok_getfield 0 154 (by decide +kernel)
theorem dX8_falls_59 : decode cX8_falls 59 = .ok (.istore 4, 2) := of_u1 ok_istore (by decide +kernel)
theorem dX8_falls_61 : decode cX8_falls 61 = .ok (.aload_n 0, 1) := of_0 ok_aload_n_0 (by decide +kernel)
theorem dX8_falls_62 : decode cX8_falls 62 = .ok (.getfield 44, 3) := of_u2 ok_getfield 0 44 (by decide +kernel)
theorem dX8_falls_65 : decode cX8_falls 65 = .ok (.aload_n 2, 1) := of_0 ok_aload_n_2 (by decide +kernel)
theorem dX8_falls_66 : decode cX8_falls 66 = .ok (.invokevirtual 164, 3) := of_u2 ok_invokevirtual 0 164 (by decide +kernel)
theorem dX8_falls_69 : decode cX8_falls 69 = .ok (.istore 5, 2) := of_u1 ok_istore (by decide +kernel)
theorem dX8_falls_71 : decode cX8_falls 71 = .ok (.iload 5, 2) := of_u1 ok_iload (by decide +kernel)
theorem dX8_falls_73 : decode cX8_falls 73 = .ok (.ifCond .eq 15, 3) := of_s2 ok_ifCond_eq 0 15 (by decide +kernel)
theorem dX8_falls_76 : decode cX8_falls 76 = .ok (.iload_n 1, 1) := of_0 ok_iload_n_1 (by decide +kernel)
theorem dX8_falls_77 : decode cX8_falls 77 = .ok (.ifCond .ne 8, 3) := of_s2 ok_ifCond_ne 0 8 (by decide +kernel)
theorem dX8_falls_80 : decode cX8_falls 80 = .ok (.iload 4, 2) := of_u1 ok_iload (by decide +kernel)
theorem dX8_falls_82 : decode cX8_falls 82 = .ok (.goto 5, 3) := of_s2 ok_goto 0 5 (by decide +kernel)
theorem dX8_falls_85 : decode cX8_falls 85 = .ok (.iload 5, 2) := of_u1 ok_iload (by decide +kernel)
theorem dX8_falls_87 : decode cX8_falls 87 = .ok (.ireturn, 1) := of_0 ok_ireturn (by decide +kernel)
theorem dX8_falls_88 : decode cX8_falls 88 = .ok (.iinc 3 1, 3) := of_ii ok_iinc 1 (by decide +kernel)
theorem dX8_falls_91 : decode cX8_falls 91 = .ok (.goto (-46), 3) := of_s2 ok_goto 255 210 (by decide +kernel)
theorem dX8_falls_94 : decode cX8_falls 94 = .ok (.bipush (-2), 2) := of_s1 ok_bipush 254 (by decide +kernel)
theorem dX8_falls_96 : decode cX8_falls 96 = .ok (.ireturn, 1) := of_0 ok_ireturn (by decide +kernel)
theorem dX8_feed_0 : decode cX8_feed 0 = .ok (.aload_n 0, 1) := of_0 ok_aload_n_0 (by decide +kernel)
theorem dX8_feed_1 : decode cX8_feed 1 = .ok (.getfield 10, 3) := of_u2 ok_getfield 0 10 (by decide +kernel)
theorem dX8_feed_4 : decode cX8_feed 4 = .ok (.getfield 65, 3) := of_u2 ok_getfield 0 65 (by decide +kernel)
theorem dX8_feed_7 : decode cX8_feed 7 = .ok (.bipush 20, 2) := of_s1 ok_bipush 20 (by decide +kernel)
theorem dX8_feed_9 : decode cX8_feed 9 = .ok (.iadd, 1) := of_0 ok_iadd (by decide +kernel)
theorem dX8_feed_10 : decode cX8_feed 10 = .ok (.sipush 400, 3) := of_s2 ok_sipush 1 144 (by decide +kernel)
theorem dX8_feed_13 : decode cX8_feed 13 = .ok (.if_icmp .le 5, 3) := of_s2 ok_if_icmp_le 0 5 (by decide +kernel)
theorem dX8_feed_16 : decode cX8_feed 16 = .ok (.iconst (-1), 1) := of_0 ok_iconst_m1 (by decide +kernel)
theorem dX8_feed_17 : decode cX8_feed 17 = .ok (.ireturn, 1) := of_0 ok_ireturn (by decide +kernel)
theorem dX8_feed_18 : decode cX8_feed 18 = .ok (.aload_n 0, 1) := of_0 ok_aload_n_0 (by decide +kernel)
theorem dX8_feed_19 : decode cX8_feed 19 = .ok (.getfield 10, 3) := of_u2 ok_getfield 0 10 (by decide +kernel)
theorem dX8_feed_22 : decode cX8_feed 22 = .ok (.iload_n 1, 1) := of_0 ok_iload_n_1 (by decide +kernel)
theorem dX8_feed_23 : decode cX8_feed 23 = .ok (.invokevirtual 68, 3) := of_u2 ok_invokevirtual 0 68 (by decide +kernel)
theorem dX8_feed_26 : decode cX8_feed 26 = .ok (.aload_n 0, 1) := of_0 ok_aload_n_0 (by decide +kernel)
theorem dX8_feed_27 : decode cX8_feed 27 = .ok (.getfield 10, 3) := of_u2 ok_getfield 0 10 (by decide +kernel)
theorem dX8_feed_30 : decode cX8_feed 30 = .ok (.iload_n 2, 1) := of_0 ok_iload_n_2 (by decide +kernel)
theorem dX8_feed_31 : decode cX8_feed 31 = .ok (.invokevirtual 68, 3) := of_u2 ok_invokevirtual 0 68 (by decide +kernel)
theorem dX8_feed_34 : decode cX8_feed 34 = .ok (.aload_n 0, 1) := of_0 ok_aload_n_0 (by decide +kernel)
theorem dX8_feed_35 : decode cX8_feed 35 = .ok (.getfield 10, 3) := of_u2 ok_getfield 0 10 (by decide +kernel)
theorem dX8_feed_38 : decode cX8_feed 38 = .ok (.iload_n 3, 1) := of_0 ok_iload_n_3 (by decide +kernel)
theorem dX8_feed_39 : decode cX8_feed 39 = .ok (.invokevirtual 68, 3) := of_u2 ok_invokevirtual 0 68 (by decide +kernel)
theorem dX8_feed_42 : decode cX8_feed 42 = .ok (.aload_n 0, 1) := of_0 ok_aload_n_0 (by decide +kernel)
theorem dX8_feed_43 : decode cX8_feed 43 = .ok (.getfield 10, 3) := of_u2 ok_getfield 0 10 (by decide +kernel)
theorem dX8_feed_46 : decode cX8_feed 46 = .ok (.iload 4, 2) := of_u1 ok_iload (by decide +kernel)
theorem dX8_feed_48 : decode cX8_feed 48 = .ok (.invokevirtual 68, 3) := of_u2 ok_invokevirtual 0 68 (by decide +kernel)
theorem dX8_feed_51 : decode cX8_feed 51 = .ok (.aload_n 0, 1) := of_0 ok_aload_n_0 (by decide +kernel)
theorem dX8_feed_52 : decode cX8_feed 52 = .ok (.getfield 10, 3) := of_u2 ok_getfield 0 10 (by decide +kernel)
theorem dX8_feed_55 : decode cX8_feed 55 = .ok (.iload 5, 2) := of_u1 ok_iload (by decide +kernel)
theorem dX8_feed_57 : decode cX8_feed 57 = .ok (.invokevirtual 68, 3) := of_u2 ok_invokevirtual 0 68 (by decide +kernel)
theorem dX8_feed_60 : decode cX8_feed 60 = .ok (.aload_n 0, 1) := of_0 ok_aload_n_0 (by decide +kernel)
theorem dX8_feed_61 : decode cX8_feed 61 = .ok (.getfield 10, 3) := of_u2 ok_getfield 0 10 (by decide +kernel)
theorem dX8_feed_64 : decode cX8_feed 64 = .ok (.getfield 65, 3) := of_u2 ok_getfield 0 65 (by decide +kernel)
theorem dX8_feed_67 : decode cX8_feed 67 = .ok (.ireturn, 1) := of_0 ok_ireturn (by decide +kernel)
theorem dX8_felled_0 : decode cX8_felled 0 = .ok (.aload_n 0, 1) := of_0 ok_aload_n_0 (by decide +kernel)
theorem dX8_felled_1 : decode cX8_felled 1 = .ok (.getfield 29, 3) := of_u2 ok_getfield 0 29 (by decide +kernel)
theorem dX8_felled_4 : decode cX8_felled 4 = .ok (.getfield 81, 3) := of_u2 ok_getfield 0 81 (by decide +kernel)
theorem dX8_felled_7 : decode cX8_felled 7 = .ok (.iload_n 1, 1) := of_0 ok_iload_n_1 (by decide +kernel)
theorem dX8_felled_8 : decode cX8_felled 8 = .ok (.invokevirtual 176, 3) := of_u2 ok_invokevirtual 0 176 (by decide +kernel)
theorem dX8_felled_11 : decode cX8_felled 11 = .ok (.ifCond .eq 11, 3) := of_s2 ok_ifCond_eq 0 11 (by decide +kernel)
theorem dX8_felled_14 : decode cX8_felled 14 = .ok (.aload_n 0, 1) := of_0 ok_aload_n_0 (by decide +kernel)
theorem dX8_felled_15 : decode cX8_felled 15 = .ok (.iload_n 1, 1) := of_0 ok_iload_n_1 (by decide +kernel)
theorem dX8_felled_16 : decode cX8_felled 16 = .ok (.invokevirtual 203, 3) := of_u2 ok_invokevirtual 0 203 (by decide +kernel)
theorem dX8_felled_19 : decode cX8_felled 19 = .ok (.goto 4, 3) := of_s2 ok_goto 0 4 (by decide +kernel)
theorem dX8_felled_22 : decode cX8_felled 22 = .ok (.iconst (-1), 1) := of_0 ok_iconst_m1 (by decide +kernel)
theorem dX8_felled_23 : decode cX8_felled 23 = .ok (.ireturn, 1) := of_0 ok_ireturn (by decide +kernel)
theorem dX8_felledBy_0 : decode cX8_felledBy 0 = .ok (.aload_n 0, 1) := of_0 ok_aload_n_0 (by decide +kernel)
theorem dX8_felledBy_1 : decode cX8_felledBy 1 = .ok (.getfield 44, 3) := of_u2 ok_getfield 0 44 (by decide +kernel)
theorem dX8_felledBy_4 : decode cX8_felledBy 4 = .ok (.aload_n 0, 1) := of_0 ok_aload_n_0 (by decide +kernel)
theorem dX8_felledBy_5 : decode cX8_felledBy 5 = .ok (.getfield 29, 3) := of_u2 ok_getfield 0 29 (by decide +kernel)
theorem dX8_felledBy_8 : decode cX8_felledBy 8 = .ok (.getfield 81, 3) := of_u2 ok_getfield 0 81 (by decide +kernel)
theorem dX8_felledBy_11 : decode cX8_felledBy 11 = .ok (.invokevirtual 84, 3) := of_u2 ok_invokevirtual 0 84 (by decide +kernel)
theorem dX8_felledBy_14 : decode cX8_felledBy 14 = .ok (.aload_n 0, 1) := of_0 ok_aload_n_0 (by decide +kernel)
theorem dX8_felledBy_15 : decode cX8_felledBy 15 = .ok (.getfield 44, 3) := of_u2 ok_getfield 0 44 (by decide +kernel)
theorem dX8_felledBy_18 : decode cX8_felledBy 18 = .ok (.iload_n 1, 1) := of_0 ok_iload_n_1 (by decide +kernel)
theorem dX8_felledBy_19 : decode cX8_felledBy 19 = .ok (.iconst 0, 1) := of_0 ok_iconst_0 (by decide +kernel)
theorem dX8_felledBy_20 : decode cX8_felledBy 20 = .ok (.invokevirtual 168, 3) := of_u2 ok_invokevirtual 0 168 (by decide +kernel)
theorem dX8_felledBy_23 : decode cX8_felledBy 23 = .ok (.aload_n 0, 1) := of_0 ok_aload_n_0 (by decide +kernel)
theorem dX8_felledBy_24 : decode cX8_felledBy 24 = .ok (.getfield 44, 3) := of_u2 ok_getfield 0 44 (by decide +kernel)
theorem dX8_felledBy_27 : decode cX8_felledBy 27 = .ok (.invokevirtual 172, 3) := of_u2 ok_invokevirtual 0 172 (by decide +kernel)
theorem dX8_felledBy_30 : decode cX8_felledBy 30 = .ok (.ireturn, 1) := of_0 ok_ireturn (by decide +kernel)
theorem dX8_findSafeSets_0 : decode cX8_findSafeSets 0 = .ok (.aload_n 0, 1) := of_0 ok_aload_n_0 (by decide +kernel)
theorem dX8_findSafeSets_1 : decode cX8_findSafeSets 1 = .ok (.getfield 29, 3) := of_u2 ok_getfield 0 29 (by decide +kernel)
theorem dX8_findSafeSets_4 : decode cX8_findSafeSets 4 = .ok (.getfield 81, 3) := of_u2 ok_getfield 0 81 (by decide +kernel)
theorem dX8_findSafeSets_7 : decode cX8_findSafeSets 7 = .ok (.getfield 200, 3) := of_u2 ok_getfield 0 200 (by decide +kernel)
theorem dX8_findSafeSets_10 : decode cX8_findSafeSets 10 = .ok (.istore_n 1, 1) := of_0 ok_istore_n_1 (by decide +kernel)
theorem dX8_findSafeSets_11 : decode cX8_findSafeSets 11 = .ok (.aload_n 0, 1) := of_0 ok_aload_n_0 (by decide +kernel)
theorem dX8_findSafeSets_12 : decode cX8_findSafeSets 12 = .ok (.getfield 44, 3) := of_u2 ok_getfield 0 44 (by decide +kernel)
theorem dX8_findSafeSets_15 : decode cX8_findSafeSets 15 = .ok (.aload_n 0, 1) := of_0 ok_aload_n_0 (by decide +kernel)
theorem dX8_findSafeSets_16 : decode cX8_findSafeSets 16 = .ok (.getfield 29, 3) := of_u2 ok_getfield 0 29 (by decide +kernel)
theorem dX8_findSafeSets_19 : decode cX8_findSafeSets 19 = .ok (.getfield 81, 3) := of_u2 ok_getfield 0 81 (by decide +kernel)
theorem dX8_findSafeSets_22 : decode cX8_findSafeSets 22 = .ok (.invokevirtual 84, 3) := of_u2 ok_invokevirtual 0 84 (by decide +kernel)
theorem dX8_findSafeSets_25 : decode cX8_findSafeSets 25 = .ok (.aload_n 0, 1) := of_0 ok_aload_n_0 (by decide +kernel)
theorem dX8_findSafeSets_26 : decode cX8_findSafeSets 26 = .ok (.getfield 48, 3) := of_u2 ok_getfield 0 48 (by decide +kernel)
theorem dX8_findSafeSets_29 : decode cX8_findSafeSets 29 = .ok (.iconst 0, 1) := of_0 ok_iconst_0 (by decide +kernel)
theorem dX8_findSafeSets_30 : decode cX8_findSafeSets 30 = .ok (.iconst 1, 1) := of_0 ok_iconst_1 (by decide +kernel)
theorem dX8_findSafeSets_31 : decode cX8_findSafeSets 31 = .ok (.bastore, 1) := of_0 ok_bastore (by decide +kernel)
theorem dX8_findSafeSets_32 : decode cX8_findSafeSets 32 = .ok (.iconst 1, 1) := of_0 ok_iconst_1 (by decide +kernel)
theorem dX8_findSafeSets_33 : decode cX8_findSafeSets 33 = .ok (.istore_n 2, 1) := of_0 ok_istore_n_2 (by decide +kernel)
theorem dX8_findSafeSets_34 : decode cX8_findSafeSets 34 = .ok (.iload_n 2, 1) := of_0 ok_iload_n_2 (by decide +kernel)
theorem dX8_findSafeSets_35 : decode cX8_findSafeSets 35 = .ok (.sipush 256, 3) := of_s2 ok_sipush 1 0 (by decide +kernel)
theorem dX8_findSafeSets_38 : decode cX8_findSafeSets 38 = .ok (.if_icmp .ge 48, 3) := of_s2 ok_if_icmp_ge 0 48 (by decide +kernel)
theorem dX8_findSafeSets_41 : decode cX8_findSafeSets 41 = .ok (.aload_n 0, 1) := of_0 ok_aload_n_0 (by decide +kernel)
theorem dX8_findSafeSets_42 : decode cX8_findSafeSets 42 = .ok (.getfield 48, 3) := of_u2 ok_getfield 0 48 (by decide +kernel)
theorem dX8_findSafeSets_45 : decode cX8_findSafeSets 45 = .ok (.iload_n 2, 1) := of_0 ok_iload_n_2 (by decide +kernel)
theorem dX8_findSafeSets_46 : decode cX8_findSafeSets 46 = .ok (.iload_n 2, 1) := of_0 ok_iload_n_2 (by decide +kernel)
theorem dX8_findSafeSets_47 : decode cX8_findSafeSets 47 = .ok (.iload_n 1, 1) := of_0 ok_iload_n_1 (by decide +kernel)
theorem dX8_findSafeSets_48 : decode cX8_findSafeSets 48 = .ok (.iconst (-1), 1) := of_0 ok_iconst_m1 (by decide +kernel)
theorem dX8_findSafeSets_49 : decode cX8_findSafeSets 49 = .ok (.ixor, 1) := of_0 ok_ixor (by decide +kernel)
theorem dX8_findSafeSets_50 : decode cX8_findSafeSets 50 = .ok (.iand, 1) := of_0 ok_iand (by decide +kernel)
theorem dX8_findSafeSets_51 : decode cX8_findSafeSets 51 = .ok (.ifCond .ne 27, 3) := of_s2 ok_ifCond_ne 0 27 (by decide +kernel)
theorem dX8_findSafeSets_54 : decode cX8_findSafeSets 54 = .ok (.aload_n 0, 1) := of_0 ok_aload_n_0 (by decide +kernel)
theorem dX8_findSafeSets_55 : decode cX8_findSafeSets 55 = .ok (.iload_n 2, 1) := of_0 ok_iload_n_2 (by decide +kernel)
theorem dX8_findSafeSets_56 : decode cX8_findSafeSets 56 = .ok (.invokevirtual 215, 3) := of_u2 ok_invokevirtual 0 215 (by decide +kernel)
theorem dX8_findSafeSets_59 : decode cX8_findSafeSets 59 = .ok (.iconst (-1), 1) := of_0 ok_iconst_m1 (by decide +kernel)
theorem dX8_findSafeSets_60 : decode cX8_findSafeSets 60 = .ok (.if_icmp .eq 18, 3) := of_s2 ok_if_icmp_eq 0 18 (by decide +kernel)
theorem dX8_findSafeSets_63 : decode cX8_findSafeSets 63 = .ok (.aload_n 0, 1) := of_0 ok_aload_n_0 (by decide +kernel)
theorem dX8_findSafeSets_64 : decode cX8_findSafeSets 64 = .ok (.getfield 44, 3) := of_u2 ok_getfield 0 44 (by decide +kernel)
theorem dX8_findSafeSets_67 : decode cX8_findSafeSets 67 = .ok (.iload_n 2, 1) := of_0 ok_iload_n_2 (by decide +kernel)
theorem dX8_findSafeSets_68 : decode cX8_findSafeSets 68 = .ok (.invokevirtual 209, 3) := of_u2 ok_invokevirtual 0 209 (by decide +kernel)
theorem dX8_findSafeSets_71 : decode cX8_findSafeSets 71 = .ok (.ifCond .eq 7, 3) := of_s2 ok_ifCond_eq 0 7 (by decide +kernel)
theorem dX8_findSafeSets_74 : decode cX8_findSafeSets 74 = .ok (.iconst 1, 1) := of_0 ok_iconst_1 (by decide +kernel)
theorem dX8_findSafeSets_75 : decode cX8_findSafeSets 75 = .ok (.goto 4, 3) := of_s2 ok_goto 0 4 (by decide +kernel)
theorem dX8_findSafeSets_78 : decode cX8_findSafeSets 78 = .ok (.iconst 0, 1) := of_0 ok_iconst_0 (by decide +kernel)
theorem dX8_findSafeSets_79 : decode cX8_findSafeSets 79 = .ok (.bastore, 1) := of_0 ok_bastore (by decide +kernel)
theorem dX8_findSafeSets_80 : decode cX8_findSafeSets 80 = .ok (.iinc 2 1, 3) := of_ii ok_iinc 1 (by decide +kernel)
theorem dX8_findSafeSets_83 : decode cX8_findSafeSets 83 = .ok (.goto (-49), 3) := of_s2 ok_goto 255 207 (by decide +kernel)
theorem dX8_findSafeSets_86 : decode cX8_findSafeSets 86 = .ok (.return_, 1) := of_0 ok_return_ (by decide +kernel)
theorem dX8_firstToRise_0 : decode cX8_firstToRise 0 = .ok (.iconst 0, 1) := of_0 ok_iconst_0 (by decide +kernel)
theorem dX8_firstToRise_1 : decode cX8_firstToRise 1 = .ok (.istore_n 2, 1) := of_0 ok_istore_n_2 (by decide +kernel)
theorem dX8_firstToRise_2 : decode cX8_firstToRise 2 = .ok (.iload_n 2, 1) := of_0 ok_iload_n_2 (by decide +kernel)
theorem dX8_firstToRise_3 : decode cX8_firstToRise 3 = .ok (.bipush 8, 2) := of_s1 ok_bipush 8 (by decide +kernel)
theorem dX8_firstToRise_5 : decode cX8_firstToRise 5 = .ok (.if_icmp .ge 44, 3) := of_s2 ok_if_icmp_ge 0 44 (by decide +kernel)
theorem dX8_firstToRise_8 : decode cX8_firstToRise 8 = .ok (.iload_n 1, 1) := of_0 ok_iload_n_1 (by decide +kernel)
theorem dX8_firstToRise_9 : decode cX8_firstToRise 9 = .ok (.iconst 1, 1) := of_0 ok_iconst_1 (by decide +kernel)
theorem dX8_firstToRise_10 : decode cX8_firstToRise 10 = .ok (.iload_n 2, 1) := of_0 ok_iload_n_2 (by decide +kernel)
theorem dX8_firstToRise_11 : decode cX8_firstToRise 11 = .ok (.ishl, 1) := of_0 ok_ishl (by decide +kernel)
theorem dX8_firstToRise_12 : decode cX8_firstToRise 12 = .ok (.iconst (-1), 1) := of_0 ok_iconst_m1 (by decide +kernel)
theorem dX8_firstToRise_13 : decode cX8_firstToRise 13 = .ok (.ixor, 1) := of_0 ok_ixor (by decide +kernel)
theorem dX8_firstToRise_14 : decode cX8_firstToRise 14 = .ok (.iand, 1) := of_0 ok_iand (by decide +kernel)
theorem dX8_firstToRise_15 : decode cX8_firstToRise 15 = .ok (.istore_n 3, 1) := of_0 ok_istore_n_3 (by decide +kernel)
theorem dX8_firstToRise_16 : decode cX8_firstToRise 16 = .ok (.iload_n 3, 1) := of_0 ok_iload_n_3 (by decide +kernel)
theorem dX8_firstToRise_17 : decode cX8_firstToRise 17 = .ok (.iload_n 1, 1) := of_0 ok_iload_n_1 (by decide +kernel)
theorem dX8_firstToRise_18 : decode cX8_firstToRise 18 = .ok (.if_icmp .eq 25, 3) := of_s2 ok_if_icmp_eq 0 25 (by decide +kernel)
theorem dX8_firstToRise_21 : decode cX8_firstToRise 21 = .ok (.iload_n 3, 1) := of_0 ok_iload_n_3 (by decide +kernel)
theorem dX8_firstToRise_22 : decode cX8_firstToRise 22 = .ok (.ifCond .lt 21, 3) := of_s2 ok_ifCond_lt 0 21 (by decide +kernel)
theorem dX8_firstToRise_25 : decode cX8_firstToRise 25 = .ok (.iload_n 3, 1) := of_0 ok_iload_n_3 (by decide +kernel)
theorem dX8_firstToRise_26 : decode cX8_firstToRise 26 = .ok (.sipush 256, 3) := of_s2 ok_sipush 1 0 (by decide +kernel)
theorem dX8_firstToRise_29 : decode cX8_firstToRise 29 = .ok (.if_icmp .ge 14, 3) := of_s2 ok_if_icmp_ge 0 14 (by decide +kernel)
theorem dX8_firstToRise_32 : decode cX8_firstToRise 32 = .ok (.aload_n 0, 1) := of_0 ok_aload_n_0 (by decide +kernel)
theorem dX8_firstToRise_33 : decode cX8_firstToRise 33 = .ok (.getfield 48, 3) := of_u2 ok_getfield 0 48 (by decide +kernel)
theorem dX8_firstToRise_36 : decode cX8_firstToRise 36 = .ok (.iload_n 3, 1) := of_0 ok_iload_n_3 (by decide +kernel)
theorem dX8_firstToRise_37 : decode cX8_firstToRise 37 = .ok (.baload, 1) := of_0 ok_baload (by decide +kernel)
theorem dX8_firstToRise_38 : decode cX8_firstToRise 38 = .ok (.ifCond .eq 5, 3) := of_s2 ok_ifCond_eq 0 5 (by decide +kernel)
theorem dX8_firstToRise_41 : decode cX8_firstToRise 41 = .ok (.iload_n 2, 1) := of_0 ok_iload_n_2 (by decide +kernel)
theorem dX8_firstToRise_42 : decode cX8_firstToRise 42 = .ok (.ireturn, 1) := of_0 ok_ireturn (by decide +kernel)
theorem dX8_firstToRise_43 : decode cX8_firstToRise 43 = .ok (.iinc 2 1, 3) := of_ii ok_iinc 1 (by decide +kernel)
theorem dX8_firstToRise_46 : decode cX8_firstToRise 46 = .ok (.goto (-44), 3) := of_s2 ok_goto 255 212 (by decide +kernel)
theorem dX8_firstToRise_49 : decode cX8_firstToRise 49 = .ok (.iconst (-1), 1) := of_0 ok_iconst_m1 (by decide +kernel)
theorem dX8_firstToRise_50 : decode cX8_firstToRise 50 = .ok (.ireturn, 1) := of_0 ok_ireturn (by decide +kernel)
theorem dX8_force_0 : decode cX8_force 0 = .ok (.iload_n 1, 1) := of_0 ok_iload_n_1 (by decide +kernel)
theorem dX8_force_1 : decode cX8_force 1 = .ok (.iconst (-1), 1) := of_0 ok_iconst_m1 (by decide +kernel)
theorem dX8_force_2 : decode cX8_force 2 = .ok (.if_icmp .lt 11, 3) := of_s2 ok_if_icmp_lt 0 11 (by decide +kernel)
theorem dX8_force_5 : decode cX8_force 5 = .ok (.iload_n 1, 1) := of_0 ok_iload_n_1 (by decide +kernel)
theorem dX8_force_6 : decode cX8_force 6 = .ok (.aload_n 0, 1) := of_0 ok_aload_n_0 (by decide +kernel)
theorem dX8_force_7 : decode cX8_force 7 = .ok (.getfield 22, 3) := of_u2 ok_getfield 0 22 (by decide +kernel)
theorem dX8_force_10 : decode cX8_force 10 = .ok (.if_icmp .lt 6, 3) := of_s2 ok_if_icmp_lt 0 6 (by decide +kernel)
theorem dX8_force_13 : decode cX8_force 13 = .ok (.bipush (-2), 2) := of_s1 ok_bipush 254 (by decide +kernel)
theorem dX8_force_15 : decode cX8_force 15 = .ok (.ireturn, 1) := of_0 ok_ireturn (by decide +kernel)
theorem dX8_force_16 : decode cX8_force 16 = .ok (.aload_n 0, 1) := of_0 ok_aload_n_0 (by decide +kernel)
theorem dX8_force_17 : decode cX8_force 17 = .ok (.getfield 29, 3) := of_u2 ok_getfield 0 29 (by decide +kernel)
theorem dX8_force_20 : decode cX8_force 20 = .ok (.getfield 112, 3) := of_u2 ok_getfield 0 112 (by decide +kernel)
theorem dX8_force_23 : decode cX8_force 23 = .ok (.istore_n 2, 1) := of_0 ok_istore_n_2 (by decide +kernel)
theorem dX8_force_24 : decode cX8_force 24 = .ok (.aload_n 0, 1) := of_0 ok_aload_n_0 (by decide +kernel)
theorem dX8_force_25 : decode cX8_force 25 = .ok (.getfield 29, 3) := of_u2 ok_getfield 0 29 (by decide +kernel)
theorem dX8_force_28 : decode cX8_force 28 = .ok (.iload_n 1, 1) := of_0 ok_iload_n_1 (by decide +kernel)
theorem dX8_force_29 : decode cX8_force 29 = .ok (.putfield 112, 3) := of_u2 ok_putfield 0 112 (by decide +kernel)
theorem dX8_force_32 : decode cX8_force 32 = .ok (.iload_n 2, 1) := of_0 ok_iload_n_2 (by decide +kernel)
theorem dX8_force_33 : decode cX8_force 33 = .ok (.ireturn, 1) := of_0 ok_ireturn (by decide +kernel)
theorem dX8_hall_0 : decode cX8_hall 0 = .ok (.aload_n 0, 1) := of_0 ok_aload_n_0 (by decide +kernel)
theorem dX8_hall_1 : decode cX8_hall 1 = .ok (.getfield 10, 3) := of_u2 ok_getfield 0 10 (by decide +kernel)
theorem dX8_hall_4 : decode cX8_hall 4 = .ok (.aload_n 0, 1) := of_0 ok_aload_n_0 (by decide +kernel)
theorem dX8_hall_5 : decode cX8_hall 5 = .ok (.getfield 44, 3) := of_u2 ok_getfield 0 44 (by decide +kernel)
theorem dX8_hall_8 : decode cX8_hall 8 = .ok (.invokestatic 72, 3) := of_u2 ok_invokestatic 0 72 (by decide +kernel)
theorem dX8_hall_11 : decode cX8_hall 11 = .ok (.istore_n 1, 1) := of_0 ok_istore_n_1 (by decide +kernel)
theorem dX8_hall_12 : decode cX8_hall 12 = .ok (.aload_n 0, 1) := of_0 ok_aload_n_0 (by decide +kernel)
theorem dX8_hall_13 : decode cX8_hall 13 = .ok (.getfield 10, 3) := of_u2 ok_getfield 0 10 (by decide +kernel)
theorem dX8_hall_16 : decode cX8_hall 16 = .ok (.getfield 78, 3) := of_u2 ok_getfield 0 78 (by decide +kernel)
theorem dX8_hall_19 : decode cX8_hall 19 = .ok (.istore_n 2, 1) := of_0 ok_istore_n_2 (by decide +kernel)
theorem dX8_hall_20 : decode cX8_hall 20 = .ok (.aload_n 0, 1) := of_0 ok_aload_n_0 (by decide +kernel)
theorem dX8_hall_21 : decode cX8_hall 21 = .ok (.getfield 10, 3) := of_u2 ok_getfield 0 10 (by decide +kernel)
theorem dX8_hall_24 : decode cX8_hall 24 = .ok (.iconst 0, 1) := of_0 ok_iconst_0 (by decide +kernel)
theorem dX8_hall_25 : decode cX8_hall 25 = .ok (.putfield 65, 3) := of_u2 ok_putfield 0 65 (by decide +kernel)
theorem dX8_hall_28 : decode cX8_hall 28 = .ok (.iload_n 1, 1) := of_0 ok_iload_n_1 (by decide +kernel)
theorem dX8_hall_29 : decode cX8_hall 29 = .ok (.ifCond .ne 8, 3) := of_s2 ok_ifCond_ne 0 8 (by decide +kernel)
theorem dX8_hall_32 : decode cX8_hall 32 = .ok (.bipush (-2), 2) := of_s1 ok_bipush 254 (by decide +kernel)
theorem dX8_hall_34 : decode cX8_hall 34 = .ok (.iload_n 2, 1) := of_0 ok_iload_n_2 (by decide +kernel)
theorem dX8_hall_35 : decode cX8_hall 35 = .ok (.isub, 1) := of_0 ok_isub (by decide +kernel)
theorem dX8_hall_36 : decode cX8_hall 36 = .ok (.ireturn, 1) := of_0 ok_ireturn (by decide +kernel)
theorem dX8_hall_37 : decode cX8_hall 37 = .ok (.aload_n 0, 1) := of_0 ok_aload_n_0 (by decide +kernel)
theorem dX8_hall_38 : decode cX8_hall 38 = .ok (.getfield 29, 3) := of_u2 ok_getfield 0 29 (by decide +kernel)
theorem dX8_hall_41 : decode cX8_hall 41 = .ok (.getfield 81, 3) := of_u2 ok_getfield 0 81 (by decide +kernel)
theorem dX8_hall_44 : decode cX8_hall 44 = .ok (.aload_n 0, 1) := of_0 ok_aload_n_0 (by decide +kernel)
theorem dX8_hall_45 : decode cX8_hall 45 = .ok (.getfield 44, 3) := of_u2 ok_getfield 0 44 (by decide +kernel)
theorem dX8_hall_48 : decode cX8_hall 48 = .ok (.invokevirtual 84, 3) := of_u2 ok_invokevirtual 0 84 (by decide +kernel)
theorem dX8_hall_51 : decode cX8_hall 51 = .ok (.aload_n 0, 1) := of_0 ok_aload_n_0 (by decide +kernel)
theorem dX8_hall_52 : decode cX8_hall 52 = .ok (.getfield 29, 3) := of_u2 ok_getfield 0 29 (by decide +kernel)
theorem dX8_hall_55 : decode cX8_hall 55 = .ok (.getfield 88, 3) := of_u2 ok_getfield 0 88 (by decide +kernel)
theorem dX8_hall_58 : decode cX8_hall 58 = .ok (.invokevirtual 92, 3) := of_u2 ok_invokevirtual 0 92 (by decide +kernel)
theorem dX8_hall_61 : decode cX8_hall 61 = .ok (.aload_n 0, 1) := of_0 ok_aload_n_0 (by decide +kernel)
theorem dX8_hall_62 : decode cX8_hall 62 = .ok (.getfield 29, 3) := of_u2 ok_getfield 0 29 (by decide +kernel)
theorem dX8_hall_65 : decode cX8_hall 65 = .ok (.getfield 97, 3) := of_u2 ok_getfield 0 97 (by decide +kernel)
theorem dX8_hall_68 : decode cX8_hall 68 = .ok (.invokevirtual 101, 3) := of_u2 ok_invokevirtual 0 101 (by decide +kernel)
theorem dX8_hall_71 : decode cX8_hall 71 = .ok (.aload_n 0, 1) := of_0 ok_aload_n_0 (by decide +kernel)
theorem dX8_hall_72 : decode cX8_hall 72 = .ok (.getfield 29, 3) := of_u2 ok_getfield 0 29 (by decide +kernel)
theorem dX8_hall_75 : decode cX8_hall 75 = .ok (.getfield 81, 3) := of_u2 ok_getfield 0 81 (by decide +kernel)
theorem dX8_hall_78 : decode cX8_hall 78 = .ok (.getfield 104, 3) := of_u2 ok_getfield 0 104 (by decide +kernel)
theorem dX8_hall_81 : decode cX8_hall 81 = .ok (.ireturn, 1) := of_0 ok_ireturn (by decide +kernel)
theorem dX8_heavy_0 : decode cX8_heavy 0 = .ok (.aload_n 0, 1) := of_0 ok_aload_n_0 (by decide +kernel)
theorem dX8_heavy_1 : decode cX8_heavy 1 = .ok (.getfield 29, 3) := of_u2 ok_getfield 0 29 (by decide +kernel)
theorem dX8_heavy_4 : decode cX8_heavy 4 = .ok (.getfield 81, 3) := of_u2 ok_getfield 0 81 (by decide +kernel)
theorem dX8_heavy_7 : decode cX8_heavy 7 = .ok (.astore_n 3, 1) := of_0 ok_astore_n_3 (by decide +kernel)
theorem dX8_heavy_8 : decode cX8_heavy 8 = .ok (.aload_n 3, 1) := of_0 ok_aload_n_3 (by decide +kernel)
theorem dX8_heavy_9 : decode cX8_heavy 9 = .ok (.iload_n 1, 1) := of_0 ok_iload_n_1 (by decide +kernel)
theorem dX8_heavy_10 : decode cX8_heavy 10 = .ok (.invokevirtual 221, 3) := of_u2 ok_invokevirtual 0 221 (by decide +kernel)
theorem dX8_heavy_13 : decode cX8_heavy 13 = .ok (.ifCond .eq 12, 3) := of_s2 ok_ifCond_eq 0 12 (by decide +kernel)
theorem dX8_heavy_16 : decode cX8_heavy 16 = .ok (.iload_n 2, 1) := of_0 ok_iload_n_2 (by decide +kernel)
theorem dX8_heavy_17 : decode cX8_heavy 17 = .ok (.ifCond .lt 8, 3) := of_s2 ok_ifCond_lt 0 8 (by decide +kernel)
theorem dX8_heavy_20 : decode cX8_heavy 20 = .ok (.iload_n 2, 1) := of_0 ok_iload_n_2 (by decide +kernel)
theorem dX8_heavy_21 : decode cX8_heavy 21 = .ok (.iconst 1, 1) := of_0 ok_iconst_1 (by decide +kernel)
theorem dX8_heavy_22 : decode cX8_heavy 22 = .ok (.if_icmp .le 5, 3) := of_s2 ok_if_icmp_le 0 5 (by decide +kernel)
theorem dX8_heavy_25 : decode cX8_heavy 25 = .ok (.iconst (-1), 1) := of_0 ok_iconst_m1 (by decide +kernel)
theorem dX8_heavy_26 : decode cX8_heavy 26 = .ok (.ireturn, 1) := of_0 ok_ireturn (by decide +kernel)
theorem dX8_heavy_27 : decode cX8_heavy 27 = .ok (.iconst 0, 1) := of_0 ok_iconst_0 (by decide +kernel)
theorem dX8_heavy_28 : decode cX8_heavy 28 = .ok (.istore 4, 2) := of_u1 ok_istore (by decide +kernel)
theorem dX8_heavy_30 : decode cX8_heavy 30 = .ok (.bipush (-2), 2) := of_s1 ok_bipush 254 (by decide +kernel)
theorem dX8_heavy_32 : decode cX8_heavy 32 = .ok (.istore 5, 2) := of_u1 ok_istore (by decide +kernel)
theorem dX8_heavy_34 : decode cX8_heavy 34 = .ok (.aload_n 0, 1) := of_0 ok_aload_n_0 (by decide +kernel)
theorem dX8_heavy_35 : decode cX8_heavy 35 = .ok (.getfield 44, 3) := of_u2 ok_getfield 0 44 (by decide +kernel)
theorem dX8_heavy_38 : decode cX8_heavy 38 = .ok (.aload_n 3, 1) := of_0 ok_aload_n_3 (by decide +kernel)
theorem dX8_heavy_39 : decode cX8_heavy 39 = .ok (.invokevirtual 84, 3) := of_u2 ok_invokevirtual 0 84 (by decide +kernel)
theorem dX8_heavy_42 : decode cX8_heavy 42 = .ok (.bipush 20, 2) := of_s1 ok_bipush 20 (by decide +kernel)
theorem dX8_heavy_44 : decode cX8_heavy 44 = .ok (.istore 6, 2) := of_u1 ok_istore (by decide +kernel)
theorem dX8_heavy_46 : decode cX8_heavy 46 = .ok (.iload 6, 2) := of_u1 ok_iload (by decide +kernel)
theorem dX8_heavy_48 : decode cX8_heavy 48 = .ok (.iconst 1, 1) := of_0 ok_iconst_1 (by decide +kernel)
theorem dX8_heavy_49 : decode cX8_heavy 49 = .ok (.if_icmp .lt 45, 3) := of_s2 ok_if_icmp_lt 0 45 (by decide +kernel)
theorem dX8_heavy_52 : decode cX8_heavy 52 = .ok (.aload_n 0, 1) := of_0 ok_aload_n_0 (by decide +kernel)
theorem dX8_heavy_53 : decode cX8_heavy 53 = .ok (.getfield 44, 3) := of_u2 ok_getfield 0 44 (by decide +kernel)
theorem dX8_heavy_56 : decode cX8_heavy 56 = .ok (.getfield 144, 3) := of_u2 ok_getfield 0 144 (by decide +kernel)
theorem dX8_heavy_59 : decode cX8_heavy 59 = .ok (.iload_n 1, 1) := of_0 ok_iload_n_1 (by decide +kernel)
theorem dX8_heavy_60 : decode cX8_heavy 60 = .ok (.iload 6, 2) := of_u1 ok_iload (by decide +kernel)
theorem dX8_heavy_62 : decode cX8_heavy 62 = .ok (.iastore, 1) := of_0 ok_iastore (by decide +kernel)
theorem dX8_heavy_63 : decode cX8_heavy 63 = .ok (.aload_n 0, 1) := of_0 ok_aload_n_0 (by decide +kernel)
theorem dX8_heavy_64 : decode cX8_heavy 64 = .ok (.getfield 44, 3) := of_u2 ok_getfield 0 44 (by decide +kernel)
theorem dX8_heavy_67 : decode cX8_heavy 67 = .ok (.aload_n 3, 1) := of_0 ok_aload_n_3 (by decide +kernel)
theorem dX8_heavy_68 : decode cX8_heavy 68 = .ok (.getfield 200, 3) := of_u2 ok_getfield 0 200 (by decide +kernel)
theorem dX8_heavy_71 : decode cX8_heavy 71 = .ok (.iconst 1, 1) := of_0 ok_iconst_1 (by decide +kernel)
theorem dX8_heavy_72 : decode cX8_heavy 72 = .ok (.iload_n 1, 1) := of_0 ok_iload_n_1 (by decide +kernel)
theorem dX8_heavy_73 : decode cX8_heavy 73 = .ok (.ishl, 1) := of_0 ok_ishl (by decide +kernel)
theorem dX8_heavy_74 : decode cX8_heavy 74 = .ok (.ior, 1) := of_0 ok_ior (by decide +kernel)
theorem dX8_heavy_75 : decode cX8_heavy 75 = .ok (.invokevirtual 209, 3) := of_u2 ok_invokevirtual 0 209 (by decide +kernel)
theorem dX8_heavy_78 : decode cX8_heavy 78 = .ok (.ifCond .eq 10, 3) := of_s2 ok_ifCond_eq 0 10 (by decide +kernel)
theorem dX8_heavy_81 : decode cX8_heavy 81 = .ok (.iinc 4 1, 3) := of_ii ok_iinc 1 (by decide +kernel)
theorem dX8_heavy_84 : decode cX8_heavy 84 = .ok (.iload 6, 2) := of_u1 ok_iload (by decide +kernel)
theorem dX8_heavy_86 : decode cX8_heavy 86 = .ok (.istore 5, 2) := of_u1 ok_istore (by decide +kernel)
theorem dX8_heavy_88 : decode cX8_heavy 88 = .ok (.iinc 6 (-1), 3) := of_ii ok_iinc 255 (by decide +kernel)
theorem dX8_heavy_91 : decode cX8_heavy 91 = .ok (.goto (-45), 3) := of_s2 ok_goto 255 211 (by decide +kernel)
theorem dX8_heavy_94 : decode cX8_heavy 94 = .ok (.iload_n 2, 1) := of_0 ok_iload_n_2 (by decide +kernel)
theorem dX8_heavy_95 : decode cX8_heavy 95 = .ok (.ifCond .ne 8, 3) := of_s2 ok_ifCond_ne 0 8 (by decide +kernel)
theorem dX8_heavy_98 : decode cX8_heavy 98 = .ok (.iload 4, 2) := of_u1 ok_iload (by decide +kernel)
theorem dX8_heavy_100 : decode cX8_heavy 100 = .ok (.goto 5, 3) := of_s2 ok_goto 0 5 (by decide +kernel)
theorem dX8_heavy_103 : decode cX8_heavy 103 = .ok (.iload 5, 2) := of_u1 ok_iload (by decide +kernel)
theorem dX8_heavy_105 : decode cX8_heavy 105 = .ok (.ireturn, 1) := of_0 ok_ireturn (by decide +kernel)
theorem dX8_help_0 : decode cX8_help 0 = .ok (.aload_n 0, 1) := of_0 ok_aload_n_0 (by decide +kernel)
theorem dX8_help_1 : decode cX8_help 1 = .ok (.getfield 29, 3) := of_u2 ok_getfield 0 29 (by decide +kernel)
theorem dX8_help_4 : decode cX8_help 4 = .ok (.getfield 81, 3) := of_u2 ok_getfield 0 81 (by decide +kernel)
theorem dX8_help_7 : decode cX8_help 7 = .ok (.iload_n 1, 1) := of_0 ok_iload_n_1 (by decide +kernel)
theorem dX8_help_8 : decode cX8_help 8 = .ok (.invokevirtual 147, 3) := of_u2 ok_invokevirtual 0 147 (by decide +kernel)
theorem dX8_help_11 : decode cX8_help 11 = .ok (.iconst 2, 1) := of_0 ok_iconst_2 (by decide +kernel)
theorem dX8_help_12 : decode cX8_help 12 = .ok (.if_icmp .eq 5, 3) := of_s2 ok_if_icmp_eq 0 5 (by decide +kernel)
theorem dX8_help_15 : decode cX8_help 15 = .ok (.iconst (-1), 1) := of_0 ok_iconst_m1 (by decide +kernel)
theorem dX8_help_16 : decode cX8_help 16 = .ok (.ireturn, 1) := of_0 ok_ireturn (by decide +kernel)
theorem dX8_help_17 : decode cX8_help 17 = .ok (.aload_n 0, 1) := of_0 ok_aload_n_0 (by decide +kernel)
theorem dX8_help_18 : decode cX8_help 18 = .ok (.getfield 29, 3) := of_u2 ok_getfield 0 29 (by decide +kernel)
theorem dX8_help_21 : decode cX8_help 21 = .ok (.getfield 88, 3) := of_u2 ok_getfield 0 88 (by decide +kernel)
theorem dX8_help_24 : decode cX8_help 24 = .ok (.aload_n 0, 1) := of_0 ok_aload_n_0 (by decide +kernel)
theorem dX8_help_25 : decode cX8_help 25 = .ok (.getfield 29, 3) := of_u2 ok_getfield 0 29 (by decide +kernel)
theorem dX8_help_28 : decode cX8_help 28 = .ok (.getfield 81, 3) := of_u2 ok_getfield 0 81 (by decide +kernel)
theorem dX8_help_31 : decode cX8_help 31 = .ok (.invokevirtual 157, 3) := of_u2 ok_invokevirtual 0 157 (by decide +kernel)
theorem dX8_help_34 : decode cX8_help 34 = .ok (.aload_n 0, 1) := of_0 ok_aload_n_0 (by decide +kernel)
theorem dX8_help_35 : decode cX8_help 35 = .ok (.getfield 29, 3) := of_u2 ok_getfield 0 29 (by decide +kernel)
theorem dX8_help_38 : decode cX8_help 38 = .ok (.getfield 81, 3) := of_u2 ok_getfield 0 81 (by decide +kernel)
theorem dX8_help_41 : decode cX8_help 41 = .ok (.dup, 1) := of_0 ok_dup (by decide +kernel)
theorem dX8_help_42 : decode cX8_help 42 = .ok (.getfield 179, 3) := of_u2 ok_getfield 0 179 (by decide +kernel)
theorem dX8_help_45 : decode cX8_help 45 = .ok (.iconst 1, 1) := of_0 ok_iconst_1 (by decide +kernel)
theorem dX8_help_46 : decode cX8_help 46 = .ok (.iload_n 1, 1) := of_0 ok_iload_n_1 (by decide +kernel)
theorem dX8_help_47 : decode cX8_help 47 = .ok (.ishl, 1) := of_0 ok_ishl (by decide +kernel)
theorem dX8_help_48 : decode cX8_help 48 = .ok (.iconst (-1), 1) := of_0 ok_iconst_m1 (by decide +kernel)
theorem dX8_help_49 : decode cX8_help 49 = .ok (.ixor, 1) := of_0 ok_ixor (by decide +kernel)
theorem dX8_help_50 : decode cX8_help 50 = .ok (.iand, 1) := of_0 ok_iand (by decide +kernel)
theorem dX8_help_51 : decode cX8_help 51 = .ok (.putfield 179, 3) := of_u2 ok_putfield 0 179 (by decide +kernel)
theorem dX8_help_54 : decode cX8_help 54 = .ok (.aload_n 0, 1) := of_0 ok_aload_n_0 (by decide +kernel)
theorem dX8_help_55 : decode cX8_help 55 = .ok (.getfield 29, 3) := of_u2 ok_getfield 0 29 (by decide +kernel)
theorem dX8_help_58 : decode cX8_help 58 = .ok (.getfield 81, 3) := of_u2 ok_getfield 0 81 (by decide +kernel)
theorem dX8_help_61 : decode cX8_help 61 = .ok (.getfield 179, 3) := of_u2 ok_getfield 0 179 (by decide +kernel)
theorem dX8_help_64 : decode cX8_help 64 = .ok (.invokestatic 182, 3) := of_u2 ok_invokestatic 0 182 (by decide +kernel)
theorem dX8_help_67 : decode cX8_help 67 = .ok (.ireturn, 1) := of_0 ok_ireturn (by decide +kernel)
theorem dX8_let_0 : decode cX8_let 0 = .ok (.aload_n 0, 1) := of_0 ok_aload_n_0 (by decide +kernel)
theorem dX8_let_1 : decode cX8_let 1 = .ok (.getfield 29, 3) := of_u2 ok_getfield 0 29 (by decide +kernel)
theorem dX8_let_4 : decode cX8_let 4 = .ok (.getfield 81, 3) := of_u2 ok_getfield 0 81 (by decide +kernel)
theorem dX8_let_7 : decode cX8_let 7 = .ok (.astore_n 3, 1) := of_0 ok_astore_n_3 (by decide +kernel)
theorem dX8_let_8 : decode cX8_let 8 = .ok (.aload_n 3, 1) := of_0 ok_aload_n_3 (by decide +kernel)
theorem dX8_let_9 : decode cX8_let 9 = .ok (.iload_n 1, 1) := of_0 ok_iload_n_1 (by decide +kernel)
theorem dX8_let_10 : decode cX8_let 10 = .ok (.invokevirtual 115, 3) := of_u2 ok_invokevirtual 0 115 (by decide +kernel)
theorem dX8_let_13 : decode cX8_let 13 = .ok (.ifCond .eq 23, 3) := of_s2 ok_ifCond_eq 0 23 (by decide +kernel)
theorem dX8_let_16 : decode cX8_let 16 = .ok (.iload_n 2, 1) := of_0 ok_iload_n_2 (by decide +kernel)
theorem dX8_let_17 : decode cX8_let 17 = .ok (.ifCond .lt 19, 3) := of_s2 ok_ifCond_lt 0 19 (by decide +kernel)
theorem dX8_let_20 : decode cX8_let 20 = .ok (.iload_n 2, 1) := of_0 ok_iload_n_2 (by decide +kernel)
theorem dX8_let_21 : decode cX8_let 21 = .ok (.bipush 99, 2) := of_s1 ok_bipush 99 (by decide +kernel)
theorem dX8_let_23 : decode cX8_let 23 = .ok (.if_icmp .gt 13, 3) := of_s2 ok_if_icmp_gt 0 13 (by decide +kernel)
theorem dX8_let_26 : decode cX8_let 26 = .ok (.iload_n 2, 1) := of_0 ok_iload_n_2 (by decide +kernel)
theorem dX8_let_27 : decode cX8_let 27 = .ok (.aload_n 3, 1) := of_0 ok_aload_n_3 (by decide +kernel)
theorem dX8_let_28 : decode cX8_let 28 = .ok (.getfield 119, 3) := of_u2 ok_getfield 0 119 (by decide +kernel)
theorem dX8_let_31 : decode cX8_let 31 = .ok (.iload_n 1, 1) := of_0 ok_iload_n_1 (by decide +kernel)
theorem dX8_let_32 : decode cX8_let 32 = .ok (.iaload, 1) := of_0 ok_iaload (by decide +kernel)
theorem dX8_let_33 : decode cX8_let 33 = .ok (.if_icmp .ne 5, 3) := of_s2 ok_if_icmp_ne 0 5 (by decide +kernel)
theorem dX8_let_36 : decode cX8_let 36 = .ok (.iconst (-1), 1) := of_0 ok_iconst_m1 (by decide +kernel)
theorem dX8_let_37 : decode cX8_let 37 = .ok (.ireturn, 1) := of_0 ok_ireturn (by decide +kernel)
theorem dX8_let_38 : decode cX8_let 38 = .ok (.aload_n 0, 1) := of_0 ok_aload_n_0 (by decide +kernel)
theorem dX8_let_39 : decode cX8_let 39 = .ok (.getfield 29, 3) := of_u2 ok_getfield 0 29 (by decide +kernel)
theorem dX8_let_42 : decode cX8_let 42 = .ok (.getfield 88, 3) := of_u2 ok_getfield 0 88 (by decide +kernel)
theorem dX8_let_45 : decode cX8_let 45 = .ok (.aload_n 3, 1) := of_0 ok_aload_n_3 (by decide +kernel)
theorem dX8_let_46 : decode cX8_let 46 = .ok (.invokevirtual 157, 3) := of_u2 ok_invokevirtual 0 157 (by decide +kernel)
theorem dX8_let_49 : decode cX8_let 49 = .ok (.aload_n 3, 1) := of_0 ok_aload_n_3 (by decide +kernel)
theorem dX8_let_50 : decode cX8_let 50 = .ok (.getfield 119, 3) := of_u2 ok_getfield 0 119 (by decide +kernel)
theorem dX8_let_53 : decode cX8_let 53 = .ok (.iload_n 1, 1) := of_0 ok_iload_n_1 (by decide +kernel)
theorem dX8_let_54 : decode cX8_let 54 = .ok (.iload_n 2, 1) := of_0 ok_iload_n_2 (by decide +kernel)
theorem dX8_let_55 : decode cX8_let 55 = .ok (.iastore, 1) := of_0 ok_iastore (by decide +kernel)
theorem dX8_let_56 : decode cX8_let 56 = .ok (.aload_n 3, 1) := of_0 ok_aload_n_3 (by decide +kernel)
theorem dX8_let_57 : decode cX8_let 57 = .ok (.invokevirtual 172, 3) := of_u2 ok_invokevirtual 0 172 (by decide +kernel)
theorem dX8_let_60 : decode cX8_let 60 = .ok (.ireturn, 1) := of_0 ok_ireturn (by decide +kernel)
theorem dX8_minute_0 : decode cX8_minute 0 = .ok (.aload_n 0, 1) := of_0 ok_aload_n_0 (by decide +kernel)
theorem dX8_minute_1 : decode cX8_minute 1 = .ok (.getfield 29, 3) := of_u2 ok_getfield 0 29 (by decide +kernel)
theorem dX8_minute_4 : decode cX8_minute 4 = .ok (.getfield 81, 3) := of_u2 ok_getfield 0 81 (by decide +kernel)
theorem dX8_minute_7 : decode cX8_minute 7 = .ok (.astore_n 1, 1) := of_0 ok_astore_n_1 (by decide +kernel)
theorem dX8_minute_8 : decode cX8_minute 8 = .ok (.aload_n 1, 1) := of_0 ok_aload_n_1 (by decide +kernel)
theorem dX8_minute_9 : decode cX8_minute 9 = .ok (.getfield 150, 3) := of_u2 ok_getfield 0 150 (by decide +kernel)
theorem dX8_minute_12 : decode cX8_minute 12 = .ok (.ifCond .eq 13, 3) := of_s2 ok_ifCond_eq 0 13 (by decide +kernel)
theorem dX8_minute_15 : decode cX8_minute 15 = .ok (.aload_n 1, 1) := of_0 ok_aload_n_1 (by decide +kernel)
theorem dX8_minute_16 : decode cX8_minute 16 = .ok (.getfield 154, 3) := of_u2 ok_getfield 0 154 (by decide +kernel)
theorem dX8_minute_19 : decode cX8_minute 19 = .ok (.sipush 999, 3) := of_s2 ok_sipush 3 231 (by decide +kernel)
theorem dX8_minute_22 : decode cX8_minute 22 = .ok (.if_icmp .lt 5, 3) := of_s2 ok_if_icmp_lt 0 5 (by decide +kernel)
theorem dX8_minute_25 : decode cX8_minute 25 = .ok (.iconst (-1), 1) := of_0 ok_iconst_m1 (by decide +kernel)
theorem dX8_minute_26 : decode cX8_minute 26 = .ok (.ireturn, 1) := of_0 ok_ireturn (by decide +kernel)
theorem dX8_minute_27 : decode cX8_minute 27 = .ok (.aload_n 0, 1) := of_0 ok_aload_n_0 (by decide +kernel)
theorem dX8_minute_28 : decode cX8_minute 28 = .ok (.getfield 29, 3) := of_u2 ok_getfield 0 29 (by decide +kernel)
theorem dX8_minute_31 : decode cX8_minute 31 = .ok (.getfield 88, 3) := of_u2 ok_getfield 0 88 (by decide +kernel)
theorem dX8_minute_34 : decode cX8_minute 34 = .ok (.aload_n 1, 1) := of_0 ok_aload_n_1 (by decide +kernel)
theorem dX8_minute_35 : decode cX8_minute 35 = .ok (.invokevirtual 157, 3) := of_u2 ok_invokevirtual 0 157 (by decide +kernel)
theorem dX8_minute_38 : decode cX8_minute 38 = .ok (.aload_n 1, 1) := of_0 ok_aload_n_1 (by decide +kernel)
theorem dX8_minute_39 : decode cX8_minute 39 = .ok (.aload_n 0, 1) := of_0 ok_aload_n_0 (by decide +kernel)
theorem dX8_minute_40 : decode cX8_minute 40 = .ok (.invokevirtual 160, 3) := of_u2 ok_invokevirtual 0 160 (by decide +kernel)
theorem dX8_minute_43 : decode cX8_minute 43 = .ok (.invokevirtual 164, 3) := of_u2 ok_invokevirtual 0 164 (by decide +kernel)
theorem dX8_minute_46 : decode cX8_minute 46 = .ok (.ireturn, 1) := of_0 ok_ireturn (by decide +kernel)
theorem dX8_most_0 : decode cX8_most 0 = .ok (.aload_n 0, 1) := of_0 ok_aload_n_0 (by decide +kernel)
theorem dX8_most_1 : decode cX8_most 1 = .ok (.getfield 29, 3) := of_u2 ok_getfield 0 29 (by decide +kernel)
theorem dX8_most_4 : decode cX8_most 4 = .ok (.getfield 81, 3) := of_u2 ok_getfield 0 81 (by decide +kernel)
theorem dX8_most_7 : decode cX8_most 7 = .ok (.iload_n 1, 1) := of_0 ok_iload_n_1 (by decide +kernel)
theorem dX8_most_8 : decode cX8_most 8 = .ok (.invokevirtual 115, 3) := of_u2 ok_invokevirtual 0 115 (by decide +kernel)
theorem dX8_most_11 : decode cX8_most 11 = .ok (.ifCond .ne 5, 3) := of_s2 ok_ifCond_ne 0 5 (by decide +kernel)
theorem dX8_most_14 : decode cX8_most 14 = .ok (.iconst (-1), 1) := of_0 ok_iconst_m1 (by decide +kernel)
theorem dX8_most_15 : decode cX8_most 15 = .ok (.ireturn, 1) := of_0 ok_ireturn (by decide +kernel)
theorem dX8_most_16 : decode cX8_most 16 = .ok (.aload_n 0, 1) := of_0 ok_aload_n_0 (by decide +kernel)
theorem dX8_most_17 : decode cX8_most 17 = .ok (.getfield 44, 3) := of_u2 ok_getfield 0 44 (by decide +kernel)
theorem dX8_most_20 : decode cX8_most 20 = .ok (.aload_n 0, 1) := of_0 ok_aload_n_0 (by decide +kernel)
theorem dX8_most_21 : decode cX8_most 21 = .ok (.getfield 29, 3) := of_u2 ok_getfield 0 29 (by decide +kernel)
theorem dX8_most_24 : decode cX8_most 24 = .ok (.getfield 81, 3) := of_u2 ok_getfield 0 81 (by decide +kernel)
theorem dX8_most_27 : decode cX8_most 27 = .ok (.invokevirtual 84, 3) := of_u2 ok_invokevirtual 0 84 (by decide +kernel)
theorem dX8_most_30 : decode cX8_most 30 = .ok (.bipush 99, 2) := of_s1 ok_bipush 99 (by decide +kernel)
theorem dX8_most_32 : decode cX8_most 32 = .ok (.istore_n 2, 1) := of_0 ok_istore_n_2 (by decide +kernel)
theorem dX8_most_33 : decode cX8_most 33 = .ok (.iload_n 2, 1) := of_0 ok_iload_n_2 (by decide +kernel)
theorem dX8_most_34 : decode cX8_most 34 = .ok (.ifCond .lt 31, 3) := of_s2 ok_ifCond_lt 0 31 (by decide +kernel)
theorem dX8_most_37 : decode cX8_most 37 = .ok (.aload_n 0, 1) := of_0 ok_aload_n_0 (by decide +kernel)
theorem dX8_most_38 : decode cX8_most 38 = .ok (.getfield 44, 3) := of_u2 ok_getfield 0 44 (by decide +kernel)
theorem dX8_most_41 : decode cX8_most 41 = .ok (.getfield 119, 3) := of_u2 ok_getfield 0 119 (by decide +kernel)
theorem dX8_most_44 : decode cX8_most 44 = .ok (.iload_n 1, 1) := of_0 ok_iload_n_1 (by decide +kernel)
theorem dX8_most_45 : decode cX8_most 45 = .ok (.iload_n 2, 1) := of_0 ok_iload_n_2 (by decide +kernel)
theorem dX8_most_46 : decode cX8_most 46 = .ok (.iastore, 1) := of_0 ok_iastore (by decide +kernel)
theorem dX8_most_47 : decode cX8_most 47 = .ok (.aload_n 0, 1) := of_0 ok_aload_n_0 (by decide +kernel)
theorem dX8_most_48 : decode cX8_most 48 = .ok (.getfield 44, 3) := of_u2 ok_getfield 0 44 (by decide +kernel)
theorem dX8_most_51 : decode cX8_most 51 = .ok (.invokevirtual 218, 3) := of_u2 ok_invokevirtual 0 218 (by decide +kernel)
theorem dX8_most_54 : decode cX8_most 54 = .ok (.ifCond .ne 5, 3) := of_s2 ok_ifCond_ne 0 5 (by decide +kernel)
theorem dX8_most_57 : decode cX8_most 57 = .ok (.iload_n 2, 1) := of_0 ok_iload_n_2 (by decide +kernel)
theorem dX8_most_58 : decode cX8_most 58 = .ok (.ireturn, 1) := of_0 ok_ireturn (by decide +kernel)
theorem dX8_most_59 : decode cX8_most 59 = .ok (.iinc 2 (-1), 3) := of_ii ok_iinc 255 (by decide +kernel)
theorem dX8_most_62 : decode cX8_most 62 = .ok (.goto (-29), 3) := of_s2 ok_goto 255 227 (by decide +kernel)
theorem dX8_most_65 : decode cX8_most 65 = .ok (.bipush (-2), 2) := of_s1 ok_bipush 254 (by decide +kernel)
theorem dX8_most_67 : decode cX8_most 67 = .ok (.ireturn, 1) := of_0 ok_ireturn (by decide +kernel)
theorem dX8_nextDrawn_0 : decode cX8_nextDrawn 0 = .ok (.iload_n 0, 1) := of_0 ok_iload_n_0 (by decide +kernel)
theorem dX8_nextDrawn_1 : decode cX8_nextDrawn 1 = .ok (.i2l, 1) := of_0 ok_i2l (by decide +kernel)
theorem dX8_nextDrawn_2 : decode cX8_nextDrawn 2 = .ok (.ldc2_w 308, 3) := of_u2 ok_ldc2_w 1 52 (by decide +kernel)
theorem dX8_nextDrawn_5 : decode cX8_nextDrawn 5 = .ok (.lmul, 1) := of_0 ok_lmul (by decide +kernel)
theorem dX8_nextDrawn_6 : decode cX8_nextDrawn 6 = .ok (.ldc2_w 310, 3) := of_u2 ok_ldc2_w 1 54 (by decide +kernel)
theorem dX8_nextDrawn_9 : decode cX8_nextDrawn 9 = .ok (.ladd, 1) := of_0 ok_ladd (by decide +kernel)
theorem dX8_nextDrawn_10 : decode cX8_nextDrawn 10 = .ok (.ldc2_w 312, 3) := of_u2 ok_ldc2_w 1 56 (by decide +kernel)
theorem dX8_nextDrawn_13 : decode cX8_nextDrawn 13 = .ok (.land, 1) := of_0 ok_land (by decide +kernel)
theorem dX8_nextDrawn_14 : decode cX8_nextDrawn 14 = .ok (.l2i, 1) := of_0 ok_l2i (by decide +kernel)
theorem dX8_nextDrawn_15 : decode cX8_nextDrawn 15 = .ok (.ireturn, 1) := of_0 ok_ireturn (by decide +kernel)
theorem dX8_pence_0 : decode cX8_pence 0 = .ok (.aload_n 0, 1) := of_0 ok_aload_n_0 (by decide +kernel)
theorem dX8_pence_1 : decode cX8_pence 1 = .ok (.getfield 29, 3) := of_u2 ok_getfield 0 29 (by decide +kernel)
theorem dX8_pence_4 : decode cX8_pence 4 = .ok (.getfield 81, 3) := of_u2 ok_getfield 0 81 (by decide +kernel)
theorem dX8_pence_7 : decode cX8_pence 7 = .ok (.astore_n 3, 1) := of_0 ok_astore_n_3 (by decide +kernel)
theorem dX8_pence_8 : decode cX8_pence 8 = .ok (.iload_n 1, 1) := of_0 ok_iload_n_1 (by decide +kernel)
theorem dX8_pence_9 : decode cX8_pence 9 = .ok (.ifCond .lt 18, 3) := of_s2 ok_ifCond_lt 0 18 (by decide +kernel)
theorem dX8_pence_12 : decode cX8_pence 12 = .ok (.iload_n 1, 1) := of_0 ok_iload_n_1 (by decide +kernel)
theorem dX8_pence_13 : decode cX8_pence 13 = .ok (.sipush 9999, 3) := of_s2 ok_sipush 39 15 (by decide +kernel)
theorem dX8_pence_16 : decode cX8_pence 16 = .ok (.if_icmp .gt 11, 3) := of_s2 ok_if_icmp_gt 0 11 (by decide +kernel)
theorem dX8_pence_19 : decode cX8_pence 19 = .ok (.aload_n 3, 1) := of_0 ok_aload_n_3 (by decide +kernel)
theorem dX8_pence_20 : decode cX8_pence 20 = .ok (.iload_n 2, 1) := of_0 ok_iload_n_2 (by decide +kernel)
theorem dX8_pence_21 : decode cX8_pence 21 = .ok (.invokevirtual 138, 3) := of_u2 ok_invokevirtual 0 138 (by decide +kernel)
theorem dX8_pence_24 : decode cX8_pence 24 = .ok (.ifCond .ne 5, 3) := of_s2 ok_ifCond_ne 0 5 (by decide +kernel)
theorem dX8_pence_27 : decode cX8_pence 27 = .ok (.iconst (-1), 1) := of_0 ok_iconst_m1 (by decide +kernel)
theorem dX8_pence_28 : decode cX8_pence 28 = .ok (.ireturn, 1) := of_0 ok_ireturn (by decide +kernel)
theorem dX8_pence_29 : decode cX8_pence 29 = .ok (.aload_n 3, 1) := of_0 ok_aload_n_3 (by decide +kernel)
theorem dX8_pence_30 : decode cX8_pence 30 = .ok (.invokevirtual 224, 3) := of_u2 ok_invokevirtual 0 224 (by decide +kernel)
theorem dX8_pence_33 : decode cX8_pence 33 = .ok (.istore 4, 2) := of_u1 ok_istore (by decide +kernel)
theorem dX8_pence_35 : decode cX8_pence 35 = .ok (.iload 4, 2) := of_u1 ok_iload (by decide +kernel)
theorem dX8_pence_37 : decode cX8_pence 37 = .ok (.ifCond .gt 5, 3) := of_s2 ok_ifCond_gt 0 5 (by decide +kernel)
theorem dX8_pence_40 : decode cX8_pence 40 = .ok (.iconst 0, 1) := of_0 ok_iconst_0 (by decide +kernel)
theorem dX8_pence_41 : decode cX8_pence 41 = .ok (.ireturn, 1) := of_0 ok_ireturn (by decide +kernel)
theorem dX8_pence_42 : decode cX8_pence 42 = .ok (.iload_n 1, 1) := of_0 ok_iload_n_1 (by decide +kernel)
theorem dX8_pence_43 : decode cX8_pence 43 = .ok (.aload_n 3, 1) := of_0 ok_aload_n_3 (by decide +kernel)
theorem dX8_pence_44 : decode cX8_pence 44 = .ok (.iload_n 2, 1) := of_0 ok_iload_n_2 (by decide +kernel)
theorem dX8_pence_45 : decode cX8_pence 45 = .ok (.invokevirtual 135, 3) := of_u2 ok_invokevirtual 0 135 (by decide +kernel)
theorem dX8_pence_48 : decode cX8_pence 48 = .ok (.imul, 1) := of_0 ok_imul (by decide +kernel)
theorem dX8_pence_49 : decode cX8_pence 49 = .ok (.istore 5, 2) := of_u1 ok_istore (by decide +kernel)
theorem dX8_pence_51 : decode cX8_pence 51 = .ok (.iload_n 1, 1) := of_0 ok_iload_n_1 (by decide +kernel)
theorem dX8_pence_52 : decode cX8_pence 52 = .ok (.istore 6, 2) := of_u1 ok_istore (by decide +kernel)
theorem dX8_pence_54 : decode cX8_pence 54 = .ok (.iconst 0, 1) := of_0 ok_iconst_0 (by decide +kernel)
theorem dX8_pence_55 : decode cX8_pence 55 = .ok (.istore 7, 2) := of_u1 ok_istore (by decide +kernel)
theorem dX8_pence_57 : decode cX8_pence 57 = .ok (.iconst 0, 1) := of_0 ok_iconst_0 (by decide +kernel)
theorem dX8_pence_58 : decode cX8_pence 58 = .ok (.istore 8, 2) := of_u1 ok_istore (by decide +kernel)
theorem dX8_pence_60 : decode cX8_pence 60 = .ok (.iload 8, 2) := of_u1 ok_iload (by decide +kernel)
theorem dX8_pence_62 : decode cX8_pence 62 = .ok (.aload_n 3, 1) := of_0 ok_aload_n_3 (by decide +kernel)
theorem dX8_pence_63 : decode cX8_pence 63 = .ok (.getfield 104, 3) := of_u2 ok_getfield 0 104 (by decide +kernel)
theorem dX8_pence_66 : decode cX8_pence 66 = .ok (.if_icmp .ge 64, 3) := of_s2 ok_if_icmp_ge 0 64 (by decide +kernel)
theorem dX8_pence_69 : decode cX8_pence 69 = .ok (.iload_n 1, 1) := of_0 ok_iload_n_1 (by decide +kernel)
theorem dX8_pence_70 : decode cX8_pence 70 = .ok (.aload_n 3, 1) := of_0 ok_aload_n_3 (by decide +kernel)
theorem dX8_pence_71 : decode cX8_pence 71 = .ok (.iload 8, 2) := of_u1 ok_iload (by decide +kernel)
theorem dX8_pence_73 : decode cX8_pence 73 = .ok (.invokevirtual 135, 3) := of_u2 ok_invokevirtual 0 135 (by decide +kernel)
theorem dX8_pence_76 : decode cX8_pence 76 = .ok (.imul, 1) := of_0 ok_imul (by decide +kernel)
theorem dX8_pence_77 : decode cX8_pence 77 = .ok (.istore 9, 2) := of_u1 ok_istore (by decide +kernel)
theorem dX8_pence_79 : decode cX8_pence 79 = .ok (.iload 6, 2) := of_u1 ok_iload (by decide +kernel)
theorem dX8_pence_81 : decode cX8_pence 81 = .ok (.iload 9, 2) := of_u1 ok_iload (by decide +kernel)
theorem dX8_pence_83 : decode cX8_pence 83 = .ok (.iload 4, 2) := of_u1 ok_iload (by decide +kernel)
theorem dX8_pence_85 : decode cX8_pence 85 = .ok (.idiv, 1) := of_0 ok_idiv (by decide +kernel)
theorem dX8_pence_86 : decode cX8_pence 86 = .ok (.isub, 1) := of_0 ok_isub (by decide +kernel)
theorem dX8_pence_87 : decode cX8_pence 87 = .ok (.istore 6, 2) := of_u1 ok_istore (by decide +kernel)
theorem dX8_pence_89 : decode cX8_pence 89 = .ok (.iload 9, 2) := of_u1 ok_iload (by decide +kernel)
theorem dX8_pence_91 : decode cX8_pence 91 = .ok (.iload 4, 2) := of_u1 ok_iload (by decide +kernel)
theorem dX8_pence_93 : decode cX8_pence 93 = .ok (.irem, 1) := of_0 ok_irem (by decide +kernel)
theorem dX8_pence_94 : decode cX8_pence 94 = .ok (.iload 5, 2) := of_u1 ok_iload (by decide +kernel)
theorem dX8_pence_96 : decode cX8_pence 96 = .ok (.iload 4, 2) := of_u1 ok_iload (by decide +kernel)
theorem dX8_pence_98 : decode cX8_pence 98 = .ok (.irem, 1) := of_0 ok_irem (by decide +kernel)
theorem dX8_pence_99 : decode cX8_pence 99 = .ok (.if_icmp .gt 22, 3) := of_s2 ok_if_icmp_gt 0 22 (by decide +kernel)
theorem dX8_pence_102 : decode cX8_pence 102 = .ok (.iload 9, 2) := of_u1 ok_iload (by decide +kernel)
theorem dX8_pence_104 : decode cX8_pence 104 = .ok (.iload 4, 2) := of_u1 ok_iload (by decide +kernel)
theorem dX8_pence_106 : decode cX8_pence 106 = .ok (.irem, 1) := of_0 ok_irem (by decide +kernel)
theorem dX8_pence_107 : decode cX8_pence 107 = .ok (.iload 5, 2) := of_u1 ok_iload (by decide +kernel)
theorem dX8_pence_109 : decode cX8_pence 109 = .ok (.iload 4, 2) := of_u1 ok_iload (by decide +kernel)
theorem dX8_pence_111 : decode cX8_pence 111 = .ok (.irem, 1) := of_0 ok_irem (by decide +kernel)
theorem dX8_pence_112 : decode cX8_pence 112 = .ok (.if_icmp .ne 12, 3) := of_s2 ok_if_icmp_ne 0 12 (by decide +kernel)
theorem dX8_pence_115 : decode cX8_pence 115 = .ok (.iload 8, 2) := of_u1 ok_iload (by decide +kernel)
theorem dX8_pence_117 : decode cX8_pence 117 = .ok (.iload_n 2, 1) := of_0 ok_iload_n_2 (by decide +kernel)
theorem dX8_pence_118 : decode cX8_pence 118 = .ok (.if_icmp .ge 6, 3) := of_s2 ok_if_icmp_ge 0 6 (by decide +kernel)
theorem dX8_pence_121 : decode cX8_pence 121 = .ok (.iinc 7 1, 3) := of_ii ok_iinc 1 (by decide +kernel)
theorem dX8_pence_124 : decode cX8_pence 124 = .ok (.iinc 8 1, 3) := of_ii ok_iinc 1 (by decide +kernel)
theorem dX8_pence_127 : decode cX8_pence 127 = .ok (.goto (-67), 3) := of_s2 ok_goto 255 189 (by decide +kernel)
theorem dX8_pence_130 : decode cX8_pence 130 = .ok (.iload 5, 2) := of_u1 ok_iload (by decide +kernel)
theorem dX8_pence_132 : decode cX8_pence 132 = .ok (.iload 4, 2) := of_u1 ok_iload (by decide +kernel)
theorem dX8_pence_134 : decode cX8_pence 134 = .ok (.idiv, 1) := of_0 ok_idiv (by decide +kernel)
theorem dX8_pence_135 : decode cX8_pence 135 = .ok (.iload 7, 2) := of_u1 ok_iload (by decide +kernel)
theorem dX8_pence_137 : decode cX8_pence 137 = .ok (.iload 6, 2) := of_u1 ok_iload (by decide +kernel)
theorem dX8_pence_139 : decode cX8_pence 139 = .ok (.if_icmp .ge 7, 3) := of_s2 ok_if_icmp_ge 0 7 (by decide +kernel)
theorem dX8_pence_142 : decode cX8_pence 142 = .ok (.iconst 1, 1) := of_0 ok_iconst_1 (by decide +kernel)
theorem dX8_pence_143 : decode cX8_pence 143 = .ok (.goto 4, 3) := of_s2 ok_goto 0 4 (by decide +kernel)
theorem dX8_pence_146 : decode cX8_pence 146 = .ok (.iconst 0, 1) := of_0 ok_iconst_0 (by decide +kernel)
theorem dX8_pence_147 : decode cX8_pence 147 = .ok (.iadd, 1) := of_0 ok_iadd (by decide +kernel)
theorem dX8_pence_148 : decode cX8_pence 148 = .ok (.ireturn, 1) := of_0 ok_ireturn (by decide +kernel)
theorem dX8_ring_0 : decode cX8_ring 0 = .ok (.aload_n 0, 1) := of_0 ok_aload_n_0 (by decide +kernel)
theorem dX8_ring_1 : decode cX8_ring 1 = .ok (.getfield 29, 3) := of_u2 ok_getfield 0 29 (by decide +kernel)
theorem dX8_ring_4 : decode cX8_ring 4 = .ok (.getfield 81, 3) := of_u2 ok_getfield 0 81 (by decide +kernel)
theorem dX8_ring_7 : decode cX8_ring 7 = .ok (.getfield 150, 3) := of_u2 ok_getfield 0 150 (by decide +kernel)
theorem dX8_ring_10 : decode cX8_ring 10 = .ok (.ifCond .eq 12, 3) := of_s2 ok_ifCond_eq 0 12 (by decide +kernel)
theorem dX8_ring_13 : decode cX8_ring 13 = .ok (.iload_n 1, 1) := of_0 ok_iload_n_1 (by decide +kernel)
theorem dX8_ring_14 : decode cX8_ring 14 = .ok (.ifCond .lt 8, 3) := of_s2 ok_ifCond_lt 0 8 (by decide +kernel)
theorem dX8_ring_17 : decode cX8_ring 17 = .ok (.iload_n 1, 1) := of_0 ok_iload_n_1 (by decide +kernel)
theorem dX8_ring_18 : decode cX8_ring 18 = .ok (.iconst 1, 1) := of_0 ok_iconst_1 (by decide +kernel)
theorem dX8_ring_19 : decode cX8_ring 19 = .ok (.if_icmp .le 5, 3) := of_s2 ok_if_icmp_le 0 5 (by decide +kernel)
theorem dX8_ring_22 : decode cX8_ring 22 = .ok (.iconst (-1), 1) := of_0 ok_iconst_m1 (by decide +kernel)
theorem dX8_ring_23 : decode cX8_ring 23 = .ok (.ireturn, 1) := of_0 ok_ireturn (by decide +kernel)
theorem dX8_ring_24 : decode cX8_ring 24 = .ok (.aload_n 0, 1) := of_0 ok_aload_n_0 (by decide +kernel)
theorem dX8_ring_25 : decode cX8_ring 25 = .ok (.invokevirtual 197, 3) := of_u2 ok_invokevirtual 0 197 (by decide +kernel)
theorem dX8_ring_28 : decode cX8_ring 28 = .ok (.iconst 0, 1) := of_0 ok_iconst_0 (by decide +kernel)
theorem dX8_ring_29 : decode cX8_ring 29 = .ok (.istore_n 2, 1) := of_0 ok_istore_n_2 (by decide +kernel)
theorem dX8_ring_30 : decode cX8_ring 30 = .ok (.iload_n 2, 1) := of_0 ok_iload_n_2 (by decide +kernel)
theorem dX8_ring_31 : decode cX8_ring 31 = .ok (.bipush 60, 2) := of_s1 ok_bipush 60 (by decide +kernel)
theorem dX8_ring_33 : decode cX8_ring 33 = .ok (.if_icmp .ge 63, 3) := of_s2 ok_if_icmp_ge 0 63 (by decide +kernel)
theorem dX8_ring_36 : decode cX8_ring 36 = .ok (.iload_n 2, 1) := of_0 ok_iload_n_2 (by decide +kernel)
theorem dX8_ring_37 : decode cX8_ring 37 = .ok (.iconst 1, 1) := of_0 ok_iconst_1 (by decide +kernel)
theorem dX8_ring_38 : decode cX8_ring 38 = .ok (.iadd, 1) := of_0 ok_iadd (by decide +kernel)
theorem dX8_ring_39 : decode cX8_ring 39 = .ok (.istore_n 3, 1) := of_0 ok_istore_n_3 (by decide +kernel)
theorem dX8_ring_40 : decode cX8_ring 40 = .ok (.iload_n 3, 1) := of_0 ok_iload_n_3 (by decide +kernel)
theorem dX8_ring_41 : decode cX8_ring 41 = .ok (.bipush 60, 2) := of_s1 ok_bipush 60 (by decide +kernel)
theorem dX8_ring_43 : decode cX8_ring 43 = .ok (.if_icmp .gt 47, 3) := of_s2 ok_if_icmp_gt 0 47 (by decide +kernel)
theorem dX8_ring_46 : decode cX8_ring 46 = .ok (.aload_n 0, 1) := of_0 ok_aload_n_0 (by decide +kernel)
theorem dX8_ring_47 : decode cX8_ring 47 = .ok (.getfield 58, 3) := of_u2 ok_getfield 0 58 (by decide +kernel)
theorem dX8_ring_50 : decode cX8_ring 50 = .ok (.iload_n 2, 1) := of_0 ok_iload_n_2 (by decide +kernel)
theorem dX8_ring_51 : decode cX8_ring 51 = .ok (.iaload, 1) := of_0 ok_iaload (by decide +kernel)
theorem dX8_ring_52 : decode cX8_ring 52 = .ok (.aload_n 0, 1) := of_0 ok_aload_n_0 (by decide +kernel)
theorem dX8_ring_53 : decode cX8_ring 53 = .ok (.getfield 58, 3) := of_u2 ok_getfield 0 58 (by decide +kernel)
theorem dX8_ring_56 : decode cX8_ring 56 = .ok (.iload_n 3, 1) := of_0 ok_iload_n_3 (by decide +kernel)
theorem dX8_ring_57 : decode cX8_ring 57 = .ok (.iaload, 1) := of_0 ok_iaload (by decide +kernel)
theorem dX8_ring_58 : decode cX8_ring 58 = .ok (.if_icmp .ne 26, 3) := of_s2 ok_if_icmp_ne 0 26 (by decide +kernel)
theorem dX8_ring_61 : decode cX8_ring 61 = .ok (.iload_n 1, 1) := of_0 ok_iload_n_1 (by decide +kernel)
theorem dX8_ring_62 : decode cX8_ring 62 = .ok (.ifCond .ne 18, 3) := of_s2 ok_ifCond_ne 0 18 (by decide +kernel)
theorem dX8_ring_65 : decode cX8_ring 65 = .ok (.aload_n 0, 1) := of_0 ok_aload_n_0 (by decide +kernel)
theorem dX8_ring_66 : decode cX8_ring 66 = .ok (.getfield 29, 3) := of_u2 ok_getfield 0 29 (by decide +kernel)
theorem dX8_ring_69 : decode cX8_ring 69 = .ok (.getfield 81, 3) := of_u2 ok_getfield 0 81 (by decide +kernel)
theorem dX8_ring_72 : decode cX8_ring 72 = .ok (.getfield 154, 3) := of_u2 ok_getfield 0 154 (by decide +kernel)
theorem dX8_ring_75 : decode cX8_ring 75 = .ok (.iload_n 2, 1) := of_0 ok_iload_n_2 (by decide +kernel)
theorem dX8_ring_76 : decode cX8_ring 76 = .ok (.iadd, 1) := of_0 ok_iadd (by decide +kernel)
theorem dX8_ring_77 : decode cX8_ring 77 = .ok (.goto 6, 3) := of_s2 ok_goto 0 6 (by decide +kernel)
theorem dX8_ring_80 : decode cX8_ring 80 = .ok (.iload_n 3, 1) := of_0 ok_iload_n_3 (by decide +kernel)
theorem dX8_ring_81 : decode cX8_ring 81 = .ok (.iload_n 2, 1) := of_0 ok_iload_n_2 (by decide +kernel)
theorem dX8_ring_82 : decode cX8_ring 82 = .ok (.isub, 1) := of_0 ok_isub (by decide +kernel)
theorem dX8_ring_83 : decode cX8_ring 83 = .ok (.ireturn, 1) := of_0 ok_ireturn (by decide +kernel)
theorem dX8_ring_84 : decode cX8_ring 84 = .ok (.iinc 3 1, 3) := of_ii ok_iinc 1 (by decide +kernel)
theorem dX8_ring_87 : decode cX8_ring 87 = .ok (.goto (-47), 3) := of_s2 ok_goto 255 209 (by decide +kernel)
theorem dX8_ring_90 : decode cX8_ring 90 = .ok (.iinc 2 1, 3) := of_ii ok_iinc 1 (by decide +kernel)
theorem dX8_ring_93 : decode cX8_ring 93 = .ok (.goto (-63), 3) := of_s2 ok_goto 255 193 (by decide +kernel)
theorem dX8_ring_96 : decode cX8_ring 96 = .ok (.bipush (-2), 2) := of_s1 ok_bipush 254 (by decide +kernel)
theorem dX8_ring_98 : decode cX8_ring 98 = .ok (.ireturn, 1) := of_0 ok_ireturn (by decide +kernel)
theorem dX8_rise_0 : decode cX8_rise 0 = .ok (.aload_n 0, 1) := of_0 ok_aload_n_0 (by decide +kernel)
theorem dX8_rise_1 : decode cX8_rise 1 = .ok (.getfield 29, 3) := of_u2 ok_getfield 0 29 (by decide +kernel)
theorem dX8_rise_4 : decode cX8_rise 4 = .ok (.getfield 81, 3) := of_u2 ok_getfield 0 81 (by decide +kernel)
theorem dX8_rise_7 : decode cX8_rise 7 = .ok (.iload_n 1, 1) := of_0 ok_iload_n_1 (by decide +kernel)
theorem dX8_rise_8 : decode cX8_rise 8 = .ok (.invokevirtual 176, 3) := of_u2 ok_invokevirtual 0 176 (by decide +kernel)
theorem dX8_rise_11 : decode cX8_rise 11 = .ok (.ifCond .ne 5, 3) := of_s2 ok_ifCond_ne 0 5 (by decide +kernel)
theorem dX8_rise_14 : decode cX8_rise 14 = .ok (.iconst (-1), 1) := of_0 ok_iconst_m1 (by decide +kernel)
theorem dX8_rise_15 : decode cX8_rise 15 = .ok (.ireturn, 1) := of_0 ok_ireturn (by decide +kernel)
theorem dX8_rise_16 : decode cX8_rise 16 = .ok (.aload_n 0, 1) := of_0 ok_aload_n_0 (by decide +kernel)
theorem dX8_rise_17 : decode cX8_rise 17 = .ok (.getfield 29, 3) := of_u2 ok_getfield 0 29 (by decide +kernel)
theorem dX8_rise_20 : decode cX8_rise 20 = .ok (.getfield 88, 3) := of_u2 ok_getfield 0 88 (by decide +kernel)
theorem dX8_rise_23 : decode cX8_rise 23 = .ok (.aload_n 0, 1) := of_0 ok_aload_n_0 (by decide +kernel)
theorem dX8_rise_24 : decode cX8_rise 24 = .ok (.getfield 29, 3) := of_u2 ok_getfield 0 29 (by decide +kernel)
theorem dX8_rise_27 : decode cX8_rise 27 = .ok (.getfield 81, 3) := of_u2 ok_getfield 0 81 (by decide +kernel)
theorem dX8_rise_30 : decode cX8_rise 30 = .ok (.invokevirtual 157, 3) := of_u2 ok_invokevirtual 0 157 (by decide +kernel)
theorem dX8_rise_33 : decode cX8_rise 33 = .ok (.aload_n 0, 1) := of_0 ok_aload_n_0 (by decide +kernel)
theorem dX8_rise_34 : decode cX8_rise 34 = .ok (.getfield 29, 3) := of_u2 ok_getfield 0 29 (by decide +kernel)
theorem dX8_rise_37 : decode cX8_rise 37 = .ok (.getfield 81, 3) := of_u2 ok_getfield 0 81 (by decide +kernel)
theorem dX8_rise_40 : decode cX8_rise 40 = .ok (.iload_n 1, 1) := of_0 ok_iload_n_1 (by decide +kernel)
theorem dX8_rise_41 : decode cX8_rise 41 = .ok (.iconst 0, 1) := of_0 ok_iconst_0 (by decide +kernel)
theorem dX8_rise_42 : decode cX8_rise 42 = .ok (.invokevirtual 168, 3) := of_u2 ok_invokevirtual 0 168 (by decide +kernel)
theorem dX8_rise_45 : decode cX8_rise 45 = .ok (.aload_n 0, 1) := of_0 ok_aload_n_0 (by decide +kernel)
theorem dX8_rise_46 : decode cX8_rise 46 = .ok (.getfield 29, 3) := of_u2 ok_getfield 0 29 (by decide +kernel)
theorem dX8_rise_49 : decode cX8_rise 49 = .ok (.getfield 81, 3) := of_u2 ok_getfield 0 81 (by decide +kernel)
theorem dX8_rise_52 : decode cX8_rise 52 = .ok (.invokevirtual 172, 3) := of_u2 ok_invokevirtual 0 172 (by decide +kernel)
theorem dX8_rise_55 : decode cX8_rise 55 = .ok (.ireturn, 1) := of_0 ok_ireturn (by decide +kernel)
theorem dX8_rule_0 : decode cX8_rule 0 = .ok (.aload_n 0, 1) := of_0 ok_aload_n_0 (by decide +kernel)
theorem dX8_rule_1 : decode cX8_rule 1 = .ok (.getfield 22, 3) := of_u2 ok_getfield 0 22 (by decide +kernel)
theorem dX8_rule_4 : decode cX8_rule 4 = .ok (.bipush 6, 2) := of_s1 ok_bipush 6 (by decide +kernel)
theorem dX8_rule_6 : decode cX8_rule 6 = .ok (.if_icmp .lt 5, 3) := of_s2 ok_if_icmp_lt 0 5 (by decide +kernel)
theorem dX8_rule_9 : decode cX8_rule 9 = .ok (.iconst (-1), 1) := of_0 ok_iconst_m1 (by decide +kernel)
theorem dX8_rule_10 : decode cX8_rule 10 = .ok (.ireturn, 1) := of_0 ok_ireturn (by decide +kernel)
theorem dX8_rule_11 : decode cX8_rule 11 = .ok (.aload_n 0, 1) := of_0 ok_aload_n_0 (by decide +kernel)
theorem dX8_rule_12 : decode cX8_rule 12 = .ok (.getfield 10, 3) := of_u2 ok_getfield 0 10 (by decide +kernel)
theorem dX8_rule_15 : decode cX8_rule 15 = .ok (.aload_n 0, 1) := of_0 ok_aload_n_0 (by decide +kernel)
theorem dX8_rule_16 : decode cX8_rule 16 = .ok (.getfield 18, 3) := of_u2 ok_getfield 0 18 (by decide +kernel)
theorem dX8_rule_19 : decode cX8_rule 19 = .ok (.aload_n 0, 1) := of_0 ok_aload_n_0 (by decide +kernel)
theorem dX8_rule_20 : decode cX8_rule 20 = .ok (.getfield 22, 3) := of_u2 ok_getfield 0 22 (by decide +kernel)
theorem dX8_rule_23 : decode cX8_rule 23 = .ok (.aaload, 1) := of_0 ok_aaload (by decide +kernel)
theorem dX8_rule_24 : decode cX8_rule 24 = .ok (.invokestatic 107, 3) := of_u2 ok_invokestatic 0 107 (by decide +kernel)
theorem dX8_rule_27 : decode cX8_rule 27 = .ok (.istore_n 1, 1) := of_0 ok_istore_n_1 (by decide +kernel)
theorem dX8_rule_28 : decode cX8_rule 28 = .ok (.aload_n 0, 1) := of_0 ok_aload_n_0 (by decide +kernel)
theorem dX8_rule_29 : decode cX8_rule 29 = .ok (.getfield 10, 3) := of_u2 ok_getfield 0 10 (by decide +kernel)
theorem dX8_rule_32 : decode cX8_rule 32 = .ok (.getfield 78, 3) := of_u2 ok_getfield 0 78 (by decide +kernel)
theorem dX8_rule_35 : decode cX8_rule 35 = .ok (.istore_n 2, 1) := of_0 ok_istore_n_2 (by decide +kernel)
theorem dX8_rule_36 : decode cX8_rule 36 = .ok (.aload_n 0, 1) := of_0 ok_aload_n_0 (by decide +kernel)
theorem dX8_rule_37 : decode cX8_rule 37 = .ok (.getfield 10, 3) := of_u2 ok_getfield 0 10 (by decide +kernel)
theorem dX8_rule_40 : decode cX8_rule 40 = .ok (.iconst 0, 1) := of_0 ok_iconst_0 (by decide +kernel)
theorem dX8_rule_41 : decode cX8_rule 41 = .ok (.putfield 65, 3) := of_u2 ok_putfield 0 65 (by decide +kernel)
theorem dX8_rule_44 : decode cX8_rule 44 = .ok (.iload_n 1, 1) := of_0 ok_iload_n_1 (by decide +kernel)
theorem dX8_rule_45 : decode cX8_rule 45 = .ok (.ifCond .ne 8, 3) := of_s2 ok_ifCond_ne 0 8 (by decide +kernel)
theorem dX8_rule_48 : decode cX8_rule 48 = .ok (.bipush (-2), 2) := of_s1 ok_bipush 254 (by decide +kernel)
theorem dX8_rule_50 : decode cX8_rule 50 = .ok (.iload_n 2, 1) := of_0 ok_iload_n_2 (by decide +kernel)
theorem dX8_rule_51 : decode cX8_rule 51 = .ok (.isub, 1) := of_0 ok_isub (by decide +kernel)
theorem dX8_rule_52 : decode cX8_rule 52 = .ok (.ireturn, 1) := of_0 ok_ireturn (by decide +kernel)
theorem dX8_rule_53 : decode cX8_rule 53 = .ok (.aload_n 0, 1) := of_0 ok_aload_n_0 (by decide +kernel)
theorem dX8_rule_54 : decode cX8_rule 54 = .ok (.dup, 1) := of_0 ok_dup (by decide +kernel)
theorem dX8_rule_55 : decode cX8_rule 55 = .ok (.getfield 22, 3) := of_u2 ok_getfield 0 22 (by decide +kernel)
theorem dX8_rule_58 : decode cX8_rule 58 = .ok (.iconst 1, 1) := of_0 ok_iconst_1 (by decide +kernel)
theorem dX8_rule_59 : decode cX8_rule 59 = .ok (.iadd, 1) := of_0 ok_iadd (by decide +kernel)
theorem dX8_rule_60 : decode cX8_rule 60 = .ok (.putfield 22, 3) := of_u2 ok_putfield 0 22 (by decide +kernel)
theorem dX8_rule_63 : decode cX8_rule 63 = .ok (.aload_n 0, 1) := of_0 ok_aload_n_0 (by decide +kernel)
theorem dX8_rule_64 : decode cX8_rule 64 = .ok (.getfield 22, 3) := of_u2 ok_getfield 0 22 (by decide +kernel)
theorem dX8_rule_67 : decode cX8_rule 67 = .ok (.iconst 1, 1) := of_0 ok_iconst_1 (by decide +kernel)
theorem dX8_rule_68 : decode cX8_rule 68 = .ok (.isub, 1) := of_0 ok_isub (by decide +kernel)
theorem dX8_rule_69 : decode cX8_rule 69 = .ok (.ireturn, 1) := of_0 ok_ireturn (by decide +kernel)
theorem dX8_ruleAt_0 : decode cX8_ruleAt 0 = .ok (.iload_n 1, 1) := of_0 ok_iload_n_1 (by decide +kernel)
theorem dX8_ruleAt_1 : decode cX8_ruleAt 1 = .ok (.ifCond .lt 20, 3) := of_s2 ok_ifCond_lt 0 20 (by decide +kernel)
theorem dX8_ruleAt_4 : decode cX8_ruleAt 4 = .ok (.iload_n 1, 1) := of_0 ok_iload_n_1 (by decide +kernel)
theorem dX8_ruleAt_5 : decode cX8_ruleAt 5 = .ok (.aload_n 0, 1) := of_0 ok_aload_n_0 (by decide +kernel)
theorem dX8_ruleAt_6 : decode cX8_ruleAt 6 = .ok (.getfield 22, 3) := of_u2 ok_getfield 0 22 (by decide +kernel)
theorem dX8_ruleAt_9 : decode cX8_ruleAt 9 = .ok (.if_icmp .ge 12, 3) := of_s2 ok_if_icmp_ge 0 12 (by decide +kernel)
theorem dX8_ruleAt_12 : decode cX8_ruleAt 12 = .ok (.aload_n 0, 1) := of_0 ok_aload_n_0 (by decide +kernel)
theorem dX8_ruleAt_13 : decode cX8_ruleAt 13 = .ok (.getfield 18, 3) := of_u2 ok_getfield 0 18 (by decide +kernel)
theorem dX8_ruleAt_16 : decode cX8_ruleAt 16 = .ok (.iload_n 1, 1) := of_0 ok_iload_n_1 (by decide +kernel)
theorem dX8_ruleAt_17 : decode cX8_ruleAt 17 = .ok (.aaload, 1) := of_0 ok_aaload (by decide +kernel)
theorem dX8_ruleAt_18 : decode cX8_ruleAt 18 = .ok (.goto 4, 3) := of_s2 ok_goto 0 4 (by decide +kernel)
theorem dX8_ruleAt_21 : decode cX8_ruleAt 21 = .ok (.aconst_null, 1) := of_0 ok_aconst_null (by decide +kernel)
theorem dX8_ruleAt_22 : decode cX8_ruleAt 22 = .ok (.areturn, 1) := of_0 ok_areturn (by decide +kernel)
theorem dX8_ruleInForce_0 : decode cX8_ruleInForce 0 = .ok (.aload_n 0, 1) := of_0 ok_aload_n_0 (by decide +kernel)
theorem dX8_ruleInForce_1 : decode cX8_ruleInForce 1 = .ok (.aload_n 0, 1) := of_0 ok_aload_n_0 (by decide +kernel)
theorem dX8_ruleInForce_2 : decode cX8_ruleInForce 2 = .ok (.getfield 29, 3) := of_u2 ok_getfield 0 29 (by decide +kernel)
theorem dX8_ruleInForce_5 : decode cX8_ruleInForce 5 = .ok (.getfield 112, 3) := of_u2 ok_getfield 0 112 (by decide +kernel)
theorem dX8_ruleInForce_8 : decode cX8_ruleInForce 8 = .ok (.invokevirtual 254, 3) := of_u2 ok_invokevirtual 0 254 (by decide +kernel)
theorem dX8_ruleInForce_11 : decode cX8_ruleInForce 11 = .ok (.areturn, 1) := of_0 ok_areturn (by decide +kernel)
theorem dX8_sit_0 : decode cX8_sit 0 = .ok (.aload_n 0, 1) := of_0 ok_aload_n_0 (by decide +kernel)
theorem dX8_sit_1 : decode cX8_sit 1 = .ok (.getfield 29, 3) := of_u2 ok_getfield 0 29 (by decide +kernel)
theorem dX8_sit_4 : decode cX8_sit 4 = .ok (.getfield 81, 3) := of_u2 ok_getfield 0 81 (by decide +kernel)
theorem dX8_sit_7 : decode cX8_sit 7 = .ok (.iload_n 1, 1) := of_0 ok_iload_n_1 (by decide +kernel)
theorem dX8_sit_8 : decode cX8_sit 8 = .ok (.invokevirtual 147, 3) := of_u2 ok_invokevirtual 0 147 (by decide +kernel)
theorem dX8_sit_11 : decode cX8_sit 11 = .ok (.ifCond .eq 5, 3) := of_s2 ok_ifCond_eq 0 5 (by decide +kernel)
theorem dX8_sit_14 : decode cX8_sit 14 = .ok (.iconst (-1), 1) := of_0 ok_iconst_m1 (by decide +kernel)
theorem dX8_sit_15 : decode cX8_sit 15 = .ok (.ireturn, 1) := of_0 ok_ireturn (by decide +kernel)
theorem dX8_sit_16 : decode cX8_sit 16 = .ok (.aload_n 0, 1) := of_0 ok_aload_n_0 (by decide +kernel)
theorem dX8_sit_17 : decode cX8_sit 17 = .ok (.getfield 29, 3) := of_u2 ok_getfield 0 29 (by decide +kernel)
theorem dX8_sit_20 : decode cX8_sit 20 = .ok (.getfield 88, 3) := of_u2 ok_getfield 0 88 (by decide +kernel)
theorem dX8_sit_23 : decode cX8_sit 23 = .ok (.aload_n 0, 1) := of_0 ok_aload_n_0 (by decide +kernel)
theorem dX8_sit_24 : decode cX8_sit 24 = .ok (.getfield 29, 3) := of_u2 ok_getfield 0 29 (by decide +kernel)
theorem dX8_sit_27 : decode cX8_sit 27 = .ok (.getfield 81, 3) := of_u2 ok_getfield 0 81 (by decide +kernel)
theorem dX8_sit_30 : decode cX8_sit 30 = .ok (.invokevirtual 157, 3) := of_u2 ok_invokevirtual 0 157 (by decide +kernel)
theorem dX8_sit_33 : decode cX8_sit 33 = .ok (.aload_n 0, 1) := of_0 ok_aload_n_0 (by decide +kernel)
theorem dX8_sit_34 : decode cX8_sit 34 = .ok (.getfield 29, 3) := of_u2 ok_getfield 0 29 (by decide +kernel)
theorem dX8_sit_37 : decode cX8_sit 37 = .ok (.getfield 81, 3) := of_u2 ok_getfield 0 81 (by decide +kernel)
theorem dX8_sit_40 : decode cX8_sit 40 = .ok (.iload_n 1, 1) := of_0 ok_iload_n_1 (by decide +kernel)
theorem dX8_sit_41 : decode cX8_sit 41 = .ok (.iconst 1, 1) := of_0 ok_iconst_1 (by decide +kernel)
theorem dX8_sit_42 : decode cX8_sit 42 = .ok (.invokevirtual 168, 3) := of_u2 ok_invokevirtual 0 168 (by decide +kernel)
theorem dX8_sit_45 : decode cX8_sit 45 = .ok (.aload_n 0, 1) := of_0 ok_aload_n_0 (by decide +kernel)
theorem dX8_sit_46 : decode cX8_sit 46 = .ok (.getfield 29, 3) := of_u2 ok_getfield 0 29 (by decide +kernel)
theorem dX8_sit_49 : decode cX8_sit 49 = .ok (.getfield 81, 3) := of_u2 ok_getfield 0 81 (by decide +kernel)
theorem dX8_sit_52 : decode cX8_sit 52 = .ok (.invokevirtual 172, 3) := of_u2 ok_invokevirtual 0 172 (by decide +kernel)
theorem dX8_sit_55 : decode cX8_sit 55 = .ok (.ireturn, 1) := of_0 ok_ireturn (by decide +kernel)
theorem dX8_sitter_0 : decode cX8_sitter 0 = .ok (.aload_n 0, 1) := of_0 ok_aload_n_0 (by decide +kernel)
theorem dX8_sitter_1 : decode cX8_sitter 1 = .ok (.getfield 29, 3) := of_u2 ok_getfield 0 29 (by decide +kernel)
theorem dX8_sitter_4 : decode cX8_sitter 4 = .ok (.getfield 81, 3) := of_u2 ok_getfield 0 81 (by decide +kernel)
theorem dX8_sitter_7 : decode cX8_sitter 7 = .ok (.astore_n 3, 1) := of_0 ok_astore_n_3 (by decide +kernel)
theorem dX8_sitter_8 : decode cX8_sitter 8 = .ok (.aload_n 3, 1) := of_0 ok_aload_n_3 (by decide +kernel)
theorem dX8_sitter_9 : decode cX8_sitter 9 = .ok (.iload_n 1, 1) := of_0 ok_iload_n_1 (by decide +kernel)
theorem dX8_sitter_10 : decode cX8_sitter 10 = .ok (.invokevirtual 138, 3) := of_u2 ok_invokevirtual 0 138 (by decide +kernel)
theorem dX8_sitter_13 : decode cX8_sitter 13 = .ok (.ifCond .ne 5, 3) := of_s2 ok_ifCond_ne 0 5 (by decide +kernel)
theorem dX8_sitter_16 : decode cX8_sitter 16 = .ok (.iconst (-1), 1) := of_0 ok_iconst_m1 (by decide +kernel)
theorem dX8_sitter_17 : decode cX8_sitter 17 = .ok (.ireturn, 1) := of_0 ok_ireturn (by decide +kernel)
theorem dX8_sitter_18 : decode cX8_sitter 18 = .ok (.iload_n 2, 1) := of_0 ok_iload_n_2 (by decide +kernel)
theorem dX8_sitter_19 : decode cX8_sitter 19 = .ok (.tableswitch 45 0 2 #[25, 32, 39], 25) := by decide +kernel
theorem dX8_sitter_44 : decode cX8_sitter 44 = .ok (.aload_n 3, 1) := of_0 ok_aload_n_3 (by decide +kernel)
theorem dX8_sitter_45 : decode cX8_sitter 45 = .ok (.getfield 141, 3) := of_u2 ok_getfield 0 141 (by decide +kernel)
theorem dX8_sitter_48 : decode cX8_sitter 48 = .ok (.iload_n 1, 1) := of_0 ok_iload_n_1 (by decide +kernel)
theorem dX8_sitter_49 : decode cX8_sitter 49 = .ok (.iaload, 1) := of_0 ok_iaload (by decide +kernel)
theorem dX8_sitter_50 : decode cX8_sitter 50 = .ok (.ireturn, 1) := of_0 ok_ireturn (by decide +kernel)
theorem dX8_sitter_51 : decode cX8_sitter 51 = .ok (.aload_n 3, 1) := of_0 ok_aload_n_3 (by decide +kernel)
theorem dX8_sitter_52 : decode cX8_sitter 52 = .ok (.getfield 144, 3) := of_u2 ok_getfield 0 144 (by decide +kernel)
theorem dX8_sitter_55 : decode cX8_sitter 55 = .ok (.iload_n 1, 1) := of_0 ok_iload_n_1 (by decide +kernel)
theorem dX8_sitter_56 : decode cX8_sitter 56 = .ok (.iaload, 1) := of_0 ok_iaload (by decide +kernel)
theorem dX8_sitter_57 : decode cX8_sitter 57 = .ok (.ireturn, 1) := of_0 ok_ireturn (by decide +kernel)
theorem dX8_sitter_58 : decode cX8_sitter 58 = .ok (.aload_n 3, 1) := of_0 ok_aload_n_3 (by decide +kernel)
theorem dX8_sitter_59 : decode cX8_sitter 59 = .ok (.iload_n 1, 1) := of_0 ok_iload_n_1 (by decide +kernel)
theorem dX8_sitter_60 : decode cX8_sitter 60 = .ok (.invokevirtual 147, 3) := of_u2 ok_invokevirtual 0 147 (by decide +kernel)
theorem dX8_sitter_63 : decode cX8_sitter 63 = .ok (.ireturn, 1) := of_0 ok_ireturn (by decide +kernel)
theorem dX8_sitter_64 : decode cX8_sitter 64 = .ok (.iconst (-1), 1) := of_0 ok_iconst_m1 (by decide +kernel)
theorem dX8_sitter_65 : decode cX8_sitter 65 = .ok (.ireturn, 1) := of_0 ok_ireturn (by decide +kernel)
theorem dX8_strand_0 : decode cX8_strand 0 = .ok (.aload_n 0, 1) := of_0 ok_aload_n_0 (by decide +kernel)
theorem dX8_strand_1 : decode cX8_strand 1 = .ok (.getfield 29, 3) := of_u2 ok_getfield 0 29 (by decide +kernel)
theorem dX8_strand_4 : decode cX8_strand 4 = .ok (.getfield 81, 3) := of_u2 ok_getfield 0 81 (by decide +kernel)
theorem dX8_strand_7 : decode cX8_strand 7 = .ok (.iload_n 1, 1) := of_0 ok_iload_n_1 (by decide +kernel)
theorem dX8_strand_8 : decode cX8_strand 8 = .ok (.invokevirtual 115, 3) := of_u2 ok_invokevirtual 0 115 (by decide +kernel)
theorem dX8_strand_11 : decode cX8_strand 11 = .ok (.ifCond .eq 18, 3) := of_s2 ok_ifCond_eq 0 18 (by decide +kernel)
theorem dX8_strand_14 : decode cX8_strand 14 = .ok (.aload_n 0, 1) := of_0 ok_aload_n_0 (by decide +kernel)
theorem dX8_strand_15 : decode cX8_strand 15 = .ok (.getfield 29, 3) := of_u2 ok_getfield 0 29 (by decide +kernel)
theorem dX8_strand_18 : decode cX8_strand 18 = .ok (.getfield 81, 3) := of_u2 ok_getfield 0 81 (by decide +kernel)
theorem dX8_strand_21 : decode cX8_strand 21 = .ok (.getfield 119, 3) := of_u2 ok_getfield 0 119 (by decide +kernel)
theorem dX8_strand_24 : decode cX8_strand 24 = .ok (.iload_n 1, 1) := of_0 ok_iload_n_1 (by decide +kernel)
theorem dX8_strand_25 : decode cX8_strand 25 = .ok (.iaload, 1) := of_0 ok_iaload (by decide +kernel)
theorem dX8_strand_26 : decode cX8_strand 26 = .ok (.goto 4, 3) := of_s2 ok_goto 0 4 (by decide +kernel)
theorem dX8_strand_29 : decode cX8_strand 29 = .ok (.iconst (-1), 1) := of_0 ok_iconst_m1 (by decide +kernel)
theorem dX8_strand_30 : decode cX8_strand 30 = .ok (.ireturn, 1) := of_0 ok_ireturn (by decide +kernel)
theorem dX8_tall_0 : decode cX8_tall 0 = .ok (.aload_n 0, 1) := of_0 ok_aload_n_0 (by decide +kernel)
theorem dX8_tall_1 : decode cX8_tall 1 = .ok (.getfield 29, 3) := of_u2 ok_getfield 0 29 (by decide +kernel)
theorem dX8_tall_4 : decode cX8_tall 4 = .ok (.getfield 81, 3) := of_u2 ok_getfield 0 81 (by decide +kernel)
theorem dX8_tall_7 : decode cX8_tall 7 = .ok (.astore_n 2, 1) := of_0 ok_astore_n_2 (by decide +kernel)
theorem dX8_tall_8 : decode cX8_tall 8 = .ok (.aload_n 2, 1) := of_0 ok_aload_n_2 (by decide +kernel)
theorem dX8_tall_9 : decode cX8_tall 9 = .ok (.getfield 150, 3) := of_u2 ok_getfield 0 150 (by decide +kernel)
theorem dX8_tall_12 : decode cX8_tall 12 = .ok (.ifCond .eq 12, 3) := of_s2 ok_ifCond_eq 0 12 (by decide +kernel)
theorem dX8_tall_15 : decode cX8_tall 15 = .ok (.iload_n 1, 1) := of_0 ok_iload_n_1 (by decide +kernel)
theorem dX8_tall_16 : decode cX8_tall 16 = .ok (.ifCond .lt 8, 3) := of_s2 ok_ifCond_lt 0 8 (by decide +kernel)
theorem dX8_tall_19 : decode cX8_tall 19 = .ok (.iload_n 1, 1) := of_0 ok_iload_n_1 (by decide +kernel)
theorem dX8_tall_20 : decode cX8_tall 20 = .ok (.iconst 1, 1) := of_0 ok_iconst_1 (by decide +kernel)
theorem dX8_tall_21 : decode cX8_tall 21 = .ok (.if_icmp .le 5, 3) := of_s2 ok_if_icmp_le 0 5 (by decide +kernel)
theorem dX8_tall_24 : decode cX8_tall 24 = .ok (.iconst (-1), 1) := of_0 ok_iconst_m1 (by decide +kernel)
theorem dX8_tall_25 : decode cX8_tall 25 = .ok (.ireturn, 1) := of_0 ok_ireturn (by decide +kernel)
theorem dX8_tall_26 : decode cX8_tall 26 = .ok (.iconst (-1), 1) := of_0 ok_iconst_m1 (by decide +kernel)
theorem dX8_tall_27 : decode cX8_tall 27 = .ok (.istore_n 3, 1) := of_0 ok_istore_n_3 (by decide +kernel)
theorem dX8_tall_28 : decode cX8_tall 28 = .ok (.iconst (-1), 1) := of_0 ok_iconst_m1 (by decide +kernel)
theorem dX8_tall_29 : decode cX8_tall 29 = .ok (.istore 4, 2) := of_u1 ok_istore (by decide +kernel)
theorem dX8_tall_31 : decode cX8_tall 31 = .ok (.iconst 0, 1) := of_0 ok_iconst_0 (by decide +kernel)
theorem dX8_tall_32 : decode cX8_tall 32 = .ok (.istore 5, 2) := of_u1 ok_istore (by decide +kernel)
theorem dX8_tall_34 : decode cX8_tall 34 = .ok (.iload 5, 2) := of_u1 ok_iload (by decide +kernel)
theorem dX8_tall_36 : decode cX8_tall 36 = .ok (.aload_n 2, 1) := of_0 ok_aload_n_2 (by decide +kernel)
theorem dX8_tall_37 : decode cX8_tall 37 = .ok (.getfield 104, 3) := of_u2 ok_getfield 0 104 (by decide +kernel)
theorem dX8_tall_40 : decode cX8_tall 40 = .ok (.if_icmp .ge 47, 3) := of_s2 ok_if_icmp_ge 0 47 (by decide +kernel)
theorem dX8_tall_43 : decode cX8_tall 43 = .ok (.aload_n 2, 1) := of_0 ok_aload_n_2 (by decide +kernel)
theorem dX8_tall_44 : decode cX8_tall 44 = .ok (.iload 5, 2) := of_u1 ok_iload (by decide +kernel)
theorem dX8_tall_46 : decode cX8_tall 46 = .ok (.invokevirtual 176, 3) := of_u2 ok_invokevirtual 0 176 (by decide +kernel)
theorem dX8_tall_49 : decode cX8_tall 49 = .ok (.ifCond .eq 15, 3) := of_s2 ok_ifCond_eq 0 15 (by decide +kernel)
theorem dX8_tall_52 : decode cX8_tall 52 = .ok (.aload_n 0, 1) := of_0 ok_aload_n_0 (by decide +kernel)
theorem dX8_tall_53 : decode cX8_tall 53 = .ok (.iload 5, 2) := of_u1 ok_iload (by decide +kernel)
theorem dX8_tall_55 : decode cX8_tall 55 = .ok (.invokevirtual 203, 3) := of_u2 ok_invokevirtual 0 203 (by decide +kernel)
theorem dX8_tall_58 : decode cX8_tall 58 = .ok (.invokestatic 182, 3) := of_u2 ok_invokestatic 0 182 (by decide +kernel)
theorem dX8_tall_61 : decode cX8_tall 61 = .ok (.goto 4, 3) := of_s2 ok_goto 0 4 (by decide +kernel)
theorem dX8_tall_64 : decode cX8_tall 64 = .ok (.iconst (-1), 1) := of_0 ok_iconst_m1 (by decide +kernel)
theorem dX8_tall_65 : decode cX8_tall 65 = .ok (.istore 6, 2) := of_u1 ok_istore (by decide +kernel)
theorem dX8_tall_67 : decode cX8_tall 67 = .ok (.iload 6, 2) := of_u1 ok_iload (by decide +kernel)
theorem dX8_tall_69 : decode cX8_tall 69 = .ok (.iload 4, 2) := of_u1 ok_iload (by decide +kernel)
theorem dX8_tall_71 : decode cX8_tall 71 = .ok (.if_icmp .le 10, 3) := of_s2 ok_if_icmp_le 0 10 (by decide +kernel)
theorem dX8_tall_74 : decode cX8_tall 74 = .ok (.iload 5, 2) := of_u1 ok_iload (by decide +kernel)
theorem dX8_tall_76 : decode cX8_tall 76 = .ok (.istore_n 3, 1) := of_0 ok_istore_n_3 (by decide +kernel)
theorem dX8_tall_77 : decode cX8_tall 77 = .ok (.iload 6, 2) := of_u1 ok_iload (by decide +kernel)
theorem dX8_tall_79 : decode cX8_tall 79 = .ok (.istore 4, 2) := of_u1 ok_istore (by decide +kernel)
theorem dX8_tall_81 : decode cX8_tall 81 = .ok (.iinc 5 1, 3) := of_ii ok_iinc 1 (by decide +kernel)
theorem dX8_tall_84 : decode cX8_tall 84 = .ok (.goto (-50), 3) := of_s2 ok_goto 255 206 (by decide +kernel)
theorem dX8_tall_87 : decode cX8_tall 87 = .ok (.iload_n 3, 1) := of_0 ok_iload_n_3 (by decide +kernel)
theorem dX8_tall_88 : decode cX8_tall 88 = .ok (.iconst (-1), 1) := of_0 ok_iconst_m1 (by decide +kernel)
theorem dX8_tall_89 : decode cX8_tall 89 = .ok (.if_icmp .ne 6, 3) := of_s2 ok_if_icmp_ne 0 6 (by decide +kernel)
theorem dX8_tall_92 : decode cX8_tall 92 = .ok (.bipush (-2), 2) := of_s1 ok_bipush 254 (by decide +kernel)
theorem dX8_tall_94 : decode cX8_tall 94 = .ok (.ireturn, 1) := of_0 ok_ireturn (by decide +kernel)
theorem dX8_tall_95 : decode cX8_tall 95 = .ok (.iload_n 1, 1) := of_0 ok_iload_n_1 (by decide +kernel)
theorem dX8_tall_96 : decode cX8_tall 96 = .ok (.ifCond .ne 7, 3) := of_s2 ok_ifCond_ne 0 7 (by decide +kernel)
theorem dX8_tall_99 : decode cX8_tall 99 = .ok (.iload_n 3, 1) := of_0 ok_iload_n_3 (by decide +kernel)
theorem dX8_tall_100 : decode cX8_tall 100 = .ok (.goto 5, 3) := of_s2 ok_goto 0 5 (by decide +kernel)
theorem dX8_tall_103 : decode cX8_tall 103 = .ok (.iload 4, 2) := of_u1 ok_iload (by decide +kernel)
theorem dX8_tall_105 : decode cX8_tall 105 = .ok (.ireturn, 1) := of_0 ok_ireturn (by decide +kernel)
theorem dX8_undo_0 : decode cX8_undo 0 = .ok (.aload_n 0, 1) := of_0 ok_aload_n_0 (by decide +kernel)
theorem dX8_undo_1 : decode cX8_undo 1 = .ok (.getfield 29, 3) := of_u2 ok_getfield 0 29 (by decide +kernel)
theorem dX8_undo_4 : decode cX8_undo 4 = .ok (.getfield 88, 3) := of_u2 ok_getfield 0 88 (by decide +kernel)
theorem dX8_undo_7 : decode cX8_undo 7 = .ok (.getfield 187, 3) := of_u2 ok_getfield 0 187 (by decide +kernel)
theorem dX8_undo_10 : decode cX8_undo 10 = .ok (.ifCond .gt 6, 3) := of_s2 ok_ifCond_gt 0 6 (by decide +kernel)
theorem dX8_undo_13 : decode cX8_undo 13 = .ok (.bipush (-2), 2) := of_s1 ok_bipush 254 (by decide +kernel)
theorem dX8_undo_15 : decode cX8_undo 15 = .ok (.ireturn, 1) := of_0 ok_ireturn (by decide +kernel)
theorem dX8_undo_16 : decode cX8_undo 16 = .ok (.aload_n 0, 1) := of_0 ok_aload_n_0 (by decide +kernel)
theorem dX8_undo_17 : decode cX8_undo 17 = .ok (.getfield 29, 3) := of_u2 ok_getfield 0 29 (by decide +kernel)
theorem dX8_undo_20 : decode cX8_undo 20 = .ok (.getfield 88, 3) := of_u2 ok_getfield 0 88 (by decide +kernel)
theorem dX8_undo_23 : decode cX8_undo 23 = .ok (.aload_n 0, 1) := of_0 ok_aload_n_0 (by decide +kernel)
theorem dX8_undo_24 : decode cX8_undo 24 = .ok (.getfield 29, 3) := of_u2 ok_getfield 0 29 (by decide +kernel)
theorem dX8_undo_27 : decode cX8_undo 27 = .ok (.getfield 81, 3) := of_u2 ok_getfield 0 81 (by decide +kernel)
theorem dX8_undo_30 : decode cX8_undo 30 = .ok (.invokevirtual 190, 3) := of_u2 ok_invokevirtual 0 190 (by decide +kernel)
theorem dX8_undo_33 : decode cX8_undo 33 = .ok (.aload_n 0, 1) := of_0 ok_aload_n_0 (by decide +kernel)
theorem dX8_undo_34 : decode cX8_undo 34 = .ok (.getfield 29, 3) := of_u2 ok_getfield 0 29 (by decide +kernel)
theorem dX8_undo_37 : decode cX8_undo 37 = .ok (.getfield 88, 3) := of_u2 ok_getfield 0 88 (by decide +kernel)
theorem dX8_undo_40 : decode cX8_undo 40 = .ok (.getfield 187, 3) := of_u2 ok_getfield 0 187 (by decide +kernel)
theorem dX8_undo_43 : decode cX8_undo 43 = .ok (.ireturn, 1) := of_0 ok_ireturn (by decide +kernel)
theorem dX8_watchSixty_0 : decode cX8_watchSixty 0 = .ok (.aload_n 0, 1) := of_0 ok_aload_n_0 (by decide +kernel)
theorem dX8_watchSixty_1 : decode cX8_watchSixty 1 = .ok (.invokevirtual 160, 3) := of_u2 ok_invokevirtual 0 160 (by decide +kernel)
theorem dX8_watchSixty_4 : decode cX8_watchSixty 4 = .ok (.astore_n 1, 1) := of_0 ok_astore_n_1 (by decide +kernel)
theorem dX8_watchSixty_5 : decode cX8_watchSixty 5 = .ok (.aload_n 0, 1) := of_0 ok_aload_n_0 (by decide +kernel)
theorem dX8_watchSixty_6 : decode cX8_watchSixty 6 = .ok (.getfield 44, 3) := of_u2 ok_getfield 0 44 (by decide +kernel)
theorem dX8_watchSixty_9 : decode cX8_watchSixty 9 = .ok (.aload_n 0, 1) := of_0 ok_aload_n_0 (by decide +kernel)
theorem dX8_watchSixty_10 : decode cX8_watchSixty 10 = .ok (.getfield 29, 3) := of_u2 ok_getfield 0 29 (by decide +kernel)
theorem dX8_watchSixty_13 : decode cX8_watchSixty 13 = .ok (.getfield 81, 3) := of_u2 ok_getfield 0 81 (by decide +kernel)
theorem dX8_watchSixty_16 : decode cX8_watchSixty 16 = .ok (.invokevirtual 84, 3) := of_u2 ok_invokevirtual 0 84 (by decide +kernel)
theorem dX8_watchSixty_19 : decode cX8_watchSixty 19 = .ok (.iconst 0, 1) := of_0 ok_iconst_0 (by decide +kernel)
theorem dX8_watchSixty_20 : decode cX8_watchSixty 20 = .ok (.istore_n 2, 1) := of_0 ok_istore_n_2 (by decide +kernel)
theorem dX8_watchSixty_21 : decode cX8_watchSixty 21 = .ok (.iload_n 2, 1) := of_0 ok_iload_n_2 (by decide +kernel)
theorem dX8_watchSixty_22 : decode cX8_watchSixty 22 = .ok (.bipush 60, 2) := of_s1 ok_bipush 60 (by decide +kernel)
theorem dX8_watchSixty_24 : decode cX8_watchSixty 24 = .ok (.if_icmp .gt 42, 3) := of_s2 ok_if_icmp_gt 0 42 (by decide +kernel)
theorem dX8_watchSixty_27 : decode cX8_watchSixty 27 = .ok (.aload_n 0, 1) := of_0 ok_aload_n_0 (by decide +kernel)
theorem dX8_watchSixty_28 : decode cX8_watchSixty 28 = .ok (.getfield 58, 3) := of_u2 ok_getfield 0 58 (by decide +kernel)
theorem dX8_watchSixty_31 : decode cX8_watchSixty 31 = .ok (.iload_n 2, 1) := of_0 ok_iload_n_2 (by decide +kernel)
theorem dX8_watchSixty_32 : decode cX8_watchSixty 32 = .ok (.aload_n 0, 1) := of_0 ok_aload_n_0 (by decide +kernel)
theorem dX8_watchSixty_33 : decode cX8_watchSixty 33 = .ok (.getfield 44, 3) := of_u2 ok_getfield 0 44 (by decide +kernel)
theorem dX8_watchSixty_36 : decode cX8_watchSixty 36 = .ok (.getfield 200, 3) := of_u2 ok_getfield 0 200 (by decide +kernel)
theorem dX8_watchSixty_39 : decode cX8_watchSixty 39 = .ok (.aload_n 0, 1) := of_0 ok_aload_n_0 (by decide +kernel)
theorem dX8_watchSixty_40 : decode cX8_watchSixty 40 = .ok (.getfield 44, 3) := of_u2 ok_getfield 0 44 (by decide +kernel)
theorem dX8_watchSixty_43 : decode cX8_watchSixty 43 = .ok (.getfield 179, 3) := of_u2 ok_getfield 0 179 (by decide +kernel)
theorem dX8_watchSixty_46 : decode cX8_watchSixty 46 = .ok (.bipush 8, 2) := of_s1 ok_bipush 8 (by decide +kernel)
theorem dX8_watchSixty_48 : decode cX8_watchSixty 48 = .ok (.ishl, 1) := of_0 ok_ishl (by decide +kernel)
theorem dX8_watchSixty_49 : decode cX8_watchSixty 49 = .ok (.ior, 1) := of_0 ok_ior (by decide +kernel)
theorem dX8_watchSixty_50 : decode cX8_watchSixty 50 = .ok (.iastore, 1) := of_0 ok_iastore (by decide +kernel)
theorem dX8_watchSixty_51 : decode cX8_watchSixty 51 = .ok (.aload_n 0, 1) := of_0 ok_aload_n_0 (by decide +kernel)
theorem dX8_watchSixty_52 : decode cX8_watchSixty 52 = .ok (.getfield 44, 3) := of_u2 ok_getfield 0 44 (by decide +kernel)
theorem dX8_watchSixty_55 : decode cX8_watchSixty 55 = .ok (.aload_n 1, 1) := of_0 ok_aload_n_1 (by decide +kernel)
theorem dX8_watchSixty_56 : decode cX8_watchSixty 56 = .ok (.invokevirtual 164, 3) := of_u2 ok_invokevirtual 0 164 (by decide +kernel)
theorem dX8_watchSixty_59 : decode cX8_watchSixty 59 = .ok (.pop, 1) := of_0 ok_pop (by decide +kernel)
theorem dX8_watchSixty_60 : decode cX8_watchSixty 60 = .ok (.iinc 2 1, 3) := of_ii ok_iinc 1 (by decide +kernel)
theorem dX8_watchSixty_63 : decode cX8_watchSixty 63 = .ok (.goto (-42), 3) := of_s2 ok_goto 255 214 (by decide +kernel)
theorem dX8_watchSixty_66 : decode cX8_watchSixty 66 = .ok (.return_, 1) := of_0 ok_return_ (by decide +kernel)
theorem dX8_way_0 : decode cX8_way 0 = .ok (.aload_n 0, 1) := of_0 ok_aload_n_0 (by decide +kernel)
theorem dX8_way_1 : decode cX8_way 1 = .ok (.getfield 29, 3) := of_u2 ok_getfield 0 29 (by decide +kernel)
theorem dX8_way_4 : decode cX8_way 4 = .ok (.getfield 81, 3) := of_u2 ok_getfield 0 81 (by decide +kernel)
theorem dX8_way_7 : decode cX8_way 7 = .ok (.astore_n 2, 1) := of_0 ok_astore_n_2 (by decide +kernel)
theorem dX8_way_8 : decode cX8_way 8 = .ok (.aload_n 2, 1) := of_0 ok_aload_n_2 (by decide +kernel)
theorem dX8_way_9 : decode cX8_way 9 = .ok (.getfield 150, 3) := of_u2 ok_getfield 0 150 (by decide +kernel)
theorem dX8_way_12 : decode cX8_way 12 = .ok (.ifCond .eq 13, 3) := of_s2 ok_ifCond_eq 0 13 (by decide +kernel)
theorem dX8_way_15 : decode cX8_way 15 = .ok (.iload_n 1, 1) := of_0 ok_iload_n_1 (by decide +kernel)
theorem dX8_way_16 : decode cX8_way 16 = .ok (.ifCond .lt 9, 3) := of_s2 ok_ifCond_lt 0 9 (by decide +kernel)
theorem dX8_way_19 : decode cX8_way 19 = .ok (.iload_n 1, 1) := of_0 ok_iload_n_1 (by decide +kernel)
theorem dX8_way_20 : decode cX8_way 20 = .ok (.bipush 8, 2) := of_s1 ok_bipush 8 (by decide +kernel)
theorem dX8_way_22 : decode cX8_way 22 = .ok (.if_icmp .lt 6, 3) := of_s2 ok_if_icmp_lt 0 6 (by decide +kernel)
theorem dX8_way_25 : decode cX8_way 25 = .ok (.bipush (-3), 2) := of_s1 ok_bipush 253 (by decide +kernel)
theorem dX8_way_27 : decode cX8_way 27 = .ok (.ireturn, 1) := of_0 ok_ireturn (by decide +kernel)
theorem dX8_way_28 : decode cX8_way 28 = .ok (.iload_n 1, 1) := of_0 ok_iload_n_1 (by decide +kernel)
theorem dX8_way_29 : decode cX8_way 29 = .ok (.aload_n 2, 1) := of_0 ok_aload_n_2 (by decide +kernel)
theorem dX8_way_30 : decode cX8_way 30 = .ok (.getfield 200, 3) := of_u2 ok_getfield 0 200 (by decide +kernel)
theorem dX8_way_33 : decode cX8_way 33 = .ok (.invokestatic 182, 3) := of_u2 ok_invokestatic 0 182 (by decide +kernel)
theorem dX8_way_36 : decode cX8_way 36 = .ok (.if_icmp .lt 5, 3) := of_s2 ok_if_icmp_lt 0 5 (by decide +kernel)
theorem dX8_way_39 : decode cX8_way 39 = .ok (.iconst (-1), 1) := of_0 ok_iconst_m1 (by decide +kernel)
theorem dX8_way_40 : decode cX8_way 40 = .ok (.ireturn, 1) := of_0 ok_ireturn (by decide +kernel)
theorem dX8_way_41 : decode cX8_way 41 = .ok (.aload_n 0, 1) := of_0 ok_aload_n_0 (by decide +kernel)
theorem dX8_way_42 : decode cX8_way 42 = .ok (.invokevirtual 212, 3) := of_u2 ok_invokevirtual 0 212 (by decide +kernel)
theorem dX8_way_45 : decode cX8_way 45 = .ok (.aload_n 2, 1) := of_0 ok_aload_n_2 (by decide +kernel)
theorem dX8_way_46 : decode cX8_way 46 = .ok (.getfield 200, 3) := of_u2 ok_getfield 0 200 (by decide +kernel)
theorem dX8_way_49 : decode cX8_way 49 = .ok (.istore_n 3, 1) := of_0 ok_istore_n_3 (by decide +kernel)
theorem dX8_way_50 : decode cX8_way 50 = .ok (.aload_n 0, 1) := of_0 ok_aload_n_0 (by decide +kernel)
theorem dX8_way_51 : decode cX8_way 51 = .ok (.iload_n 3, 1) := of_0 ok_iload_n_3 (by decide +kernel)
theorem dX8_way_52 : decode cX8_way 52 = .ok (.invokevirtual 215, 3) := of_u2 ok_invokevirtual 0 215 (by decide +kernel)
theorem dX8_way_55 : decode cX8_way 55 = .ok (.istore 4, 2) := of_u1 ok_istore (by decide +kernel)
theorem dX8_way_57 : decode cX8_way 57 = .ok (.iconst 0, 1) := of_0 ok_iconst_0 (by decide +kernel)
theorem dX8_way_58 : decode cX8_way 58 = .ok (.istore 5, 2) := of_u1 ok_istore (by decide +kernel)
theorem dX8_way_60 : decode cX8_way 60 = .ok (.iload 5, 2) := of_u1 ok_iload (by decide +kernel)
theorem dX8_way_62 : decode cX8_way 62 = .ok (.iload_n 1, 1) := of_0 ok_iload_n_1 (by decide +kernel)
theorem dX8_way_63 : decode cX8_way 63 = .ok (.if_icmp .ge 31, 3) := of_s2 ok_if_icmp_ge 0 31 (by decide +kernel)
theorem dX8_way_66 : decode cX8_way 66 = .ok (.iload 4, 2) := of_u1 ok_iload (by decide +kernel)
theorem dX8_way_68 : decode cX8_way 68 = .ok (.iconst (-1), 1) := of_0 ok_iconst_m1 (by decide +kernel)
theorem dX8_way_69 : decode cX8_way 69 = .ok (.if_icmp .eq 25, 3) := of_s2 ok_if_icmp_eq 0 25 (by decide +kernel)
theorem dX8_way_72 : decode cX8_way 72 = .ok (.iload_n 3, 1) := of_0 ok_iload_n_3 (by decide +kernel)
theorem dX8_way_73 : decode cX8_way 73 = .ok (.iconst 1, 1) := of_0 ok_iconst_1 (by decide +kernel)
theorem dX8_way_74 : decode cX8_way 74 = .ok (.iload 4, 2) := of_u1 ok_iload (by decide +kernel)
theorem dX8_way_76 : decode cX8_way 76 = .ok (.ishl, 1) := of_0 ok_ishl (by decide +kernel)
theorem dX8_way_77 : decode cX8_way 77 = .ok (.iconst (-1), 1) := of_0 ok_iconst_m1 (by decide +kernel)
theorem dX8_way_78 : decode cX8_way 78 = .ok (.ixor, 1) := of_0 ok_ixor (by decide +kernel)
theorem dX8_way_79 : decode cX8_way 79 = .ok (.iand, 1) := of_0 ok_iand (by decide +kernel)
theorem dX8_way_80 : decode cX8_way 80 = .ok (.istore_n 3, 1) := of_0 ok_istore_n_3 (by decide +kernel)
theorem dX8_way_81 : decode cX8_way 81 = .ok (.aload_n 0, 1) := of_0 ok_aload_n_0 (by decide +kernel)
theorem dX8_way_82 : decode cX8_way 82 = .ok (.iload_n 3, 1) := of_0 ok_iload_n_3 (by decide +kernel)
theorem dX8_way_83 : decode cX8_way 83 = .ok (.invokevirtual 215, 3) := of_u2 ok_invokevirtual 0 215 (by decide +kernel)
theorem dX8_way_86 : decode cX8_way 86 = .ok (.istore 4, 2) := of_u1 ok_istore (by decide +kernel)
theorem dX8_way_88 : decode cX8_way 88 = .ok (.iinc 5 1, 3) := of_ii ok_iinc 1 (by decide +kernel)
theorem dX8_way_91 : decode cX8_way 91 = .ok (.goto (-31), 3) := of_s2 ok_goto 255 225 (by decide +kernel)
theorem dX8_way_94 : decode cX8_way 94 = .ok (.iload 4, 2) := of_u1 ok_iload (by decide +kernel)
theorem dX8_way_96 : decode cX8_way 96 = .ok (.iconst (-1), 1) := of_0 ok_iconst_m1 (by decide +kernel)
theorem dX8_way_97 : decode cX8_way 97 = .ok (.if_icmp .ne 8, 3) := of_s2 ok_if_icmp_ne 0 8 (by decide +kernel)
theorem dX8_way_100 : decode cX8_way 100 = .ok (.bipush (-2), 2) := of_s1 ok_bipush 254 (by decide +kernel)
theorem dX8_way_102 : decode cX8_way 102 = .ok (.goto 5, 3) := of_s2 ok_goto 0 5 (by decide +kernel)
theorem dX8_way_105 : decode cX8_way 105 = .ok (.iload 4, 2) := of_u1 ok_iload (by decide +kernel)
theorem dX8_way_107 : decode cX8_way 107 = .ok (.ireturn, 1) := of_0 ok_ireturn (by decide +kernel)
set_option maxRecDepth 20000 in
theorem bq_wsX8_ahead : subq wsX8_ahead [wsX8_ahead_r1, wsX8_ahead_r2, wsX8_ahead_r3, wsX8_ahead_r4, wsX8_ahead_r5, wsX8_ahead_r6] := ⟨(fun _ h => (List.mem_cons_of_mem _ (List.mem_append_left _ (List.mem_append_left _ (List.mem_append_left _ (List.mem_append_left _ (List.mem_append_left _ h))))))), (fun _ h => (List.mem_cons_of_mem _ (List.mem_append_left _ (List.mem_append_left _ (List.mem_append_left _ (List.mem_append_left _ (List.mem_append_right _ (List.mem_append_left _ h)))))))), (fun _ h => (List.mem_cons_of_mem _ (List.mem_append_left _ (List.mem_append_left _ (List.mem_append_left _ (List.mem_append_left _ (List.mem_append_right _ (List.mem_append_right _ (List.mem_append_left _ h))))))))), (fun _ h => (List.mem_cons_of_mem _ (List.mem_append_left _ (List.mem_append_left _ (List.mem_append_left _ (List.mem_append_left _ (List.mem_append_right _ (List.mem_append_right _ (List.mem_append_right _ (List.mem_append_left _ h)))))))))), (fun _ h => (List.mem_cons_of_mem _ (List.mem_append_left _ (List.mem_append_left _ (List.mem_append_left _ (List.mem_append_left _ (List.mem_append_right _ (List.mem_append_right _ (List.mem_append_right _ (List.mem_append_right _ (List.mem_append_left _ h))))))))))), (fun _ h => (List.mem_cons_of_mem _ (List.mem_append_left _ (List.mem_append_left _ (List.mem_append_left _ (List.mem_append_left _ (List.mem_append_right _ (List.mem_append_right _ (List.mem_append_right _ (List.mem_append_right _ (List.mem_append_right _ h))))))))))), trivial⟩
set_option maxRecDepth 20000 in
theorem ggX8_ahead_J6_bitCount_0f7a4 : GoodIn wsX8_ahead wsJ6_bitCount_0f7a4 := (goodIn_cons (good_rb bq_wsX8_ahead ([(3, 23)] : List (Nat × Nat)) rfl (by decide +kernel)) (good_rb bq_wsX8_ahead ([(4, 0), (4, 1), (4, 2)] : List (Nat × Nat)) rfl (by decide +kernel)))
set_option maxRecDepth 20000 in
theorem gX8_ahead_J6_bitCount_0f7a4 : GoodIn wsX8_ahead (va_wsS RX8 182 yJ6_bitCount_0f7a4 wsJ6_bitCount_0f7a4) := goodIn_app (good_rp ([119, 94, 95] : List Nat) rfl (by decide +kernel)) ggX8_ahead_J6_bitCount_0f7a4
set_option maxRecDepth 20000 in
theorem ggX8_ahead_X3_copyFrom : GoodIn wsX8_ahead wsX3_copyFrom := (goodIn_cons (good_rb bq_wsX8_ahead ([(0, 14)] : List (Nat × Nat)) rfl (by decide +kernel)) (goodIn_app (good_rb bq_wsX8_ahead ([(0, 15), (0, 16), (0, 17), (0, 10), (0, 18), (0, 19), (0, 20), (0, 21), (0, 22), (0, 23), (1, 0), (1, 1), (1, 2), (1, 3), (1, 4), (1, 5), (1, 6), (1, 7), (1, 8), (1, 9)] : List (Nat × Nat)) rfl (by decide +kernel)) (goodIn_sb (fun _ h => (List.mem_cons_of_mem _ (List.mem_append_left _ (List.mem_append_right _ h)))) (by decide +kernel))))
set_option maxRecDepth 20000 in
theorem gX8_ahead_X3_copyFrom : GoodIn wsX8_ahead (wsV RX8 84 RX3 yX3_copyFrom wsX3_copyFrom) := goodIn_app (good_rp ([12, 13, 14, 9] : List Nat) rfl (by decide +kernel)) ggX8_ahead_X3_copyFrom
set_option maxRecDepth 20000 in
theorem ggX8_ahead_X3_givesUnder : GoodIn wsX8_ahead wsX3_givesUnder := (goodIn_cons (good_rb bq_wsX8_ahead ([(3, 19)] : List (Nat × Nat)) rfl (by decide +kernel)) (goodIn_app (good_rb bq_wsX8_ahead ([(0, 10), (1, 6), (1, 0), (1, 1), (1, 4), (1, 3), (1, 2)] : List (Nat × Nat)) rfl (by decide +kernel)) (goodIn_sb (fun _ h => (List.mem_cons_of_mem _ (List.mem_append_left _ (List.mem_append_right _ h)))) (by decide +kernel))))
set_option maxRecDepth 20000 in
theorem gX8_ahead_X3_givesUnder : GoodIn wsX8_ahead (wsV RX8 135 RX3 yX3_givesUnder wsX3_givesUnder) := goodIn_app (good_rp ([124, 90, 91, 9] : List Nat) rfl (by decide +kernel)) ggX8_ahead_X3_givesUnder
set_option maxRecDepth 20000 in
theorem ggX8_ahead_X3_hasSitter : GoodIn wsX8_ahead wsX3_hasSitter := (goodIn_cons (good_rb bq_wsX8_ahead ([(0, 9)] : List (Nat × Nat)) rfl (by decide +kernel)) (goodIn_app (good_rb bq_wsX8_ahead ([(0, 10)] : List (Nat × Nat)) rfl (by decide +kernel)) (goodIn_sb (fun _ h => (List.mem_cons_of_mem _ (List.mem_append_left _ (List.mem_append_right _ h)))) (by decide +kernel))))
set_option maxRecDepth 20000 in
theorem gX8_ahead_X3_hasSitter : GoodIn wsX8_ahead (wsV RX8 138 RX3 yX3_hasSitter wsX3_hasSitter) := goodIn_app (good_rp ([6, 7, 8, 9] : List Nat) rfl (by decide +kernel)) ggX8_ahead_X3_hasSitter
set_option maxRecDepth 20000 in
theorem ggX8_ahead_X3_passMinutes : GoodIn wsX8_ahead wsX3_passMinutes := (goodIn_cons (good_rb bq_wsX8_ahead ([(2, 1)] : List (Nat × Nat)) rfl (by decide +kernel)) (goodIn_app (goodIn_app (goodIn_app (good_rb bq_wsX8_ahead ([(2, 2), (2, 3), (2, 4), (0, 8), (2, 5), (0, 10), (1, 9), (2, 6), (1, 8), (2, 7), (2, 8), (2, 9), (2, 10), (1, 0), (1, 1), (1, 6), (1, 4), (1, 2), (1, 5), (2, 11), (2, 12), (2, 13), (2, 14), (1, 7)] : List (Nat × Nat)) rfl (by decide +kernel)) (goodIn_app (good_rb bq_wsX8_ahead ([(2, 15), (2, 16), (2, 17), (2, 18), (2, 19), (2, 20), (2, 21), (2, 22), (2, 23), (3, 0), (3, 1), (3, 2), (3, 3), (3, 4), (3, 5), (3, 6), (3, 7), (3, 8), (3, 9), (3, 10), (3, 11), (3, 12), (3, 13), (3, 14)] : List (Nat × Nat)) rfl (by decide +kernel)) (goodIn_app (good_rb bq_wsX8_ahead ([(0, 23), (1, 3), (3, 15), (0, 6), (0, 7), (0, 9), (3, 16), (3, 17), (3, 18), (3, 19), (3, 20), (3, 21), (3, 22), (3, 23), (4, 0), (4, 1), (4, 2), (4, 3), (4, 4), (4, 5), (4, 6), (4, 7), (4, 8), (4, 9)] : List (Nat × Nat)) rfl (by decide +kernel)) (good_rb bq_wsX8_ahead ([(4, 10), (4, 11), (4, 12), (4, 13), (4, 14), (4, 15), (4, 16), (4, 17), (4, 18), (4, 19), (4, 20), (4, 21)] : List (Nat × Nat)) rfl (by decide +kernel))))) (goodIn_sb (fun _ h => (List.mem_cons_of_mem _ (List.mem_append_left _ (List.mem_append_right _ h)))) (by decide +kernel))) (goodIn_sb (fun _ h => (List.mem_cons_of_mem _ (List.mem_append_right _ h))) (by decide +kernel))))
set_option maxRecDepth 20000 in
theorem gX8_ahead_X3_passMinutes : GoodIn wsX8_ahead (wsV RX8 193 RX3 yX3_passMinutes wsX3_passMinutes) := goodIn_app (good_rp ([47, 48, 49, 9] : List Nat) rfl (by decide +kernel)) ggX8_ahead_X3_passMinutes
set_option maxRecDepth 20000 in
theorem ggX8_ahead_X3_stateOf : GoodIn wsX8_ahead wsX3_stateOf := (goodIn_cons (good_rb bq_wsX8_ahead ([(5, 2)] : List (Nat × Nat)) rfl (by decide +kernel)) (goodIn_app (good_rb bq_wsX8_ahead ([(1, 7), (1, 6), (3, 15), (0, 6), (0, 7), (0, 8), (0, 9), (0, 10)] : List (Nat × Nat)) rfl (by decide +kernel)) (goodIn_sb (fun _ h => (List.mem_cons_of_mem _ (List.mem_append_left _ (List.mem_append_right _ h)))) (by decide +kernel))))
set_option maxRecDepth 20000 in
theorem gX8_ahead_X3_stateOf : GoodIn wsX8_ahead (wsV RX8 147 RX3 yX3_stateOf wsX3_stateOf) := goodIn_app (good_rp ([120, 121, 122, 9] : List Nat) rfl (by decide +kernel)) ggX8_ahead_X3_stateOf
set_option maxRecDepth 20000 in
theorem ggX8_ahead_X8_ruleInForce : GoodIn wsX8_ahead wsX8_ruleInForce := (goodIn_cons (good_rb bq_wsX8_ahead ([(1, 14)] : List (Nat × Nat)) rfl (by decide +kernel)) (goodIn_app (goodIn_app (good_rb bq_wsX8_ahead ([(0, 0), (1, 15), (1, 16), (1, 17), (1, 18), (1, 13), (1, 19), (1, 20), (1, 21)] : List (Nat × Nat)) rfl (by decide +kernel)) (goodIn_sb (fun _ h => (List.mem_cons_of_mem _ (List.mem_append_left _ (List.mem_append_left _ (List.mem_append_left _ (List.mem_append_right _ h)))))) (by decide +kernel))) (goodIn_sb (fun _ h => (List.mem_cons_of_mem _ (List.mem_append_left _ (List.mem_append_left _ (List.mem_append_right _ h))))) (by decide +kernel))))
set_option maxRecDepth 20000 in
theorem gX8_ahead_X8_ruleInForce : GoodIn wsX8_ahead (wsV RX8 160 RX8 yX8_ruleInForce wsX8_ruleInForce) := goodIn_app (good_rp ([35, 36, 37, 38] : List Nat) rfl (by decide +kernel)) ggX8_ahead_X8_ruleInForce
set_option maxRecDepth 20000 in
theorem bq_wsX8_chair : subq wsX8_chair [wsX8_chair_r1, wsX8_chair_r2] := ⟨(fun _ h => (List.mem_cons_of_mem _ (List.mem_append_left _ (List.mem_append_left _ (List.mem_append_left _ (List.mem_append_left _ h)))))), (fun _ h => (List.mem_cons_of_mem _ (List.mem_append_left _ (List.mem_append_left _ (List.mem_append_left _ (List.mem_append_right _ h)))))), trivial⟩
set_option maxRecDepth 20000 in
theorem ggX8_chair_X3_givesUnder : GoodIn wsX8_chair wsX3_givesUnder := (goodIn_cons (good_rb bq_wsX8_chair ([(0, 19)] : List (Nat × Nat)) rfl (by decide +kernel)) (goodIn_app (good_rb bq_wsX8_chair ([(0, 14), (0, 20), (0, 21), (0, 15), (0, 22), (0, 23), (1, 0)] : List (Nat × Nat)) rfl (by decide +kernel)) (goodIn_sb (fun _ h => (List.mem_cons_of_mem _ (List.mem_append_right _ h))) (by decide +kernel))))
set_option maxRecDepth 20000 in
theorem gX8_chair_X3_givesUnder : GoodIn wsX8_chair (wsV RX8 135 RX3 yX3_givesUnder wsX3_givesUnder) := goodIn_app (good_rp ([17, 18, 19, 8] : List Nat) rfl (by decide +kernel)) ggX8_chair_X3_givesUnder
set_option maxRecDepth 20000 in
theorem ggX8_chair_X3_hasChair : GoodIn wsX8_chair wsX3_hasChair := (goodIn_cons (good_rb bq_wsX8_chair ([(0, 8)] : List (Nat × Nat)) rfl (by decide +kernel)) (goodIn_app (good_rb bq_wsX8_chair ([(0, 9)] : List (Nat × Nat)) rfl (by decide +kernel)) (goodIn_sb (fun _ h => (List.mem_cons_of_mem _ (List.mem_append_right _ h))) (by decide +kernel))))
set_option maxRecDepth 20000 in
theorem gX8_chair_X3_hasChair : GoodIn wsX8_chair (wsV RX8 122 RX3 yX3_hasChair wsX3_hasChair) := goodIn_app (good_rp ([5, 6, 7, 8] : List Nat) rfl (by decide +kernel)) ggX8_chair_X3_hasChair
set_option maxRecDepth 20000 in
theorem ggX8_chair_X3_sitterOn : GoodIn wsX8_chair wsX3_sitterOn := (goodIn_cons (good_rb bq_wsX8_chair ([(0, 13)] : List (Nat × Nat)) rfl (by decide +kernel)) (goodIn_app (good_rb bq_wsX8_chair ([(0, 14), (0, 15)] : List (Nat × Nat)) rfl (by decide +kernel)) (goodIn_sb (fun _ h => (List.mem_cons_of_mem _ (List.mem_append_right _ h))) (by decide +kernel))))
set_option maxRecDepth 20000 in
theorem gX8_chair_X3_sitterOn : GoodIn wsX8_chair (wsV RX8 131 RX3 yX3_sitterOn wsX3_sitterOn) := goodIn_app (good_rp ([11, 12, 13, 8] : List Nat) rfl (by decide +kernel)) ggX8_chair_X3_sitterOn
set_option maxRecDepth 20000 in
theorem bq_wsX8_ease : subq wsX8_ease [wsX8_ease_r1, wsX8_ease_r2, wsX8_ease_r3] := ⟨(fun _ h => (List.mem_cons_of_mem _ (List.mem_append_left _ (List.mem_append_left _ (List.mem_append_left _ (List.mem_append_left _ h)))))), (fun _ h => (List.mem_cons_of_mem _ (List.mem_append_left _ (List.mem_append_left _ (List.mem_append_left _ (List.mem_append_right _ (List.mem_append_left _ h))))))), (fun _ h => (List.mem_cons_of_mem _ (List.mem_append_left _ (List.mem_append_left _ (List.mem_append_left _ (List.mem_append_right _ (List.mem_append_right _ h))))))), trivial⟩
set_option maxRecDepth 20000 in
theorem ggX8_ease_J6_bitCount_0f7a4 : GoodIn wsX8_ease wsJ6_bitCount_0f7a4 := (goodIn_cons (good_rb bq_wsX8_ease ([(1, 13)] : List (Nat × Nat)) rfl (by decide +kernel)) (good_rb bq_wsX8_ease ([(1, 14), (1, 15), (1, 16)] : List (Nat × Nat)) rfl (by decide +kernel)))
set_option maxRecDepth 20000 in
theorem gX8_ease_J6_bitCount_0f7a4 : GoodIn wsX8_ease (va_wsS RX8 182 yJ6_bitCount_0f7a4 wsJ6_bitCount_0f7a4) := goodIn_app (good_rp ([35, 36, 37] : List Nat) rfl (by decide +kernel)) ggX8_ease_J6_bitCount_0f7a4
set_option maxRecDepth 20000 in
theorem ggX8_ease_X3_bears : GoodIn wsX8_ease wsX3_bears := (goodIn_cons (good_rb bq_wsX8_ease ([(1, 20)] : List (Nat × Nat)) rfl (by decide +kernel)) (goodIn_app (goodIn_app (good_rb bq_wsX8_ease ([(0, 11), (1, 21), (1, 22), (1, 23), (0, 8), (2, 0), (1, 6), (1, 7), (0, 10), (1, 2), (1, 3), (1, 4), (2, 1), (2, 2), (2, 3), (2, 4), (2, 5), (2, 6), (2, 7), (2, 8), (2, 9), (2, 10), (2, 11), (2, 12)] : List (Nat × Nat)) rfl (by decide +kernel)) (good_rb bq_wsX8_ease ([(1, 1), (2, 13), (2, 14), (2, 15), (2, 16), (1, 5)] : List (Nat × Nat)) rfl (by decide +kernel))) (goodIn_sb (fun _ h => (List.mem_cons_of_mem _ (List.mem_append_right _ h))) (by decide +kernel))))
set_option maxRecDepth 20000 in
theorem gX8_ease_X3_bears : GoodIn wsX8_ease (wsV RX8 209 RX3 yX3_bears wsX3_bears) := goodIn_app (good_rp ([42, 43, 44, 9] : List Nat) rfl (by decide +kernel)) ggX8_ease_X3_bears
set_option maxRecDepth 20000 in
theorem ggX8_ease_X3_copyFrom : GoodIn wsX8_ease wsX3_copyFrom := (goodIn_cons (good_rb bq_wsX8_ease ([(0, 16)] : List (Nat × Nat)) rfl (by decide +kernel)) (goodIn_app (good_rb bq_wsX8_ease ([(0, 17), (0, 18), (0, 19), (0, 10), (0, 20), (0, 21), (0, 22), (0, 23), (1, 0), (1, 1), (1, 2), (1, 3), (1, 4), (1, 5), (1, 6), (1, 7), (0, 11), (0, 12), (1, 8), (1, 9)] : List (Nat × Nat)) rfl (by decide +kernel)) (goodIn_sb (fun _ h => (List.mem_cons_of_mem _ (List.mem_append_right _ h))) (by decide +kernel))))
set_option maxRecDepth 20000 in
theorem gX8_ease_X3_copyFrom : GoodIn wsX8_ease (wsV RX8 84 RX3 yX3_copyFrom wsX3_copyFrom) := goodIn_app (good_rp ([14, 15, 16, 9] : List Nat) rfl (by decide +kernel)) ggX8_ease_X3_copyFrom
set_option maxRecDepth 20000 in
theorem ggX8_ease_X3_standing : GoodIn wsX8_ease wsX3_standing := (goodIn_cons (good_rb bq_wsX8_ease ([(0, 9)] : List (Nat × Nat)) rfl (by decide +kernel)) (goodIn_app (good_rb bq_wsX8_ease ([(0, 10), (0, 11), (0, 12)] : List (Nat × Nat)) rfl (by decide +kernel)) (goodIn_sb (fun _ h => (List.mem_cons_of_mem _ (List.mem_append_right _ h))) (by decide +kernel))))
set_option maxRecDepth 20000 in
theorem gX8_ease_X3_standing : GoodIn wsX8_ease (wsV RX8 206 RX3 yX3_standing wsX3_standing) := goodIn_app (good_rp ([6, 7, 8, 9] : List Nat) rfl (by decide +kernel)) ggX8_ease_X3_standing
set_option maxRecDepth 20000 in
theorem bq_wsX8_falls : subq wsX8_falls [wsX8_falls_r1, wsX8_falls_r2, wsX8_falls_r3, wsX8_falls_r4, wsX8_falls_r5] := ⟨(fun _ h => (List.mem_cons_of_mem _ (List.mem_append_left _ (List.mem_append_left _ (List.mem_append_left _ (List.mem_append_left _ (List.mem_append_left _ h))))))), (fun _ h => (List.mem_cons_of_mem _ (List.mem_append_left _ (List.mem_append_left _ (List.mem_append_left _ (List.mem_append_left _ (List.mem_append_right _ (List.mem_append_left _ h)))))))), (fun _ h => (List.mem_cons_of_mem _ (List.mem_append_left _ (List.mem_append_left _ (List.mem_append_left _ (List.mem_append_left _ (List.mem_append_right _ (List.mem_append_right _ (List.mem_append_left _ h))))))))), (fun _ h => (List.mem_cons_of_mem _ (List.mem_append_left _ (List.mem_append_left _ (List.mem_append_left _ (List.mem_append_left _ (List.mem_append_right _ (List.mem_append_right _ (List.mem_append_right _ (List.mem_append_left _ h)))))))))), (fun _ h => (List.mem_cons_of_mem _ (List.mem_append_left _ (List.mem_append_left _ (List.mem_append_left _ (List.mem_append_left _ (List.mem_append_right _ (List.mem_append_right _ (List.mem_append_right _ (List.mem_append_right _ h)))))))))), trivial⟩
set_option maxRecDepth 20000 in
theorem ggX8_falls_X3_copyFrom : GoodIn wsX8_falls wsX3_copyFrom := (goodIn_cons (good_rb bq_wsX8_falls ([(0, 21)] : List (Nat × Nat)) rfl (by decide +kernel)) (goodIn_app (good_rb bq_wsX8_falls ([(0, 22), (0, 23), (1, 0), (1, 1), (1, 2), (1, 3), (1, 4), (1, 5), (1, 6), (1, 7), (1, 8), (1, 9), (1, 10), (1, 11), (1, 12), (1, 13), (1, 14), (1, 15), (1, 16), (1, 17)] : List (Nat × Nat)) rfl (by decide +kernel)) (goodIn_sb (fun _ h => (List.mem_cons_of_mem _ (List.mem_append_left _ (List.mem_append_right _ h)))) (by decide +kernel))))
set_option maxRecDepth 20000 in
theorem gX8_falls_X3_copyFrom : GoodIn wsX8_falls (wsV RX8 84 RX3 yX3_copyFrom wsX3_copyFrom) := goodIn_app (good_rp ([18, 19, 20, 21] : List Nat) rfl (by decide +kernel)) ggX8_falls_X3_copyFrom
set_option maxRecDepth 20000 in
theorem ggX8_falls_X3_passMinute : GoodIn wsX8_falls wsX3_passMinute := (goodIn_cons (good_rb bq_wsX8_falls ([(1, 21)] : List (Nat × Nat)) rfl (by decide +kernel)) (goodIn_app (goodIn_app (goodIn_app (good_rb bq_wsX8_falls ([(1, 1), (1, 17), (1, 22), (1, 16), (1, 23), (2, 0), (2, 1), (0, 20), (2, 2), (1, 8), (1, 9), (1, 14), (1, 12), (1, 10), (1, 13), (2, 3), (2, 4), (2, 5), (2, 6), (1, 15), (2, 7), (2, 8), (2, 9), (2, 10)] : List (Nat × Nat)) rfl (by decide +kernel)) (goodIn_app (good_rb bq_wsX8_falls ([(2, 11), (2, 12), (2, 13), (2, 14), (2, 15), (2, 16), (2, 17), (2, 18), (2, 19), (2, 20), (2, 21), (2, 22), (2, 23), (3, 0), (3, 1), (3, 2), (3, 3), (3, 4), (3, 5), (3, 6), (1, 7), (1, 11), (3, 7), (3, 8)] : List (Nat × Nat)) rfl (by decide +kernel)) (goodIn_app (good_rb bq_wsX8_falls ([(3, 9), (3, 10), (3, 11), (3, 12), (3, 13), (3, 14), (3, 15), (3, 16), (3, 17), (3, 18), (3, 19), (3, 20), (3, 21), (3, 22), (3, 23), (4, 0), (4, 1), (4, 2), (4, 3), (4, 4), (4, 5), (4, 6), (4, 7), (4, 8)] : List (Nat × Nat)) rfl (by decide +kernel)) (good_rb bq_wsX8_falls ([(4, 9), (4, 10), (4, 11), (4, 12), (4, 13), (4, 14), (4, 15), (4, 16)] : List (Nat × Nat)) rfl (by decide +kernel))))) (goodIn_sb (fun _ h => (List.mem_cons_of_mem _ (List.mem_append_left _ (List.mem_append_right _ h)))) (by decide +kernel))) (goodIn_sb (fun _ h => (List.mem_cons_of_mem _ (List.mem_append_right _ h))) (by decide +kernel))))
set_option maxRecDepth 20000 in
theorem gX8_falls_X3_passMinute : GoodIn wsX8_falls (wsV RX8 164 RX3 yX3_passMinute wsX3_passMinute) := goodIn_app (good_rp ([43, 44, 45, 21] : List Nat) rfl (by decide +kernel)) ggX8_falls_X3_passMinute
set_option maxRecDepth 20000 in
theorem ggX8_falls_X8_ruleInForce : GoodIn wsX8_falls wsX8_ruleInForce := (goodIn_cons (good_rb bq_wsX8_falls ([(0, 9)] : List (Nat × Nat)) rfl (by decide +kernel)) (goodIn_app (goodIn_app (good_rb bq_wsX8_falls ([(0, 0), (0, 10), (0, 11), (0, 12), (0, 13), (0, 8), (0, 14), (0, 15), (0, 16)] : List (Nat × Nat)) rfl (by decide +kernel)) (goodIn_sb (fun _ h => (List.mem_cons_of_mem _ (List.mem_append_left _ (List.mem_append_left _ (List.mem_append_left _ (List.mem_append_right _ h)))))) (by decide +kernel))) (goodIn_sb (fun _ h => (List.mem_cons_of_mem _ (List.mem_append_left _ (List.mem_append_left _ (List.mem_append_right _ h))))) (by decide +kernel))))
set_option maxRecDepth 20000 in
theorem gX8_falls_X8_ruleInForce : GoodIn wsX8_falls (wsV RX8 160 RX8 yX8_ruleInForce wsX8_ruleInForce) := goodIn_app (good_rp ([6, 7, 8, 9] : List Nat) rfl (by decide +kernel)) ggX8_falls_X8_ruleInForce
set_option maxRecDepth 20000 in
theorem bq_wsX8_feed : subq wsX8_feed [[.fieldLink RX8 10 "ChairCane" "tape" "LChairCane$Tape;", .fieldLink RX8 65 "ChairCane$Tape" "length" "I", .methodLink RX8 68 yX7_append, .instanceMethod yX7_append, .selects RX7 yX7_append yX7_append, .initialized RX7, .code yX7_append cX7_append 3 none, .fieldLink RX7 15 "ChairCane$Tape" "length" "I", .fieldLink RX7 9 "ChairCane$Tape" "bytes" "[B"]] := ⟨(fun _ h => (List.mem_cons_of_mem _ (List.mem_append_left _ (List.mem_append_left _ h)))), trivial⟩
set_option maxRecDepth 20000 in
theorem ggX8_feed_X7_append : GoodIn wsX8_feed wsX7_append := (goodIn_cons (good_rb bq_wsX8_feed ([(0, 6)] : List (Nat × Nat)) rfl (by decide +kernel)) (goodIn_app (good_rb bq_wsX8_feed ([(0, 7), (0, 8)] : List (Nat × Nat)) rfl (by decide +kernel)) (goodIn_sb (fun _ h => (List.mem_cons_of_mem _ (List.mem_append_right _ h))) (by decide +kernel))))
set_option maxRecDepth 20000 in
theorem gX8_feed_X7_append : GoodIn wsX8_feed (wsV RX8 68 RX7 yX7_append wsX7_append) := goodIn_app (good_rp ([3, 4, 5, 6] : List Nat) rfl (by decide +kernel)) ggX8_feed_X7_append
set_option maxRecDepth 20000 in
theorem bq_wsX8_felledBy : subq wsX8_felledBy [wsX8_felledBy_r1, wsX8_felledBy_r2, wsX8_felledBy_r3] := ⟨(fun _ h => (List.mem_cons_of_mem _ (List.mem_append_left _ (List.mem_append_left _ (List.mem_append_left _ (List.mem_append_left _ h)))))), (fun _ h => (List.mem_cons_of_mem _ (List.mem_append_left _ (List.mem_append_left _ (List.mem_append_left _ (List.mem_append_right _ (List.mem_append_left _ h))))))), (fun _ h => (List.mem_cons_of_mem _ (List.mem_append_left _ (List.mem_append_left _ (List.mem_append_left _ (List.mem_append_right _ (List.mem_append_right _ h))))))), trivial⟩
set_option maxRecDepth 20000 in
theorem ggX8_felledBy_X3_copyFrom : GoodIn wsX8_felledBy wsX3_copyFrom := (goodIn_cons (good_rb bq_wsX8_felledBy ([(0, 7)] : List (Nat × Nat)) rfl (by decide +kernel)) (goodIn_app (good_rb bq_wsX8_felledBy ([(0, 8), (0, 9), (0, 10), (0, 11), (0, 12), (0, 13), (0, 14), (0, 15), (0, 16), (0, 17), (0, 18), (0, 19), (0, 20), (0, 21), (0, 22), (0, 23), (1, 0), (1, 1), (1, 2), (1, 3)] : List (Nat × Nat)) rfl (by decide +kernel)) (goodIn_sb (fun _ h => (List.mem_cons_of_mem _ (List.mem_append_right _ h))) (by decide +kernel))))
set_option maxRecDepth 20000 in
theorem gX8_felledBy_X3_copyFrom : GoodIn wsX8_felledBy (wsV RX8 84 RX3 yX3_copyFrom wsX3_copyFrom) := goodIn_app (good_rp ([4, 5, 6, 7] : List Nat) rfl (by decide +kernel)) ggX8_felledBy_X3_copyFrom
set_option maxRecDepth 20000 in
theorem ggX8_felledBy_X3_seat : GoodIn wsX8_felledBy wsX3_seat := (goodIn_cons (good_rb bq_wsX8_felledBy ([(1, 7)] : List (Nat × Nat)) rfl (by decide +kernel)) (goodIn_app (good_rb bq_wsX8_felledBy ([(0, 18), (0, 19), (1, 0), (0, 22), (0, 20), (0, 23), (1, 8), (1, 9), (1, 10), (0, 6), (1, 11), (0, 11), (1, 1), (1, 12), (1, 13), (1, 14), (1, 15)] : List (Nat × Nat)) rfl (by decide +kernel)) (goodIn_sb (fun _ h => (List.mem_cons_of_mem _ (List.mem_append_right _ h))) (by decide +kernel))))
set_option maxRecDepth 20000 in
theorem gX8_felledBy_X3_seat : GoodIn wsX8_felledBy (wsV RX8 168 RX3 yX3_seat wsX3_seat) := goodIn_app (good_rp ([29, 30, 31, 7] : List Nat) rfl (by decide +kernel)) ggX8_felledBy_X3_seat
set_option maxRecDepth 20000 in
theorem ggX8_felledBy_X3_settle : GoodIn wsX8_felledBy wsX3_settle := (goodIn_cons (good_rb bq_wsX8_felledBy ([(1, 19)] : List (Nat × Nat)) rfl (by decide +kernel)) (goodIn_app (goodIn_app (good_rb bq_wsX8_felledBy ([(1, 0), (1, 1), (1, 20), (1, 21), (1, 22), (0, 6), (1, 23), (0, 11), (0, 17), (0, 19), (2, 0), (2, 1), (2, 2), (2, 3), (0, 18), (0, 22), (0, 21), (0, 20), (2, 4), (2, 5), (2, 6), (2, 7), (0, 23), (2, 8)] : List (Nat × Nat)) rfl (by decide +kernel)) (good_rb bq_wsX8_felledBy ([(2, 9), (2, 10), (2, 11), (1, 12), (1, 13), (1, 14), (1, 15)] : List (Nat × Nat)) rfl (by decide +kernel))) (goodIn_sb (fun _ h => (List.mem_cons_of_mem _ (List.mem_append_right _ h))) (by decide +kernel))))
set_option maxRecDepth 20000 in
theorem gX8_felledBy_X3_settle : GoodIn wsX8_felledBy (wsV RX8 172 RX3 yX3_settle wsX3_settle) := goodIn_app (good_rp ([41, 42, 43, 7] : List Nat) rfl (by decide +kernel)) ggX8_felledBy_X3_settle
set_option maxRecDepth 20000 in
theorem bq_wsX8_felled : subq wsX8_felled [wsX8_felled_r1, wsX8_felled_r2, wsX8_felled_r3] := ⟨(fun _ h => (List.mem_cons_of_mem _ (List.mem_append_left _ (List.mem_append_left _ (List.mem_append_left _ (List.mem_append_left _ h)))))), (fun _ h => (List.mem_cons_of_mem _ (List.mem_append_left _ (List.mem_append_left _ (List.mem_append_left _ (List.mem_append_right _ (List.mem_append_left _ h))))))), (fun _ h => (List.mem_cons_of_mem _ (List.mem_append_left _ (List.mem_append_left _ (List.mem_append_left _ (List.mem_append_right _ (List.mem_append_right _ h))))))), trivial⟩
set_option maxRecDepth 20000 in
theorem ggX8_felled_X3_isDown : GoodIn wsX8_felled wsX3_isDown := (goodIn_cons (good_rb bq_wsX8_felled ([(0, 6)] : List (Nat × Nat)) rfl (by decide +kernel)) (goodIn_app (good_rb bq_wsX8_felled ([(0, 7), (0, 8)] : List (Nat × Nat)) rfl (by decide +kernel)) (goodIn_sb (fun _ h => (List.mem_cons_of_mem _ (List.mem_append_right _ h))) (by decide +kernel))))
set_option maxRecDepth 20000 in
theorem gX8_felled_X3_isDown : GoodIn wsX8_felled (wsV RX8 176 RX3 yX3_isDown wsX3_isDown) := goodIn_app (good_rp ([3, 4, 5, 6] : List Nat) rfl (by decide +kernel)) ggX8_felled_X3_isDown
set_option maxRecDepth 20000 in
theorem ggX8_felled_X8_felledBy : GoodIn wsX8_felled wsX8_felledBy := (goodIn_cons (good_rb bq_wsX8_felled ([(0, 13)] : List (Nat × Nat)) rfl (by decide +kernel)) (goodIn_app (goodIn_app (goodIn_app (goodIn_app (good_rb bq_wsX8_felled ([(0, 14), (0, 0), (0, 1), (0, 15), (0, 16), (0, 17), (0, 5), (0, 18), (0, 19), (0, 20), (0, 21), (0, 7), (0, 22), (0, 23), (1, 0), (1, 1), (1, 2), (1, 3), (1, 4), (1, 5), (1, 6), (1, 7), (1, 8), (1, 9)] : List (Nat × Nat)) rfl (by decide +kernel)) (goodIn_app (good_rb bq_wsX8_felled ([(0, 8), (1, 10), (1, 11), (1, 12), (1, 13), (1, 14), (1, 15), (1, 16), (1, 17), (1, 18), (1, 19), (1, 20), (1, 21), (0, 3), (0, 4), (0, 6), (1, 22), (1, 23), (2, 0), (2, 1), (2, 2), (2, 3), (2, 4), (2, 5)] : List (Nat × Nat)) rfl (by decide +kernel)) (good_rb bq_wsX8_felled ([(2, 6), (2, 7), (2, 8), (2, 9), (2, 10), (2, 11), (2, 12), (2, 13), (2, 14), (2, 15), (2, 16), (2, 17)] : List (Nat × Nat)) rfl (by decide +kernel)))) (goodIn_sb (fun _ h => (List.mem_cons_of_mem _ (List.mem_append_left _ (List.mem_append_left _ (List.mem_append_right _ h))))) (by decide +kernel))) (goodIn_sb (fun _ h => (List.mem_cons_of_mem _ (List.mem_append_left _ (List.mem_append_right _ h)))) (by decide +kernel))) (goodIn_sb (fun _ h => (List.mem_cons_of_mem _ (List.mem_append_right _ h))) (by decide +kernel))))
set_option maxRecDepth 20000 in
theorem gX8_felled_X8_felledBy : GoodIn wsX8_felled (wsV RX8 203 RX8 yX8_felledBy wsX8_felledBy) := goodIn_app (good_rp ([10, 11, 12, 13] : List Nat) rfl (by decide +kernel)) ggX8_felled_X8_felledBy
set_option maxRecDepth 20000 in
theorem bq_wsX8_findSafeSets : subq wsX8_findSafeSets [wsX8_findSafeSets_r1, wsX8_findSafeSets_r2, wsX8_findSafeSets_r3] := ⟨(fun _ h => (List.mem_cons_of_mem _ (List.mem_append_left _ (List.mem_append_left _ (List.mem_append_left _ (List.mem_append_left _ h)))))), (fun _ h => (List.mem_cons_of_mem _ (List.mem_append_left _ (List.mem_append_left _ (List.mem_append_left _ (List.mem_append_right _ (List.mem_append_left _ h))))))), (fun _ h => (List.mem_cons_of_mem _ (List.mem_append_left _ (List.mem_append_left _ (List.mem_append_left _ (List.mem_append_right _ (List.mem_append_right _ h))))))), trivial⟩
set_option maxRecDepth 20000 in
theorem ggX8_findSafeSets_X3_bears : GoodIn wsX8_findSafeSets wsX3_bears := (goodIn_cons (good_rb bq_wsX8_findSafeSets ([(1, 14)] : List (Nat × Nat)) rfl (by decide +kernel)) (goodIn_app (goodIn_app (good_rb bq_wsX8_findSafeSets ([(1, 2), (1, 15), (1, 16), (1, 17), (0, 8), (1, 18), (1, 0), (1, 1), (0, 13), (0, 20), (0, 21), (0, 22), (1, 19), (1, 20), (1, 21), (1, 22), (1, 23), (2, 0), (2, 1), (2, 2), (2, 3), (2, 4), (2, 5), (2, 6)] : List (Nat × Nat)) rfl (by decide +kernel)) (good_rb bq_wsX8_findSafeSets ([(0, 19), (2, 7), (2, 8), (2, 9), (2, 10), (0, 23)] : List (Nat × Nat)) rfl (by decide +kernel))) (goodIn_sb (fun _ h => (List.mem_cons_of_mem _ (List.mem_append_right _ h))) (by decide +kernel))))
set_option maxRecDepth 20000 in
theorem gX8_findSafeSets_X3_bears : GoodIn wsX8_findSafeSets (wsV RX8 209 RX3 yX3_bears wsX3_bears) := goodIn_app (good_rp ([36, 37, 38, 9] : List Nat) rfl (by decide +kernel)) ggX8_findSafeSets_X3_bears
set_option maxRecDepth 20000 in
theorem ggX8_findSafeSets_X3_copyFrom : GoodIn wsX8_findSafeSets wsX3_copyFrom := (goodIn_cons (good_rb bq_wsX8_findSafeSets ([(0, 9)] : List (Nat × Nat)) rfl (by decide +kernel)) (goodIn_app (good_rb bq_wsX8_findSafeSets ([(0, 10), (0, 11), (0, 12), (0, 13), (0, 14), (0, 15), (0, 16), (0, 17), (0, 18), (0, 19), (0, 20), (0, 21), (0, 22), (0, 23), (1, 0), (1, 1), (1, 2), (1, 3), (1, 4), (1, 5)] : List (Nat × Nat)) rfl (by decide +kernel)) (goodIn_sb (fun _ h => (List.mem_cons_of_mem _ (List.mem_append_right _ h))) (by decide +kernel))))
set_option maxRecDepth 20000 in
theorem gX8_findSafeSets_X3_copyFrom : GoodIn wsX8_findSafeSets (wsV RX8 84 RX3 yX3_copyFrom wsX3_copyFrom) := goodIn_app (good_rp ([6, 7, 8, 9] : List Nat) rfl (by decide +kernel)) ggX8_findSafeSets_X3_copyFrom
set_option maxRecDepth 20000 in
theorem ggX8_findSafeSets_X8_firstToRise : GoodIn wsX8_findSafeSets wsX8_firstToRise := (goodIn_cons (good_rb bq_wsX8_findSafeSets ([(1, 10)] : List (Nat × Nat)) rfl (by decide +kernel)) (goodIn_app (good_rb bq_wsX8_findSafeSets ([(0, 4)] : List (Nat × Nat)) rfl (by decide +kernel)) (goodIn_sb (fun _ h => (List.mem_cons_of_mem _ (List.mem_append_left _ (List.mem_append_left _ (List.mem_append_right _ h))))) (by decide +kernel))))
set_option maxRecDepth 20000 in
theorem gX8_findSafeSets_X8_firstToRise : GoodIn wsX8_findSafeSets (wsV RX8 215 RX8 yX8_firstToRise wsX8_firstToRise) := goodIn_app (good_rp ([31, 32, 33, 34] : List Nat) rfl (by decide +kernel)) ggX8_findSafeSets_X8_firstToRise
set_option maxRecDepth 20000 in
theorem bq_wsX8_hall : subq wsX8_hall [wsX8_hall_r1, wsX8_hall_r2, wsX8_hall_r3, wsX8_hall_r4, wsX8_hall_r5, wsX8_hall_r6, wsX8_hall_r7, wsX8_hall_r8, wsX8_hall_r9, wsX8_hall_r10] := ⟨(fun _ h => (List.mem_cons_of_mem _ (List.mem_append_left _ (List.mem_append_left _ (List.mem_append_left _ (List.mem_append_left _ (List.mem_append_left _ (List.mem_append_left _ (List.mem_append_left _ h))))))))), (fun _ h => (List.mem_cons_of_mem _ (List.mem_append_left _ (List.mem_append_left _ (List.mem_append_left _ (List.mem_append_left _ (List.mem_append_left _ (List.mem_append_left _ (List.mem_append_right _ (List.mem_append_left _ h)))))))))), (fun _ h => (List.mem_cons_of_mem _ (List.mem_append_left _ (List.mem_append_left _ (List.mem_append_left _ (List.mem_append_left _ (List.mem_append_left _ (List.mem_append_left _ (List.mem_append_right _ (List.mem_append_right _ (List.mem_append_left _ h))))))))))), (fun _ h => (List.mem_cons_of_mem _ (List.mem_append_left _ (List.mem_append_left _ (List.mem_append_left _ (List.mem_append_left _ (List.mem_append_left _ (List.mem_append_left _ (List.mem_append_right _ (List.mem_append_right _ (List.mem_append_right _ (List.mem_append_left _ h)))))))))))), (fun _ h => (List.mem_cons_of_mem _ (List.mem_append_left _ (List.mem_append_left _ (List.mem_append_left _ (List.mem_append_left _ (List.mem_append_left _ (List.mem_append_left _ (List.mem_append_right _ (List.mem_append_right _ (List.mem_append_right _ (List.mem_append_right _ (List.mem_append_left _ h))))))))))))), (fun _ h => (List.mem_cons_of_mem _ (List.mem_append_left _ (List.mem_append_left _ (List.mem_append_left _ (List.mem_append_left _ (List.mem_append_left _ (List.mem_append_left _ (List.mem_append_right _ (List.mem_append_right _ (List.mem_append_right _ (List.mem_append_right _ (List.mem_append_right _ (List.mem_append_left _ h)))))))))))))), (fun _ h => (List.mem_cons_of_mem _ (List.mem_append_left _ (List.mem_append_left _ (List.mem_append_left _ (List.mem_append_left _ (List.mem_append_left _ (List.mem_append_left _ (List.mem_append_right _ (List.mem_append_right _ (List.mem_append_right _ (List.mem_append_right _ (List.mem_append_right _ (List.mem_append_right _ (List.mem_append_left _ h))))))))))))))), (fun _ h => (List.mem_cons_of_mem _ (List.mem_append_left _ (List.mem_append_left _ (List.mem_append_left _ (List.mem_append_left _ (List.mem_append_left _ (List.mem_append_left _ (List.mem_append_right _ (List.mem_append_right _ (List.mem_append_right _ (List.mem_append_right _ (List.mem_append_right _ (List.mem_append_right _ (List.mem_append_right _ (List.mem_append_left _ h)))))))))))))))), (fun _ h => (List.mem_cons_of_mem _ (List.mem_append_left _ (List.mem_append_left _ (List.mem_append_left _ (List.mem_append_left _ (List.mem_append_left _ (List.mem_append_left _ (List.mem_append_right _ (List.mem_append_right _ (List.mem_append_right _ (List.mem_append_right _ (List.mem_append_right _ (List.mem_append_right _ (List.mem_append_right _ (List.mem_append_right _ (List.mem_append_left _ h))))))))))))))))), (fun _ h => (List.mem_cons_of_mem _ (List.mem_append_left _ (List.mem_append_left _ (List.mem_append_left _ (List.mem_append_left _ (List.mem_append_left _ (List.mem_append_left _ (List.mem_append_right _ (List.mem_append_right _ (List.mem_append_right _ (List.mem_append_right _ (List.mem_append_right _ (List.mem_append_right _ (List.mem_append_right _ (List.mem_append_right _ (List.mem_append_right _ h))))))))))))))))), trivial⟩
set_option maxRecDepth 20000 in
theorem ggX8_hall_X0_forget : GoodIn wsX8_hall wsX0_forget := (goodIn_cons (good_rb bq_wsX8_hall ([(8, 22)] : List (Nat × Nat)) rfl (by decide +kernel)) (goodIn_app (good_rb bq_wsX8_hall ([(8, 23)] : List (Nat × Nat)) rfl (by decide +kernel)) (goodIn_sb (fun _ h => (List.mem_cons_of_mem _ (List.mem_append_left _ (List.mem_append_right _ h)))) (by decide +kernel))))
set_option maxRecDepth 20000 in
theorem gX8_hall_X0_forget : GoodIn wsX8_hall (wsV RX8 92 RX0 yX0_forget wsX0_forget) := goodIn_app (good_rp ([211, 212, 213, 214] : List Nat) rfl (by decide +kernel)) ggX8_hall_X0_forget
set_option maxRecDepth 20000 in
theorem ggX8_hall_X1_read : GoodIn wsX8_hall wsX1_read := (goodIn_cons (good_rb bq_wsX8_hall ([(0, 12)] : List (Nat × Nat)) rfl (by decide +kernel)) (goodIn_app (goodIn_app (goodIn_app (good_rb bq_wsX8_hall ([(0, 13), (0, 14), (0, 15), (0, 16), (0, 17), (0, 18), (0, 19), (0, 20), (0, 21), (0, 22), (0, 23), (1, 0), (1, 1), (1, 2), (1, 3), (1, 4), (1, 5), (1, 6), (1, 7), (1, 8), (1, 9), (1, 10), (1, 11), (1, 12)] : List (Nat × Nat)) rfl (by decide +kernel)) (goodIn_app (good_rb bq_wsX8_hall ([(1, 13), (1, 14), (1, 15), (1, 16), (1, 17), (1, 18), (1, 19), (1, 20), (1, 21), (1, 22), (1, 23), (2, 0), (2, 1), (2, 2), (2, 3), (2, 4), (2, 5), (2, 6), (2, 7), (2, 8), (2, 9), (2, 10), (2, 11), (2, 12)] : List (Nat × Nat)) rfl (by decide +kernel)) (goodIn_app (good_rb bq_wsX8_hall ([(2, 13), (2, 14), (2, 15), (2, 16), (2, 17), (2, 18), (2, 19), (2, 20), (2, 21), (2, 22), (2, 23), (3, 0), (3, 1), (3, 2), (3, 3), (3, 4), (3, 5), (3, 6), (3, 7), (3, 8), (3, 9), (3, 10), (3, 11), (3, 12)] : List (Nat × Nat)) rfl (by decide +kernel)) (goodIn_app (good_rb bq_wsX8_hall ([(3, 13), (3, 14), (3, 15), (3, 16), (3, 17), (3, 18), (3, 19), (3, 20), (3, 21), (3, 22), (3, 23), (4, 0), (4, 1), (4, 2), (4, 3), (4, 4), (4, 5), (4, 6), (4, 7), (4, 8), (4, 9), (4, 10), (4, 11), (4, 12)] : List (Nat × Nat)) rfl (by decide +kernel)) (goodIn_app (good_rb bq_wsX8_hall ([(4, 13), (4, 14), (4, 15), (4, 16), (4, 17), (4, 18), (4, 19), (4, 20), (4, 21), (4, 22), (4, 23), (5, 0), (5, 1), (5, 2), (0, 11), (5, 3), (5, 4), (5, 5), (5, 6), (5, 7), (5, 8), (5, 9), (5, 10), (5, 11)] : List (Nat × Nat)) rfl (by decide +kernel)) (goodIn_app (good_rb bq_wsX8_hall ([(5, 12), (5, 13), (5, 14), (5, 15), (5, 16), (5, 17), (5, 18), (5, 19), (5, 20), (5, 21), (5, 22), (5, 23), (6, 0), (6, 1), (6, 2), (6, 3), (6, 4), (6, 5), (6, 6), (6, 7), (6, 8), (6, 9), (6, 10), (6, 11)] : List (Nat × Nat)) rfl (by decide +kernel)) (goodIn_app (good_rb bq_wsX8_hall ([(6, 12), (6, 13), (6, 14), (6, 15), (6, 16), (6, 17), (6, 18), (6, 19), (6, 20), (6, 21), (6, 22), (6, 23), (7, 0), (7, 1), (7, 2), (7, 3), (7, 4), (7, 5), (7, 6), (7, 7), (7, 8), (7, 9), (7, 10), (7, 11)] : List (Nat × Nat)) rfl (by decide +kernel)) (goodIn_app (good_rb bq_wsX8_hall ([(7, 12), (7, 13), (7, 14), (7, 15), (7, 16), (7, 17), (7, 18), (7, 19), (7, 20), (7, 21), (7, 22), (7, 23), (8, 0), (8, 1), (8, 2), (8, 3), (8, 4), (8, 5), (8, 6), (8, 7), (8, 8), (8, 9), (8, 10), (8, 11)] : List (Nat × Nat)) rfl (by decide +kernel)) (good_rb bq_wsX8_hall ([(8, 12)] : List (Nat × Nat)) rfl (by decide +kernel)))))))))) (goodIn_sb (fun _ h => (List.mem_cons_of_mem _ (List.mem_append_left _ (List.mem_append_left _ (List.mem_append_left _ (List.mem_append_left _ (List.mem_append_right _ h))))))) (by decide +kernel))) (goodIn_sb (fun _ h => (List.mem_cons_of_mem _ (List.mem_append_left _ (List.mem_append_left _ (List.mem_append_right _ h))))) (by decide +kernel))))
set_option maxRecDepth 20000 in
theorem gX8_hall_X1_read : GoodIn wsX8_hall (va_wsS RX8 72 yX1_read wsX1_read) := goodIn_app (good_rp ([10, 11, 12] : List Nat) rfl (by decide +kernel)) ggX8_hall_X1_read
set_option maxRecDepth 20000 in
theorem ggX8_hall_X2_forget : GoodIn wsX8_hall wsX2_forget := (goodIn_cons (good_rb bq_wsX8_hall ([(9, 4)] : List (Nat × Nat)) rfl (by decide +kernel)) (goodIn_app (good_rb bq_wsX8_hall ([(9, 5)] : List (Nat × Nat)) rfl (by decide +kernel)) (goodIn_sb (fun _ h => (List.mem_cons_of_mem _ (List.mem_append_right _ h))) (by decide +kernel))))
set_option maxRecDepth 20000 in
theorem gX8_hall_X2_forget : GoodIn wsX8_hall (wsV RX8 101 RX2 yX2_forget wsX2_forget) := goodIn_app (good_rp ([217, 218, 219, 220] : List Nat) rfl (by decide +kernel)) ggX8_hall_X2_forget
set_option maxRecDepth 20000 in
theorem ggX8_hall_X3_copyFrom : GoodIn wsX8_hall wsX3_copyFrom := (goodIn_cons (good_rb bq_wsX8_hall ([(8, 16)] : List (Nat × Nat)) rfl (by decide +kernel)) (goodIn_app (good_rb bq_wsX8_hall ([(4, 21), (4, 22), (4, 23), (5, 0), (7, 7), (7, 9), (7, 10), (7, 11), (7, 12), (8, 17), (7, 23), (7, 2), (8, 0), (7, 8), (7, 21), (7, 22), (7, 13), (7, 14), (7, 15), (7, 16)] : List (Nat × Nat)) rfl (by decide +kernel)) (goodIn_sb (fun _ h => (List.mem_cons_of_mem _ (List.mem_append_left _ (List.mem_append_left _ (List.mem_append_right _ h))))) (by decide +kernel))))
set_option maxRecDepth 20000 in
theorem gX8_hall_X3_copyFrom : GoodIn wsX8_hall (wsV RX8 84 RX3 yX3_copyFrom wsX3_copyFrom) := goodIn_app (good_rp ([206, 207, 208, 116] : List Nat) rfl (by decide +kernel)) ggX8_hall_X3_copyFrom
set_option maxRecDepth 20000 in
theorem bq_wsX8_heavy : subq wsX8_heavy [wsX8_heavy_r1, wsX8_heavy_r2, wsX8_heavy_r3] := ⟨(fun _ h => (List.mem_cons_of_mem _ (List.mem_append_left _ (List.mem_append_left _ (List.mem_append_left _ (List.mem_append_left _ h)))))), (fun _ h => (List.mem_cons_of_mem _ (List.mem_append_left _ (List.mem_append_left _ (List.mem_append_left _ (List.mem_append_right _ (List.mem_append_left _ h))))))), (fun _ h => (List.mem_cons_of_mem _ (List.mem_append_left _ (List.mem_append_left _ (List.mem_append_left _ (List.mem_append_right _ (List.mem_append_right _ h))))))), trivial⟩
set_option maxRecDepth 20000 in
theorem ggX8_heavy_X3_bears : GoodIn wsX8_heavy wsX3_bears := (goodIn_cons (good_rb bq_wsX8_heavy ([(1, 13)] : List (Nat × Nat)) rfl (by decide +kernel)) (goodIn_app (goodIn_app (good_rb bq_wsX8_heavy ([(1, 7), (1, 14), (1, 15), (1, 16), (0, 8), (1, 17), (1, 5), (1, 6), (0, 10), (1, 1), (1, 2), (1, 3), (1, 18), (1, 19), (1, 20), (1, 21), (1, 22), (1, 23), (2, 0), (2, 1), (2, 2), (2, 3), (2, 4), (2, 5)] : List (Nat × Nat)) rfl (by decide +kernel)) (good_rb bq_wsX8_heavy ([(1, 0), (2, 6), (2, 7), (2, 8), (2, 9), (1, 4)] : List (Nat × Nat)) rfl (by decide +kernel))) (goodIn_sb (fun _ h => (List.mem_cons_of_mem _ (List.mem_append_right _ h))) (by decide +kernel))))
set_option maxRecDepth 20000 in
theorem gX8_heavy_X3_bears : GoodIn wsX8_heavy (wsV RX8 209 RX3 yX3_bears wsX3_bears) := goodIn_app (good_rp ([35, 36, 37, 9] : List Nat) rfl (by decide +kernel)) ggX8_heavy_X3_bears
set_option maxRecDepth 20000 in
theorem ggX8_heavy_X3_copyFrom : GoodIn wsX8_heavy wsX3_copyFrom := (goodIn_cons (good_rb bq_wsX8_heavy ([(0, 15)] : List (Nat × Nat)) rfl (by decide +kernel)) (goodIn_app (good_rb bq_wsX8_heavy ([(0, 16), (0, 17), (0, 18), (0, 10), (0, 19), (0, 20), (0, 21), (0, 22), (0, 23), (1, 0), (1, 1), (1, 2), (1, 3), (1, 4), (1, 5), (1, 6), (1, 7), (0, 11), (1, 8), (1, 9)] : List (Nat × Nat)) rfl (by decide +kernel)) (goodIn_sb (fun _ h => (List.mem_cons_of_mem _ (List.mem_append_right _ h))) (by decide +kernel))))
set_option maxRecDepth 20000 in
theorem gX8_heavy_X3_copyFrom : GoodIn wsX8_heavy (wsV RX8 84 RX3 yX3_copyFrom wsX3_copyFrom) := goodIn_app (good_rp ([13, 14, 15, 9] : List Nat) rfl (by decide +kernel)) ggX8_heavy_X3_copyFrom
set_option maxRecDepth 20000 in
theorem ggX8_heavy_X3_isUp : GoodIn wsX8_heavy wsX3_isUp := (goodIn_cons (good_rb bq_wsX8_heavy ([(0, 9)] : List (Nat × Nat)) rfl (by decide +kernel)) (goodIn_app (good_rb bq_wsX8_heavy ([(0, 10), (0, 11)] : List (Nat × Nat)) rfl (by decide +kernel)) (goodIn_sb (fun _ h => (List.mem_cons_of_mem _ (List.mem_append_right _ h))) (by decide +kernel))))
set_option maxRecDepth 20000 in
theorem gX8_heavy_X3_isUp : GoodIn wsX8_heavy (wsV RX8 221 RX3 yX3_isUp wsX3_isUp) := goodIn_app (good_rp ([6, 7, 8, 9] : List Nat) rfl (by decide +kernel)) ggX8_heavy_X3_isUp
set_option maxRecDepth 20000 in
theorem bq_wsX8_help : subq wsX8_help [wsX8_help_r1, wsX8_help_r2] := ⟨(fun _ h => (List.mem_cons_of_mem _ (List.mem_append_left _ (List.mem_append_left _ (List.mem_append_left _ (List.mem_append_left _ (List.mem_append_left _ h))))))), (fun _ h => (List.mem_cons_of_mem _ (List.mem_append_left _ (List.mem_append_left _ (List.mem_append_left _ (List.mem_append_left _ (List.mem_append_right _ h))))))), trivial⟩
set_option maxRecDepth 20000 in
theorem ggX8_help_J6_bitCount_0f7a4 : GoodIn wsX8_help wsJ6_bitCount_0f7a4 := (goodIn_cons (good_rb bq_wsX8_help ([(1, 13)] : List (Nat × Nat)) rfl (by decide +kernel)) (good_rb bq_wsX8_help ([(1, 14), (1, 15), (1, 16)] : List (Nat × Nat)) rfl (by decide +kernel)))
set_option maxRecDepth 20000 in
theorem gX8_help_J6_bitCount_0f7a4 : GoodIn wsX8_help (va_wsS RX8 182 yJ6_bitCount_0f7a4 wsJ6_bitCount_0f7a4) := goodIn_app (good_rp ([35, 36, 37] : List Nat) rfl (by decide +kernel)) ggX8_help_J6_bitCount_0f7a4
set_option maxRecDepth 20000 in
theorem ggX8_help_X0_keep : GoodIn wsX8_help wsX0_keep := (goodIn_cons (good_rb bq_wsX8_help ([(0, 20)] : List (Nat × Nat)) rfl (by decide +kernel)) (goodIn_app (goodIn_app (good_rb bq_wsX8_help ([(0, 21), (0, 22), (0, 23), (1, 0), (1, 1), (1, 2), (1, 3), (1, 4), (1, 5), (1, 6), (1, 7), (1, 8), (1, 9)] : List (Nat × Nat)) rfl (by decide +kernel)) (goodIn_sb (fun _ h => (List.mem_cons_of_mem _ (List.mem_append_right _ h))) (by decide +kernel))) (goodIn_sb (fun _ h => (List.mem_cons_of_mem _ (List.mem_append_left _ (List.mem_append_right _ h)))) (by decide +kernel))))
set_option maxRecDepth 20000 in
theorem gX8_help_X0_keep : GoodIn wsX8_help (wsV RX8 157 RX0 yX0_keep wsX0_keep) := goodIn_app (good_rp ([17, 18, 19, 20] : List Nat) rfl (by decide +kernel)) ggX8_help_X0_keep
set_option maxRecDepth 20000 in
theorem ggX8_help_X3_stateOf : GoodIn wsX8_help wsX3_stateOf := (goodIn_cons (good_rb bq_wsX8_help ([(0, 8)] : List (Nat × Nat)) rfl (by decide +kernel)) (goodIn_app (good_rb bq_wsX8_help ([(0, 9), (0, 10), (0, 11), (0, 12), (0, 13), (0, 7), (0, 14), (0, 15)] : List (Nat × Nat)) rfl (by decide +kernel)) (goodIn_sb (fun _ h => (List.mem_cons_of_mem _ (List.mem_append_left _ (List.mem_append_right _ h)))) (by decide +kernel))))
set_option maxRecDepth 20000 in
theorem gX8_help_X3_stateOf : GoodIn wsX8_help (wsV RX8 147 RX3 yX3_stateOf wsX3_stateOf) := goodIn_app (good_rp ([5, 6, 7, 8] : List Nat) rfl (by decide +kernel)) ggX8_help_X3_stateOf
set_option maxRecDepth 20000 in
theorem bq_wsX8_let : subq wsX8_let [wsX8_let_r1, wsX8_let_r2, wsX8_let_r3] := ⟨(fun _ h => (List.mem_cons_of_mem _ (List.mem_append_left _ (List.mem_append_left _ (List.mem_append_left _ (List.mem_append_left _ (List.mem_append_left _ h))))))), (fun _ h => (List.mem_cons_of_mem _ (List.mem_append_left _ (List.mem_append_left _ (List.mem_append_left _ (List.mem_append_left _ (List.mem_append_right _ (List.mem_append_left _ h)))))))), (fun _ h => (List.mem_cons_of_mem _ (List.mem_append_left _ (List.mem_append_left _ (List.mem_append_left _ (List.mem_append_left _ (List.mem_append_right _ (List.mem_append_right _ h)))))))), trivial⟩
set_option maxRecDepth 20000 in
theorem ggX8_let_X0_keep : GoodIn wsX8_let wsX0_keep := (goodIn_cons (good_rb bq_wsX8_let ([(0, 14)] : List (Nat × Nat)) rfl (by decide +kernel)) (goodIn_app (goodIn_app (good_rb bq_wsX8_let ([(0, 15), (0, 16), (0, 17), (0, 18), (0, 19), (0, 20), (0, 21), (0, 22), (0, 23), (1, 0), (1, 1), (1, 2), (1, 3)] : List (Nat × Nat)) rfl (by decide +kernel)) (goodIn_sb (fun _ h => (List.mem_cons_of_mem _ (List.mem_append_right _ h))) (by decide +kernel))) (goodIn_sb (fun _ h => (List.mem_cons_of_mem _ (List.mem_append_left _ (List.mem_append_right _ h)))) (by decide +kernel))))
set_option maxRecDepth 20000 in
theorem gX8_let_X0_keep : GoodIn wsX8_let (wsV RX8 157 RX0 yX0_keep wsX0_keep) := goodIn_app (good_rp ([11, 12, 13, 14] : List Nat) rfl (by decide +kernel)) ggX8_let_X0_keep
set_option maxRecDepth 20000 in
theorem ggX8_let_X3_hasStrand : GoodIn wsX8_let wsX3_hasStrand := (goodIn_cons (good_rb bq_wsX8_let ([(0, 8)] : List (Nat × Nat)) rfl (by decide +kernel)) (goodIn_app (good_rb bq_wsX8_let ([(0, 9)] : List (Nat × Nat)) rfl (by decide +kernel)) (goodIn_sb (fun _ h => (List.mem_cons_of_mem _ (List.mem_append_left _ (List.mem_append_right _ h)))) (by decide +kernel))))
set_option maxRecDepth 20000 in
theorem gX8_let_X3_hasStrand : GoodIn wsX8_let (wsV RX8 115 RX3 yX3_hasStrand wsX3_hasStrand) := goodIn_app (good_rp ([5, 6, 7, 8] : List Nat) rfl (by decide +kernel)) ggX8_let_X3_hasStrand
set_option maxRecDepth 20000 in
theorem ggX8_let_X3_settle : GoodIn wsX8_let wsX3_settle := (goodIn_cons (good_rb bq_wsX8_let ([(1, 7)] : List (Nat × Nat)) rfl (by decide +kernel)) (goodIn_app (goodIn_app (good_rb bq_wsX8_let ([(1, 8), (1, 9), (1, 10), (1, 11), (1, 12), (0, 7), (1, 13), (1, 14), (1, 15), (1, 16), (1, 17), (1, 18), (1, 19), (1, 20), (1, 21), (1, 22), (1, 23), (2, 0), (2, 1), (2, 2), (2, 3), (2, 4), (2, 5), (2, 6)] : List (Nat × Nat)) rfl (by decide +kernel)) (good_rb bq_wsX8_let ([(2, 7), (2, 8), (2, 9), (2, 10), (2, 11), (2, 12), (2, 13)] : List (Nat × Nat)) rfl (by decide +kernel))) (goodIn_sb (fun _ h => (List.mem_cons_of_mem _ (List.mem_append_left _ (List.mem_append_right _ h)))) (by decide +kernel))))
set_option maxRecDepth 20000 in
theorem gX8_let_X3_settle : GoodIn wsX8_let (wsV RX8 172 RX3 yX3_settle wsX3_settle) := goodIn_app (good_rp ([29, 30, 31, 8] : List Nat) rfl (by decide +kernel)) ggX8_let_X3_settle
set_option maxRecDepth 20000 in
theorem bq_wsX8_minute : subq wsX8_minute [wsX8_minute_r1, wsX8_minute_r2, wsX8_minute_r3, wsX8_minute_r4, wsX8_minute_r5] := ⟨(fun _ h => (List.mem_cons_of_mem _ (List.mem_append_left _ (List.mem_append_left _ (List.mem_append_left _ (List.mem_append_left _ (List.mem_append_left _ (List.mem_append_left _ h)))))))), (fun _ h => (List.mem_cons_of_mem _ (List.mem_append_left _ (List.mem_append_left _ (List.mem_append_left _ (List.mem_append_left _ (List.mem_append_left _ (List.mem_append_right _ (List.mem_append_left _ h))))))))), (fun _ h => (List.mem_cons_of_mem _ (List.mem_append_left _ (List.mem_append_left _ (List.mem_append_left _ (List.mem_append_left _ (List.mem_append_left _ (List.mem_append_right _ (List.mem_append_right _ (List.mem_append_left _ h)))))))))), (fun _ h => (List.mem_cons_of_mem _ (List.mem_append_left _ (List.mem_append_left _ (List.mem_append_left _ (List.mem_append_left _ (List.mem_append_left _ (List.mem_append_right _ (List.mem_append_right _ (List.mem_append_right _ (List.mem_append_left _ h))))))))))), (fun _ h => (List.mem_cons_of_mem _ (List.mem_append_left _ (List.mem_append_left _ (List.mem_append_left _ (List.mem_append_left _ (List.mem_append_left _ (List.mem_append_right _ (List.mem_append_right _ (List.mem_append_right _ (List.mem_append_right _ h))))))))))), trivial⟩
set_option maxRecDepth 20000 in
theorem ggX8_minute_X0_keep : GoodIn wsX8_minute wsX0_keep := (goodIn_cons (good_rb bq_wsX8_minute ([(0, 9)] : List (Nat × Nat)) rfl (by decide +kernel)) (goodIn_app (goodIn_app (good_rb bq_wsX8_minute ([(0, 10), (0, 11), (0, 12), (0, 13), (0, 14), (0, 15), (0, 16), (0, 17), (0, 18), (0, 19), (0, 20), (0, 21), (0, 22)] : List (Nat × Nat)) rfl (by decide +kernel)) (goodIn_sb (fun _ h => (List.mem_cons_of_mem _ (List.mem_append_left _ (List.mem_append_right _ h)))) (by decide +kernel))) (goodIn_sb (fun _ h => (List.mem_cons_of_mem _ (List.mem_append_left _ (List.mem_append_left _ (List.mem_append_right _ h))))) (by decide +kernel))))
set_option maxRecDepth 20000 in
theorem gX8_minute_X0_keep : GoodIn wsX8_minute (wsV RX8 157 RX0 yX0_keep wsX0_keep) := goodIn_app (good_rp ([6, 7, 8, 9] : List Nat) rfl (by decide +kernel)) ggX8_minute_X0_keep
set_option maxRecDepth 20000 in
theorem ggX8_minute_X3_passMinute : GoodIn wsX8_minute wsX3_passMinute := (goodIn_cons (good_rb bq_wsX8_minute ([(1, 15)] : List (Nat × Nat)) rfl (by decide +kernel)) (goodIn_app (goodIn_app (goodIn_app (good_rb bq_wsX8_minute ([(1, 16), (1, 17), (1, 18), (1, 19), (1, 20), (1, 21), (1, 22), (1, 14), (1, 23), (2, 0), (2, 1), (2, 2), (2, 3), (2, 4), (2, 5), (2, 6), (2, 7), (2, 8), (2, 9), (2, 10), (2, 11), (2, 12), (2, 13), (2, 14)] : List (Nat × Nat)) rfl (by decide +kernel)) (goodIn_app (good_rb bq_wsX8_minute ([(2, 15), (2, 16), (2, 17), (2, 18), (2, 19), (2, 20), (2, 21), (2, 22), (2, 23), (3, 0), (3, 1), (3, 2), (3, 3), (3, 4), (3, 5), (3, 6), (3, 7), (3, 8), (3, 9), (3, 10), (3, 11), (3, 12), (3, 13), (3, 14)] : List (Nat × Nat)) rfl (by decide +kernel)) (goodIn_app (good_rb bq_wsX8_minute ([(3, 15), (3, 16), (3, 17), (3, 18), (3, 19), (3, 20), (3, 21), (3, 22), (3, 23), (4, 0), (4, 1), (4, 2), (4, 3), (4, 4), (4, 5), (4, 6), (4, 7), (4, 8), (4, 9), (4, 10), (4, 11), (4, 12), (4, 13), (4, 14)] : List (Nat × Nat)) rfl (by decide +kernel)) (good_rb bq_wsX8_minute ([(4, 15), (4, 16), (4, 17), (4, 18), (4, 19), (4, 20), (4, 21), (4, 22)] : List (Nat × Nat)) rfl (by decide +kernel))))) (goodIn_sb (fun _ h => (List.mem_cons_of_mem _ (List.mem_append_left _ (List.mem_append_left _ (List.mem_append_right _ h))))) (by decide +kernel))) (goodIn_sb (fun _ h => (List.mem_cons_of_mem _ (List.mem_append_right _ h))) (by decide +kernel))))
set_option maxRecDepth 20000 in
theorem gX8_minute_X3_passMinute : GoodIn wsX8_minute (wsV RX8 164 RX3 yX3_passMinute wsX3_passMinute) := goodIn_app (good_rp ([36, 37, 38, 39] : List Nat) rfl (by decide +kernel)) ggX8_minute_X3_passMinute
set_option maxRecDepth 20000 in
theorem ggX8_minute_X8_ruleInForce : GoodIn wsX8_minute wsX8_ruleInForce := (goodIn_cons (good_rb bq_wsX8_minute ([(1, 3)] : List (Nat × Nat)) rfl (by decide +kernel)) (goodIn_app (goodIn_app (good_rb bq_wsX8_minute ([(0, 0), (1, 4), (1, 5), (1, 6), (1, 7), (1, 2), (1, 8), (1, 9), (1, 10)] : List (Nat × Nat)) rfl (by decide +kernel)) (goodIn_sb (fun _ h => (List.mem_cons_of_mem _ (List.mem_append_left _ (List.mem_append_left _ (List.mem_append_left _ (List.mem_append_left _ (List.mem_append_right _ h))))))) (by decide +kernel))) (goodIn_sb (fun _ h => (List.mem_cons_of_mem _ (List.mem_append_left _ (List.mem_append_left _ (List.mem_append_left _ (List.mem_append_right _ h)))))) (by decide +kernel))))
set_option maxRecDepth 20000 in
theorem gX8_minute_X8_ruleInForce : GoodIn wsX8_minute (wsV RX8 160 RX8 yX8_ruleInForce wsX8_ruleInForce) := goodIn_app (good_rp ([24, 25, 26, 27] : List Nat) rfl (by decide +kernel)) ggX8_minute_X8_ruleInForce
set_option maxRecDepth 20000 in
theorem bq_wsX8_most : subq wsX8_most [wsX8_most_r1, wsX8_most_r2] := ⟨(fun _ h => (List.mem_cons_of_mem _ (List.mem_append_left _ (List.mem_append_left _ (List.mem_append_left _ (List.mem_append_left _ h)))))), (fun _ h => (List.mem_cons_of_mem _ (List.mem_append_left _ (List.mem_append_left _ (List.mem_append_left _ (List.mem_append_right _ h)))))), trivial⟩
set_option maxRecDepth 20000 in
theorem ggX8_most_X3_copyFrom : GoodIn wsX8_most wsX3_copyFrom := (goodIn_cons (good_rb bq_wsX8_most ([(0, 13)] : List (Nat × Nat)) rfl (by decide +kernel)) (goodIn_app (good_rb bq_wsX8_most ([(0, 14), (0, 9), (0, 15), (0, 16), (0, 17), (0, 18), (0, 19), (0, 20), (0, 21), (0, 22), (0, 23), (1, 0), (1, 1), (1, 2), (1, 3), (1, 4), (1, 5), (1, 6), (1, 7), (1, 8)] : List (Nat × Nat)) rfl (by decide +kernel)) (goodIn_sb (fun _ h => (List.mem_cons_of_mem _ (List.mem_append_right _ h))) (by decide +kernel))))
set_option maxRecDepth 20000 in
theorem gX8_most_X3_copyFrom : GoodIn wsX8_most (wsV RX8 84 RX3 yX3_copyFrom wsX3_copyFrom) := goodIn_app (good_rp ([11, 12, 13, 8] : List Nat) rfl (by decide +kernel)) ggX8_most_X3_copyFrom
set_option maxRecDepth 20000 in
theorem ggX8_most_X3_givenOut : GoodIn wsX8_most wsX3_givenOut := (goodIn_cons (good_rb bq_wsX8_most ([(1, 12)] : List (Nat × Nat)) rfl (by decide +kernel)) (goodIn_app (good_rb bq_wsX8_most ([(0, 16), (0, 22), (1, 0), (1, 13), (1, 14), (1, 15), (0, 7), (1, 16), (1, 5), (0, 23), (1, 3), (1, 2), (1, 1)] : List (Nat × Nat)) rfl (by decide +kernel)) (goodIn_sb (fun _ h => (List.mem_cons_of_mem _ (List.mem_append_right _ h))) (by decide +kernel))))
set_option maxRecDepth 20000 in
theorem gX8_most_X3_givenOut : GoodIn wsX8_most (wsV RX8 218 RX3 yX3_givenOut wsX3_givenOut) := goodIn_app (good_rp ([34, 35, 36, 8] : List Nat) rfl (by decide +kernel)) ggX8_most_X3_givenOut
set_option maxRecDepth 20000 in
theorem ggX8_most_X3_hasStrand : GoodIn wsX8_most wsX3_hasStrand := (goodIn_cons (good_rb bq_wsX8_most ([(0, 8)] : List (Nat × Nat)) rfl (by decide +kernel)) (goodIn_app (good_rb bq_wsX8_most ([(0, 9)] : List (Nat × Nat)) rfl (by decide +kernel)) (goodIn_sb (fun _ h => (List.mem_cons_of_mem _ (List.mem_append_right _ h))) (by decide +kernel))))
set_option maxRecDepth 20000 in
theorem gX8_most_X3_hasStrand : GoodIn wsX8_most (wsV RX8 115 RX3 yX3_hasStrand wsX3_hasStrand) := goodIn_app (good_rp ([5, 6, 7, 8] : List Nat) rfl (by decide +kernel)) ggX8_most_X3_hasStrand
set_option maxRecDepth 20000 in
theorem bq_wsX8_pence : subq wsX8_pence [[.fieldLink RX8 29 "ChairCane" "now" "LChairCane$Standing;", .fieldLink RX8 81 "ChairCane$Standing" "room" "LChairCane$Room;", .fieldLink RX8 104 "ChairCane$Room" "sitters" "I", .methodLink RX8 138 yX3_hasSitter, .instanceMethod yX3_hasSitter, .selects RX3 yX3_hasSitter yX3_hasSitter, .initialized RX3, .code yX3_hasSitter cX3_hasSitter 2 (some .boolean), .fieldLink RX3 22 "ChairCane$Room" "sitters" "I", .methodLink RX8 224 yX3_givesInAll, .instanceMethod yX3_givesInAll, .selects RX3 yX3_givesInAll yX3_givesInAll, .code yX3_givesInAll cX3_givesInAll 3 (some .int), .methodLink RX3 78 yX3_givesUnder, .instanceMethod yX3_givesUnder, .selects RX3 yX3_givesUnder yX3_givesUnder, .code yX3_givesUnder cX3_givesUnder 3 (some .int), .fieldLink RX3 44 "ChairCane$Room" "sits" "I", .fieldLink RX3 32 "ChairCane$Room" "strandOf" "[I", .fieldLink RX3 35 "ChairCane$Room" "chairOf" "[I", .fieldLink RX3 53 "ChairCane$Room" "load" "[I", .fieldLink RX3 41 "ChairCane$Room" "cane" "[I", .fieldLink RX3 38 "ChairCane$Room" "weight" "[I", .methodLink RX8 135 yX3_givesUnder]] := ⟨(fun _ h => (List.mem_cons_of_mem _ (List.mem_append_left _ (List.mem_append_left _ (List.mem_append_left _ h))))), trivial⟩
set_option maxRecDepth 20000 in
theorem ggX8_pence_X3_givesInAll : GoodIn wsX8_pence wsX3_givesInAll := (goodIn_cons (good_rb bq_wsX8_pence ([(0, 12)] : List (Nat × Nat)) rfl (by decide +kernel)) (goodIn_app (good_rb bq_wsX8_pence ([(0, 8), (0, 13), (0, 14), (0, 15), (0, 6), (0, 16), (0, 17), (0, 18), (0, 19), (0, 20), (0, 21), (0, 22)] : List (Nat × Nat)) rfl (by decide +kernel)) (goodIn_sb (fun _ h => (List.mem_cons_of_mem _ (List.mem_append_right _ h))) (by decide +kernel))))
set_option maxRecDepth 20000 in
theorem gX8_pence_X3_givesInAll : GoodIn wsX8_pence (wsV RX8 224 RX3 yX3_givesInAll wsX3_givesInAll) := goodIn_app (good_rp ([10, 11, 12, 7] : List Nat) rfl (by decide +kernel)) ggX8_pence_X3_givesInAll
set_option maxRecDepth 20000 in
theorem ggX8_pence_X3_givesUnder : GoodIn wsX8_pence wsX3_givesUnder := (goodIn_cons (good_rb bq_wsX8_pence ([(0, 16)] : List (Nat × Nat)) rfl (by decide +kernel)) (goodIn_app (good_rb bq_wsX8_pence ([(0, 8), (0, 17), (0, 18), (0, 19), (0, 20), (0, 21), (0, 22)] : List (Nat × Nat)) rfl (by decide +kernel)) (goodIn_sb (fun _ h => (List.mem_cons_of_mem _ (List.mem_append_right _ h))) (by decide +kernel))))
set_option maxRecDepth 20000 in
theorem gX8_pence_X3_givesUnder : GoodIn wsX8_pence (wsV RX8 135 RX3 yX3_givesUnder wsX3_givesUnder) := goodIn_app (good_rp ([24, 15, 16, 7] : List Nat) rfl (by decide +kernel)) ggX8_pence_X3_givesUnder
set_option maxRecDepth 20000 in
theorem ggX8_pence_X3_hasSitter : GoodIn wsX8_pence wsX3_hasSitter := (goodIn_cons (good_rb bq_wsX8_pence ([(0, 7)] : List (Nat × Nat)) rfl (by decide +kernel)) (goodIn_app (good_rb bq_wsX8_pence ([(0, 8)] : List (Nat × Nat)) rfl (by decide +kernel)) (goodIn_sb (fun _ h => (List.mem_cons_of_mem _ (List.mem_append_right _ h))) (by decide +kernel))))
set_option maxRecDepth 20000 in
theorem gX8_pence_X3_hasSitter : GoodIn wsX8_pence (wsV RX8 138 RX3 yX3_hasSitter wsX3_hasSitter) := goodIn_app (good_rp ([4, 5, 6, 7] : List Nat) rfl (by decide +kernel)) ggX8_pence_X3_hasSitter
set_option maxRecDepth 20000 in
theorem bq_wsX8_ring : subq wsX8_ring [wsX8_ring_r1, wsX8_ring_r2, wsX8_ring_r3, wsX8_ring_r4, wsX8_ring_r5] := ⟨(fun _ h => (List.mem_cons_of_mem _ (List.mem_append_left _ (List.mem_append_left _ (List.mem_append_left _ (List.mem_append_left _ (List.mem_append_left _ h))))))), (fun _ h => (List.mem_cons_of_mem _ (List.mem_append_left _ (List.mem_append_left _ (List.mem_append_left _ (List.mem_append_left _ (List.mem_append_right _ (List.mem_append_left _ h)))))))), (fun _ h => (List.mem_cons_of_mem _ (List.mem_append_left _ (List.mem_append_left _ (List.mem_append_left _ (List.mem_append_left _ (List.mem_append_right _ (List.mem_append_right _ (List.mem_append_left _ h))))))))), (fun _ h => (List.mem_cons_of_mem _ (List.mem_append_left _ (List.mem_append_left _ (List.mem_append_left _ (List.mem_append_left _ (List.mem_append_right _ (List.mem_append_right _ (List.mem_append_right _ (List.mem_append_left _ h)))))))))), (fun _ h => (List.mem_cons_of_mem _ (List.mem_append_left _ (List.mem_append_left _ (List.mem_append_left _ (List.mem_append_left _ (List.mem_append_right _ (List.mem_append_right _ (List.mem_append_right _ (List.mem_append_right _ h)))))))))), trivial⟩
set_option maxRecDepth 20000 in
theorem ggX8_ring_X8_watchSixty : GoodIn wsX8_ring wsX8_watchSixty := (goodIn_cons (good_rb bq_wsX8_ring ([(0, 9)] : List (Nat × Nat)) rfl (by decide +kernel)) (goodIn_app (goodIn_app (goodIn_app (goodIn_app (goodIn_app (good_rb bq_wsX8_ring ([(0, 10), (0, 0), (0, 1), (0, 3), (0, 11), (0, 12), (0, 13), (0, 14), (0, 15), (0, 8), (0, 16), (0, 17), (0, 18), (0, 19), (0, 20), (0, 21), (0, 22), (0, 23), (1, 0), (1, 1), (1, 2), (1, 3), (1, 4), (1, 5)] : List (Nat × Nat)) rfl (by decide +kernel)) (goodIn_app (good_rb bq_wsX8_ring ([(1, 6), (1, 7), (1, 8), (1, 9), (1, 10), (1, 11), (1, 12), (1, 13), (1, 14), (1, 15), (1, 16), (1, 17), (1, 18), (1, 19), (1, 20), (1, 21), (1, 22), (1, 23), (2, 0), (2, 1), (2, 2), (2, 3), (2, 4), (2, 5)] : List (Nat × Nat)) rfl (by decide +kernel)) (goodIn_app (good_rb bq_wsX8_ring ([(2, 6), (2, 7), (2, 8), (2, 9), (2, 10), (2, 11), (2, 12), (2, 13), (2, 14), (2, 15), (2, 16), (2, 17), (2, 18), (2, 19), (2, 20), (2, 21), (2, 22), (2, 23), (3, 0), (3, 1), (3, 2), (3, 3), (3, 4), (3, 5)] : List (Nat × Nat)) rfl (by decide +kernel)) (goodIn_app (good_rb bq_wsX8_ring ([(3, 6), (3, 7), (3, 8), (3, 9), (3, 10), (3, 11), (3, 12), (3, 13), (3, 14), (3, 15), (3, 16), (3, 17), (3, 18), (3, 19), (3, 20), (3, 21), (3, 22), (3, 23), (4, 0), (4, 1), (4, 2), (4, 3), (4, 4), (4, 5)] : List (Nat × Nat)) rfl (by decide +kernel)) (good_rb bq_wsX8_ring ([(4, 6), (4, 7), (4, 8), (4, 9), (4, 10), (4, 11), (4, 12), (4, 13), (4, 14), (4, 15), (4, 16), (4, 17), (4, 18), (4, 19), (4, 20), (4, 21), (4, 22), (4, 23)] : List (Nat × Nat)) rfl (by decide +kernel)))))) (goodIn_sb (fun _ h => (List.mem_cons_of_mem _ (List.mem_append_left _ (List.mem_append_left _ (List.mem_append_left _ (List.mem_append_right _ h)))))) (by decide +kernel))) (goodIn_sb (fun _ h => (List.mem_cons_of_mem _ (List.mem_append_left _ (List.mem_append_left _ (List.mem_append_right _ h))))) (by decide +kernel))) (goodIn_sb (fun _ h => (List.mem_cons_of_mem _ (List.mem_append_left _ (List.mem_append_right _ h)))) (by decide +kernel))) (goodIn_sb (fun _ h => (List.mem_cons_of_mem _ (List.mem_append_right _ h))) (by decide +kernel))))
set_option maxRecDepth 20000 in
theorem gX8_ring_X8_watchSixty : GoodIn wsX8_ring (wsV RX8 197 RX8 yX8_watchSixty wsX8_watchSixty) := goodIn_app (good_rp ([6, 7, 8, 9] : List Nat) rfl (by decide +kernel)) ggX8_ring_X8_watchSixty
set_option maxRecDepth 20000 in
theorem bq_wsX8_rise : subq wsX8_rise [wsX8_rise_r1, wsX8_rise_r2, wsX8_rise_r3] := ⟨(fun _ h => (List.mem_cons_of_mem _ (List.mem_append_left _ (List.mem_append_left _ (List.mem_append_left _ (List.mem_append_left _ (List.mem_append_left _ h))))))), (fun _ h => (List.mem_cons_of_mem _ (List.mem_append_left _ (List.mem_append_left _ (List.mem_append_left _ (List.mem_append_left _ (List.mem_append_right _ (List.mem_append_left _ h)))))))), (fun _ h => (List.mem_cons_of_mem _ (List.mem_append_left _ (List.mem_append_left _ (List.mem_append_left _ (List.mem_append_left _ (List.mem_append_right _ (List.mem_append_right _ h)))))))), trivial⟩
set_option maxRecDepth 20000 in
theorem ggX8_rise_X0_keep : GoodIn wsX8_rise wsX0_keep := (goodIn_cons (good_rb bq_wsX8_rise ([(0, 14)] : List (Nat × Nat)) rfl (by decide +kernel)) (goodIn_app (goodIn_app (good_rb bq_wsX8_rise ([(0, 15), (0, 16), (0, 17), (0, 18), (0, 19), (0, 20), (0, 21), (0, 22), (0, 23), (1, 0), (1, 1), (1, 2), (1, 3)] : List (Nat × Nat)) rfl (by decide +kernel)) (goodIn_sb (fun _ h => (List.mem_cons_of_mem _ (List.mem_append_right _ h))) (by decide +kernel))) (goodIn_sb (fun _ h => (List.mem_cons_of_mem _ (List.mem_append_left _ (List.mem_append_right _ h)))) (by decide +kernel))))
set_option maxRecDepth 20000 in
theorem gX8_rise_X0_keep : GoodIn wsX8_rise (wsV RX8 157 RX0 yX0_keep wsX0_keep) := goodIn_app (good_rp ([11, 12, 13, 14] : List Nat) rfl (by decide +kernel)) ggX8_rise_X0_keep
set_option maxRecDepth 20000 in
theorem ggX8_rise_X3_isDown : GoodIn wsX8_rise wsX3_isDown := (goodIn_cons (good_rb bq_wsX8_rise ([(0, 7)] : List (Nat × Nat)) rfl (by decide +kernel)) (goodIn_app (good_rb bq_wsX8_rise ([(0, 8), (0, 9)] : List (Nat × Nat)) rfl (by decide +kernel)) (goodIn_sb (fun _ h => (List.mem_cons_of_mem _ (List.mem_append_left _ (List.mem_append_right _ h)))) (by decide +kernel))))
set_option maxRecDepth 20000 in
theorem gX8_rise_X3_isDown : GoodIn wsX8_rise (wsV RX8 176 RX3 yX3_isDown wsX3_isDown) := goodIn_app (good_rp ([4, 5, 6, 7] : List Nat) rfl (by decide +kernel)) ggX8_rise_X3_isDown
set_option maxRecDepth 20000 in
theorem ggX8_rise_X3_seat : GoodIn wsX8_rise wsX3_seat := (goodIn_cons (good_rb bq_wsX8_rise ([(1, 7)] : List (Nat × Nat)) rfl (by decide +kernel)) (goodIn_app (good_rb bq_wsX8_rise ([(1, 8), (1, 9), (0, 9), (1, 10), (1, 11), (1, 12), (1, 13), (1, 14), (1, 15), (0, 6), (1, 16), (0, 8), (1, 17), (1, 18), (0, 4), (0, 5), (0, 7)] : List (Nat × Nat)) rfl (by decide +kernel)) (goodIn_sb (fun _ h => (List.mem_cons_of_mem _ (List.mem_append_left _ (List.mem_append_right _ h)))) (by decide +kernel))))
set_option maxRecDepth 20000 in
theorem gX8_rise_X3_seat : GoodIn wsX8_rise (wsV RX8 168 RX3 yX3_seat wsX3_seat) := goodIn_app (good_rp ([29, 30, 31, 7] : List Nat) rfl (by decide +kernel)) ggX8_rise_X3_seat
set_option maxRecDepth 20000 in
theorem ggX8_rise_X3_settle : GoodIn wsX8_rise wsX3_settle := (goodIn_cons (good_rb bq_wsX8_rise ([(1, 22)] : List (Nat × Nat)) rfl (by decide +kernel)) (goodIn_app (goodIn_app (good_rb bq_wsX8_rise ([(0, 9), (1, 17), (1, 23), (2, 0), (2, 1), (0, 6), (2, 2), (0, 8), (2, 3), (1, 9), (2, 4), (2, 5), (2, 6), (2, 7), (1, 8), (1, 10), (2, 8), (1, 11), (2, 9), (2, 10), (2, 11), (2, 12), (1, 12), (2, 13)] : List (Nat × Nat)) rfl (by decide +kernel)) (good_rb bq_wsX8_rise ([(2, 14), (2, 15), (2, 16), (1, 18), (0, 4), (0, 5), (0, 7)] : List (Nat × Nat)) rfl (by decide +kernel))) (goodIn_sb (fun _ h => (List.mem_cons_of_mem _ (List.mem_append_left _ (List.mem_append_right _ h)))) (by decide +kernel))))
set_option maxRecDepth 20000 in
theorem gX8_rise_X3_settle : GoodIn wsX8_rise (wsV RX8 172 RX3 yX3_settle wsX3_settle) := goodIn_app (good_rp ([44, 45, 46, 7] : List Nat) rfl (by decide +kernel)) ggX8_rise_X3_settle
set_option maxRecDepth 20000 in
theorem bq_wsX8_ruleInForce : subq wsX8_ruleInForce [[.fieldLink RX8 29 "ChairCane" "now" "LChairCane$Standing;", .fieldLink RX8 112 "ChairCane$Standing" "inForce" "I", .methodLink RX8 254 yX8_ruleAt, .instanceMethod yX8_ruleAt, .selects RX8 yX8_ruleAt yX8_ruleAt, .initialized RX8, .code yX8_ruleAt cX8_ruleAt 2 (some (.object "ChairCane$Rule")), .fieldLink RX8 22 "ChairCane" "ruleCount" "I", .fieldLink RX8 18 "ChairCane" "rules" "[LChairCane$Rule;"]] := ⟨(fun _ h => (List.mem_cons_of_mem _ (List.mem_append_left _ (List.mem_append_left _ h)))), trivial⟩
set_option maxRecDepth 20000 in
theorem ggX8_ruleInForce_X8_ruleAt : GoodIn wsX8_ruleInForce wsX8_ruleAt := (goodIn_cons (good_rb bq_wsX8_ruleInForce ([(0, 6)] : List (Nat × Nat)) rfl (by decide +kernel)) (goodIn_app (good_rb bq_wsX8_ruleInForce ([(0, 7), (0, 8)] : List (Nat × Nat)) rfl (by decide +kernel)) (goodIn_sb (fun _ h => (List.mem_cons_of_mem _ (List.mem_append_left _ (List.mem_append_right _ h)))) (by decide +kernel))))
set_option maxRecDepth 20000 in
theorem gX8_ruleInForce_X8_ruleAt : GoodIn wsX8_ruleInForce (wsV RX8 254 RX8 yX8_ruleAt wsX8_ruleAt) := goodIn_app (good_rp ([3, 4, 5, 6] : List Nat) rfl (by decide +kernel)) ggX8_ruleInForce_X8_ruleAt
set_option maxRecDepth 20000 in
theorem bq_wsX8_rule : subq wsX8_rule [wsX8_rule_r1, wsX8_rule_r2, wsX8_rule_r3, wsX8_rule_r4, wsX8_rule_r5, wsX8_rule_r6, wsX8_rule_r7, wsX8_rule_r8] := ⟨(fun _ h => (List.mem_cons_of_mem _ (List.mem_append_left _ (List.mem_append_left _ (List.mem_append_left _ (List.mem_append_left _ h)))))), (fun _ h => (List.mem_cons_of_mem _ (List.mem_append_left _ (List.mem_append_left _ (List.mem_append_left _ (List.mem_append_right _ (List.mem_append_left _ h))))))), (fun _ h => (List.mem_cons_of_mem _ (List.mem_append_left _ (List.mem_append_left _ (List.mem_append_left _ (List.mem_append_right _ (List.mem_append_right _ (List.mem_append_left _ h)))))))), (fun _ h => (List.mem_cons_of_mem _ (List.mem_append_left _ (List.mem_append_left _ (List.mem_append_left _ (List.mem_append_right _ (List.mem_append_right _ (List.mem_append_right _ (List.mem_append_left _ h))))))))), (fun _ h => (List.mem_cons_of_mem _ (List.mem_append_left _ (List.mem_append_left _ (List.mem_append_left _ (List.mem_append_right _ (List.mem_append_right _ (List.mem_append_right _ (List.mem_append_right _ (List.mem_append_left _ h)))))))))), (fun _ h => (List.mem_cons_of_mem _ (List.mem_append_left _ (List.mem_append_left _ (List.mem_append_left _ (List.mem_append_right _ (List.mem_append_right _ (List.mem_append_right _ (List.mem_append_right _ (List.mem_append_right _ (List.mem_append_left _ h))))))))))), (fun _ h => (List.mem_cons_of_mem _ (List.mem_append_left _ (List.mem_append_left _ (List.mem_append_left _ (List.mem_append_right _ (List.mem_append_right _ (List.mem_append_right _ (List.mem_append_right _ (List.mem_append_right _ (List.mem_append_right _ (List.mem_append_left _ h)))))))))))), (fun _ h => (List.mem_cons_of_mem _ (List.mem_append_left _ (List.mem_append_left _ (List.mem_append_left _ (List.mem_append_right _ (List.mem_append_right _ (List.mem_append_right _ (List.mem_append_right _ (List.mem_append_right _ (List.mem_append_right _ (List.mem_append_right _ h)))))))))))), trivial⟩
set_option maxRecDepth 20000 in
theorem ggX8_rule_X5_read : GoodIn wsX8_rule wsX5_read := (goodIn_cons (good_rb bq_wsX8_rule ([(0, 8)] : List (Nat × Nat)) rfl (by decide +kernel)) (goodIn_app (goodIn_app (goodIn_app (good_rb bq_wsX8_rule ([(0, 9), (0, 10), (0, 11), (0, 12), (0, 13), (0, 14), (0, 15), (0, 16), (0, 17), (0, 18), (0, 19), (0, 20), (0, 21), (0, 22), (0, 23), (1, 0), (1, 1), (1, 2), (1, 3), (1, 4), (1, 5), (1, 6), (1, 7), (1, 8)] : List (Nat × Nat)) rfl (by decide +kernel)) (goodIn_app (good_rb bq_wsX8_rule ([(1, 9), (1, 10), (1, 11), (1, 12), (1, 13), (1, 14), (1, 15), (1, 16), (1, 17), (1, 18), (1, 19), (1, 20), (1, 21), (1, 22), (1, 23), (2, 0), (2, 1), (2, 2), (2, 3), (2, 4), (2, 5), (2, 6), (2, 7), (2, 8)] : List (Nat × Nat)) rfl (by decide +kernel)) (goodIn_app (good_rb bq_wsX8_rule ([(2, 9), (2, 10), (2, 11), (2, 12), (2, 13), (2, 14), (2, 15), (2, 16), (2, 17), (2, 18), (2, 19), (2, 20), (2, 21), (2, 22), (2, 23), (3, 0), (3, 1), (3, 2), (3, 3), (3, 4), (3, 5), (3, 6), (3, 7), (3, 8)] : List (Nat × Nat)) rfl (by decide +kernel)) (goodIn_app (good_rb bq_wsX8_rule ([(3, 9), (3, 10), (3, 11), (3, 12), (3, 13), (3, 14), (3, 15), (3, 16), (3, 17), (3, 18), (3, 19), (3, 20), (3, 21), (3, 22), (3, 23), (4, 0), (4, 1), (4, 2), (4, 3), (4, 4), (4, 5), (4, 6), (4, 7), (4, 8)] : List (Nat × Nat)) rfl (by decide +kernel)) (goodIn_app (good_rb bq_wsX8_rule ([(4, 9), (4, 10), (4, 11), (4, 12), (4, 13), (4, 14), (4, 15), (4, 16), (4, 17), (4, 18), (4, 19), (4, 20), (4, 21), (4, 22), (0, 7), (4, 23), (5, 0), (5, 1), (5, 2), (5, 3), (5, 4), (5, 5), (5, 6), (5, 7)] : List (Nat × Nat)) rfl (by decide +kernel)) (goodIn_app (good_rb bq_wsX8_rule ([(5, 8), (5, 9), (5, 10), (5, 11), (5, 12), (5, 13), (5, 14), (5, 15), (5, 16), (5, 17), (5, 18), (5, 19), (5, 20), (5, 21), (5, 22), (5, 23), (6, 0), (6, 1), (6, 2), (6, 3), (6, 4), (6, 5), (6, 6), (6, 7)] : List (Nat × Nat)) rfl (by decide +kernel)) (good_rb bq_wsX8_rule ([(6, 8), (6, 9), (6, 10), (6, 11), (6, 12), (6, 13), (6, 14), (6, 15), (6, 16), (6, 17), (6, 18), (6, 19), (6, 20), (6, 21), (6, 22), (6, 23), (7, 0), (7, 1), (7, 2), (7, 3), (7, 4)] : List (Nat × Nat)) rfl (by decide +kernel)))))))) (goodIn_sb (fun _ h => (List.mem_cons_of_mem _ (List.mem_append_right _ h))) (by decide +kernel))) (goodIn_sb (fun _ h => (List.mem_cons_of_mem _ (List.mem_append_left _ (List.mem_append_right _ h)))) (by decide +kernel))))
set_option maxRecDepth 20000 in
theorem gX8_rule_X5_read : GoodIn wsX8_rule (va_wsS RX8 107 yX5_read wsX5_read) := goodIn_app (good_rp ([6, 7, 8] : List Nat) rfl (by decide +kernel)) ggX8_rule_X5_read
set_option maxRecDepth 20000 in
theorem bq_wsX8_sit : subq wsX8_sit [wsX8_sit_r1, wsX8_sit_r2, wsX8_sit_r3] := ⟨(fun _ h => (List.mem_cons_of_mem _ (List.mem_append_left _ (List.mem_append_left _ (List.mem_append_left _ (List.mem_append_left _ (List.mem_append_left _ h))))))), (fun _ h => (List.mem_cons_of_mem _ (List.mem_append_left _ (List.mem_append_left _ (List.mem_append_left _ (List.mem_append_left _ (List.mem_append_right _ (List.mem_append_left _ h)))))))), (fun _ h => (List.mem_cons_of_mem _ (List.mem_append_left _ (List.mem_append_left _ (List.mem_append_left _ (List.mem_append_left _ (List.mem_append_right _ (List.mem_append_right _ h)))))))), trivial⟩
set_option maxRecDepth 20000 in
theorem ggX8_sit_X0_keep : GoodIn wsX8_sit wsX0_keep := (goodIn_cons (good_rb bq_wsX8_sit ([(0, 19)] : List (Nat × Nat)) rfl (by decide +kernel)) (goodIn_app (goodIn_app (good_rb bq_wsX8_sit ([(0, 20), (0, 21), (0, 22), (0, 23), (1, 0), (1, 1), (1, 2), (1, 3), (1, 4), (1, 5), (1, 6), (1, 7), (1, 8)] : List (Nat × Nat)) rfl (by decide +kernel)) (goodIn_sb (fun _ h => (List.mem_cons_of_mem _ (List.mem_append_right _ h))) (by decide +kernel))) (goodIn_sb (fun _ h => (List.mem_cons_of_mem _ (List.mem_append_left _ (List.mem_append_right _ h)))) (by decide +kernel))))
set_option maxRecDepth 20000 in
theorem gX8_sit_X0_keep : GoodIn wsX8_sit (wsV RX8 157 RX0 yX0_keep wsX0_keep) := goodIn_app (good_rp ([16, 17, 18, 19] : List Nat) rfl (by decide +kernel)) ggX8_sit_X0_keep
set_option maxRecDepth 20000 in
theorem ggX8_sit_X3_seat : GoodIn wsX8_sit wsX3_seat := (goodIn_cons (good_rb bq_wsX8_sit ([(1, 12)] : List (Nat × Nat)) rfl (by decide +kernel)) (goodIn_app (good_rb bq_wsX8_sit ([(1, 13), (1, 14), (0, 9), (1, 15), (1, 16), (1, 17), (1, 18), (1, 19), (1, 20), (0, 6), (1, 21), (0, 14), (0, 8), (1, 22), (1, 23), (2, 0), (2, 1)] : List (Nat × Nat)) rfl (by decide +kernel)) (goodIn_sb (fun _ h => (List.mem_cons_of_mem _ (List.mem_append_left _ (List.mem_append_right _ h)))) (by decide +kernel))))
set_option maxRecDepth 20000 in
theorem gX8_sit_X3_seat : GoodIn wsX8_sit (wsV RX8 168 RX3 yX3_seat wsX3_seat) := goodIn_app (good_rp ([34, 35, 36, 7] : List Nat) rfl (by decide +kernel)) ggX8_sit_X3_seat
set_option maxRecDepth 20000 in
theorem ggX8_sit_X3_settle : GoodIn wsX8_sit wsX3_settle := (goodIn_cons (good_rb bq_wsX8_sit ([(2, 5)] : List (Nat × Nat)) rfl (by decide +kernel)) (goodIn_app (goodIn_app (good_rb bq_wsX8_sit ([(0, 9), (0, 8), (2, 6), (2, 7), (2, 8), (0, 6), (2, 9), (0, 14), (2, 10), (1, 14), (2, 11), (2, 12), (2, 13), (2, 14), (1, 13), (1, 15), (2, 15), (1, 16), (2, 16), (2, 17), (2, 18), (2, 19), (1, 17), (2, 20)] : List (Nat × Nat)) rfl (by decide +kernel)) (good_rb bq_wsX8_sit ([(2, 21), (2, 22), (2, 23), (1, 22), (1, 23), (2, 0), (2, 1)] : List (Nat × Nat)) rfl (by decide +kernel))) (goodIn_sb (fun _ h => (List.mem_cons_of_mem _ (List.mem_append_left _ (List.mem_append_right _ h)))) (by decide +kernel))))
set_option maxRecDepth 20000 in
theorem gX8_sit_X3_settle : GoodIn wsX8_sit (wsV RX8 172 RX3 yX3_settle wsX3_settle) := goodIn_app (good_rp ([51, 52, 53, 7] : List Nat) rfl (by decide +kernel)) ggX8_sit_X3_settle
set_option maxRecDepth 20000 in
theorem ggX8_sit_X3_stateOf : GoodIn wsX8_sit wsX3_stateOf := (goodIn_cons (good_rb bq_wsX8_sit ([(0, 7)] : List (Nat × Nat)) rfl (by decide +kernel)) (goodIn_app (good_rb bq_wsX8_sit ([(0, 8), (0, 9), (0, 10), (0, 11), (0, 12), (0, 6), (0, 13), (0, 14)] : List (Nat × Nat)) rfl (by decide +kernel)) (goodIn_sb (fun _ h => (List.mem_cons_of_mem _ (List.mem_append_left _ (List.mem_append_right _ h)))) (by decide +kernel))))
set_option maxRecDepth 20000 in
theorem gX8_sit_X3_stateOf : GoodIn wsX8_sit (wsV RX8 147 RX3 yX3_stateOf wsX3_stateOf) := goodIn_app (good_rp ([4, 5, 6, 7] : List Nat) rfl (by decide +kernel)) ggX8_sit_X3_stateOf
set_option maxRecDepth 20000 in
theorem bq_wsX8_sitter : subq wsX8_sitter [[.fieldLink RX8 29 "ChairCane" "now" "LChairCane$Standing;", .fieldLink RX8 81 "ChairCane$Standing" "room" "LChairCane$Room;", .fieldLink RX8 141 "ChairCane$Room" "chairOf" "[I", .fieldLink RX8 144 "ChairCane$Room" "weight" "[I", .methodLink RX8 138 yX3_hasSitter, .instanceMethod yX3_hasSitter, .selects RX3 yX3_hasSitter yX3_hasSitter, .initialized RX3, .code yX3_hasSitter cX3_hasSitter 2 (some .boolean), .fieldLink RX3 22 "ChairCane$Room" "sitters" "I", .methodLink RX8 147 yX3_stateOf, .instanceMethod yX3_stateOf, .selects RX3 yX3_stateOf yX3_stateOf, .code yX3_stateOf cX3_stateOf 2 (some .int), .fieldLink RX3 47 "ChairCane$Room" "dropped" "I", .fieldLink RX3 44 "ChairCane$Room" "sits" "I", .methodLink RX3 74 yX3_hasSitter]] := ⟨(fun _ h => (List.mem_cons_of_mem _ (List.mem_append_left _ (List.mem_append_left _ (List.mem_append_left _ h))))), trivial⟩
set_option maxRecDepth 20000 in
theorem ggX8_sitter_X3_hasSitter : GoodIn wsX8_sitter wsX3_hasSitter := (goodIn_cons (good_rb bq_wsX8_sitter ([(0, 8)] : List (Nat × Nat)) rfl (by decide +kernel)) (goodIn_app (good_rb bq_wsX8_sitter ([(0, 9)] : List (Nat × Nat)) rfl (by decide +kernel)) (goodIn_sb (fun _ h => (List.mem_cons_of_mem _ (List.mem_append_right _ h))) (by decide +kernel))))
set_option maxRecDepth 20000 in
theorem gX8_sitter_X3_hasSitter : GoodIn wsX8_sitter (wsV RX8 138 RX3 yX3_hasSitter wsX3_hasSitter) := goodIn_app (good_rp ([5, 6, 7, 8] : List Nat) rfl (by decide +kernel)) ggX8_sitter_X3_hasSitter
set_option maxRecDepth 20000 in
theorem ggX8_sitter_X3_stateOf : GoodIn wsX8_sitter wsX3_stateOf := (goodIn_cons (good_rb bq_wsX8_sitter ([(0, 13)] : List (Nat × Nat)) rfl (by decide +kernel)) (goodIn_app (good_rb bq_wsX8_sitter ([(0, 14), (0, 15), (0, 16), (0, 5), (0, 6), (0, 7), (0, 8), (0, 9)] : List (Nat × Nat)) rfl (by decide +kernel)) (goodIn_sb (fun _ h => (List.mem_cons_of_mem _ (List.mem_append_right _ h))) (by decide +kernel))))
set_option maxRecDepth 20000 in
theorem gX8_sitter_X3_stateOf : GoodIn wsX8_sitter (wsV RX8 147 RX3 yX3_stateOf wsX3_stateOf) := goodIn_app (good_rp ([11, 12, 13, 8] : List Nat) rfl (by decide +kernel)) ggX8_sitter_X3_stateOf
set_option maxRecDepth 20000 in
theorem bq_wsX8_strand : subq wsX8_strand [[.fieldLink RX8 29 "ChairCane" "now" "LChairCane$Standing;", .fieldLink RX8 81 "ChairCane$Standing" "room" "LChairCane$Room;", .fieldLink RX8 119 "ChairCane$Room" "cane" "[I", .methodLink RX8 115 yX3_hasStrand, .instanceMethod yX3_hasStrand, .selects RX3 yX3_hasStrand yX3_hasStrand, .initialized RX3, .code yX3_hasStrand cX3_hasStrand 2 (some .boolean), .fieldLink RX3 15 "ChairCane$Room" "strands" "I"]] := ⟨(fun _ h => (List.mem_cons_of_mem _ (List.mem_append_left _ (List.mem_append_left _ (List.mem_append_left _ h))))), trivial⟩
set_option maxRecDepth 20000 in
theorem ggX8_strand_X3_hasStrand : GoodIn wsX8_strand wsX3_hasStrand := (goodIn_cons (good_rb bq_wsX8_strand ([(0, 7)] : List (Nat × Nat)) rfl (by decide +kernel)) (goodIn_app (good_rb bq_wsX8_strand ([(0, 8)] : List (Nat × Nat)) rfl (by decide +kernel)) (goodIn_sb (fun _ h => (List.mem_cons_of_mem _ (List.mem_append_right _ h))) (by decide +kernel))))
set_option maxRecDepth 20000 in
theorem gX8_strand_X3_hasStrand : GoodIn wsX8_strand (wsV RX8 115 RX3 yX3_hasStrand wsX3_hasStrand) := goodIn_app (good_rp ([4, 5, 6, 7] : List Nat) rfl (by decide +kernel)) ggX8_strand_X3_hasStrand
set_option maxRecDepth 20000 in
theorem bq_wsX8_tall : subq wsX8_tall [wsX8_tall_r1, wsX8_tall_r2, wsX8_tall_r3, wsX8_tall_r4] := ⟨(fun _ h => (List.mem_cons_of_mem _ (List.mem_append_left _ (List.mem_append_left _ (List.mem_append_left _ (List.mem_append_left _ h)))))), (fun _ h => (List.mem_cons_of_mem _ (List.mem_append_left _ (List.mem_append_left _ (List.mem_append_left _ (List.mem_append_right _ (List.mem_append_left _ h))))))), (fun _ h => (List.mem_cons_of_mem _ (List.mem_append_left _ (List.mem_append_left _ (List.mem_append_left _ (List.mem_append_right _ (List.mem_append_right _ (List.mem_append_left _ h)))))))), (fun _ h => (List.mem_cons_of_mem _ (List.mem_append_left _ (List.mem_append_left _ (List.mem_append_left _ (List.mem_append_right _ (List.mem_append_right _ (List.mem_append_right _ h)))))))), trivial⟩
set_option maxRecDepth 20000 in
theorem ggX8_tall_J6_bitCount_0f7a4 : GoodIn wsX8_tall wsJ6_bitCount_0f7a4 := (goodIn_cons (good_rb bq_wsX8_tall ([(2, 23)] : List (Nat × Nat)) rfl (by decide +kernel)) (good_rb bq_wsX8_tall ([(3, 0), (3, 1), (3, 2)] : List (Nat × Nat)) rfl (by decide +kernel)))
set_option maxRecDepth 20000 in
theorem gX8_tall_J6_bitCount_0f7a4 : GoodIn wsX8_tall (va_wsS RX8 182 yJ6_bitCount_0f7a4 wsJ6_bitCount_0f7a4) := goodIn_app (good_rp ([69, 70, 71] : List Nat) rfl (by decide +kernel)) ggX8_tall_J6_bitCount_0f7a4
set_option maxRecDepth 20000 in
theorem ggX8_tall_X3_isDown : GoodIn wsX8_tall wsX3_isDown := (goodIn_cons (good_rb bq_wsX8_tall ([(0, 8)] : List (Nat × Nat)) rfl (by decide +kernel)) (goodIn_app (good_rb bq_wsX8_tall ([(0, 9), (0, 10)] : List (Nat × Nat)) rfl (by decide +kernel)) (goodIn_sb (fun _ h => (List.mem_cons_of_mem _ (List.mem_append_right _ h))) (by decide +kernel))))
set_option maxRecDepth 20000 in
theorem gX8_tall_X3_isDown : GoodIn wsX8_tall (wsV RX8 176 RX3 yX3_isDown wsX3_isDown) := goodIn_app (good_rp ([5, 6, 7, 8] : List Nat) rfl (by decide +kernel)) ggX8_tall_X3_isDown
set_option maxRecDepth 20000 in
theorem ggX8_tall_X8_felledBy : GoodIn wsX8_tall wsX8_felledBy := (goodIn_cons (good_rb bq_wsX8_tall ([(0, 15)] : List (Nat × Nat)) rfl (by decide +kernel)) (goodIn_app (goodIn_app (goodIn_app (goodIn_app (good_rb bq_wsX8_tall ([(0, 16), (0, 0), (0, 1), (0, 17), (0, 18), (0, 19), (0, 7), (0, 20), (0, 21), (0, 22), (0, 23), (0, 9), (1, 0), (1, 1), (1, 2), (1, 3), (1, 4), (1, 5), (1, 6), (1, 7), (1, 8), (1, 9), (1, 10), (1, 11)] : List (Nat × Nat)) rfl (by decide +kernel)) (goodIn_app (good_rb bq_wsX8_tall ([(0, 10), (1, 12), (1, 13), (1, 14), (1, 15), (1, 16), (1, 17), (1, 18), (1, 19), (1, 20), (1, 21), (1, 22), (1, 23), (0, 5), (0, 6), (0, 8), (2, 0), (2, 1), (2, 2), (2, 3), (2, 4), (2, 5), (2, 6), (2, 7)] : List (Nat × Nat)) rfl (by decide +kernel)) (good_rb bq_wsX8_tall ([(2, 8), (2, 9), (2, 10), (2, 11), (2, 12), (2, 13), (2, 14), (2, 15), (2, 16), (2, 17), (2, 18), (2, 19)] : List (Nat × Nat)) rfl (by decide +kernel)))) (goodIn_sb (fun _ h => (List.mem_cons_of_mem _ (List.mem_append_left _ (List.mem_append_left _ (List.mem_append_right _ h))))) (by decide +kernel))) (goodIn_sb (fun _ h => (List.mem_cons_of_mem _ (List.mem_append_left _ (List.mem_append_right _ h)))) (by decide +kernel))) (goodIn_sb (fun _ h => (List.mem_cons_of_mem _ (List.mem_append_right _ h))) (by decide +kernel))))
set_option maxRecDepth 20000 in
theorem gX8_tall_X8_felledBy : GoodIn wsX8_tall (wsV RX8 203 RX8 yX8_felledBy wsX8_felledBy) := goodIn_app (good_rp ([12, 13, 14, 15] : List Nat) rfl (by decide +kernel)) ggX8_tall_X8_felledBy
set_option maxRecDepth 20000 in
theorem bq_wsX8_undo : subq wsX8_undo [wsX8_undo_r1, wsX8_undo_r2] := ⟨(fun _ h => (List.mem_cons_of_mem _ (List.mem_append_left _ (List.mem_append_left _ (List.mem_append_left _ (List.mem_append_left _ (List.mem_append_left _ h))))))), (fun _ h => (List.mem_cons_of_mem _ (List.mem_append_left _ (List.mem_append_left _ (List.mem_append_left _ (List.mem_append_left _ (List.mem_append_right _ h))))))), trivial⟩
set_option maxRecDepth 20000 in
theorem ggX8_undo_X0_takeBack : GoodIn wsX8_undo wsX0_takeBack := (goodIn_cons (good_rb bq_wsX8_undo ([(0, 8)] : List (Nat × Nat)) rfl (by decide +kernel)) (goodIn_app (goodIn_app (goodIn_app (good_rb bq_wsX8_undo ([(0, 9), (0, 10), (0, 11), (0, 12), (0, 13), (0, 14), (0, 15), (0, 16), (0, 17), (0, 18), (0, 19), (0, 20), (0, 21), (0, 22), (0, 23), (1, 0), (1, 1), (1, 2), (1, 3), (1, 4), (1, 5), (1, 6), (1, 7), (1, 8)] : List (Nat × Nat)) rfl (by decide +kernel)) (good_rb bq_wsX8_undo ([(1, 9), (1, 10), (1, 11), (1, 12), (1, 13)] : List (Nat × Nat)) rfl (by decide +kernel))) (goodIn_sb (fun _ h => (List.mem_cons_of_mem _ (List.mem_append_left _ (List.mem_append_right _ h)))) (by decide +kernel))) (goodIn_sb (fun _ h => (List.mem_cons_of_mem _ (List.mem_append_right _ h))) (by decide +kernel))))
set_option maxRecDepth 20000 in
theorem gX8_undo_X0_takeBack : GoodIn wsX8_undo (wsV RX8 190 RX0 yX0_takeBack wsX0_takeBack) := goodIn_app (good_rp ([5, 6, 7, 8] : List Nat) rfl (by decide +kernel)) ggX8_undo_X0_takeBack
set_option maxRecDepth 20000 in
theorem bq_wsX8_watchSixty : subq wsX8_watchSixty [wsX8_watchSixty_r1, wsX8_watchSixty_r2, wsX8_watchSixty_r3, wsX8_watchSixty_r4, wsX8_watchSixty_r5] := ⟨(fun _ h => (List.mem_cons_of_mem _ (List.mem_append_left _ (List.mem_append_left _ (List.mem_append_left _ (List.mem_append_left _ (List.mem_append_left _ h))))))), (fun _ h => (List.mem_cons_of_mem _ (List.mem_append_left _ (List.mem_append_left _ (List.mem_append_left _ (List.mem_append_left _ (List.mem_append_right _ (List.mem_append_left _ h)))))))), (fun _ h => (List.mem_cons_of_mem _ (List.mem_append_left _ (List.mem_append_left _ (List.mem_append_left _ (List.mem_append_left _ (List.mem_append_right _ (List.mem_append_right _ (List.mem_append_left _ h))))))))), (fun _ h => (List.mem_cons_of_mem _ (List.mem_append_left _ (List.mem_append_left _ (List.mem_append_left _ (List.mem_append_left _ (List.mem_append_right _ (List.mem_append_right _ (List.mem_append_right _ (List.mem_append_left _ h)))))))))), (fun _ h => (List.mem_cons_of_mem _ (List.mem_append_left _ (List.mem_append_left _ (List.mem_append_left _ (List.mem_append_left _ (List.mem_append_right _ (List.mem_append_right _ (List.mem_append_right _ (List.mem_append_right _ h)))))))))), trivial⟩
set_option maxRecDepth 20000 in
theorem ggX8_watchSixty_X3_copyFrom : GoodIn wsX8_watchSixty wsX3_copyFrom := (goodIn_cons (good_rb bq_wsX8_watchSixty ([(0, 22)] : List (Nat × Nat)) rfl (by decide +kernel)) (goodIn_app (good_rb bq_wsX8_watchSixty ([(0, 23), (1, 0), (1, 1), (1, 2), (1, 3), (1, 4), (1, 5), (1, 6), (1, 7), (1, 8), (1, 9), (1, 10), (1, 11), (1, 12), (1, 13), (1, 14), (1, 15), (1, 16), (1, 17), (1, 18)] : List (Nat × Nat)) rfl (by decide +kernel)) (goodIn_sb (fun _ h => (List.mem_cons_of_mem _ (List.mem_append_left _ (List.mem_append_right _ h)))) (by decide +kernel))))
set_option maxRecDepth 20000 in
theorem gX8_watchSixty_X3_copyFrom : GoodIn wsX8_watchSixty (wsV RX8 84 RX3 yX3_copyFrom wsX3_copyFrom) := goodIn_app (good_rp ([19, 20, 21, 22] : List Nat) rfl (by decide +kernel)) ggX8_watchSixty_X3_copyFrom
set_option maxRecDepth 20000 in
theorem ggX8_watchSixty_X3_passMinute : GoodIn wsX8_watchSixty wsX3_passMinute := (goodIn_cons (good_rb bq_wsX8_watchSixty ([(1, 22)] : List (Nat × Nat)) rfl (by decide +kernel)) (goodIn_app (goodIn_app (goodIn_app (good_rb bq_wsX8_watchSixty ([(1, 2), (1, 18), (1, 23), (1, 17), (2, 0), (2, 1), (2, 2), (0, 21), (2, 3), (1, 9), (1, 10), (1, 15), (1, 13), (1, 11), (1, 14), (2, 4), (2, 5), (2, 6), (2, 7), (1, 16), (2, 8), (2, 9), (2, 10), (2, 11)] : List (Nat × Nat)) rfl (by decide +kernel)) (goodIn_app (good_rb bq_wsX8_watchSixty ([(2, 12), (2, 13), (2, 14), (2, 15), (2, 16), (2, 17), (2, 18), (2, 19), (2, 20), (2, 21), (2, 22), (2, 23), (3, 0), (3, 1), (3, 2), (3, 3), (3, 4), (3, 5), (3, 6), (3, 7), (1, 8), (1, 12), (3, 8), (3, 9)] : List (Nat × Nat)) rfl (by decide +kernel)) (goodIn_app (good_rb bq_wsX8_watchSixty ([(3, 10), (3, 11), (3, 12), (3, 13), (3, 14), (3, 15), (3, 16), (3, 17), (3, 18), (3, 19), (3, 20), (3, 21), (3, 22), (3, 23), (4, 0), (4, 1), (4, 2), (4, 3), (4, 4), (4, 5), (4, 6), (4, 7), (4, 8), (4, 9)] : List (Nat × Nat)) rfl (by decide +kernel)) (good_rb bq_wsX8_watchSixty ([(4, 10), (4, 11), (4, 12), (4, 13), (4, 14), (4, 15), (4, 16), (4, 17)] : List (Nat × Nat)) rfl (by decide +kernel))))) (goodIn_sb (fun _ h => (List.mem_cons_of_mem _ (List.mem_append_left _ (List.mem_append_right _ h)))) (by decide +kernel))) (goodIn_sb (fun _ h => (List.mem_cons_of_mem _ (List.mem_append_right _ h))) (by decide +kernel))))
set_option maxRecDepth 20000 in
theorem gX8_watchSixty_X3_passMinute : GoodIn wsX8_watchSixty (wsV RX8 164 RX3 yX3_passMinute wsX3_passMinute) := goodIn_app (good_rp ([44, 45, 46, 22] : List Nat) rfl (by decide +kernel)) ggX8_watchSixty_X3_passMinute
set_option maxRecDepth 20000 in
theorem ggX8_watchSixty_X8_ruleInForce : GoodIn wsX8_watchSixty wsX8_ruleInForce := (goodIn_cons (good_rb bq_wsX8_watchSixty ([(0, 10)] : List (Nat × Nat)) rfl (by decide +kernel)) (goodIn_app (goodIn_app (good_rb bq_wsX8_watchSixty ([(0, 1), (0, 11), (0, 12), (0, 13), (0, 14), (0, 9), (0, 15), (0, 16), (0, 17)] : List (Nat × Nat)) rfl (by decide +kernel)) (goodIn_sb (fun _ h => (List.mem_cons_of_mem _ (List.mem_append_left _ (List.mem_append_left _ (List.mem_append_left _ (List.mem_append_right _ h)))))) (by decide +kernel))) (goodIn_sb (fun _ h => (List.mem_cons_of_mem _ (List.mem_append_left _ (List.mem_append_left _ (List.mem_append_right _ h))))) (by decide +kernel))))
set_option maxRecDepth 20000 in
theorem gX8_watchSixty_X8_ruleInForce : GoodIn wsX8_watchSixty (wsV RX8 160 RX8 yX8_ruleInForce wsX8_ruleInForce) := goodIn_app (good_rp ([7, 8, 9, 10] : List Nat) rfl (by decide +kernel)) ggX8_watchSixty_X8_ruleInForce
set_option maxRecDepth 20000 in
theorem bq_wsX8_way : subq wsX8_way [wsX8_way_r1, wsX8_way_r2, wsX8_way_r3] := ⟨(fun _ h => (List.mem_cons_of_mem _ (List.mem_append_left _ (List.mem_append_left _ (List.mem_append_left _ (List.mem_append_left _ h)))))), (fun _ h => (List.mem_cons_of_mem _ (List.mem_append_left _ (List.mem_append_left _ (List.mem_append_left _ (List.mem_append_right _ (List.mem_append_left _ h))))))), (fun _ h => (List.mem_cons_of_mem _ (List.mem_append_left _ (List.mem_append_left _ (List.mem_append_left _ (List.mem_append_right _ (List.mem_append_right _ h))))))), trivial⟩
set_option maxRecDepth 20000 in
theorem ggX8_way_J6_bitCount_0f7a4 : GoodIn wsX8_way wsJ6_bitCount_0f7a4 := (goodIn_cons (good_rb bq_wsX8_way ([(0, 7)] : List (Nat × Nat)) rfl (by decide +kernel)) (good_rb bq_wsX8_way ([(0, 8), (0, 9), (0, 10)] : List (Nat × Nat)) rfl (by decide +kernel)))
set_option maxRecDepth 20000 in
theorem gX8_way_J6_bitCount_0f7a4 : GoodIn wsX8_way (va_wsS RX8 182 yJ6_bitCount_0f7a4 wsJ6_bitCount_0f7a4) := goodIn_app (good_rp ([5, 6, 7] : List Nat) rfl (by decide +kernel)) ggX8_way_J6_bitCount_0f7a4
set_option maxRecDepth 20000 in
theorem ggX8_way_X8_findSafeSets : GoodIn wsX8_way wsX8_findSafeSets := (goodIn_cons (good_rb bq_wsX8_way ([(0, 15)] : List (Nat × Nat)) rfl (by decide +kernel)) (goodIn_app (goodIn_app (goodIn_app (goodIn_app (good_rb bq_wsX8_way ([(0, 0), (0, 1), (0, 3), (0, 16), (0, 17), (0, 18), (0, 19), (0, 20), (0, 21), (0, 22), (0, 23), (1, 0), (1, 1), (1, 2), (1, 3), (1, 4), (1, 5), (1, 6), (1, 7), (1, 8), (1, 9), (1, 10), (1, 11), (1, 12)] : List (Nat × Nat)) rfl (by decide +kernel)) (goodIn_app (good_rb bq_wsX8_way ([(1, 13), (1, 14), (1, 15), (1, 16), (1, 17), (1, 18), (1, 19), (1, 20), (1, 21), (0, 14), (1, 22), (1, 23), (2, 0), (2, 1), (2, 2), (2, 3), (2, 4), (2, 5), (2, 6), (2, 7), (2, 8), (2, 9), (2, 10), (2, 11)] : List (Nat × Nat)) rfl (by decide +kernel)) (good_rb bq_wsX8_way ([(2, 12), (2, 13), (2, 14), (2, 15), (2, 16), (2, 17), (2, 18), (2, 19), (2, 20), (2, 21), (2, 22)] : List (Nat × Nat)) rfl (by decide +kernel)))) (goodIn_sb (fun _ h => (List.mem_cons_of_mem _ (List.mem_append_left _ (List.mem_append_left _ (List.mem_append_right _ h))))) (by decide +kernel))) (goodIn_sb (fun _ h => (List.mem_cons_of_mem _ (List.mem_append_left _ (List.mem_append_right _ h)))) (by decide +kernel))) (goodIn_sb (fun _ h => (List.mem_cons_of_mem _ (List.mem_append_right _ h))) (by decide +kernel))))
set_option maxRecDepth 20000 in
theorem gX8_way_X8_findSafeSets : GoodIn wsX8_way (wsV RX8 212 RX8 yX8_findSafeSets wsX8_findSafeSets) := goodIn_app (good_rp ([12, 13, 14, 15] : List Nat) rfl (by decide +kernel)) ggX8_way_X8_findSafeSets
set_option maxRecDepth 20000 in
theorem ggX8_way_X8_firstToRise : GoodIn wsX8_way wsX8_firstToRise := (goodIn_cons (good_rb bq_wsX8_way ([(1, 22)] : List (Nat × Nat)) rfl (by decide +kernel)) (goodIn_app (good_rb bq_wsX8_way ([(0, 17)] : List (Nat × Nat)) rfl (by decide +kernel)) (goodIn_sb (fun _ h => (List.mem_cons_of_mem _ (List.mem_append_left _ (List.mem_append_left _ (List.mem_append_right _ h))))) (by decide +kernel))))
set_option maxRecDepth 20000 in
theorem gX8_way_X8_firstToRise : GoodIn wsX8_way (wsV RX8 215 RX8 yX8_firstToRise wsX8_firstToRise) := goodIn_app (good_rp ([44, 45, 46, 15] : List Nat) rfl (by decide +kernel)) ggX8_way_X8_firstToRise
noncomputable def f_X8_drawOf (F : Nat)  (x0 : Int32)  : Option (Int32) :=
  some (x0 / 65536)
set_option maxRecDepth 20000 in
theorem bq_wsX8_drawOf : subq wsX8_drawOf [[.constant RX8 314 (65536)]] := ⟨(fun _ h => (List.mem_cons_of_mem _ h)), trivial⟩
set_option maxHeartbeats 4000000 in
set_option maxRecDepth 100000 in
theorem c_X8_drawOf (l : Launch) (D : va_G) (k : Nat → ClassId) (sz : Nat)   (F : Nat)  (x0 : Int32)   {res : Int32} (h : f_X8_drawOf F x0 = some res) : CtI l yX8_drawOf wsX8_drawOf (rmK 1 0 0) [.int x0] D k sz ([]) (fun r (_ : Unit) => r = res) (fun _ : Unit => []) 0 0 := by
  refine CtI.mk (cc := cX8_drawOf) (maxL := 1) (ret := (some .int)) (by decide) rfl (Nat.le_of_ble_eq_true rfl) ?_
  intro p e s m below meth c A ls E hP hD hS hl
  obtain ⟨hx, hb, hr, hml, hown, hts, hlocks, hin, hG, hA⟩ := E
  have hown : s.vm.findClass RX8 = some m.cls := hown
  have hl : lv_has ls 1 [(0, .int x0)] := hl
  refine lv_iload_n hx hb dX8_drawOf_0 rfl (lv_at hl 0 rfl) ?_
  refine lv_ldcw (v := 65536) hx hb hown (hts (.constant RX8 314 (65536)) (mem_b bq_wsX8_drawOf 0 0 rfl)) dX8_drawOf_1 ?_
  refine lv_idiv hx hb dX8_drawOf_4 (by decide) ?_
  exact fw_endI (rv := fun b : Int32 => b) (wp := fun b : Int32 => []) hx hb hr hlocks h rfl hP hD hS dX8_drawOf_5
noncomputable def f_X8_nextDrawn (F : Nat)  (x0 : Int32)  : Option (Int32) :=
  some (Int64.toInt32 ((((Int32.toInt64 x0) * 1103515245) + 12345) &&& 2147483647))
set_option maxRecDepth 20000 in
theorem bq_wsX8_nextDrawn : subq wsX8_nextDrawn [[.constantLong RX8 308 (1103515245), .constantLong RX8 310 (12345), .constantLong RX8 312 (2147483647)]] := ⟨(fun _ h => (List.mem_cons_of_mem _ h)), trivial⟩
set_option maxHeartbeats 4000000 in
set_option maxRecDepth 100000 in
theorem c_X8_nextDrawn (l : Launch) (D : va_G) (k : Nat → ClassId) (sz : Nat)   (F : Nat)  (x0 : Int32)   {res : Int32} (h : f_X8_nextDrawn F x0 = some res) : CtI l yX8_nextDrawn wsX8_nextDrawn (rmK 1 0 0) [.int x0] D k sz ([]) (fun r (_ : Unit) => r = res) (fun _ : Unit => []) 0 0 := by
  refine CtI.mk (cc := cX8_nextDrawn) (maxL := 1) (ret := (some .int)) (by decide) rfl (Nat.le_of_ble_eq_true rfl) ?_
  intro p e s m below meth c A ls E hP hD hS hl
  obtain ⟨hx, hb, hr, hml, hown, hts, hlocks, hin, hG, hA⟩ := E
  have hown : s.vm.findClass RX8 = some m.cls := hown
  have hl : lv_has ls 1 [(0, .int x0)] := hl
  refine lv_iload_n hx hb dX8_nextDrawn_0 rfl (lv_at hl 0 rfl) ?_
  refine lv_i2l hx hb dX8_nextDrawn_1 rfl ?_
  refine lv_ldc2 (v := 1103515245) hx hb hown (hts (.constantLong RX8 308 (1103515245)) (mem_b bq_wsX8_nextDrawn 0 0 rfl)) dX8_nextDrawn_2 ?_
  refine lv_lmul hx hb dX8_nextDrawn_5 ?_
  refine lv_ldc2 (v := 12345) hx hb hown (hts (.constantLong RX8 310 (12345)) (mem_b bq_wsX8_nextDrawn 0 1 rfl)) dX8_nextDrawn_6 ?_
  refine lv_ladd hx hb dX8_nextDrawn_9 ?_
  refine lv_ldc2 (v := 2147483647) hx hb hown (hts (.constantLong RX8 312 (2147483647)) (mem_b bq_wsX8_nextDrawn 0 2 rfl)) dX8_nextDrawn_10 ?_
  refine lv_land hx hb dX8_nextDrawn_13 ?_
  refine lv_l2i hx hb dX8_nextDrawn_14 rfl ?_
  exact fw_endI (rv := fun b : Int32 => b) (wp := fun b : Int32 => []) hx hb hr hlocks h rfl hP hD hS dX8_nextDrawn_15
noncomputable def f_X8_feed (F : Nat)  (x1 : Int32) (x2 : Int32) (x3 : Int32) (x4 : Int32) (x5 : Int32) (xi : Nat → Int32) (tp : OB) : Option (Int32 × OB) :=
  if ((tp.1 1) + 20) ≤ 400 then (Option.bind (f_X7_append F x1 tp) (fun q2 => (Option.bind (f_X7_append F x2 q2) (fun q3 => (Option.bind (f_X7_append F x3 q3) (fun q4 => (Option.bind (f_X7_append F x4 q4) (fun q5 => (Option.bind (f_X7_append F x5 q5) (fun q6 => (some ((q6.1 1), q6)))))))))))) else (some ((-1), tp))
set_option maxHeartbeats 4000000 in
set_option maxRecDepth 100000 in
theorem c_X8_feed (l : Launch) (D : va_G) (k : Nat → ClassId) (sz : Nat)  (xo : Nat → Nat) (ta : Nat → Nat) (xr : Nat) (sa : Nat → Nat) (xm : Nat) (xg : Nat) (tr : Nat → Nat) (xs : Nat) (xp : Nat) (xq : Nat) (xe : Nat) (xt : Nat) (F : Nat)  (x1 : Int32) (x2 : Int32) (x3 : Int32) (x4 : Int32) (x5 : Int32) (xi : Nat → Int32) (tp : OB)  {res : Int32 × OB} (h : f_X8_feed F x1 x2 x3 x4 x5 xi tp = some res) : CtI l yX8_feed wsX8_feed (rmK 2 0 0) [.ref (xo 0), .int x1, .int x2, .int x3, .int x4, .int x5] D k sz (([((xo 0), .inr (6, [.ref (ta 0), .ref xr, .int (xi 2), .ref (sa 0), .ref xm, .ref xg, .ref (tr 0), .ref xs, .ref xp, .ref xq, .ref xe, .ref xt]))] : va_W) ++ (tpW k ta tp)) (fun r (_ : Unit) => r = res.1) (fun _ : Unit => ([((xo 0), .inr (6, [.ref (ta 0), .ref xr, .int (xi 2), .ref (sa 0), .ref xm, .ref xg, .ref (tr 0), .ref xs, .ref xp, .ref xq, .ref xe, .ref xt]))] : va_W) ++ (tpW k ta res.2)) 0 0 := by
  refine CtI.mk (cc := cX8_feed) (maxL := 6) (ret := (some .int)) (by decide) rfl (Nat.le_of_ble_eq_true rfl) ?_
  intro p e s m below meth c A ls E hP hD hS hl
  obtain ⟨hx, hb, hr, hml, hown, hts, hlocks, hin, hG, hA⟩ := E
  have hown : s.vm.findClass RX8 = some m.cls := hown
  have in7 : ∀ w ∈ u_ws RX7 TX7 8, w ∈ wsX8_feed := fun _ h => List.mem_cons_of_mem _ (List.mem_append_right _ h)
  have in8 : ∀ w ∈ u_ws RX8 TX8 12, w ∈ wsX8_feed := fun _ h => List.mem_cons_of_mem _ (List.mem_append_left _ (List.mem_append_right _ h))
  have hl : lv_has ls 6 [(0, .ref (xo 0)), (1, .int x1), (2, .int x2), (3, .int x3), (4, .int x4), (5, .int x5)] := hl
  refine lv_aload_n hx hb dX8_feed_0 rfl (lv_at hl 0 rfl) ?_
  refine va_get (D := D) (ci := 6) (v := .ref (ta 0)) (C := RX8) (T := TX8) (N := 12) hx hb hts in8 hown hG.1 hP 0 rfl rfl 0 (by decide) (hts (.fieldLink RX8 10 "ChairCane" "tape" "LChairCane$Tape;") (mem_b bq_wsX8_feed 0 0 rfl)) (fun _ h9 => h9) rfl dX8_feed_1 ?_
  refine va_get (D := D) (ci := 5) (v := .int (tp.1 1)) (C := RX7) (T := TX7) (N := 8) hx hb hts in7 hown hG.1 hP 1 rfl rfl 1 (by decide) (hts (.fieldLink RX8 65 "ChairCane$Tape" "length" "I") (mem_b bq_wsX8_feed 0 1 rfl)) (fun _ h9 => h9) rfl dX8_feed_4 ?_
  refine lv_bipush (v := 20) hx hb dX8_feed_7 (by decide) ?_
  refine lv_iadd hx hb dX8_feed_9 ?_
  refine lv_sipush (v := 400) hx hb dX8_feed_10 (by decide) ?_
  refine lv_icmp_le (tgt := 18) hx hb dX8_feed_13 (by decide) (fun c1 => ?_) (fun c1 => ?_)
  · have h := fw_t c1 h
    refine lv_aload_n hx hb dX8_feed_18 rfl (lv_at hl 0 rfl) ?_
    refine va_get (D := D) (ci := 6) (v := .ref (ta 0)) (C := RX8) (T := TX8) (N := 12) hx hb hts in8 hown hG.1 hP 0 rfl rfl 0 (by decide) (hts (.fieldLink RX8 10 "ChairCane" "tape" "LChairCane$Tape;") (mem_b bq_wsX8_feed 0 0 rfl)) (fun _ h9 => h9) rfl dX8_feed_19 ?_
    refine lv_iload_n hx hb dX8_feed_22 rfl (lv_at hl 1 rfl) ?_
    obtain ⟨hP, hD⟩ := qm hP hD (q_to [([((xo 0), .inr (6, [.ref (ta 0), .ref xr, .int (xi 2), .ref (sa 0), .ref xm, .ref xg, .ref (tr 0), .ref xs, .ref xp, .ref xq, .ref xe, .ref xt]))] : va_W), tpW k ta tp] [0, 1] [1] [0] (by decide +kernel))
    refine fw_Vv (As := [.int x1]) (rest := []) (n := 1) (wp := fun b : OB => tpW k ta b) h hx hb hml hown hts hG hA hP hD hS hl.1 _ _ (fun q hq9 => c_X7_append l D k _  ta F x1 tp  hq9) (ci := 5) (q0 := 0) rfl rfl gX8_feed_X7_append rfl ⟨rfl, rfl, Nat.le_of_ble_eq_true rfl, Nat.le_of_ble_eq_true rfl⟩ (by decide +kernel) (q_l _ _) (q_r _ _) (q_nd _ _) ⟨rfl, rfl, Nat.le_of_ble_eq_true rfl, Nat.le_of_ble_eq_true rfl, Nat.le_of_ble_eq_true rfl⟩ dX8_feed_23 (fun q2 H locs h hP hD hS => ?_)
    obtain ⟨hP, hD⟩ := qm (w2 := ([((xo 0), .inr (6, [.ref (ta 0), .ref xr, .int (xi 2), .ref (sa 0), .ref xm, .ref xg, .ref (tr 0), .ref xs, .ref xp, .ref xq, .ref xe, .ref xt]))] : va_W) ++ (tpW k ta q2)) hP hD (q_from [([((xo 0), .inr (6, [.ref (ta 0), .ref xr, .int (xi 2), .ref (sa 0), .ref xm, .ref xg, .ref (tr 0), .ref xs, .ref xp, .ref xq, .ref xe, .ref xt]))] : va_W), tpW k ta q2] [0] [1] [0, 1] (by decide +kernel))
    refine lv_aload_n hx hb dX8_feed_26 rfl (lv_at hl 0 rfl) ?_
    refine va_get (D := D) (ci := 6) (v := .ref (ta 0)) (C := RX8) (T := TX8) (N := 12) hx hb hts in8 hown hG.1 hP 0 rfl rfl 0 (by decide) (hts (.fieldLink RX8 10 "ChairCane" "tape" "LChairCane$Tape;") (mem_b bq_wsX8_feed 0 0 rfl)) (fun _ h9 => h9) rfl dX8_feed_27 ?_
    refine lv_iload_n hx hb dX8_feed_30 rfl (lv_at hl 2 rfl) ?_
    obtain ⟨hP, hD⟩ := qm hP hD (q_to [([((xo 0), .inr (6, [.ref (ta 0), .ref xr, .int (xi 2), .ref (sa 0), .ref xm, .ref xg, .ref (tr 0), .ref xs, .ref xp, .ref xq, .ref xe, .ref xt]))] : va_W), tpW k ta q2] [0, 1] [1] [0] (by decide +kernel))
    refine fw_Vv (As := [.int x2]) (rest := []) (n := 1) (wp := fun b : OB => tpW k ta b) h hx hb hml hown hts hG hA hP hD hS hl.1 _ _ (fun q hq9 => c_X7_append l D k _  ta F x2 q2  hq9) (ci := 5) (q0 := 0) rfl rfl gX8_feed_X7_append rfl ⟨rfl, rfl, Nat.le_of_ble_eq_true rfl, Nat.le_of_ble_eq_true rfl⟩ (by decide +kernel) (q_l _ _) (q_r _ _) (q_nd _ _) ⟨rfl, rfl, Nat.le_of_ble_eq_true rfl, Nat.le_of_ble_eq_true rfl, Nat.le_of_ble_eq_true rfl⟩ dX8_feed_31 (fun q3 H locs h hP hD hS => ?_)
    obtain ⟨hP, hD⟩ := qm (w2 := ([((xo 0), .inr (6, [.ref (ta 0), .ref xr, .int (xi 2), .ref (sa 0), .ref xm, .ref xg, .ref (tr 0), .ref xs, .ref xp, .ref xq, .ref xe, .ref xt]))] : va_W) ++ (tpW k ta q3)) hP hD (q_from [([((xo 0), .inr (6, [.ref (ta 0), .ref xr, .int (xi 2), .ref (sa 0), .ref xm, .ref xg, .ref (tr 0), .ref xs, .ref xp, .ref xq, .ref xe, .ref xt]))] : va_W), tpW k ta q3] [0] [1] [0, 1] (by decide +kernel))
    refine lv_aload_n hx hb dX8_feed_34 rfl (lv_at hl 0 rfl) ?_
    refine va_get (D := D) (ci := 6) (v := .ref (ta 0)) (C := RX8) (T := TX8) (N := 12) hx hb hts in8 hown hG.1 hP 0 rfl rfl 0 (by decide) (hts (.fieldLink RX8 10 "ChairCane" "tape" "LChairCane$Tape;") (mem_b bq_wsX8_feed 0 0 rfl)) (fun _ h9 => h9) rfl dX8_feed_35 ?_
    refine lv_iload_n hx hb dX8_feed_38 rfl (lv_at hl 3 rfl) ?_
    obtain ⟨hP, hD⟩ := qm hP hD (q_to [([((xo 0), .inr (6, [.ref (ta 0), .ref xr, .int (xi 2), .ref (sa 0), .ref xm, .ref xg, .ref (tr 0), .ref xs, .ref xp, .ref xq, .ref xe, .ref xt]))] : va_W), tpW k ta q3] [0, 1] [1] [0] (by decide +kernel))
    refine fw_Vv (As := [.int x3]) (rest := []) (n := 1) (wp := fun b : OB => tpW k ta b) h hx hb hml hown hts hG hA hP hD hS hl.1 _ _ (fun q hq9 => c_X7_append l D k _  ta F x3 q3  hq9) (ci := 5) (q0 := 0) rfl rfl gX8_feed_X7_append rfl ⟨rfl, rfl, Nat.le_of_ble_eq_true rfl, Nat.le_of_ble_eq_true rfl⟩ (by decide +kernel) (q_l _ _) (q_r _ _) (q_nd _ _) ⟨rfl, rfl, Nat.le_of_ble_eq_true rfl, Nat.le_of_ble_eq_true rfl, Nat.le_of_ble_eq_true rfl⟩ dX8_feed_39 (fun q4 H locs h hP hD hS => ?_)
    obtain ⟨hP, hD⟩ := qm (w2 := ([((xo 0), .inr (6, [.ref (ta 0), .ref xr, .int (xi 2), .ref (sa 0), .ref xm, .ref xg, .ref (tr 0), .ref xs, .ref xp, .ref xq, .ref xe, .ref xt]))] : va_W) ++ (tpW k ta q4)) hP hD (q_from [([((xo 0), .inr (6, [.ref (ta 0), .ref xr, .int (xi 2), .ref (sa 0), .ref xm, .ref xg, .ref (tr 0), .ref xs, .ref xp, .ref xq, .ref xe, .ref xt]))] : va_W), tpW k ta q4] [0] [1] [0, 1] (by decide +kernel))
    refine lv_aload_n hx hb dX8_feed_42 rfl (lv_at hl 0 rfl) ?_
    refine va_get (D := D) (ci := 6) (v := .ref (ta 0)) (C := RX8) (T := TX8) (N := 12) hx hb hts in8 hown hG.1 hP 0 rfl rfl 0 (by decide) (hts (.fieldLink RX8 10 "ChairCane" "tape" "LChairCane$Tape;") (mem_b bq_wsX8_feed 0 0 rfl)) (fun _ h9 => h9) rfl dX8_feed_43 ?_
    refine lv_iload hx hb dX8_feed_46 (lv_at hl 4 rfl) ?_
    obtain ⟨hP, hD⟩ := qm hP hD (q_to [([((xo 0), .inr (6, [.ref (ta 0), .ref xr, .int (xi 2), .ref (sa 0), .ref xm, .ref xg, .ref (tr 0), .ref xs, .ref xp, .ref xq, .ref xe, .ref xt]))] : va_W), tpW k ta q4] [0, 1] [1] [0] (by decide +kernel))
    refine fw_Vv (As := [.int x4]) (rest := []) (n := 1) (wp := fun b : OB => tpW k ta b) h hx hb hml hown hts hG hA hP hD hS hl.1 _ _ (fun q hq9 => c_X7_append l D k _  ta F x4 q4  hq9) (ci := 5) (q0 := 0) rfl rfl gX8_feed_X7_append rfl ⟨rfl, rfl, Nat.le_of_ble_eq_true rfl, Nat.le_of_ble_eq_true rfl⟩ (by decide +kernel) (q_l _ _) (q_r _ _) (q_nd _ _) ⟨rfl, rfl, Nat.le_of_ble_eq_true rfl, Nat.le_of_ble_eq_true rfl, Nat.le_of_ble_eq_true rfl⟩ dX8_feed_48 (fun q5 H locs h hP hD hS => ?_)
    obtain ⟨hP, hD⟩ := qm (w2 := ([((xo 0), .inr (6, [.ref (ta 0), .ref xr, .int (xi 2), .ref (sa 0), .ref xm, .ref xg, .ref (tr 0), .ref xs, .ref xp, .ref xq, .ref xe, .ref xt]))] : va_W) ++ (tpW k ta q5)) hP hD (q_from [([((xo 0), .inr (6, [.ref (ta 0), .ref xr, .int (xi 2), .ref (sa 0), .ref xm, .ref xg, .ref (tr 0), .ref xs, .ref xp, .ref xq, .ref xe, .ref xt]))] : va_W), tpW k ta q5] [0] [1] [0, 1] (by decide +kernel))
    refine lv_aload_n hx hb dX8_feed_51 rfl (lv_at hl 0 rfl) ?_
    refine va_get (D := D) (ci := 6) (v := .ref (ta 0)) (C := RX8) (T := TX8) (N := 12) hx hb hts in8 hown hG.1 hP 0 rfl rfl 0 (by decide) (hts (.fieldLink RX8 10 "ChairCane" "tape" "LChairCane$Tape;") (mem_b bq_wsX8_feed 0 0 rfl)) (fun _ h9 => h9) rfl dX8_feed_52 ?_
    refine lv_iload hx hb dX8_feed_55 (lv_at hl 5 rfl) ?_
    obtain ⟨hP, hD⟩ := qm hP hD (q_to [([((xo 0), .inr (6, [.ref (ta 0), .ref xr, .int (xi 2), .ref (sa 0), .ref xm, .ref xg, .ref (tr 0), .ref xs, .ref xp, .ref xq, .ref xe, .ref xt]))] : va_W), tpW k ta q5] [0, 1] [1] [0] (by decide +kernel))
    refine fw_Vv (As := [.int x5]) (rest := []) (n := 1) (wp := fun b : OB => tpW k ta b) h hx hb hml hown hts hG hA hP hD hS hl.1 _ _ (fun q hq9 => c_X7_append l D k _  ta F x5 q5  hq9) (ci := 5) (q0 := 0) rfl rfl gX8_feed_X7_append rfl ⟨rfl, rfl, Nat.le_of_ble_eq_true rfl, Nat.le_of_ble_eq_true rfl⟩ (by decide +kernel) (q_l _ _) (q_r _ _) (q_nd _ _) ⟨rfl, rfl, Nat.le_of_ble_eq_true rfl, Nat.le_of_ble_eq_true rfl, Nat.le_of_ble_eq_true rfl⟩ dX8_feed_57 (fun q6 H locs h hP hD hS => ?_)
    obtain ⟨hP, hD⟩ := qm (w2 := ([((xo 0), .inr (6, [.ref (ta 0), .ref xr, .int (xi 2), .ref (sa 0), .ref xm, .ref xg, .ref (tr 0), .ref xs, .ref xp, .ref xq, .ref xe, .ref xt]))] : va_W) ++ (tpW k ta q6)) hP hD (q_from [([((xo 0), .inr (6, [.ref (ta 0), .ref xr, .int (xi 2), .ref (sa 0), .ref xm, .ref xg, .ref (tr 0), .ref xs, .ref xp, .ref xq, .ref xe, .ref xt]))] : va_W), tpW k ta q6] [0] [1] [0, 1] (by decide +kernel))
    refine lv_aload_n hx hb dX8_feed_60 rfl (lv_at hl 0 rfl) ?_
    refine va_get (D := D) (ci := 6) (v := .ref (ta 0)) (C := RX8) (T := TX8) (N := 12) hx hb hts in8 hown hG.1 hP 0 rfl rfl 0 (by decide) (hts (.fieldLink RX8 10 "ChairCane" "tape" "LChairCane$Tape;") (mem_b bq_wsX8_feed 0 0 rfl)) (fun _ h9 => h9) rfl dX8_feed_61 ?_
    refine va_get (D := D) (ci := 5) (v := .int (q6.1 1)) (C := RX7) (T := TX7) (N := 8) hx hb hts in7 hown hG.1 hP 1 rfl rfl 1 (by decide) (hts (.fieldLink RX8 65 "ChairCane$Tape" "length" "I") (mem_b bq_wsX8_feed 0 1 rfl)) (fun _ h9 => h9) rfl dX8_feed_64 ?_
    exact fw_endI (rv := fun b : Int32 × OB => b.1) (wp := fun b : Int32 × OB => ([((xo 0), .inr (6, [.ref (ta 0), .ref xr, .int (xi 2), .ref (sa 0), .ref xm, .ref xg, .ref (tr 0), .ref xs, .ref xp, .ref xq, .ref xe, .ref xt]))] : va_W) ++ (tpW k ta b.2)) hx hb hr hlocks h rfl hP hD hS dX8_feed_67
  · have h := fw_f c1 h
    refine lv_iconst (v := (-1)) hx hb dX8_feed_16 (by decide) ?_
    exact fw_endI (rv := fun b : Int32 × OB => b.1) (wp := fun b : Int32 × OB => ([((xo 0), .inr (6, [.ref (ta 0), .ref xr, .int (xi 2), .ref (sa 0), .ref xm, .ref xg, .ref (tr 0), .ref xs, .ref xp, .ref xq, .ref xe, .ref xt]))] : va_W) ++ (tpW k ta b.2)) hx hb hr hlocks h rfl hP hD hS dX8_feed_17
noncomputable def b_X8_end_15 (F : Nat)  (xi : Nat → Int32)  (tp : OB) : Option (Int32 × OB) :=
  some ((-1), tp)
noncomputable def f_X8_end (F : Nat)  (x1 : Int32) (xi : Nat → Int32) (tp : OB) : Option (Int32 × OB) :=
  if x1 < 0 then (b_X8_end_15 F xi tp) else (if x1 ≤ (tp.1 1) then (some (x1, ((uF tp.1 1 x1), tp.2.1, tp.2.2))) else (b_X8_end_15 F xi tp))
set_option maxRecDepth 20000 in
theorem bq_wsX8_end : subq wsX8_end [[.fieldLink RX8 10 "ChairCane" "tape" "LChairCane$Tape;", .fieldLink RX8 65 "ChairCane$Tape" "length" "I"]] := ⟨(fun _ h => (List.mem_cons_of_mem _ (List.mem_append_left _ (List.mem_append_left _ h)))), trivial⟩
set_option maxHeartbeats 4000000 in
set_option maxRecDepth 100000 in
theorem c_X8_end (l : Launch) (D : va_G) (k : Nat → ClassId) (sz : Nat)  (xo : Nat → Nat) (ta : Nat → Nat) (xr : Nat) (sa : Nat → Nat) (xm : Nat) (xg : Nat) (tr : Nat → Nat) (xs : Nat) (xp : Nat) (xq : Nat) (xe : Nat) (xt : Nat) (F : Nat)  (x1 : Int32) (xi : Nat → Int32) (tp : OB)  {res : Int32 × OB} (h : f_X8_end F x1 xi tp = some res) : CtI l yX8_end wsX8_end (rmK 1 0 0) [.ref (xo 0), .int x1] D k sz (([((xo 0), .inr (6, [.ref (ta 0), .ref xr, .int (xi 2), .ref (sa 0), .ref xm, .ref xg, .ref (tr 0), .ref xs, .ref xp, .ref xq, .ref xe, .ref xt]))] : va_W) ++ (tpW k ta tp)) (fun r (_ : Unit) => r = res.1) (fun _ : Unit => ([((xo 0), .inr (6, [.ref (ta 0), .ref xr, .int (xi 2), .ref (sa 0), .ref xm, .ref xg, .ref (tr 0), .ref xs, .ref xp, .ref xq, .ref xe, .ref xt]))] : va_W) ++ (tpW k ta res.2)) 0 0 := by
  refine CtI.mk (cc := cX8_end) (maxL := 2) (ret := (some .int)) (by decide) rfl (Nat.le_of_ble_eq_true rfl) ?_
  intro p e s m below meth c A ls E hP hD hS hl
  obtain ⟨hx, hb, hr, hml, hown, hts, hlocks, hin, hG, hA⟩ := E
  have hown : s.vm.findClass RX8 = some m.cls := hown
  have in7 : ∀ w ∈ u_ws RX7 TX7 8, w ∈ wsX8_end := fun _ h => List.mem_cons_of_mem _ (List.mem_append_right _ h)
  have in8 : ∀ w ∈ u_ws RX8 TX8 12, w ∈ wsX8_end := fun _ h => List.mem_cons_of_mem _ (List.mem_append_left _ (List.mem_append_right _ h))
  have hl : lv_has ls 2 [(0, .ref (xo 0)), (1, .int x1)] := hl
  have B15 : ∀ (tp : OB) (H : Heap) (locs : List Loc) (ls : Array Slot), b_X8_end_15 F xi tp = some res → va_P D vwCl (([((xo 0), .inr (6, [.ref (ta 0), .ref xr, .int (xi 2), .ref (sa 0), .ref xm, .ref xg, .ref (tr 0), .ref xs, .ref xp, .ref xq, .ref xe, .ref xt]))] : va_W) ++ (tpW k ta tp)) H → va_D A (([((xo 0), .inr (6, [.ref (ta 0), .ref xr, .int (xi 2), .ref (sa 0), .ref xm, .ref xg, .ref (tr 0), .ref xs, .ref xp, .ref xq, .ref xe, .ref xt]))] : va_W) ++ (tpW k ta tp)) → va_S A s.heap H locs → lv_has ls 2 [] → W p l e (rmK 1 0 0) s m (List.toArray [.ref (xo 0), .int x1]) below meth c H locs 0 0 (MQ below (va_Qi (fun r (_ : Unit) => r = res.1) (hcB D (fun _ : Unit => ([((xo 0), .inr (6, [.ref (ta 0), .ref xr, .int (xi 2), .ref (sa 0), .ref xm, .ref xg, .ref (tr 0), .ref xs, .ref xp, .ref xq, .ref xe, .ref xt]))] : va_W) ++ (tpW k ta res.2)) A) A) (List.toArray [.ref (xo 0), .int x1]) s 0 0 A) (F0 m 15 ls []) := by
    intro tp H locs ls h hP hD hS hl
    refine lv_iconst (v := (-1)) hx hb dX8_end_15 (by decide) ?_
    exact fw_endI (rv := fun b : Int32 × OB => b.1) (wp := fun b : Int32 × OB => ([((xo 0), .inr (6, [.ref (ta 0), .ref xr, .int (xi 2), .ref (sa 0), .ref xm, .ref xg, .ref (tr 0), .ref xs, .ref xp, .ref xq, .ref xe, .ref xt]))] : va_W) ++ (tpW k ta b.2)) hx hb hr hlocks h rfl hP hD hS dX8_end_16
  refine lv_iload_n hx hb dX8_end_0 rfl (lv_at hl 1 rfl) ?_
  refine lv_if_lt (tgt := 15) hx hb dX8_end_1 (by decide) (fun c1 => ?_) (fun c1 => ?_)
  · have h := fw_t c1 h
    exact B15 _ _ _ _ h hP hD hS (lv_sub hl [] rfl)
  · have h := fw_f c1 h
    refine lv_iload_n hx hb dX8_end_4 rfl (lv_at hl 1 rfl) ?_
    refine lv_aload_n hx hb dX8_end_5 rfl (lv_at hl 0 rfl) ?_
    refine va_get (D := D) (ci := 6) (v := .ref (ta 0)) (C := RX8) (T := TX8) (N := 12) hx hb hts in8 hown hG.1 hP 0 rfl rfl 0 (by decide) (hts (.fieldLink RX8 10 "ChairCane" "tape" "LChairCane$Tape;") (mem_b bq_wsX8_end 0 0 rfl)) (fun _ h9 => h9) rfl dX8_end_6 ?_
    refine va_get (D := D) (ci := 5) (v := .int (tp.1 1)) (C := RX7) (T := TX7) (N := 8) hx hb hts in7 hown hG.1 hP 1 rfl rfl 1 (by decide) (hts (.fieldLink RX8 65 "ChairCane$Tape" "length" "I") (mem_b bq_wsX8_end 0 1 rfl)) (fun _ h9 => h9) rfl dX8_end_9 ?_
    refine lv_icmp_le (tgt := 17) hx hb dX8_end_12 (by decide) (fun c2 => ?_) (fun c2 => ?_)
    · have h := fw_t c2 h
      refine lv_aload_n hx hb dX8_end_17 rfl (lv_at hl 0 rfl) ?_
      refine va_get (D := D) (ci := 6) (v := .ref (ta 0)) (C := RX8) (T := TX8) (N := 12) hx hb hts in8 hown hG.1 hP 0 rfl rfl 0 (by decide) (hts (.fieldLink RX8 10 "ChairCane" "tape" "LChairCane$Tape;") (mem_b bq_wsX8_end 0 0 rfl)) (fun _ h9 => h9) rfl dX8_end_18 ?_
      refine lv_iload_n hx hb dX8_end_21 rfl (lv_at hl 1 rfl) ?_
      refine va_put (D := D) (ci := 5) (v := .int x1) (C := RX7) (T := TX7) (N := 8) hx hb hts in7 tyX7 tyX7_ok nmX7 hown hG.1 hP hD hS 1 rfl rfl 1 (by decide) (hts (.fieldLink RX8 65 "ChairCane$Tape" "length" "I") (mem_b bq_wsX8_end 0 1 rfl)) (fun _ h9 => h9) rfl (tyX7_ok 1 (by decide)) rfl rfl (Nat.le_of_ble_eq_true rfl) dX8_end_22 (fun H locs hP hD hS => ?_)
      refine lv_iload_n hx hb dX8_end_25 rfl (lv_at hl 1 rfl) ?_
      exact fw_endI (rv := fun b : Int32 × OB => b.1) (wp := fun b : Int32 × OB => ([((xo 0), .inr (6, [.ref (ta 0), .ref xr, .int (xi 2), .ref (sa 0), .ref xm, .ref xg, .ref (tr 0), .ref xs, .ref xp, .ref xq, .ref xe, .ref xt]))] : va_W) ++ (tpW k ta b.2)) hx hb hr hlocks h rfl hP hD hS dX8_end_26
    · have h := fw_f c2 h
      exact B15 _ _ _ _ h hP hD hS (lv_sub hl [] rfl)
noncomputable def f_X8_hall (F : Nat)   (xi : Nat → Int32) (tp : OB) (si : Nat → Int32) (rm : OB) (ac : OB) (nt : OB) (tm : OB) : Option (Int32 × OB × OB × OB × OB × OB) :=
  Option.bind (f_X1_read F tp tm) (fun q1 => (if q1.1 = 0 then (some (((-2) - (q1.2.1.1 7)), ((uF q1.2.1.1 1 0), q1.2.1.2.1, q1.2.1.2.2), rm, ac, nt, q1.2.2)) else (Option.bind (f_X3_copyFrom F rm q1.2.2) (fun q3 => (Option.bind (f_X0_forget F ac) (fun q4 => (Option.bind (f_X2_forget F nt) (fun q5 => (some ((q3.1 3), ((uF q1.2.1.1 1 0), q1.2.1.2.1, q1.2.1.2.2), q3, q4, q5, q1.2.2))))))))))
set_option maxHeartbeats 4000000 in
set_option maxRecDepth 100000 in
theorem c_X8_hall (l : Launch) (D : va_G) (k : Nat → ClassId) (sz : Nat) (ad tv : Nat → Nat) (xo : Nat → Nat) (ta : Nat → Nat) (xr : Nat) (sa : Nat → Nat) (xm : Nat) (xg : Nat) (tr : Nat → Nat) (xs : Nat) (xp : Nat) (xq : Nat) (xe : Nat) (xt : Nat) (xa : Nat → Nat) (ca : Nat → Nat) (na : Nat → Nat) (F : Nat)   (xi : Nat → Int32) (tp : OB) (si : Nat → Int32) (rm : OB) (ac : OB) (nt : OB) (tm : OB)  {res : Int32 × OB × OB × OB × OB × OB} (h : f_X8_hall F xi tp si rm ac nt tm = some res) : CtIE l yX8_hall wsX8_hall (rmK 10 0 0) [.ref (xo 0)] D k (EX ad tv) sz (([((xo 0), .inr (6, [.ref (ta 0), .ref xr, .int (xi 2), .ref (sa 0), .ref xm, .ref xg, .ref (tr 0), .ref xs, .ref xp, .ref xq, .ref xe, .ref xt]))] : va_W) ++ (tpW k ta tp ++ (([((sa 0), .inr (4, [.ref (xa 0), .ref (ca 0), .ref (na 0), .int (si 3), .int (si 4)]))] : va_W) ++ (rmW k xa rm ++ (acW k ca ac ++ (ntW k na nt ++ (rmW k tr tm))))))) (fun r (_ : Unit) => r = res.1) (fun _ : Unit => ([((xo 0), .inr (6, [.ref (ta 0), .ref xr, .int (xi 2), .ref (sa 0), .ref xm, .ref xg, .ref (tr 0), .ref xs, .ref xp, .ref xq, .ref xe, .ref xt]))] : va_W) ++ (tpW k ta res.2.1 ++ (([((sa 0), .inr (4, [.ref (xa 0), .ref (ca 0), .ref (na 0), .int (si 3), .int (si 4)]))] : va_W) ++ (rmW k xa res.2.2.1 ++ (acW k ca res.2.2.2.1 ++ (ntW k na res.2.2.2.2.1 ++ (rmW k tr res.2.2.2.2.2))))))) 0 0 := by
  refine CtIE.mk (cc := cX8_hall) (maxL := 3) (ret := (some .int)) (by decide) rfl (Nat.le_of_ble_eq_true rfl) ?_
  intro p e s m below meth c A ls hE E hP hD hS hl
  obtain ⟨hx, hb, hr, hml, hown, hts, hlocks, hin, hG, hA⟩ := E
  have hown : s.vm.findClass RX8 = some m.cls := hown
  have in0 : ∀ w ∈ u_ws RX0 TX0 5, w ∈ wsX8_hall := fun _ h => List.mem_cons_of_mem _ (List.mem_append_left _ (List.mem_append_right _ h))
  have in2 : ∀ w ∈ u_ws RX2 TX2 4, w ∈ wsX8_hall := fun _ h => List.mem_cons_of_mem _ (List.mem_append_right _ h)
  have in3 : ∀ w ∈ u_ws RX3 TX3 17, w ∈ wsX8_hall := fun _ h => List.mem_cons_of_mem _ (List.mem_append_left _ (List.mem_append_left _ (List.mem_append_right _ h)))
  have in6 : ∀ w ∈ u_ws RX6 TX6 5, w ∈ wsX8_hall := fun _ h => List.mem_cons_of_mem _ (List.mem_append_left _ (List.mem_append_left _ (List.mem_append_left _ (List.mem_append_right _ h))))
  have in7 : ∀ w ∈ u_ws RX7 TX7 8, w ∈ wsX8_hall := fun _ h => List.mem_cons_of_mem _ (List.mem_append_left _ (List.mem_append_left _ (List.mem_append_left _ (List.mem_append_left _ (List.mem_append_right _ h)))))
  have in8 : ∀ w ∈ u_ws RX8 TX8 12, w ∈ wsX8_hall := fun _ h => List.mem_cons_of_mem _ (List.mem_append_left _ (List.mem_append_left _ (List.mem_append_left _ (List.mem_append_left _ (List.mem_append_left _ (List.mem_append_right _ h))))))
  have hl : lv_has ls 3 [(0, .ref (xo 0))] := hl
  refine lv_aload_n hx hb dX8_hall_0 rfl (lv_at hl 0 rfl) ?_
  refine va_get (D := D) (ci := 6) (v := .ref (ta 0)) (C := RX8) (T := TX8) (N := 12) hx hb hts in8 hown hG.1 hP 0 rfl rfl 0 (by decide) (hts (.fieldLink RX8 10 "ChairCane" "tape" "LChairCane$Tape;") (mem_b bq_wsX8_hall 0 0 rfl)) (fun _ h9 => h9) rfl dX8_hall_1 ?_
  refine lv_aload_n hx hb dX8_hall_4 rfl (lv_at hl 0 rfl) ?_
  refine va_get (D := D) (ci := 6) (v := .ref (tr 0)) (C := RX8) (T := TX8) (N := 12) hx hb hts in8 hown hG.1 hP 0 rfl rfl 6 (by decide) (hts (.fieldLink RX8 44 "ChairCane" "trial" "LChairCane$Room;") (mem_b bq_wsX8_hall 0 1 rfl)) (fun _ h9 => h9) rfl dX8_hall_5 ?_
  obtain ⟨hP, hD⟩ := qm hP hD (q_to [([((xo 0), .inr (6, [.ref (ta 0), .ref xr, .int (xi 2), .ref (sa 0), .ref xm, .ref xg, .ref (tr 0), .ref xs, .ref xp, .ref xq, .ref xe, .ref xt]))] : va_W), tpW k ta tp, ([((sa 0), .inr (4, [.ref (xa 0), .ref (ca 0), .ref (na 0), .int (si 3), .int (si 4)]))] : va_W), rmW k xa rm, acW k ca ac, ntW k na nt, rmW k tr tm] [0, 1, 2, 3, 4, 5, 6] [1, 6] [0, 2, 3, 4, 5] (by decide +kernel))
  refine fw_SiE (As := [.ref (ta 0), .ref (tr 0)]) (rest := []) (n := 2) (rv := fun b : Int32 × OB × OB => b.1) (wp := fun b : Int32 × OB × OB => tpW k ta b.2.1 ++ (rmW k tr b.2.2)) h (EX.ok ad tv) hE hx hb hml hown hts hG hA hP hD hS hl.1 _ _ (fun q hq9 => c_X1_read l D k _ ad tv ta tr F  tp tm  hq9) gX8_hall_X1_read rfl ⟨rfl, rfl, Nat.le_of_ble_eq_true rfl, Nat.le_of_ble_eq_true rfl⟩ (by decide +kernel) (q_l _ _) (q_r _ _) (q_nd _ _) ⟨rfl, rfl, Nat.le_of_ble_eq_true rfl, Nat.le_of_ble_eq_true rfl, Nat.le_of_ble_eq_true rfl⟩ dX8_hall_8 (fun q1 H locs h hP hD hS => ?_)
  obtain ⟨hP, hD⟩ := qm (w2 := ([((xo 0), .inr (6, [.ref (ta 0), .ref xr, .int (xi 2), .ref (sa 0), .ref xm, .ref xg, .ref (tr 0), .ref xs, .ref xp, .ref xq, .ref xe, .ref xt]))] : va_W) ++ (tpW k ta q1.2.1 ++ (([((sa 0), .inr (4, [.ref (xa 0), .ref (ca 0), .ref (na 0), .int (si 3), .int (si 4)]))] : va_W) ++ (rmW k xa rm ++ (acW k ca ac ++ (ntW k na nt ++ (rmW k tr q1.2.2))))))) hP hD (q_from [([((xo 0), .inr (6, [.ref (ta 0), .ref xr, .int (xi 2), .ref (sa 0), .ref xm, .ref xg, .ref (tr 0), .ref xs, .ref xp, .ref xq, .ref xe, .ref xt]))] : va_W), tpW k ta q1.2.1, ([((sa 0), .inr (4, [.ref (xa 0), .ref (ca 0), .ref (na 0), .int (si 3), .int (si 4)]))] : va_W), rmW k xa rm, acW k ca ac, ntW k na nt, rmW k tr q1.2.2] [0, 2, 3, 4, 5] [1, 6] [0, 1, 2, 3, 4, 5, 6] (by decide +kernel))
  refine hc_is (z := q1.1) rfl ?_
  refine lv_istore_n (lv' := [(1, .int q1.1), (0, .ref (xo 0))]) hx hb dX8_hall_11 rfl hl (by decide) rfl (fun ls hl => ?_)
  refine lv_aload_n hx hb dX8_hall_12 rfl (lv_at hl 1 rfl) ?_
  refine va_get (D := D) (ci := 6) (v := .ref (ta 0)) (C := RX8) (T := TX8) (N := 12) hx hb hts in8 hown hG.1 hP 0 rfl rfl 0 (by decide) (hts (.fieldLink RX8 10 "ChairCane" "tape" "LChairCane$Tape;") (mem_b bq_wsX8_hall 0 0 rfl)) (fun _ h9 => h9) rfl dX8_hall_13 ?_
  refine va_get (D := D) (ci := 5) (v := .int (q1.2.1.1 7)) (C := RX7) (T := TX7) (N := 8) hx hb hts in7 hown hG.1 hP 1 rfl rfl 7 (by decide) (hts (.fieldLink RX8 78 "ChairCane$Tape" "fault" "I") (mem_b bq_wsX8_hall 0 2 rfl)) (fun _ h9 => h9) rfl dX8_hall_16 ?_
  refine lv_istore_n (lv' := [(2, .int (q1.2.1.1 7)), (1, .int q1.1), (0, .ref (xo 0))]) hx hb dX8_hall_19 rfl hl (by decide) rfl (fun ls hl => ?_)
  refine lv_aload_n hx hb dX8_hall_20 rfl (lv_at hl 2 rfl) ?_
  refine va_get (D := D) (ci := 6) (v := .ref (ta 0)) (C := RX8) (T := TX8) (N := 12) hx hb hts in8 hown hG.1 hP 0 rfl rfl 0 (by decide) (hts (.fieldLink RX8 10 "ChairCane" "tape" "LChairCane$Tape;") (mem_b bq_wsX8_hall 0 0 rfl)) (fun _ h9 => h9) rfl dX8_hall_21 ?_
  refine lv_iconst (v := 0) hx hb dX8_hall_24 (by decide) ?_
  refine va_put (D := D) (ci := 5) (v := .int 0) (C := RX7) (T := TX7) (N := 8) hx hb hts in7 tyX7 tyX7_ok nmX7 hown hG.1 hP hD hS 1 rfl rfl 1 (by decide) (hts (.fieldLink RX8 65 "ChairCane$Tape" "length" "I") (mem_b bq_wsX8_hall 0 3 rfl)) (fun _ h9 => h9) rfl (tyX7_ok 1 (by decide)) rfl rfl (Nat.le_of_ble_eq_true rfl) dX8_hall_25 (fun H locs hP hD hS => ?_)
  refine lv_iload_n hx hb dX8_hall_28 rfl (lv_at hl 1 rfl) ?_
  refine lv_if_ne (tgt := 37) hx hb dX8_hall_29 (by decide) (fun c2 => ?_) (fun c2 => ?_)
  · have h := fw_f c2 h
    refine lv_aload_n hx hb dX8_hall_37 rfl (lv_at hl 2 rfl) ?_
    refine va_get (D := D) (ci := 6) (v := .ref (sa 0)) (C := RX8) (T := TX8) (N := 12) hx hb hts in8 hown hG.1 hP 0 rfl rfl 3 (by decide) (hts (.fieldLink RX8 29 "ChairCane" "now" "LChairCane$Standing;") (mem_b bq_wsX8_hall 0 4 rfl)) (fun _ h9 => h9) rfl dX8_hall_38 ?_
    refine va_get (D := D) (ci := 4) (v := .ref (xa 0)) (C := RX6) (T := TX6) (N := 5) hx hb hts in6 hown hG.1 hP 6 rfl rfl 0 (by decide) (hts (.fieldLink RX8 81 "ChairCane$Standing" "room" "LChairCane$Room;") (mem_b bq_wsX8_hall 0 5 rfl)) (fun _ h9 => h9) rfl dX8_hall_41 ?_
    refine lv_aload_n hx hb dX8_hall_44 rfl (lv_at hl 2 rfl) ?_
    refine va_get (D := D) (ci := 6) (v := .ref (tr 0)) (C := RX8) (T := TX8) (N := 12) hx hb hts in8 hown hG.1 hP 0 rfl rfl 6 (by decide) (hts (.fieldLink RX8 44 "ChairCane" "trial" "LChairCane$Room;") (mem_b bq_wsX8_hall 0 1 rfl)) (fun _ h9 => h9) rfl dX8_hall_45 ?_
    obtain ⟨hP, hD⟩ := cv (w' := ([((xo 0), .inr (6, [.ref (ta 0), .ref xr, .int (xi 2), .ref (sa 0), .ref xm, .ref xg, .ref (tr 0), .ref xs, .ref xp, .ref xq, .ref xe, .ref xt]))] : va_W) ++ (tpW k ta ((uF q1.2.1.1 1 0), q1.2.1.2.1, q1.2.1.2.2) ++ (([((sa 0), .inr (4, [.ref (xa 0), .ref (ca 0), .ref (na 0), .int (si 3), .int (si 4)]))] : va_W) ++ (rmW k xa rm ++ (acW k ca ac ++ (ntW k na nt ++ (rmW k tr q1.2.2))))))) hP hD rfl
    obtain ⟨hP, hD⟩ := qm hP hD (q_to [([((xo 0), .inr (6, [.ref (ta 0), .ref xr, .int (xi 2), .ref (sa 0), .ref xm, .ref xg, .ref (tr 0), .ref xs, .ref xp, .ref xq, .ref xe, .ref xt]))] : va_W), tpW k ta ((uF q1.2.1.1 1 0), q1.2.1.2.1, q1.2.1.2.2), ([((sa 0), .inr (4, [.ref (xa 0), .ref (ca 0), .ref (na 0), .int (si 3), .int (si 4)]))] : va_W), rmW k xa rm, acW k ca ac, ntW k na nt, rmW k tr q1.2.2] [0, 1, 2, 3, 4, 5, 6] [3, 6] [0, 1, 2, 4, 5] (by decide +kernel))
    refine fw_Vv (As := [.ref (tr 0)]) (rest := []) (n := 1) (wp := fun b : OB => rmW k xa b ++ (rmW k tr q1.2.2)) h hx hb hml hown hts hG hA hP hD hS hl.1 _ _ (fun q hq9 => c_X3_copyFrom l D k _  xa tr F  rm q1.2.2  hq9) (ci := 2) (q0 := 0) rfl rfl gX8_hall_X3_copyFrom rfl ⟨rfl, rfl, Nat.le_of_ble_eq_true rfl, Nat.le_of_ble_eq_true rfl⟩ (by decide +kernel) (q_l _ _) (q_r _ _) (q_nd _ _) ⟨rfl, rfl, Nat.le_of_ble_eq_true rfl, Nat.le_of_ble_eq_true rfl, Nat.le_of_ble_eq_true rfl⟩ dX8_hall_48 (fun q3 H locs h hP hD hS => ?_)
    obtain ⟨hP, hD⟩ := qm (w2 := ([((xo 0), .inr (6, [.ref (ta 0), .ref xr, .int (xi 2), .ref (sa 0), .ref xm, .ref xg, .ref (tr 0), .ref xs, .ref xp, .ref xq, .ref xe, .ref xt]))] : va_W) ++ (tpW k ta ((uF q1.2.1.1 1 0), q1.2.1.2.1, q1.2.1.2.2) ++ (([((sa 0), .inr (4, [.ref (xa 0), .ref (ca 0), .ref (na 0), .int (si 3), .int (si 4)]))] : va_W) ++ (rmW k xa q3 ++ (acW k ca ac ++ (ntW k na nt ++ (rmW k tr q1.2.2))))))) hP hD (q_from [([((xo 0), .inr (6, [.ref (ta 0), .ref xr, .int (xi 2), .ref (sa 0), .ref xm, .ref xg, .ref (tr 0), .ref xs, .ref xp, .ref xq, .ref xe, .ref xt]))] : va_W), tpW k ta ((uF q1.2.1.1 1 0), q1.2.1.2.1, q1.2.1.2.2), ([((sa 0), .inr (4, [.ref (xa 0), .ref (ca 0), .ref (na 0), .int (si 3), .int (si 4)]))] : va_W), rmW k xa q3, acW k ca ac, ntW k na nt, rmW k tr q1.2.2] [0, 1, 2, 4, 5] [3, 6] [0, 1, 2, 3, 4, 5, 6] (by decide +kernel))
    refine lv_aload_n hx hb dX8_hall_51 rfl (lv_at hl 2 rfl) ?_
    refine va_get (D := D) (ci := 6) (v := .ref (sa 0)) (C := RX8) (T := TX8) (N := 12) hx hb hts in8 hown hG.1 hP 0 rfl rfl 3 (by decide) (hts (.fieldLink RX8 29 "ChairCane" "now" "LChairCane$Standing;") (mem_b bq_wsX8_hall 0 4 rfl)) (fun _ h9 => h9) rfl dX8_hall_52 ?_
    refine va_get (D := D) (ci := 4) (v := .ref (ca 0)) (C := RX6) (T := TX6) (N := 5) hx hb hts in6 hown hG.1 hP 6 rfl rfl 1 (by decide) (hts (.fieldLink RX8 88 "ChairCane$Standing" "acts" "LChairCane$Acts;") (mem_b bq_wsX8_hall 0 6 rfl)) (fun _ h9 => h9) rfl dX8_hall_55 ?_
    obtain ⟨hP, hD⟩ := qm hP hD (q_to [([((xo 0), .inr (6, [.ref (ta 0), .ref xr, .int (xi 2), .ref (sa 0), .ref xm, .ref xg, .ref (tr 0), .ref xs, .ref xp, .ref xq, .ref xe, .ref xt]))] : va_W), tpW k ta ((uF q1.2.1.1 1 0), q1.2.1.2.1, q1.2.1.2.2), ([((sa 0), .inr (4, [.ref (xa 0), .ref (ca 0), .ref (na 0), .int (si 3), .int (si 4)]))] : va_W), rmW k xa q3, acW k ca ac, ntW k na nt, rmW k tr q1.2.2] [0, 1, 2, 3, 4, 5, 6] [4] [0, 1, 2, 3, 5, 6] (by decide +kernel))
    refine fw_Vv (As := []) (rest := []) (n := 0) (wp := fun b : OB => acW k ca b) h hx hb hml hown hts hG hA hP hD hS hl.1 _ _ (fun q hq9 => c_X0_forget l D k _  ca F  ac  hq9) (ci := 0) (q0 := 0) rfl rfl gX8_hall_X0_forget rfl ⟨rfl, rfl, Nat.le_of_ble_eq_true rfl, Nat.le_of_ble_eq_true rfl⟩ (by decide +kernel) (q_l _ _) (q_r _ _) (q_nd _ _) ⟨rfl, rfl, Nat.le_of_ble_eq_true rfl, Nat.le_of_ble_eq_true rfl, Nat.le_of_ble_eq_true rfl⟩ dX8_hall_58 (fun q4 H locs h hP hD hS => ?_)
    obtain ⟨hP, hD⟩ := qm (w2 := ([((xo 0), .inr (6, [.ref (ta 0), .ref xr, .int (xi 2), .ref (sa 0), .ref xm, .ref xg, .ref (tr 0), .ref xs, .ref xp, .ref xq, .ref xe, .ref xt]))] : va_W) ++ (tpW k ta ((uF q1.2.1.1 1 0), q1.2.1.2.1, q1.2.1.2.2) ++ (([((sa 0), .inr (4, [.ref (xa 0), .ref (ca 0), .ref (na 0), .int (si 3), .int (si 4)]))] : va_W) ++ (rmW k xa q3 ++ (acW k ca q4 ++ (ntW k na nt ++ (rmW k tr q1.2.2))))))) hP hD (q_from [([((xo 0), .inr (6, [.ref (ta 0), .ref xr, .int (xi 2), .ref (sa 0), .ref xm, .ref xg, .ref (tr 0), .ref xs, .ref xp, .ref xq, .ref xe, .ref xt]))] : va_W), tpW k ta ((uF q1.2.1.1 1 0), q1.2.1.2.1, q1.2.1.2.2), ([((sa 0), .inr (4, [.ref (xa 0), .ref (ca 0), .ref (na 0), .int (si 3), .int (si 4)]))] : va_W), rmW k xa q3, acW k ca q4, ntW k na nt, rmW k tr q1.2.2] [0, 1, 2, 3, 5, 6] [4] [0, 1, 2, 3, 4, 5, 6] (by decide +kernel))
    refine lv_aload_n hx hb dX8_hall_61 rfl (lv_at hl 2 rfl) ?_
    refine va_get (D := D) (ci := 6) (v := .ref (sa 0)) (C := RX8) (T := TX8) (N := 12) hx hb hts in8 hown hG.1 hP 0 rfl rfl 3 (by decide) (hts (.fieldLink RX8 29 "ChairCane" "now" "LChairCane$Standing;") (mem_b bq_wsX8_hall 0 4 rfl)) (fun _ h9 => h9) rfl dX8_hall_62 ?_
    refine va_get (D := D) (ci := 4) (v := .ref (na 0)) (C := RX6) (T := TX6) (N := 5) hx hb hts in6 hown hG.1 hP 6 rfl rfl 2 (by decide) (hts (.fieldLink RX8 97 "ChairCane$Standing" "notes" "LChairCane$Notes;") (mem_b bq_wsX8_hall 0 7 rfl)) (fun _ h9 => h9) rfl dX8_hall_65 ?_
    obtain ⟨hP, hD⟩ := qm hP hD (q_to [([((xo 0), .inr (6, [.ref (ta 0), .ref xr, .int (xi 2), .ref (sa 0), .ref xm, .ref xg, .ref (tr 0), .ref xs, .ref xp, .ref xq, .ref xe, .ref xt]))] : va_W), tpW k ta ((uF q1.2.1.1 1 0), q1.2.1.2.1, q1.2.1.2.2), ([((sa 0), .inr (4, [.ref (xa 0), .ref (ca 0), .ref (na 0), .int (si 3), .int (si 4)]))] : va_W), rmW k xa q3, acW k ca q4, ntW k na nt, rmW k tr q1.2.2] [0, 1, 2, 3, 4, 5, 6] [5] [0, 1, 2, 3, 4, 6] (by decide +kernel))
    refine fw_Vv (As := []) (rest := []) (n := 0) (wp := fun b : OB => ntW k na b) h hx hb hml hown hts hG hA hP hD hS hl.1 _ _ (fun q hq9 => c_X2_forget l D k _  na F  nt  hq9) (ci := 1) (q0 := 0) rfl rfl gX8_hall_X2_forget rfl ⟨rfl, rfl, Nat.le_of_ble_eq_true rfl, Nat.le_of_ble_eq_true rfl⟩ (by decide +kernel) (q_l _ _) (q_r _ _) (q_nd _ _) ⟨rfl, rfl, Nat.le_of_ble_eq_true rfl, Nat.le_of_ble_eq_true rfl, Nat.le_of_ble_eq_true rfl⟩ dX8_hall_68 (fun q5 H locs h hP hD hS => ?_)
    obtain ⟨hP, hD⟩ := qm (w2 := ([((xo 0), .inr (6, [.ref (ta 0), .ref xr, .int (xi 2), .ref (sa 0), .ref xm, .ref xg, .ref (tr 0), .ref xs, .ref xp, .ref xq, .ref xe, .ref xt]))] : va_W) ++ (tpW k ta ((uF q1.2.1.1 1 0), q1.2.1.2.1, q1.2.1.2.2) ++ (([((sa 0), .inr (4, [.ref (xa 0), .ref (ca 0), .ref (na 0), .int (si 3), .int (si 4)]))] : va_W) ++ (rmW k xa q3 ++ (acW k ca q4 ++ (ntW k na q5 ++ (rmW k tr q1.2.2))))))) hP hD (q_from [([((xo 0), .inr (6, [.ref (ta 0), .ref xr, .int (xi 2), .ref (sa 0), .ref xm, .ref xg, .ref (tr 0), .ref xs, .ref xp, .ref xq, .ref xe, .ref xt]))] : va_W), tpW k ta ((uF q1.2.1.1 1 0), q1.2.1.2.1, q1.2.1.2.2), ([((sa 0), .inr (4, [.ref (xa 0), .ref (ca 0), .ref (na 0), .int (si 3), .int (si 4)]))] : va_W), rmW k xa q3, acW k ca q4, ntW k na q5, rmW k tr q1.2.2] [0, 1, 2, 3, 4, 6] [5] [0, 1, 2, 3, 4, 5, 6] (by decide +kernel))
    refine lv_aload_n hx hb dX8_hall_71 rfl (lv_at hl 2 rfl) ?_
    refine va_get (D := D) (ci := 6) (v := .ref (sa 0)) (C := RX8) (T := TX8) (N := 12) hx hb hts in8 hown hG.1 hP 0 rfl rfl 3 (by decide) (hts (.fieldLink RX8 29 "ChairCane" "now" "LChairCane$Standing;") (mem_b bq_wsX8_hall 0 4 rfl)) (fun _ h9 => h9) rfl dX8_hall_72 ?_
    refine va_get (D := D) (ci := 4) (v := .ref (xa 0)) (C := RX6) (T := TX6) (N := 5) hx hb hts in6 hown hG.1 hP 6 rfl rfl 0 (by decide) (hts (.fieldLink RX8 81 "ChairCane$Standing" "room" "LChairCane$Room;") (mem_b bq_wsX8_hall 0 5 rfl)) (fun _ h9 => h9) rfl dX8_hall_75 ?_
    refine va_get (D := D) (ci := 2) (v := .int (q3.1 3)) (C := RX3) (T := TX3) (N := 17) hx hb hts in3 hown hG.1 hP 7 rfl rfl 3 (by decide) (hts (.fieldLink RX8 104 "ChairCane$Room" "sitters" "I") (mem_b bq_wsX8_hall 0 8 rfl)) (fun _ h9 => h9) rfl dX8_hall_78 ?_
    exact fw_endI (rv := fun b : Int32 × OB × OB × OB × OB × OB => b.1) (wp := fun b : Int32 × OB × OB × OB × OB × OB => ([((xo 0), .inr (6, [.ref (ta 0), .ref xr, .int (xi 2), .ref (sa 0), .ref xm, .ref xg, .ref (tr 0), .ref xs, .ref xp, .ref xq, .ref xe, .ref xt]))] : va_W) ++ (tpW k ta b.2.1 ++ (([((sa 0), .inr (4, [.ref (xa 0), .ref (ca 0), .ref (na 0), .int (si 3), .int (si 4)]))] : va_W) ++ (rmW k xa b.2.2.1 ++ (acW k ca b.2.2.2.1 ++ (ntW k na b.2.2.2.2.1 ++ (rmW k tr b.2.2.2.2.2))))))) hx hb hr hlocks h rfl hP hD hS dX8_hall_81
  · have h := fw_t c2 h
    refine lv_bipush (v := (-2)) hx hb dX8_hall_32 (by decide) ?_
    refine lv_iload_n hx hb dX8_hall_34 rfl (lv_at hl 0 rfl) ?_
    refine lv_isub hx hb dX8_hall_35 ?_
    exact fw_endI (rv := fun b : Int32 × OB × OB × OB × OB × OB => b.1) (wp := fun b : Int32 × OB × OB × OB × OB × OB => ([((xo 0), .inr (6, [.ref (ta 0), .ref xr, .int (xi 2), .ref (sa 0), .ref xm, .ref xg, .ref (tr 0), .ref xs, .ref xp, .ref xq, .ref xe, .ref xt]))] : va_W) ++ (tpW k ta b.2.1 ++ (([((sa 0), .inr (4, [.ref (xa 0), .ref (ca 0), .ref (na 0), .int (si 3), .int (si 4)]))] : va_W) ++ (rmW k xa b.2.2.1 ++ (acW k ca b.2.2.2.1 ++ (ntW k na b.2.2.2.2.1 ++ (rmW k tr b.2.2.2.2.2))))))) hx hb hr hlocks h rfl hP hD hS dX8_hall_36
noncomputable def f_X8_rule (F : Nat)   (xi : Nat → Int32) (tp : OB) (xrr : Nat → Option Nat) (rz : Nat → OB) : Option (Int32 × (Nat → Int32) × OB × (Nat → OB)) :=
  if (xi 2) < 6 then (if ib (xi 2) 6 then (Option.bind (f_X5_read_u F (xi 2) tp rz) (fun q3 => (if q3.1 = 0 then (some (((-2) - (q3.2.1.1 7)), xi, ((uF q3.2.1.1 1 0), q3.2.1.2.1, q3.2.1.2.2), q3.2.2)) else (some ((((xi 2) + 1) - 1), (uF xi 2 ((xi 2) + 1)), ((uF q3.2.1.1 1 0), q3.2.1.2.1, q3.2.1.2.2), q3.2.2))))) else none) else (some ((-1), xi, tp, rz))
set_option maxHeartbeats 4000000 in
set_option maxRecDepth 100000 in
theorem c_X8_rule (l : Launch) (D : va_G) (k : Nat → ClassId) (sz : Nat) (ad tv : Nat → Nat) (xo : Nat → Nat) (ta : Nat → Nat) (xr : Nat) (sa : Nat → Nat) (xm : Nat) (xg : Nat) (tr : Nat → Nat) (xs : Nat) (xp : Nat) (xq : Nat) (xe : Nat) (xt : Nat) (ra : Nat → Nat) (F : Nat)   (xi : Nat → Int32) (tp : OB) (xrr : Nat → Option Nat) (rz : Nat → OB) (hq : ∀ i, i < 6 → xrr i = some (ra (6 * i))) {res : Int32 × (Nat → Int32) × OB × (Nat → OB)} (h : f_X8_rule F xi tp xrr rz = some res) : CtIE l yX8_rule wsX8_rule (rmK 29 0 0) [.ref (xo 0)] D k (EX ad tv) sz (([((xo 0), .inr (6, [.ref (ta 0), .ref xr, .int (xi 2), .ref (sa 0), .ref xm, .ref xg, .ref (tr 0), .ref xs, .ref xp, .ref xq, .ref xe, .ref xt]))] : va_W) ++ (tpW k ta tp ++ (([(xr, hcR k 6 xrr)] : va_W) ++ (RU k ra rz)))) (fun r (_ : Unit) => r = res.1) (fun _ : Unit => ([((xo 0), .inr (6, [.ref (ta 0), .ref xr, .int (res.2.1 2), .ref (sa 0), .ref xm, .ref xg, .ref (tr 0), .ref xs, .ref xp, .ref xq, .ref xe, .ref xt]))] : va_W) ++ (tpW k ta res.2.2.1 ++ (([(xr, hcR k 6 xrr)] : va_W) ++ (RU k ra res.2.2.2)))) 0 0 := by
  refine CtIE.mk (cc := cX8_rule) (maxL := 3) (ret := (some .int)) (by decide) rfl (Nat.le_of_ble_eq_true rfl) ?_
  intro p e s m below meth c A ls hE E hP hD hS hl
  obtain ⟨hx, hb, hr, hml, hown, hts, hlocks, hin, hG, hA⟩ := E
  have hown : s.vm.findClass RX8 = some m.cls := hown
  have in4 : ∀ w ∈ u_ws RX4 TX4 8, w ∈ wsX8_rule := fun _ h => List.mem_cons_of_mem _ (List.mem_append_right _ h)
  have in7 : ∀ w ∈ u_ws RX7 TX7 8, w ∈ wsX8_rule := fun _ h => List.mem_cons_of_mem _ (List.mem_append_left _ (List.mem_append_right _ h))
  have in8 : ∀ w ∈ u_ws RX8 TX8 12, w ∈ wsX8_rule := fun _ h => List.mem_cons_of_mem _ (List.mem_append_left _ (List.mem_append_left _ (List.mem_append_right _ h)))
  have hl : lv_has ls 3 [(0, .ref (xo 0))] := hl
  refine lv_aload_n hx hb dX8_rule_0 rfl (lv_at hl 0 rfl) ?_
  refine va_get (D := D) (ci := 6) (v := .int (xi 2)) (C := RX8) (T := TX8) (N := 12) hx hb hts in8 hown hG.1 hP 0 rfl rfl 2 (by decide) (hts (.fieldLink RX8 22 "ChairCane" "ruleCount" "I") (mem_b bq_wsX8_rule 0 0 rfl)) (fun _ h9 => h9) rfl dX8_rule_1 ?_
  refine lv_bipush (v := 6) hx hb dX8_rule_4 (by decide) ?_
  refine lv_icmp_lt (tgt := 11) hx hb dX8_rule_6 (by decide) (fun c1 => ?_) (fun c1 => ?_)
  · have h := fw_t c1 h
    refine lv_aload_n hx hb dX8_rule_11 rfl (lv_at hl 0 rfl) ?_
    refine va_get (D := D) (ci := 6) (v := .ref (ta 0)) (C := RX8) (T := TX8) (N := 12) hx hb hts in8 hown hG.1 hP 0 rfl rfl 0 (by decide) (hts (.fieldLink RX8 10 "ChairCane" "tape" "LChairCane$Tape;") (mem_b bq_wsX8_rule 0 1 rfl)) (fun _ h9 => h9) rfl dX8_rule_12 ?_
    refine lv_aload_n hx hb dX8_rule_15 rfl (lv_at hl 0 rfl) ?_
    refine va_get (D := D) (ci := 6) (v := .ref xr) (C := RX8) (T := TX8) (N := 12) hx hb hts in8 hown hG.1 hP 0 rfl rfl 1 (by decide) (hts (.fieldLink RX8 18 "ChairCane" "rules" "[LChairCane$Rule;") (mem_b bq_wsX8_rule 0 2 rfl)) (fun _ h9 => h9) rfl dX8_rule_16 ?_
    refine lv_aload_n hx hb dX8_rule_19 rfl (lv_at hl 0 rfl) ?_
    refine va_get (D := D) (ci := 6) (v := .int (xi 2)) (C := RX8) (T := TX8) (N := 12) hx hb hts in8 hown hG.1 hP 0 rfl rfl 2 (by decide) (hts (.fieldLink RX8 22 "ChairCane" "ruleCount" "I") (mem_b bq_wsX8_rule 0 0 rfl)) (fun _ h9 => h9) rfl dX8_rule_20 ?_
    obtain ⟨g2, h⟩ := fw_g h
    refine va_aldq hx hb hG.1 hP 6 4 rfl rfl (ib_vp g2) dX8_rule_23 ?_
    refine hc_isV (z := va_rf (rAd ra (xi 2))) (rAd_at hq g2) ?_
    obtain ⟨hP, hD⟩ := qm hP hD (q_to [([((xo 0), .inr (6, [.ref (ta 0), .ref xr, .int (xi 2), .ref (sa 0), .ref xm, .ref xg, .ref (tr 0), .ref xs, .ref xp, .ref xq, .ref xe, .ref xt]))] : va_W), tpW k ta tp, ([(xr, hcR k 6 xrr)] : va_W), RU k ra rz] [0, 1, 2, 3] [1, 3] [0, 2] (by decide +kernel))
    refine fw_SiE (As := [.ref (ta 0), va_rf (rAd ra (xi 2))]) (rest := []) (n := 2) (rv := fun b : Int32 × OB × (Nat → OB) => b.1) (wp := fun b : Int32 × OB × (Nat → OB) => tpW k ta b.2.1 ++ (RU k ra b.2.2)) h (EX.ok ad tv) hE hx hb hml hown hts hG hA hP hD hS hl.1 _ _ (fun q hq9 => c_X5_read_u l D k _ ad tv ta ra F (xi 2) tp rz  hq9) gX8_rule_X5_read rfl ⟨rfl, rfl, Nat.le_of_ble_eq_true rfl, Nat.le_of_ble_eq_true rfl⟩ (by decide +kernel) (q_l _ _) (q_r _ _) (q_nd _ _) ⟨rfl, rfl, Nat.le_of_ble_eq_true rfl, Nat.le_of_ble_eq_true rfl, Nat.le_of_ble_eq_true rfl⟩ dX8_rule_24 (fun q3 H locs h hP hD hS => ?_)
    obtain ⟨hP, hD⟩ := qm (w2 := ([((xo 0), .inr (6, [.ref (ta 0), .ref xr, .int (xi 2), .ref (sa 0), .ref xm, .ref xg, .ref (tr 0), .ref xs, .ref xp, .ref xq, .ref xe, .ref xt]))] : va_W) ++ (tpW k ta q3.2.1 ++ (([(xr, hcR k 6 xrr)] : va_W) ++ (RU k ra q3.2.2)))) hP hD (q_from [([((xo 0), .inr (6, [.ref (ta 0), .ref xr, .int (xi 2), .ref (sa 0), .ref xm, .ref xg, .ref (tr 0), .ref xs, .ref xp, .ref xq, .ref xe, .ref xt]))] : va_W), tpW k ta q3.2.1, ([(xr, hcR k 6 xrr)] : va_W), RU k ra q3.2.2] [0, 2] [1, 3] [0, 1, 2, 3] (by decide +kernel))
    refine hc_is (z := q3.1) rfl ?_
    refine lv_istore_n (lv' := [(1, .int q3.1), (0, .ref (xo 0))]) hx hb dX8_rule_27 rfl hl (by decide) rfl (fun ls hl => ?_)
    refine lv_aload_n hx hb dX8_rule_28 rfl (lv_at hl 1 rfl) ?_
    refine va_get (D := D) (ci := 6) (v := .ref (ta 0)) (C := RX8) (T := TX8) (N := 12) hx hb hts in8 hown hG.1 hP 0 rfl rfl 0 (by decide) (hts (.fieldLink RX8 10 "ChairCane" "tape" "LChairCane$Tape;") (mem_b bq_wsX8_rule 0 1 rfl)) (fun _ h9 => h9) rfl dX8_rule_29 ?_
    refine va_get (D := D) (ci := 5) (v := .int (q3.2.1.1 7)) (C := RX7) (T := TX7) (N := 8) hx hb hts in7 hown hG.1 hP 1 rfl rfl 7 (by decide) (hts (.fieldLink RX8 78 "ChairCane$Tape" "fault" "I") (mem_b bq_wsX8_rule 0 3 rfl)) (fun _ h9 => h9) rfl dX8_rule_32 ?_
    refine lv_istore_n (lv' := [(2, .int (q3.2.1.1 7)), (1, .int q3.1), (0, .ref (xo 0))]) hx hb dX8_rule_35 rfl hl (by decide) rfl (fun ls hl => ?_)
    refine lv_aload_n hx hb dX8_rule_36 rfl (lv_at hl 2 rfl) ?_
    refine va_get (D := D) (ci := 6) (v := .ref (ta 0)) (C := RX8) (T := TX8) (N := 12) hx hb hts in8 hown hG.1 hP 0 rfl rfl 0 (by decide) (hts (.fieldLink RX8 10 "ChairCane" "tape" "LChairCane$Tape;") (mem_b bq_wsX8_rule 0 1 rfl)) (fun _ h9 => h9) rfl dX8_rule_37 ?_
    refine lv_iconst (v := 0) hx hb dX8_rule_40 (by decide) ?_
    refine va_put (D := D) (ci := 5) (v := .int 0) (C := RX7) (T := TX7) (N := 8) hx hb hts in7 tyX7 tyX7_ok nmX7 hown hG.1 hP hD hS 1 rfl rfl 1 (by decide) (hts (.fieldLink RX8 65 "ChairCane$Tape" "length" "I") (mem_b bq_wsX8_rule 0 4 rfl)) (fun _ h9 => h9) rfl (tyX7_ok 1 (by decide)) rfl rfl (Nat.le_of_ble_eq_true rfl) dX8_rule_41 (fun H locs hP hD hS => ?_)
    refine lv_iload_n hx hb dX8_rule_44 rfl (lv_at hl 1 rfl) ?_
    refine lv_if_ne (tgt := 53) hx hb dX8_rule_45 (by decide) (fun c4 => ?_) (fun c4 => ?_)
    · have h := fw_f c4 h
      refine lv_aload_n hx hb dX8_rule_53 rfl (lv_at hl 2 rfl) ?_
      refine lv_dup hx hb dX8_rule_54 rfl ?_
      refine va_get (D := D) (ci := 6) (v := .int (xi 2)) (C := RX8) (T := TX8) (N := 12) hx hb hts in8 hown hG.1 hP 0 rfl rfl 2 (by decide) (hts (.fieldLink RX8 22 "ChairCane" "ruleCount" "I") (mem_b bq_wsX8_rule 0 0 rfl)) (fun _ h9 => h9) rfl dX8_rule_55 ?_
      refine lv_iconst (v := 1) hx hb dX8_rule_58 (by decide) ?_
      refine lv_iadd hx hb dX8_rule_59 ?_
      refine va_put (D := D) (ci := 6) (v := .int ((xi 2) + 1)) (C := RX8) (T := TX8) (N := 12) hx hb hts in8 tyX8 tyX8_ok nmX8 hown hG.1 hP hD hS 0 rfl rfl 2 (by decide) (hts (.fieldLink RX8 22 "ChairCane" "ruleCount" "I") (mem_b bq_wsX8_rule 0 0 rfl)) (fun _ h9 => h9) rfl (tyX8_ok 2 (by decide)) rfl rfl (Nat.le_of_ble_eq_true rfl) dX8_rule_60 (fun H locs hP hD hS => ?_)
      refine lv_aload_n hx hb dX8_rule_63 rfl (lv_at hl 2 rfl) ?_
      refine va_get (D := D) (ci := 6) (v := .int ((xi 2) + 1)) (C := RX8) (T := TX8) (N := 12) hx hb hts in8 hown hG.1 hP 0 rfl rfl 2 (by decide) (hts (.fieldLink RX8 22 "ChairCane" "ruleCount" "I") (mem_b bq_wsX8_rule 0 0 rfl)) (fun _ h9 => h9) rfl dX8_rule_64 ?_
      refine lv_iconst (v := 1) hx hb dX8_rule_67 (by decide) ?_
      refine lv_isub hx hb dX8_rule_68 ?_
      exact fw_endI (rv := fun b : Int32 × (Nat → Int32) × OB × (Nat → OB) => b.1) (wp := fun b : Int32 × (Nat → Int32) × OB × (Nat → OB) => ([((xo 0), .inr (6, [.ref (ta 0), .ref xr, .int (b.2.1 2), .ref (sa 0), .ref xm, .ref xg, .ref (tr 0), .ref xs, .ref xp, .ref xq, .ref xe, .ref xt]))] : va_W) ++ (tpW k ta b.2.2.1 ++ (([(xr, hcR k 6 xrr)] : va_W) ++ (RU k ra b.2.2.2)))) hx hb hr hlocks h rfl hP hD hS dX8_rule_69
    · have h := fw_t c4 h
      refine lv_bipush (v := (-2)) hx hb dX8_rule_48 (by decide) ?_
      refine lv_iload_n hx hb dX8_rule_50 rfl (lv_at hl 0 rfl) ?_
      refine lv_isub hx hb dX8_rule_51 ?_
      exact fw_endI (rv := fun b : Int32 × (Nat → Int32) × OB × (Nat → OB) => b.1) (wp := fun b : Int32 × (Nat → Int32) × OB × (Nat → OB) => ([((xo 0), .inr (6, [.ref (ta 0), .ref xr, .int (b.2.1 2), .ref (sa 0), .ref xm, .ref xg, .ref (tr 0), .ref xs, .ref xp, .ref xq, .ref xe, .ref xt]))] : va_W) ++ (tpW k ta b.2.2.1 ++ (([(xr, hcR k 6 xrr)] : va_W) ++ (RU k ra b.2.2.2)))) hx hb hr hlocks h rfl hP hD hS dX8_rule_52
  · have h := fw_f c1 h
    refine lv_iconst (v := (-1)) hx hb dX8_rule_9 (by decide) ?_
    exact fw_endI (rv := fun b : Int32 × (Nat → Int32) × OB × (Nat → OB) => b.1) (wp := fun b : Int32 × (Nat → Int32) × OB × (Nat → OB) => ([((xo 0), .inr (6, [.ref (ta 0), .ref xr, .int (b.2.1 2), .ref (sa 0), .ref xm, .ref xg, .ref (tr 0), .ref xs, .ref xp, .ref xq, .ref xe, .ref xt]))] : va_W) ++ (tpW k ta b.2.2.1 ++ (([(xr, hcR k 6 xrr)] : va_W) ++ (RU k ra b.2.2.2)))) hx hb hr hlocks h rfl hP hD hS dX8_rule_10
noncomputable def b_X8_ruleAt_22 (F : Nat)  (xi : Nat → Int32) (xrr : Nat → Option Nat)  (y0 : Int32) : Option (Int32) :=
  some y0
noncomputable def b_X8_ruleAt_21 (F : Nat)  (xi : Nat → Int32) (xrr : Nat → Option Nat)   : Option (Int32) :=
  b_X8_ruleAt_22 F xi xrr (-1)
noncomputable def f_X8_ruleAt (F : Nat)  (x1 : Int32) (xi : Nat → Int32) (xrr : Nat → Option Nat) : Option (Int32) :=
  if x1 < 0 then (b_X8_ruleAt_21 F xi xrr ) else (if (xi 2) ≤ x1 then (b_X8_ruleAt_21 F xi xrr ) else (if ib x1 6 then (b_X8_ruleAt_22 F xi xrr x1) else none))
set_option maxRecDepth 20000 in
theorem bq_wsX8_ruleAt : subq wsX8_ruleAt [[.fieldLink RX8 22 "ChairCane" "ruleCount" "I", .fieldLink RX8 18 "ChairCane" "rules" "[LChairCane$Rule;"]] := ⟨(fun _ h => (List.mem_cons_of_mem _ (List.mem_append_left _ h))), trivial⟩
set_option maxHeartbeats 4000000 in
set_option maxRecDepth 100000 in
theorem c_X8_ruleAt (l : Launch) (D : va_G) (k : Nat → ClassId) (sz : Nat)  (xo : Nat → Nat) (ta : Nat → Nat) (xr : Nat) (sa : Nat → Nat) (xm : Nat) (xg : Nat) (tr : Nat → Nat) (xs : Nat) (xp : Nat) (xq : Nat) (xe : Nat) (xt : Nat) (ra : Nat → Nat) (F : Nat)  (x1 : Int32) (xi : Nat → Int32) (xrr : Nat → Option Nat) (hq : ∀ i, i < 6 → xrr i = some (ra (6 * i))) {res : Int32} (h : f_X8_ruleAt F x1 xi xrr = some res) : CtQ l yX8_ruleAt wsX8_ruleAt (rmK 1 0 0) [.ref (xo 0), .int x1] D k sz (([((xo 0), .inr (6, [.ref (ta 0), .ref xr, .int (xi 2), .ref (sa 0), .ref xm, .ref xg, .ref (tr 0), .ref xs, .ref xp, .ref xq, .ref xe, .ref xt]))] : va_W) ++ (([(xr, hcR k 6 xrr)] : va_W))) (fun r (_ : Unit) => r = rAd ra res) (fun _ : Unit => ([((xo 0), .inr (6, [.ref (ta 0), .ref xr, .int (xi 2), .ref (sa 0), .ref xm, .ref xg, .ref (tr 0), .ref xs, .ref xp, .ref xq, .ref xe, .ref xt]))] : va_W) ++ (([(xr, hcR k 6 xrr)] : va_W))) 0 0 := by
  refine CtQ.mk (cc := cX8_ruleAt) (maxL := 2) (ret := (some (.object "ChairCane$Rule"))) (by decide) rfl (Nat.le_of_ble_eq_true rfl) ?_
  intro p e s m below meth c A ls E hP hD hS hl
  obtain ⟨hx, hb, hr, hml, hown, hts, hlocks, hin, hG, hA⟩ := E
  have hown : s.vm.findClass RX8 = some m.cls := hown
  have in8 : ∀ w ∈ u_ws RX8 TX8 12, w ∈ wsX8_ruleAt := fun _ h => List.mem_cons_of_mem _ (List.mem_append_right _ h)
  have hl : lv_has ls 2 [(0, .ref (xo 0)), (1, .int x1)] := hl
  have B22 : ∀ (y0 : Int32) (H : Heap) (locs : List Loc) (ls : Array Slot), b_X8_ruleAt_22 F xi xrr y0 = some res → va_P D vwCl (([((xo 0), .inr (6, [.ref (ta 0), .ref xr, .int (xi 2), .ref (sa 0), .ref xm, .ref xg, .ref (tr 0), .ref xs, .ref xp, .ref xq, .ref xe, .ref xt]))] : va_W) ++ (([(xr, hcR k 6 xrr)] : va_W))) H → va_D A (([((xo 0), .inr (6, [.ref (ta 0), .ref xr, .int (xi 2), .ref (sa 0), .ref xm, .ref xg, .ref (tr 0), .ref xs, .ref xp, .ref xq, .ref xe, .ref xt]))] : va_W) ++ (([(xr, hcR k 6 xrr)] : va_W))) → va_S A s.heap H locs → lv_has ls 2 [] → W p l e (rmK 1 0 0) s m (List.toArray [.ref (xo 0), .int x1]) below meth c H locs 0 0 (MQ below (va_Qq (fun r (_ : Unit) => r = rAd ra res) (hcB D (fun _ : Unit => ([((xo 0), .inr (6, [.ref (ta 0), .ref xr, .int (xi 2), .ref (sa 0), .ref xm, .ref xg, .ref (tr 0), .ref xs, .ref xp, .ref xq, .ref xe, .ref xt]))] : va_W) ++ (([(xr, hcR k 6 xrr)] : va_W))) A) A) (List.toArray [.ref (xo 0), .int x1]) s 0 0 A) (F0 m 22 ls [va_rf (rAd ra y0)]) := by
    intro y0 H locs ls h hP hD hS hl
    exact fw_endQ (rv := fun b : Int32 => b) (ra := ra) (v := rAd ra y0) (wp := fun b : Int32 => ([((xo 0), .inr (6, [.ref (ta 0), .ref xr, .int (xi 2), .ref (sa 0), .ref xm, .ref xg, .ref (tr 0), .ref xs, .ref xp, .ref xq, .ref xe, .ref xt]))] : va_W) ++ (([(xr, hcR k 6 xrr)] : va_W))) hx hb hr hlocks h rfl hP hD hS dX8_ruleAt_22
  have B21 : ∀ (H : Heap) (locs : List Loc) (ls : Array Slot), b_X8_ruleAt_21 F xi xrr  = some res → va_P D vwCl (([((xo 0), .inr (6, [.ref (ta 0), .ref xr, .int (xi 2), .ref (sa 0), .ref xm, .ref xg, .ref (tr 0), .ref xs, .ref xp, .ref xq, .ref xe, .ref xt]))] : va_W) ++ (([(xr, hcR k 6 xrr)] : va_W))) H → va_D A (([((xo 0), .inr (6, [.ref (ta 0), .ref xr, .int (xi 2), .ref (sa 0), .ref xm, .ref xg, .ref (tr 0), .ref xs, .ref xp, .ref xq, .ref xe, .ref xt]))] : va_W) ++ (([(xr, hcR k 6 xrr)] : va_W))) → va_S A s.heap H locs → lv_has ls 2 [] → W p l e (rmK 1 0 0) s m (List.toArray [.ref (xo 0), .int x1]) below meth c H locs 0 0 (MQ below (va_Qq (fun r (_ : Unit) => r = rAd ra res) (hcB D (fun _ : Unit => ([((xo 0), .inr (6, [.ref (ta 0), .ref xr, .int (xi 2), .ref (sa 0), .ref xm, .ref xg, .ref (tr 0), .ref xs, .ref xp, .ref xq, .ref xe, .ref xt]))] : va_W) ++ (([(xr, hcR k 6 xrr)] : va_W))) A) A) (List.toArray [.ref (xo 0), .int x1]) s 0 0 A) (F0 m 21 ls []) := by
    intro  H locs ls h hP hD hS hl
    refine lv_null hx hb dX8_ruleAt_21 ?_
    exact B22 _ _ _ _ h hP hD hS hl
  refine lv_iload_n hx hb dX8_ruleAt_0 rfl (lv_at hl 1 rfl) ?_
  refine lv_if_lt (tgt := 21) hx hb dX8_ruleAt_1 (by decide) (fun c1 => ?_) (fun c1 => ?_)
  · have h := fw_t c1 h
    exact B21 _ _ _ h hP hD hS (lv_sub hl [] rfl)
  · have h := fw_f c1 h
    refine lv_iload_n hx hb dX8_ruleAt_4 rfl (lv_at hl 1 rfl) ?_
    refine lv_aload_n hx hb dX8_ruleAt_5 rfl (lv_at hl 0 rfl) ?_
    refine va_get (D := D) (ci := 6) (v := .int (xi 2)) (C := RX8) (T := TX8) (N := 12) hx hb hts in8 hown hG.1 hP 0 rfl rfl 2 (by decide) (hts (.fieldLink RX8 22 "ChairCane" "ruleCount" "I") (mem_b bq_wsX8_ruleAt 0 0 rfl)) (fun _ h9 => h9) rfl dX8_ruleAt_6 ?_
    refine lv_icmp_ge (tgt := 21) hx hb dX8_ruleAt_9 (by decide) (fun c2 => ?_) (fun c2 => ?_)
    · have h := fw_t c2 h
      exact B21 _ _ _ h hP hD hS (lv_sub hl [] rfl)
    · have h := fw_f c2 h
      refine lv_aload_n hx hb dX8_ruleAt_12 rfl (lv_at hl 0 rfl) ?_
      refine va_get (D := D) (ci := 6) (v := .ref xr) (C := RX8) (T := TX8) (N := 12) hx hb hts in8 hown hG.1 hP 0 rfl rfl 1 (by decide) (hts (.fieldLink RX8 18 "ChairCane" "rules" "[LChairCane$Rule;") (mem_b bq_wsX8_ruleAt 0 1 rfl)) (fun _ h9 => h9) rfl dX8_ruleAt_13 ?_
      refine lv_iload_n hx hb dX8_ruleAt_16 rfl (lv_at hl 1 rfl) ?_
      obtain ⟨g3, h⟩ := fw_g h
      refine va_aldq hx hb hG.1 hP 1 4 rfl rfl (ib_vp g3) dX8_ruleAt_17 ?_
      refine hc_isV (z := va_rf (rAd ra x1)) (rAd_at hq g3) ?_
      refine lv_goto (tgt := 22) hx hb dX8_ruleAt_18 (by decide) ?_
      exact B22 _ _ _ _ h hP hD hS (lv_sub hl [] rfl)
noncomputable def f_X8_ruleInForce (F : Nat)   (xi : Nat → Int32) (xrr : Nat → Option Nat) (si : Nat → Int32) : Option (Int32) :=
  Option.bind (f_X8_ruleAt F (si 3) xi xrr) (fun q1 => (some q1))
set_option maxHeartbeats 4000000 in
set_option maxRecDepth 100000 in
theorem c_X8_ruleInForce (l : Launch) (D : va_G) (k : Nat → ClassId) (sz : Nat)  (xo : Nat → Nat) (ta : Nat → Nat) (xr : Nat) (sa : Nat → Nat) (xm : Nat) (xg : Nat) (tr : Nat → Nat) (xs : Nat) (xp : Nat) (xq : Nat) (xe : Nat) (xt : Nat) (xa : Nat → Nat) (ca : Nat → Nat) (na : Nat → Nat) (ra : Nat → Nat) (F : Nat)   (xi : Nat → Int32) (xrr : Nat → Option Nat) (si : Nat → Int32) (hq : ∀ i, i < 6 → xrr i = some (ra (6 * i))) {res : Int32} (h : f_X8_ruleInForce F xi xrr si = some res) : CtQ l yX8_ruleInForce wsX8_ruleInForce (rmK 2 0 0) [.ref (xo 0)] D k sz (([((xo 0), .inr (6, [.ref (ta 0), .ref xr, .int (xi 2), .ref (sa 0), .ref xm, .ref xg, .ref (tr 0), .ref xs, .ref xp, .ref xq, .ref xe, .ref xt]))] : va_W) ++ (([(xr, hcR k 6 xrr)] : va_W) ++ (([((sa 0), .inr (4, [.ref (xa 0), .ref (ca 0), .ref (na 0), .int (si 3), .int (si 4)]))] : va_W)))) (fun r (_ : Unit) => r = rAd ra res) (fun _ : Unit => ([((xo 0), .inr (6, [.ref (ta 0), .ref xr, .int (xi 2), .ref (sa 0), .ref xm, .ref xg, .ref (tr 0), .ref xs, .ref xp, .ref xq, .ref xe, .ref xt]))] : va_W) ++ (([(xr, hcR k 6 xrr)] : va_W) ++ (([((sa 0), .inr (4, [.ref (xa 0), .ref (ca 0), .ref (na 0), .int (si 3), .int (si 4)]))] : va_W)))) 0 0 := by
  refine CtQ.mk (cc := cX8_ruleInForce) (maxL := 1) (ret := (some (.object "ChairCane$Rule"))) (by decide) rfl (Nat.le_of_ble_eq_true rfl) ?_
  intro p e s m below meth c A ls E hP hD hS hl
  obtain ⟨hx, hb, hr, hml, hown, hts, hlocks, hin, hG, hA⟩ := E
  have hown : s.vm.findClass RX8 = some m.cls := hown
  have in6 : ∀ w ∈ u_ws RX6 TX6 5, w ∈ wsX8_ruleInForce := fun _ h => List.mem_cons_of_mem _ (List.mem_append_right _ h)
  have in8 : ∀ w ∈ u_ws RX8 TX8 12, w ∈ wsX8_ruleInForce := fun _ h => List.mem_cons_of_mem _ (List.mem_append_left _ (List.mem_append_right _ h))
  have hl : lv_has ls 1 [(0, .ref (xo 0))] := hl
  refine lv_aload_n hx hb dX8_ruleInForce_0 rfl (lv_at hl 0 rfl) ?_
  refine lv_aload_n hx hb dX8_ruleInForce_1 rfl (lv_at hl 0 rfl) ?_
  refine va_get (D := D) (ci := 6) (v := .ref (sa 0)) (C := RX8) (T := TX8) (N := 12) hx hb hts in8 hown hG.1 hP 0 rfl rfl 3 (by decide) (hts (.fieldLink RX8 29 "ChairCane" "now" "LChairCane$Standing;") (mem_b bq_wsX8_ruleInForce 0 0 rfl)) (fun _ h9 => h9) rfl dX8_ruleInForce_2 ?_
  refine va_get (D := D) (ci := 4) (v := .int (si 3)) (C := RX6) (T := TX6) (N := 5) hx hb hts in6 hown hG.1 hP 2 rfl rfl 3 (by decide) (hts (.fieldLink RX8 112 "ChairCane$Standing" "inForce" "I") (mem_b bq_wsX8_ruleInForce 0 1 rfl)) (fun _ h9 => h9) rfl dX8_ruleInForce_5 ?_
  obtain ⟨hP, hD⟩ := qm hP hD (q_to [([((xo 0), .inr (6, [.ref (ta 0), .ref xr, .int (xi 2), .ref (sa 0), .ref xm, .ref xg, .ref (tr 0), .ref xs, .ref xp, .ref xq, .ref xe, .ref xt]))] : va_W), ([(xr, hcR k 6 xrr)] : va_W), ([((sa 0), .inr (4, [.ref (xa 0), .ref (ca 0), .ref (na 0), .int (si 3), .int (si 4)]))] : va_W)] [0, 1, 2] [0, 1] [2] (by decide +kernel))
  refine fw_Vq (As := [.int (si 3)]) (rest := []) (n := 1) (rv := fun b : Int32 => rAd ra b) (wp := fun b : Int32 => ([((xo 0), .inr (6, [.ref (ta 0), .ref xr, .int (xi 2), .ref (sa 0), .ref xm, .ref xg, .ref (tr 0), .ref xs, .ref xp, .ref xq, .ref xe, .ref xt]))] : va_W) ++ (([(xr, hcR k 6 xrr)] : va_W))) h hx hb hml hown hts hG hA hP hD hS hl.1 _ _ (fun q hq9 => c_X8_ruleAt l D k _  xo ta xr sa xm xg tr xs xp xq xe xt ra F (si 3) xi xrr hq hq9) (ci := 6) (q0 := 0) rfl rfl gX8_ruleInForce_X8_ruleAt rfl ⟨rfl, rfl, Nat.le_of_ble_eq_true rfl, Nat.le_of_ble_eq_true rfl⟩ (by decide +kernel) (q_l _ _) (q_r _ _) (q_nd _ _) ⟨rfl, rfl, Nat.le_of_ble_eq_true rfl, Nat.le_of_ble_eq_true rfl, Nat.le_of_ble_eq_true rfl⟩ dX8_ruleInForce_8 (fun q1 H locs h hP hD hS => ?_)
  obtain ⟨hP, hD⟩ := qm (w2 := ([((xo 0), .inr (6, [.ref (ta 0), .ref xr, .int (xi 2), .ref (sa 0), .ref xm, .ref xg, .ref (tr 0), .ref xs, .ref xp, .ref xq, .ref xe, .ref xt]))] : va_W) ++ (([(xr, hcR k 6 xrr)] : va_W) ++ (([((sa 0), .inr (4, [.ref (xa 0), .ref (ca 0), .ref (na 0), .int (si 3), .int (si 4)]))] : va_W)))) hP hD (q_from [([((xo 0), .inr (6, [.ref (ta 0), .ref xr, .int (xi 2), .ref (sa 0), .ref xm, .ref xg, .ref (tr 0), .ref xs, .ref xp, .ref xq, .ref xe, .ref xt]))] : va_W), ([(xr, hcR k 6 xrr)] : va_W), ([((sa 0), .inr (4, [.ref (xa 0), .ref (ca 0), .ref (na 0), .int (si 3), .int (si 4)]))] : va_W)] [2] [0, 1] [0, 1, 2] (by decide +kernel))
  refine hc_isV (z := va_rf (rAd ra q1)) rfl ?_
  exact fw_endQ (rv := fun b : Int32 => b) (ra := ra) (v := rAd ra q1) (wp := fun b : Int32 => ([((xo 0), .inr (6, [.ref (ta 0), .ref xr, .int (xi 2), .ref (sa 0), .ref xm, .ref xg, .ref (tr 0), .ref xs, .ref xp, .ref xq, .ref xe, .ref xt]))] : va_W) ++ (([(xr, hcR k 6 xrr)] : va_W) ++ (([((sa 0), .inr (4, [.ref (xa 0), .ref (ca 0), .ref (na 0), .int (si 3), .int (si 4)]))] : va_W)))) hx hb hr hlocks h rfl hP hD hS dX8_ruleInForce_11
noncomputable def b_X8_force_13 (F : Nat)  (xi : Nat → Int32)  (si : Nat → Int32) : Option (Int32 × (Nat → Int32)) :=
  some ((-2), si)
noncomputable def f_X8_force (F : Nat)  (x1 : Int32) (xi : Nat → Int32) (si : Nat → Int32) : Option (Int32 × (Nat → Int32)) :=
  if x1 < (-1) then (b_X8_force_13 F xi si) else (if x1 < (xi 2) then (some ((si 3), (uF si 3 x1))) else (b_X8_force_13 F xi si))
set_option maxRecDepth 20000 in
theorem bq_wsX8_force : subq wsX8_force [[.fieldLink RX8 22 "ChairCane" "ruleCount" "I", .fieldLink RX8 29 "ChairCane" "now" "LChairCane$Standing;", .fieldLink RX8 112 "ChairCane$Standing" "inForce" "I"]] := ⟨(fun _ h => (List.mem_cons_of_mem _ (List.mem_append_left _ (List.mem_append_left _ h)))), trivial⟩
set_option maxHeartbeats 4000000 in
set_option maxRecDepth 100000 in
theorem c_X8_force (l : Launch) (D : va_G) (k : Nat → ClassId) (sz : Nat)  (xo : Nat → Nat) (ta : Nat → Nat) (xr : Nat) (sa : Nat → Nat) (xm : Nat) (xg : Nat) (tr : Nat → Nat) (xs : Nat) (xp : Nat) (xq : Nat) (xe : Nat) (xt : Nat) (xa : Nat → Nat) (ca : Nat → Nat) (na : Nat → Nat) (F : Nat)  (x1 : Int32) (xi : Nat → Int32) (si : Nat → Int32)  {res : Int32 × (Nat → Int32)} (h : f_X8_force F x1 xi si = some res) : CtI l yX8_force wsX8_force (rmK 1 0 0) [.ref (xo 0), .int x1] D k sz (([((xo 0), .inr (6, [.ref (ta 0), .ref xr, .int (xi 2), .ref (sa 0), .ref xm, .ref xg, .ref (tr 0), .ref xs, .ref xp, .ref xq, .ref xe, .ref xt]))] : va_W) ++ (([((sa 0), .inr (4, [.ref (xa 0), .ref (ca 0), .ref (na 0), .int (si 3), .int (si 4)]))] : va_W))) (fun r (_ : Unit) => r = res.1) (fun _ : Unit => ([((xo 0), .inr (6, [.ref (ta 0), .ref xr, .int (xi 2), .ref (sa 0), .ref xm, .ref xg, .ref (tr 0), .ref xs, .ref xp, .ref xq, .ref xe, .ref xt]))] : va_W) ++ (([((sa 0), .inr (4, [.ref (xa 0), .ref (ca 0), .ref (na 0), .int (res.2 3), .int (res.2 4)]))] : va_W))) 0 0 := by
  refine CtI.mk (cc := cX8_force) (maxL := 3) (ret := (some .int)) (by decide) rfl (Nat.le_of_ble_eq_true rfl) ?_
  intro p e s m below meth c A ls E hP hD hS hl
  obtain ⟨hx, hb, hr, hml, hown, hts, hlocks, hin, hG, hA⟩ := E
  have hown : s.vm.findClass RX8 = some m.cls := hown
  have in6 : ∀ w ∈ u_ws RX6 TX6 5, w ∈ wsX8_force := fun _ h => List.mem_cons_of_mem _ (List.mem_append_right _ h)
  have in8 : ∀ w ∈ u_ws RX8 TX8 12, w ∈ wsX8_force := fun _ h => List.mem_cons_of_mem _ (List.mem_append_left _ (List.mem_append_right _ h))
  have hl : lv_has ls 3 [(0, .ref (xo 0)), (1, .int x1)] := hl
  have B13 : ∀ (si : Nat → Int32) (H : Heap) (locs : List Loc) (ls : Array Slot), b_X8_force_13 F xi si = some res → va_P D vwCl (([((xo 0), .inr (6, [.ref (ta 0), .ref xr, .int (xi 2), .ref (sa 0), .ref xm, .ref xg, .ref (tr 0), .ref xs, .ref xp, .ref xq, .ref xe, .ref xt]))] : va_W) ++ (([((sa 0), .inr (4, [.ref (xa 0), .ref (ca 0), .ref (na 0), .int (si 3), .int (si 4)]))] : va_W))) H → va_D A (([((xo 0), .inr (6, [.ref (ta 0), .ref xr, .int (xi 2), .ref (sa 0), .ref xm, .ref xg, .ref (tr 0), .ref xs, .ref xp, .ref xq, .ref xe, .ref xt]))] : va_W) ++ (([((sa 0), .inr (4, [.ref (xa 0), .ref (ca 0), .ref (na 0), .int (si 3), .int (si 4)]))] : va_W))) → va_S A s.heap H locs → lv_has ls 3 [] → W p l e (rmK 1 0 0) s m (List.toArray [.ref (xo 0), .int x1]) below meth c H locs 0 0 (MQ below (va_Qi (fun r (_ : Unit) => r = res.1) (hcB D (fun _ : Unit => ([((xo 0), .inr (6, [.ref (ta 0), .ref xr, .int (xi 2), .ref (sa 0), .ref xm, .ref xg, .ref (tr 0), .ref xs, .ref xp, .ref xq, .ref xe, .ref xt]))] : va_W) ++ (([((sa 0), .inr (4, [.ref (xa 0), .ref (ca 0), .ref (na 0), .int (res.2 3), .int (res.2 4)]))] : va_W))) A) A) (List.toArray [.ref (xo 0), .int x1]) s 0 0 A) (F0 m 13 ls []) := by
    intro si H locs ls h hP hD hS hl
    refine lv_bipush (v := (-2)) hx hb dX8_force_13 (by decide) ?_
    exact fw_endI (rv := fun b : Int32 × (Nat → Int32) => b.1) (wp := fun b : Int32 × (Nat → Int32) => ([((xo 0), .inr (6, [.ref (ta 0), .ref xr, .int (xi 2), .ref (sa 0), .ref xm, .ref xg, .ref (tr 0), .ref xs, .ref xp, .ref xq, .ref xe, .ref xt]))] : va_W) ++ (([((sa 0), .inr (4, [.ref (xa 0), .ref (ca 0), .ref (na 0), .int (b.2 3), .int (b.2 4)]))] : va_W))) hx hb hr hlocks h rfl hP hD hS dX8_force_15
  refine lv_iload_n hx hb dX8_force_0 rfl (lv_at hl 1 rfl) ?_
  refine lv_iconst (v := (-1)) hx hb dX8_force_1 (by decide) ?_
  refine lv_icmp_lt (tgt := 13) hx hb dX8_force_2 (by decide) (fun c1 => ?_) (fun c1 => ?_)
  · have h := fw_t c1 h
    exact B13 _ _ _ _ h hP hD hS (lv_sub hl [] rfl)
  · have h := fw_f c1 h
    refine lv_iload_n hx hb dX8_force_5 rfl (lv_at hl 1 rfl) ?_
    refine lv_aload_n hx hb dX8_force_6 rfl (lv_at hl 0 rfl) ?_
    refine va_get (D := D) (ci := 6) (v := .int (xi 2)) (C := RX8) (T := TX8) (N := 12) hx hb hts in8 hown hG.1 hP 0 rfl rfl 2 (by decide) (hts (.fieldLink RX8 22 "ChairCane" "ruleCount" "I") (mem_b bq_wsX8_force 0 0 rfl)) (fun _ h9 => h9) rfl dX8_force_7 ?_
    refine lv_icmp_lt (tgt := 16) hx hb dX8_force_10 (by decide) (fun c2 => ?_) (fun c2 => ?_)
    · have h := fw_t c2 h
      refine lv_aload_n hx hb dX8_force_16 rfl (lv_at hl 0 rfl) ?_
      refine va_get (D := D) (ci := 6) (v := .ref (sa 0)) (C := RX8) (T := TX8) (N := 12) hx hb hts in8 hown hG.1 hP 0 rfl rfl 3 (by decide) (hts (.fieldLink RX8 29 "ChairCane" "now" "LChairCane$Standing;") (mem_b bq_wsX8_force 0 1 rfl)) (fun _ h9 => h9) rfl dX8_force_17 ?_
      refine va_get (D := D) (ci := 4) (v := .int (si 3)) (C := RX6) (T := TX6) (N := 5) hx hb hts in6 hown hG.1 hP 1 rfl rfl 3 (by decide) (hts (.fieldLink RX8 112 "ChairCane$Standing" "inForce" "I") (mem_b bq_wsX8_force 0 2 rfl)) (fun _ h9 => h9) rfl dX8_force_20 ?_
      refine lv_istore_n (lv' := [(2, .int (si 3)), (0, .ref (xo 0)), (1, .int x1)]) hx hb dX8_force_23 rfl hl (by decide) rfl (fun ls hl => ?_)
      refine lv_aload_n hx hb dX8_force_24 rfl (lv_at hl 1 rfl) ?_
      refine va_get (D := D) (ci := 6) (v := .ref (sa 0)) (C := RX8) (T := TX8) (N := 12) hx hb hts in8 hown hG.1 hP 0 rfl rfl 3 (by decide) (hts (.fieldLink RX8 29 "ChairCane" "now" "LChairCane$Standing;") (mem_b bq_wsX8_force 0 1 rfl)) (fun _ h9 => h9) rfl dX8_force_25 ?_
      refine lv_iload_n hx hb dX8_force_28 rfl (lv_at hl 2 rfl) ?_
      refine va_put (D := D) (ci := 4) (v := .int x1) (C := RX6) (T := TX6) (N := 5) hx hb hts in6 tyX6 tyX6_ok nmX6 hown hG.1 hP hD hS 1 rfl rfl 3 (by decide) (hts (.fieldLink RX8 112 "ChairCane$Standing" "inForce" "I") (mem_b bq_wsX8_force 0 2 rfl)) (fun _ h9 => h9) rfl (tyX6_ok 3 (by decide)) rfl rfl (Nat.le_of_ble_eq_true rfl) dX8_force_29 (fun H locs hP hD hS => ?_)
      refine lv_iload_n hx hb dX8_force_32 rfl (lv_at hl 0 rfl) ?_
      exact fw_endI (rv := fun b : Int32 × (Nat → Int32) => b.1) (wp := fun b : Int32 × (Nat → Int32) => ([((xo 0), .inr (6, [.ref (ta 0), .ref xr, .int (xi 2), .ref (sa 0), .ref xm, .ref xg, .ref (tr 0), .ref xs, .ref xp, .ref xq, .ref xe, .ref xt]))] : va_W) ++ (([((sa 0), .inr (4, [.ref (xa 0), .ref (ca 0), .ref (na 0), .int (b.2 3), .int (b.2 4)]))] : va_W))) hx hb hr hlocks h rfl hP hD hS dX8_force_33
    · have h := fw_f c2 h
      exact B13 _ _ _ _ h hP hD hS (lv_sub hl [] rfl)
noncomputable def b_X8_strand_30 (F : Nat)  (xi : Nat → Int32) (si : Nat → Int32) (rm : OB)  (y0 : Int32) : Option (Int32) :=
  some y0
noncomputable def f_X8_strand (F : Nat)  (x1 : Int32) (xi : Nat → Int32) (si : Nat → Int32) (rm : OB) : Option (Int32) :=
  Option.bind (f_X3_hasStrand F x1 rm) (fun q1 => (if q1 = 0 then (b_X8_strand_30 F xi si rm (-1)) else (if ib x1 4 then (b_X8_strand_30 F xi si rm ((rm.2.1 9) (Int32.toNatClampNeg x1))) else none)))
set_option maxHeartbeats 4000000 in
set_option maxRecDepth 100000 in
theorem c_X8_strand (l : Launch) (D : va_G) (k : Nat → ClassId) (sz : Nat)  (xo : Nat → Nat) (ta : Nat → Nat) (xr : Nat) (sa : Nat → Nat) (xm : Nat) (xg : Nat) (tr : Nat → Nat) (xs : Nat) (xp : Nat) (xq : Nat) (xe : Nat) (xt : Nat) (xa : Nat → Nat) (ca : Nat → Nat) (na : Nat → Nat) (F : Nat)  (x1 : Int32) (xi : Nat → Int32) (si : Nat → Int32) (rm : OB)  {res : Int32} (h : f_X8_strand F x1 xi si rm = some res) : CtI l yX8_strand wsX8_strand (rmK 2 0 0) [.ref (xo 0), .int x1] D k sz (([((xo 0), .inr (6, [.ref (ta 0), .ref xr, .int (xi 2), .ref (sa 0), .ref xm, .ref xg, .ref (tr 0), .ref xs, .ref xp, .ref xq, .ref xe, .ref xt]))] : va_W) ++ (([((sa 0), .inr (4, [.ref (xa 0), .ref (ca 0), .ref (na 0), .int (si 3), .int (si 4)]))] : va_W) ++ (rmW k xa rm))) (fun r (_ : Unit) => r = res) (fun _ : Unit => ([((xo 0), .inr (6, [.ref (ta 0), .ref xr, .int (xi 2), .ref (sa 0), .ref xm, .ref xg, .ref (tr 0), .ref xs, .ref xp, .ref xq, .ref xe, .ref xt]))] : va_W) ++ (([((sa 0), .inr (4, [.ref (xa 0), .ref (ca 0), .ref (na 0), .int (si 3), .int (si 4)]))] : va_W) ++ (rmW k xa rm))) 0 0 := by
  refine CtI.mk (cc := cX8_strand) (maxL := 2) (ret := (some .int)) (by decide) rfl (Nat.le_of_ble_eq_true rfl) ?_
  intro p e s m below meth c A ls E hP hD hS hl
  obtain ⟨hx, hb, hr, hml, hown, hts, hlocks, hin, hG, hA⟩ := E
  have hown : s.vm.findClass RX8 = some m.cls := hown
  have in3 : ∀ w ∈ u_ws RX3 TX3 17, w ∈ wsX8_strand := fun _ h => List.mem_cons_of_mem _ (List.mem_append_right _ h)
  have in6 : ∀ w ∈ u_ws RX6 TX6 5, w ∈ wsX8_strand := fun _ h => List.mem_cons_of_mem _ (List.mem_append_left _ (List.mem_append_right _ h))
  have in8 : ∀ w ∈ u_ws RX8 TX8 12, w ∈ wsX8_strand := fun _ h => List.mem_cons_of_mem _ (List.mem_append_left _ (List.mem_append_left _ (List.mem_append_right _ h)))
  have hl : lv_has ls 2 [(0, .ref (xo 0)), (1, .int x1)] := hl
  have B30 : ∀ (y0 : Int32) (H : Heap) (locs : List Loc) (ls : Array Slot), b_X8_strand_30 F xi si rm y0 = some res → va_P D vwCl (([((xo 0), .inr (6, [.ref (ta 0), .ref xr, .int (xi 2), .ref (sa 0), .ref xm, .ref xg, .ref (tr 0), .ref xs, .ref xp, .ref xq, .ref xe, .ref xt]))] : va_W) ++ (([((sa 0), .inr (4, [.ref (xa 0), .ref (ca 0), .ref (na 0), .int (si 3), .int (si 4)]))] : va_W) ++ (rmW k xa rm))) H → va_D A (([((xo 0), .inr (6, [.ref (ta 0), .ref xr, .int (xi 2), .ref (sa 0), .ref xm, .ref xg, .ref (tr 0), .ref xs, .ref xp, .ref xq, .ref xe, .ref xt]))] : va_W) ++ (([((sa 0), .inr (4, [.ref (xa 0), .ref (ca 0), .ref (na 0), .int (si 3), .int (si 4)]))] : va_W) ++ (rmW k xa rm))) → va_S A s.heap H locs → lv_has ls 2 [] → W p l e (rmK 2 0 0) s m (List.toArray [.ref (xo 0), .int x1]) below meth c H locs 0 0 (MQ below (va_Qi (fun r (_ : Unit) => r = res) (hcB D (fun _ : Unit => ([((xo 0), .inr (6, [.ref (ta 0), .ref xr, .int (xi 2), .ref (sa 0), .ref xm, .ref xg, .ref (tr 0), .ref xs, .ref xp, .ref xq, .ref xe, .ref xt]))] : va_W) ++ (([((sa 0), .inr (4, [.ref (xa 0), .ref (ca 0), .ref (na 0), .int (si 3), .int (si 4)]))] : va_W) ++ (rmW k xa rm))) A) A) (List.toArray [.ref (xo 0), .int x1]) s 0 0 A) (F0 m 30 ls [.int y0]) := by
    intro y0 H locs ls h hP hD hS hl
    exact fw_endI (rv := fun b : Int32 => b) (wp := fun b : Int32 => ([((xo 0), .inr (6, [.ref (ta 0), .ref xr, .int (xi 2), .ref (sa 0), .ref xm, .ref xg, .ref (tr 0), .ref xs, .ref xp, .ref xq, .ref xe, .ref xt]))] : va_W) ++ (([((sa 0), .inr (4, [.ref (xa 0), .ref (ca 0), .ref (na 0), .int (si 3), .int (si 4)]))] : va_W) ++ (rmW k xa rm))) hx hb hr hlocks h rfl hP hD hS dX8_strand_30
  refine lv_aload_n hx hb dX8_strand_0 rfl (lv_at hl 0 rfl) ?_
  refine va_get (D := D) (ci := 6) (v := .ref (sa 0)) (C := RX8) (T := TX8) (N := 12) hx hb hts in8 hown hG.1 hP 0 rfl rfl 3 (by decide) (hts (.fieldLink RX8 29 "ChairCane" "now" "LChairCane$Standing;") (mem_b bq_wsX8_strand 0 0 rfl)) (fun _ h9 => h9) rfl dX8_strand_1 ?_
  refine va_get (D := D) (ci := 4) (v := .ref (xa 0)) (C := RX6) (T := TX6) (N := 5) hx hb hts in6 hown hG.1 hP 1 rfl rfl 0 (by decide) (hts (.fieldLink RX8 81 "ChairCane$Standing" "room" "LChairCane$Room;") (mem_b bq_wsX8_strand 0 1 rfl)) (fun _ h9 => h9) rfl dX8_strand_4 ?_
  refine lv_iload_n hx hb dX8_strand_7 rfl (lv_at hl 1 rfl) ?_
  obtain ⟨hP, hD⟩ := qm hP hD (q_to [([((xo 0), .inr (6, [.ref (ta 0), .ref xr, .int (xi 2), .ref (sa 0), .ref xm, .ref xg, .ref (tr 0), .ref xs, .ref xp, .ref xq, .ref xe, .ref xt]))] : va_W), ([((sa 0), .inr (4, [.ref (xa 0), .ref (ca 0), .ref (na 0), .int (si 3), .int (si 4)]))] : va_W), rmW k xa rm] [0, 1, 2] [2] [0, 1] (by decide +kernel))
  refine fw_Vi (As := [.int x1]) (rest := []) (n := 1) (rv := fun b : Int32 => b) (wp := fun b : Int32 => rmW k xa rm) h hx hb hml hown hts hG hA hP hD hS hl.1 _ _ (fun q hq9 => c_X3_hasStrand l D k _  xa F x1 rm  hq9) (ci := 2) (q0 := 0) rfl rfl gX8_strand_X3_hasStrand rfl ⟨rfl, rfl, Nat.le_of_ble_eq_true rfl, Nat.le_of_ble_eq_true rfl⟩ (by decide +kernel) (q_l _ _) (q_r _ _) (q_nd _ _) ⟨rfl, rfl, Nat.le_of_ble_eq_true rfl, Nat.le_of_ble_eq_true rfl, Nat.le_of_ble_eq_true rfl⟩ dX8_strand_8 (fun q1 H locs h hP hD hS => ?_)
  obtain ⟨hP, hD⟩ := qm (w2 := ([((xo 0), .inr (6, [.ref (ta 0), .ref xr, .int (xi 2), .ref (sa 0), .ref xm, .ref xg, .ref (tr 0), .ref xs, .ref xp, .ref xq, .ref xe, .ref xt]))] : va_W) ++ (([((sa 0), .inr (4, [.ref (xa 0), .ref (ca 0), .ref (na 0), .int (si 3), .int (si 4)]))] : va_W) ++ (rmW k xa rm))) hP hD (q_from [([((xo 0), .inr (6, [.ref (ta 0), .ref xr, .int (xi 2), .ref (sa 0), .ref xm, .ref xg, .ref (tr 0), .ref xs, .ref xp, .ref xq, .ref xe, .ref xt]))] : va_W), ([((sa 0), .inr (4, [.ref (xa 0), .ref (ca 0), .ref (na 0), .int (si 3), .int (si 4)]))] : va_W), rmW k xa rm] [0, 1] [2] [0, 1, 2] (by decide +kernel))
  refine hc_is (z := q1) rfl ?_
  refine lv_if_eq (tgt := 29) hx hb dX8_strand_11 (by decide) (fun c2 => ?_) (fun c2 => ?_)
  · have h := fw_t c2 h
    refine lv_iconst (v := (-1)) hx hb dX8_strand_29 (by decide) ?_
    exact B30 _ _ _ _ h hP hD hS (lv_sub hl [] rfl)
  · have h := fw_f c2 h
    refine lv_aload_n hx hb dX8_strand_14 rfl (lv_at hl 0 rfl) ?_
    refine va_get (D := D) (ci := 6) (v := .ref (sa 0)) (C := RX8) (T := TX8) (N := 12) hx hb hts in8 hown hG.1 hP 0 rfl rfl 3 (by decide) (hts (.fieldLink RX8 29 "ChairCane" "now" "LChairCane$Standing;") (mem_b bq_wsX8_strand 0 0 rfl)) (fun _ h9 => h9) rfl dX8_strand_15 ?_
    refine va_get (D := D) (ci := 4) (v := .ref (xa 0)) (C := RX6) (T := TX6) (N := 5) hx hb hts in6 hown hG.1 hP 1 rfl rfl 0 (by decide) (hts (.fieldLink RX8 81 "ChairCane$Standing" "room" "LChairCane$Room;") (mem_b bq_wsX8_strand 0 1 rfl)) (fun _ h9 => h9) rfl dX8_strand_18 ?_
    refine va_get (D := D) (ci := 2) (v := .ref (xa 6)) (C := RX3) (T := TX3) (N := 17) hx hb hts in3 hown hG.1 hP 2 rfl rfl 9 (by decide) (hts (.fieldLink RX8 119 "ChairCane$Room" "cane" "[I") (mem_b bq_wsX8_strand 0 2 rfl)) (fun _ h9 => h9) rfl dX8_strand_21 ?_
    refine lv_iload_n hx hb dX8_strand_24 rfl (lv_at hl 1 rfl) ?_
    obtain ⟨g3, h⟩ := fw_g h
    refine va_iald hx hb hG.1 hP 8 0 rfl rfl (ib_vp g3) dX8_strand_25 ?_
    refine lv_goto (tgt := 30) hx hb dX8_strand_26 (by decide) ?_
    exact B30 _ _ _ _ h hP hD hS (lv_sub hl [] rfl)
noncomputable def f_X8_chair (F : Nat)  (x1 : Int32) (x2 : Int32) (xi : Nat → Int32) (si : Nat → Int32) (rm : OB) : Option (Int32) :=
  Option.bind (f_X3_hasChair F x1 rm) (fun q1 => (if q1 = 0 then (some (-2)) else (if x2 = 0 then (if ib x1 8 then (some ((rm.2.1 5) (Int32.toNatClampNeg x1))) else none) else if x2 = 1 then (if ib x1 8 then (some ((rm.2.1 6) (Int32.toNatClampNeg x1))) else none) else if x2 = 2 then (Option.bind (f_X3_sitterOn F x1 rm) (fun q8 => (some q8))) else if x2 = 3 then (Option.bind (f_X3_sitterOn F x1 rm) (fun q10 => (Option.bind (f_X3_givesUnder F q10 rm) (fun q11 => (some q11))))) else (some (-2)))))
set_option maxHeartbeats 4000000 in
set_option maxRecDepth 100000 in
theorem c_X8_chair (l : Launch) (D : va_G) (k : Nat → ClassId) (sz : Nat)  (xo : Nat → Nat) (ta : Nat → Nat) (xr : Nat) (sa : Nat → Nat) (xm : Nat) (xg : Nat) (tr : Nat → Nat) (xs : Nat) (xp : Nat) (xq : Nat) (xe : Nat) (xt : Nat) (xa : Nat → Nat) (ca : Nat → Nat) (na : Nat → Nat) (F : Nat)  (x1 : Int32) (x2 : Int32) (xi : Nat → Int32) (si : Nat → Int32) (rm : OB)  {res : Int32} (h : f_X8_chair F x1 x2 xi si rm = some res) : CtI l yX8_chair wsX8_chair (rmK 2 0 0) [.ref (xo 0), .int x1, .int x2] D k sz (([((xo 0), .inr (6, [.ref (ta 0), .ref xr, .int (xi 2), .ref (sa 0), .ref xm, .ref xg, .ref (tr 0), .ref xs, .ref xp, .ref xq, .ref xe, .ref xt]))] : va_W) ++ (([((sa 0), .inr (4, [.ref (xa 0), .ref (ca 0), .ref (na 0), .int (si 3), .int (si 4)]))] : va_W) ++ (rmW k xa rm))) (fun r (_ : Unit) => r = res) (fun _ : Unit => ([((xo 0), .inr (6, [.ref (ta 0), .ref xr, .int (xi 2), .ref (sa 0), .ref xm, .ref xg, .ref (tr 0), .ref xs, .ref xp, .ref xq, .ref xe, .ref xt]))] : va_W) ++ (([((sa 0), .inr (4, [.ref (xa 0), .ref (ca 0), .ref (na 0), .int (si 3), .int (si 4)]))] : va_W) ++ (rmW k xa rm))) 0 0 := by
  refine CtI.mk (cc := cX8_chair) (maxL := 4) (ret := (some .int)) (by decide) rfl (Nat.le_of_ble_eq_true rfl) ?_
  intro p e s m below meth c A ls E hP hD hS hl
  obtain ⟨hx, hb, hr, hml, hown, hts, hlocks, hin, hG, hA⟩ := E
  have hown : s.vm.findClass RX8 = some m.cls := hown
  have in3 : ∀ w ∈ u_ws RX3 TX3 17, w ∈ wsX8_chair := fun _ h => List.mem_cons_of_mem _ (List.mem_append_right _ h)
  have in6 : ∀ w ∈ u_ws RX6 TX6 5, w ∈ wsX8_chair := fun _ h => List.mem_cons_of_mem _ (List.mem_append_left _ (List.mem_append_right _ h))
  have in8 : ∀ w ∈ u_ws RX8 TX8 12, w ∈ wsX8_chair := fun _ h => List.mem_cons_of_mem _ (List.mem_append_left _ (List.mem_append_left _ (List.mem_append_right _ h)))
  have hl : lv_has ls 4 [(0, .ref (xo 0)), (1, .int x1), (2, .int x2)] := hl
  refine lv_aload_n hx hb dX8_chair_0 rfl (lv_at hl 0 rfl) ?_
  refine va_get (D := D) (ci := 6) (v := .ref (sa 0)) (C := RX8) (T := TX8) (N := 12) hx hb hts in8 hown hG.1 hP 0 rfl rfl 3 (by decide) (hts (.fieldLink RX8 29 "ChairCane" "now" "LChairCane$Standing;") (mem_b bq_wsX8_chair 0 0 rfl)) (fun _ h9 => h9) rfl dX8_chair_1 ?_
  refine va_get (D := D) (ci := 4) (v := .ref (xa 0)) (C := RX6) (T := TX6) (N := 5) hx hb hts in6 hown hG.1 hP 1 rfl rfl 0 (by decide) (hts (.fieldLink RX8 81 "ChairCane$Standing" "room" "LChairCane$Room;") (mem_b bq_wsX8_chair 0 1 rfl)) (fun _ h9 => h9) rfl dX8_chair_4 ?_
  refine lv_astore_n (lv' := [(3, .ref (xa 0)), (0, .ref (xo 0)), (1, .int x1), (2, .int x2)]) hx hb dX8_chair_7 rfl hl (by decide) rfl (fun ls hl => ?_)
  refine lv_aload_n hx hb dX8_chair_8 rfl (lv_at hl 0 rfl) ?_
  refine lv_iload_n hx hb dX8_chair_9 rfl (lv_at hl 2 rfl) ?_
  obtain ⟨hP, hD⟩ := qm hP hD (q_to [([((xo 0), .inr (6, [.ref (ta 0), .ref xr, .int (xi 2), .ref (sa 0), .ref xm, .ref xg, .ref (tr 0), .ref xs, .ref xp, .ref xq, .ref xe, .ref xt]))] : va_W), ([((sa 0), .inr (4, [.ref (xa 0), .ref (ca 0), .ref (na 0), .int (si 3), .int (si 4)]))] : va_W), rmW k xa rm] [0, 1, 2] [2] [0, 1] (by decide +kernel))
  refine fw_Vi (As := [.int x1]) (rest := []) (n := 1) (rv := fun b : Int32 => b) (wp := fun b : Int32 => rmW k xa rm) h hx hb hml hown hts hG hA hP hD hS hl.1 _ _ (fun q hq9 => c_X3_hasChair l D k _  xa F x1 rm  hq9) (ci := 2) (q0 := 0) rfl rfl gX8_chair_X3_hasChair rfl ⟨rfl, rfl, Nat.le_of_ble_eq_true rfl, Nat.le_of_ble_eq_true rfl⟩ (by decide +kernel) (q_l _ _) (q_r _ _) (q_nd _ _) ⟨rfl, rfl, Nat.le_of_ble_eq_true rfl, Nat.le_of_ble_eq_true rfl, Nat.le_of_ble_eq_true rfl⟩ dX8_chair_10 (fun q1 H locs h hP hD hS => ?_)
  obtain ⟨hP, hD⟩ := qm (w2 := ([((xo 0), .inr (6, [.ref (ta 0), .ref xr, .int (xi 2), .ref (sa 0), .ref xm, .ref xg, .ref (tr 0), .ref xs, .ref xp, .ref xq, .ref xe, .ref xt]))] : va_W) ++ (([((sa 0), .inr (4, [.ref (xa 0), .ref (ca 0), .ref (na 0), .int (si 3), .int (si 4)]))] : va_W) ++ (rmW k xa rm))) hP hD (q_from [([((xo 0), .inr (6, [.ref (ta 0), .ref xr, .int (xi 2), .ref (sa 0), .ref xm, .ref xg, .ref (tr 0), .ref xs, .ref xp, .ref xq, .ref xe, .ref xt]))] : va_W), ([((sa 0), .inr (4, [.ref (xa 0), .ref (ca 0), .ref (na 0), .int (si 3), .int (si 4)]))] : va_W), rmW k xa rm] [0, 1] [2] [0, 1, 2] (by decide +kernel))
  refine hc_is (z := q1) rfl ?_
  refine lv_if_ne (tgt := 19) hx hb dX8_chair_13 (by decide) (fun c2 => ?_) (fun c2 => ?_)
  · have h := fw_f c2 h
    refine lv_iload_n hx hb dX8_chair_19 rfl (lv_at hl 3 rfl) ?_
    by_cases c3 : x2 = 0
    · have h := fw_t c3 h
      refine lv_tableIn (off := 32) (tgt := 52) hx hb dX8_chair_20 (by rw [c3]; decide) (by rw [c3]; decide) (by rw [c3]; rfl) (by decide) ?_
      refine lv_aload_n hx hb dX8_chair_52 rfl (lv_at hl 0 rfl) ?_
      refine va_get (D := D) (ci := 2) (v := .ref (xa 2)) (C := RX3) (T := TX3) (N := 17) hx hb hts in3 hown hG.1 hP 2 rfl rfl 5 (by decide) (hts (.fieldLink RX8 125 "ChairCane$Room" "height" "[I") (mem_b bq_wsX8_chair 0 2 rfl)) (fun _ h9 => h9) rfl dX8_chair_53 ?_
      refine lv_iload_n hx hb dX8_chair_56 rfl (lv_at hl 2 rfl) ?_
      obtain ⟨g4, h⟩ := fw_g h
      refine va_iald hx hb hG.1 hP 4 0 rfl rfl (ib_vp g4) dX8_chair_57 ?_
      exact fw_endI (rv := fun b : Int32 => b) (wp := fun b : Int32 => ([((xo 0), .inr (6, [.ref (ta 0), .ref xr, .int (xi 2), .ref (sa 0), .ref xm, .ref xg, .ref (tr 0), .ref xs, .ref xp, .ref xq, .ref xe, .ref xt]))] : va_W) ++ (([((sa 0), .inr (4, [.ref (xa 0), .ref (ca 0), .ref (na 0), .int (si 3), .int (si 4)]))] : va_W) ++ (rmW k xa rm))) hx hb hr hlocks h rfl hP hD hS dX8_chair_58
    have h := fw_f c3 h
    by_cases c5 : x2 = 1
    · have h := fw_t c5 h
      refine lv_tableIn (off := 39) (tgt := 59) hx hb dX8_chair_20 (by rw [c5]; decide) (by rw [c5]; decide) (by rw [c5]; rfl) (by decide) ?_
      refine lv_aload_n hx hb dX8_chair_59 rfl (lv_at hl 0 rfl) ?_
      refine va_get (D := D) (ci := 2) (v := .ref (xa 3)) (C := RX3) (T := TX3) (N := 17) hx hb hts in3 hown hG.1 hP 2 rfl rfl 6 (by decide) (hts (.fieldLink RX8 128 "ChairCane$Room" "strandOf" "[I") (mem_b bq_wsX8_chair 0 3 rfl)) (fun _ h9 => h9) rfl dX8_chair_60 ?_
      refine lv_iload_n hx hb dX8_chair_63 rfl (lv_at hl 2 rfl) ?_
      obtain ⟨g6, h⟩ := fw_g h
      refine va_iald hx hb hG.1 hP 5 0 rfl rfl (ib_vp g6) dX8_chair_64 ?_
      exact fw_endI (rv := fun b : Int32 => b) (wp := fun b : Int32 => ([((xo 0), .inr (6, [.ref (ta 0), .ref xr, .int (xi 2), .ref (sa 0), .ref xm, .ref xg, .ref (tr 0), .ref xs, .ref xp, .ref xq, .ref xe, .ref xt]))] : va_W) ++ (([((sa 0), .inr (4, [.ref (xa 0), .ref (ca 0), .ref (na 0), .int (si 3), .int (si 4)]))] : va_W) ++ (rmW k xa rm))) hx hb hr hlocks h rfl hP hD hS dX8_chair_65
    have h := fw_f c5 h
    by_cases c7 : x2 = 2
    · have h := fw_t c7 h
      refine lv_tableIn (off := 46) (tgt := 66) hx hb dX8_chair_20 (by rw [c7]; decide) (by rw [c7]; decide) (by rw [c7]; rfl) (by decide) ?_
      refine lv_aload_n hx hb dX8_chair_66 rfl (lv_at hl 0 rfl) ?_
      refine lv_iload_n hx hb dX8_chair_67 rfl (lv_at hl 2 rfl) ?_
      obtain ⟨hP, hD⟩ := qm hP hD (q_to [([((xo 0), .inr (6, [.ref (ta 0), .ref xr, .int (xi 2), .ref (sa 0), .ref xm, .ref xg, .ref (tr 0), .ref xs, .ref xp, .ref xq, .ref xe, .ref xt]))] : va_W), ([((sa 0), .inr (4, [.ref (xa 0), .ref (ca 0), .ref (na 0), .int (si 3), .int (si 4)]))] : va_W), rmW k xa rm] [0, 1, 2] [2] [0, 1] (by decide +kernel))
      refine fw_Vi (As := [.int x1]) (rest := []) (n := 1) (rv := fun b : Int32 => b) (wp := fun b : Int32 => rmW k xa rm) h hx hb hml hown hts hG hA hP hD hS hl.1 _ _ (fun q hq9 => c_X3_sitterOn l D k _  xa F x1 rm  hq9) (ci := 2) (q0 := 0) rfl rfl gX8_chair_X3_sitterOn rfl ⟨rfl, rfl, Nat.le_of_ble_eq_true rfl, Nat.le_of_ble_eq_true rfl⟩ (by decide +kernel) (q_l _ _) (q_r _ _) (q_nd _ _) ⟨rfl, rfl, Nat.le_of_ble_eq_true rfl, Nat.le_of_ble_eq_true rfl, Nat.le_of_ble_eq_true rfl⟩ dX8_chair_68 (fun q8 H locs h hP hD hS => ?_)
      obtain ⟨hP, hD⟩ := qm (w2 := ([((xo 0), .inr (6, [.ref (ta 0), .ref xr, .int (xi 2), .ref (sa 0), .ref xm, .ref xg, .ref (tr 0), .ref xs, .ref xp, .ref xq, .ref xe, .ref xt]))] : va_W) ++ (([((sa 0), .inr (4, [.ref (xa 0), .ref (ca 0), .ref (na 0), .int (si 3), .int (si 4)]))] : va_W) ++ (rmW k xa rm))) hP hD (q_from [([((xo 0), .inr (6, [.ref (ta 0), .ref xr, .int (xi 2), .ref (sa 0), .ref xm, .ref xg, .ref (tr 0), .ref xs, .ref xp, .ref xq, .ref xe, .ref xt]))] : va_W), ([((sa 0), .inr (4, [.ref (xa 0), .ref (ca 0), .ref (na 0), .int (si 3), .int (si 4)]))] : va_W), rmW k xa rm] [0, 1] [2] [0, 1, 2] (by decide +kernel))
      refine hc_is (z := q8) rfl ?_
      exact fw_endI (rv := fun b : Int32 => b) (wp := fun b : Int32 => ([((xo 0), .inr (6, [.ref (ta 0), .ref xr, .int (xi 2), .ref (sa 0), .ref xm, .ref xg, .ref (tr 0), .ref xs, .ref xp, .ref xq, .ref xe, .ref xt]))] : va_W) ++ (([((sa 0), .inr (4, [.ref (xa 0), .ref (ca 0), .ref (na 0), .int (si 3), .int (si 4)]))] : va_W) ++ (rmW k xa rm))) hx hb hr hlocks h rfl hP hD hS dX8_chair_71
    have h := fw_f c7 h
    by_cases c9 : x2 = 3
    · have h := fw_t c9 h
      refine lv_tableIn (off := 52) (tgt := 72) hx hb dX8_chair_20 (by rw [c9]; decide) (by rw [c9]; decide) (by rw [c9]; rfl) (by decide) ?_
      refine lv_aload_n hx hb dX8_chair_72 rfl (lv_at hl 0 rfl) ?_
      refine lv_aload_n hx hb dX8_chair_73 rfl (lv_at hl 0 rfl) ?_
      refine lv_iload_n hx hb dX8_chair_74 rfl (lv_at hl 2 rfl) ?_
      obtain ⟨hP, hD⟩ := qm hP hD (q_to [([((xo 0), .inr (6, [.ref (ta 0), .ref xr, .int (xi 2), .ref (sa 0), .ref xm, .ref xg, .ref (tr 0), .ref xs, .ref xp, .ref xq, .ref xe, .ref xt]))] : va_W), ([((sa 0), .inr (4, [.ref (xa 0), .ref (ca 0), .ref (na 0), .int (si 3), .int (si 4)]))] : va_W), rmW k xa rm] [0, 1, 2] [2] [0, 1] (by decide +kernel))
      refine fw_Vi (As := [.int x1]) (rest := [.ref (xa 0)]) (n := 1) (rv := fun b : Int32 => b) (wp := fun b : Int32 => rmW k xa rm) h hx hb hml hown hts hG hA hP hD hS hl.1 _ _ (fun q hq9 => c_X3_sitterOn l D k _  xa F x1 rm  hq9) (ci := 2) (q0 := 0) rfl rfl gX8_chair_X3_sitterOn rfl ⟨rfl, rfl, Nat.le_of_ble_eq_true rfl, Nat.le_of_ble_eq_true rfl⟩ (by decide +kernel) (q_l _ _) (q_r _ _) (q_nd _ _) ⟨rfl, rfl, Nat.le_of_ble_eq_true rfl, Nat.le_of_ble_eq_true rfl, Nat.le_of_ble_eq_true rfl⟩ dX8_chair_75 (fun q10 H locs h hP hD hS => ?_)
      obtain ⟨hP, hD⟩ := qm (w2 := ([((xo 0), .inr (6, [.ref (ta 0), .ref xr, .int (xi 2), .ref (sa 0), .ref xm, .ref xg, .ref (tr 0), .ref xs, .ref xp, .ref xq, .ref xe, .ref xt]))] : va_W) ++ (([((sa 0), .inr (4, [.ref (xa 0), .ref (ca 0), .ref (na 0), .int (si 3), .int (si 4)]))] : va_W) ++ (rmW k xa rm))) hP hD (q_from [([((xo 0), .inr (6, [.ref (ta 0), .ref xr, .int (xi 2), .ref (sa 0), .ref xm, .ref xg, .ref (tr 0), .ref xs, .ref xp, .ref xq, .ref xe, .ref xt]))] : va_W), ([((sa 0), .inr (4, [.ref (xa 0), .ref (ca 0), .ref (na 0), .int (si 3), .int (si 4)]))] : va_W), rmW k xa rm] [0, 1] [2] [0, 1, 2] (by decide +kernel))
      refine hc_is (z := q10) rfl ?_
      obtain ⟨hP, hD⟩ := qm hP hD (q_to [([((xo 0), .inr (6, [.ref (ta 0), .ref xr, .int (xi 2), .ref (sa 0), .ref xm, .ref xg, .ref (tr 0), .ref xs, .ref xp, .ref xq, .ref xe, .ref xt]))] : va_W), ([((sa 0), .inr (4, [.ref (xa 0), .ref (ca 0), .ref (na 0), .int (si 3), .int (si 4)]))] : va_W), rmW k xa rm] [0, 1, 2] [2] [0, 1] (by decide +kernel))
      refine fw_Vi (As := [.int q10]) (rest := []) (n := 1) (rv := fun b : Int32 => b) (wp := fun b : Int32 => rmW k xa rm) h hx hb hml hown hts hG hA hP hD hS hl.1 _ _ (fun q hq9 => c_X3_givesUnder l D k _  xa F q10 rm  hq9) (ci := 2) (q0 := 0) rfl rfl gX8_chair_X3_givesUnder rfl ⟨rfl, rfl, Nat.le_of_ble_eq_true rfl, Nat.le_of_ble_eq_true rfl⟩ (by decide +kernel) (q_l _ _) (q_r _ _) (q_nd _ _) ⟨rfl, rfl, Nat.le_of_ble_eq_true rfl, Nat.le_of_ble_eq_true rfl, Nat.le_of_ble_eq_true rfl⟩ dX8_chair_78 (fun q11 H locs h hP hD hS => ?_)
      obtain ⟨hP, hD⟩ := qm (w2 := ([((xo 0), .inr (6, [.ref (ta 0), .ref xr, .int (xi 2), .ref (sa 0), .ref xm, .ref xg, .ref (tr 0), .ref xs, .ref xp, .ref xq, .ref xe, .ref xt]))] : va_W) ++ (([((sa 0), .inr (4, [.ref (xa 0), .ref (ca 0), .ref (na 0), .int (si 3), .int (si 4)]))] : va_W) ++ (rmW k xa rm))) hP hD (q_from [([((xo 0), .inr (6, [.ref (ta 0), .ref xr, .int (xi 2), .ref (sa 0), .ref xm, .ref xg, .ref (tr 0), .ref xs, .ref xp, .ref xq, .ref xe, .ref xt]))] : va_W), ([((sa 0), .inr (4, [.ref (xa 0), .ref (ca 0), .ref (na 0), .int (si 3), .int (si 4)]))] : va_W), rmW k xa rm] [0, 1] [2] [0, 1, 2] (by decide +kernel))
      refine hc_is (z := q11) rfl ?_
      exact fw_endI (rv := fun b : Int32 => b) (wp := fun b : Int32 => ([((xo 0), .inr (6, [.ref (ta 0), .ref xr, .int (xi 2), .ref (sa 0), .ref xm, .ref xg, .ref (tr 0), .ref xs, .ref xp, .ref xq, .ref xe, .ref xt]))] : va_W) ++ (([((sa 0), .inr (4, [.ref (xa 0), .ref (ca 0), .ref (na 0), .int (si 3), .int (si 4)]))] : va_W) ++ (rmW k xa rm))) hx hb hr hlocks h rfl hP hD hS dX8_chair_81
    have h := fw_f c9 h
    simp only [sp_eq, show (0 : Int32).toInt = 0 from by decide, show (1 : Int32).toInt = 1 from by decide, show (2 : Int32).toInt = 2 from by decide, show (3 : Int32).toInt = 3 from by decide] at c3 c5 c7 c9
    refine lv_tableOut (tgt := 82) hx hb dX8_chair_20 (by omega) (by decide) ?_
    refine lv_bipush (v := (-2)) hx hb dX8_chair_82 (by decide) ?_
    exact fw_endI (rv := fun b : Int32 => b) (wp := fun b : Int32 => ([((xo 0), .inr (6, [.ref (ta 0), .ref xr, .int (xi 2), .ref (sa 0), .ref xm, .ref xg, .ref (tr 0), .ref xs, .ref xp, .ref xq, .ref xe, .ref xt]))] : va_W) ++ (([((sa 0), .inr (4, [.ref (xa 0), .ref (ca 0), .ref (na 0), .int (si 3), .int (si 4)]))] : va_W) ++ (rmW k xa rm))) hx hb hr hlocks h rfl hP hD hS dX8_chair_84
  · have h := fw_t c2 h
    refine lv_bipush (v := (-2)) hx hb dX8_chair_16 (by decide) ?_
    exact fw_endI (rv := fun b : Int32 => b) (wp := fun b : Int32 => ([((xo 0), .inr (6, [.ref (ta 0), .ref xr, .int (xi 2), .ref (sa 0), .ref xm, .ref xg, .ref (tr 0), .ref xs, .ref xp, .ref xq, .ref xe, .ref xt]))] : va_W) ++ (([((sa 0), .inr (4, [.ref (xa 0), .ref (ca 0), .ref (na 0), .int (si 3), .int (si 4)]))] : va_W) ++ (rmW k xa rm))) hx hb hr hlocks h rfl hP hD hS dX8_chair_18
noncomputable def f_X8_sitter (F : Nat)  (x1 : Int32) (x2 : Int32) (xi : Nat → Int32) (si : Nat → Int32) (rm : OB) : Option (Int32) :=
  Option.bind (f_X3_hasSitter F x1 rm) (fun q1 => (if q1 = 0 then (some (-1)) else (if x2 = 0 then (if ib x1 8 then (some ((rm.2.1 7) (Int32.toNatClampNeg x1))) else none) else if x2 = 1 then (if ib x1 8 then (some ((rm.2.1 8) (Int32.toNatClampNeg x1))) else none) else if x2 = 2 then (Option.bind (f_X3_stateOf F x1 rm) (fun q8 => (some q8))) else (some (-1)))))
set_option maxHeartbeats 4000000 in
set_option maxRecDepth 100000 in
theorem c_X8_sitter (l : Launch) (D : va_G) (k : Nat → ClassId) (sz : Nat)  (xo : Nat → Nat) (ta : Nat → Nat) (xr : Nat) (sa : Nat → Nat) (xm : Nat) (xg : Nat) (tr : Nat → Nat) (xs : Nat) (xp : Nat) (xq : Nat) (xe : Nat) (xt : Nat) (xa : Nat → Nat) (ca : Nat → Nat) (na : Nat → Nat) (F : Nat)  (x1 : Int32) (x2 : Int32) (xi : Nat → Int32) (si : Nat → Int32) (rm : OB)  {res : Int32} (h : f_X8_sitter F x1 x2 xi si rm = some res) : CtI l yX8_sitter wsX8_sitter (rmK 3 0 0) [.ref (xo 0), .int x1, .int x2] D k sz (([((xo 0), .inr (6, [.ref (ta 0), .ref xr, .int (xi 2), .ref (sa 0), .ref xm, .ref xg, .ref (tr 0), .ref xs, .ref xp, .ref xq, .ref xe, .ref xt]))] : va_W) ++ (([((sa 0), .inr (4, [.ref (xa 0), .ref (ca 0), .ref (na 0), .int (si 3), .int (si 4)]))] : va_W) ++ (rmW k xa rm))) (fun r (_ : Unit) => r = res) (fun _ : Unit => ([((xo 0), .inr (6, [.ref (ta 0), .ref xr, .int (xi 2), .ref (sa 0), .ref xm, .ref xg, .ref (tr 0), .ref xs, .ref xp, .ref xq, .ref xe, .ref xt]))] : va_W) ++ (([((sa 0), .inr (4, [.ref (xa 0), .ref (ca 0), .ref (na 0), .int (si 3), .int (si 4)]))] : va_W) ++ (rmW k xa rm))) 0 0 := by
  refine CtI.mk (cc := cX8_sitter) (maxL := 4) (ret := (some .int)) (by decide) rfl (Nat.le_of_ble_eq_true rfl) ?_
  intro p e s m below meth c A ls E hP hD hS hl
  obtain ⟨hx, hb, hr, hml, hown, hts, hlocks, hin, hG, hA⟩ := E
  have hown : s.vm.findClass RX8 = some m.cls := hown
  have in3 : ∀ w ∈ u_ws RX3 TX3 17, w ∈ wsX8_sitter := fun _ h => List.mem_cons_of_mem _ (List.mem_append_right _ h)
  have in6 : ∀ w ∈ u_ws RX6 TX6 5, w ∈ wsX8_sitter := fun _ h => List.mem_cons_of_mem _ (List.mem_append_left _ (List.mem_append_right _ h))
  have in8 : ∀ w ∈ u_ws RX8 TX8 12, w ∈ wsX8_sitter := fun _ h => List.mem_cons_of_mem _ (List.mem_append_left _ (List.mem_append_left _ (List.mem_append_right _ h)))
  have hl : lv_has ls 4 [(0, .ref (xo 0)), (1, .int x1), (2, .int x2)] := hl
  refine lv_aload_n hx hb dX8_sitter_0 rfl (lv_at hl 0 rfl) ?_
  refine va_get (D := D) (ci := 6) (v := .ref (sa 0)) (C := RX8) (T := TX8) (N := 12) hx hb hts in8 hown hG.1 hP 0 rfl rfl 3 (by decide) (hts (.fieldLink RX8 29 "ChairCane" "now" "LChairCane$Standing;") (mem_b bq_wsX8_sitter 0 0 rfl)) (fun _ h9 => h9) rfl dX8_sitter_1 ?_
  refine va_get (D := D) (ci := 4) (v := .ref (xa 0)) (C := RX6) (T := TX6) (N := 5) hx hb hts in6 hown hG.1 hP 1 rfl rfl 0 (by decide) (hts (.fieldLink RX8 81 "ChairCane$Standing" "room" "LChairCane$Room;") (mem_b bq_wsX8_sitter 0 1 rfl)) (fun _ h9 => h9) rfl dX8_sitter_4 ?_
  refine lv_astore_n (lv' := [(3, .ref (xa 0)), (0, .ref (xo 0)), (1, .int x1), (2, .int x2)]) hx hb dX8_sitter_7 rfl hl (by decide) rfl (fun ls hl => ?_)
  refine lv_aload_n hx hb dX8_sitter_8 rfl (lv_at hl 0 rfl) ?_
  refine lv_iload_n hx hb dX8_sitter_9 rfl (lv_at hl 2 rfl) ?_
  obtain ⟨hP, hD⟩ := qm hP hD (q_to [([((xo 0), .inr (6, [.ref (ta 0), .ref xr, .int (xi 2), .ref (sa 0), .ref xm, .ref xg, .ref (tr 0), .ref xs, .ref xp, .ref xq, .ref xe, .ref xt]))] : va_W), ([((sa 0), .inr (4, [.ref (xa 0), .ref (ca 0), .ref (na 0), .int (si 3), .int (si 4)]))] : va_W), rmW k xa rm] [0, 1, 2] [2] [0, 1] (by decide +kernel))
  refine fw_Vi (As := [.int x1]) (rest := []) (n := 1) (rv := fun b : Int32 => b) (wp := fun b : Int32 => rmW k xa rm) h hx hb hml hown hts hG hA hP hD hS hl.1 _ _ (fun q hq9 => c_X3_hasSitter l D k _  xa F x1 rm  hq9) (ci := 2) (q0 := 0) rfl rfl gX8_sitter_X3_hasSitter rfl ⟨rfl, rfl, Nat.le_of_ble_eq_true rfl, Nat.le_of_ble_eq_true rfl⟩ (by decide +kernel) (q_l _ _) (q_r _ _) (q_nd _ _) ⟨rfl, rfl, Nat.le_of_ble_eq_true rfl, Nat.le_of_ble_eq_true rfl, Nat.le_of_ble_eq_true rfl⟩ dX8_sitter_10 (fun q1 H locs h hP hD hS => ?_)
  obtain ⟨hP, hD⟩ := qm (w2 := ([((xo 0), .inr (6, [.ref (ta 0), .ref xr, .int (xi 2), .ref (sa 0), .ref xm, .ref xg, .ref (tr 0), .ref xs, .ref xp, .ref xq, .ref xe, .ref xt]))] : va_W) ++ (([((sa 0), .inr (4, [.ref (xa 0), .ref (ca 0), .ref (na 0), .int (si 3), .int (si 4)]))] : va_W) ++ (rmW k xa rm))) hP hD (q_from [([((xo 0), .inr (6, [.ref (ta 0), .ref xr, .int (xi 2), .ref (sa 0), .ref xm, .ref xg, .ref (tr 0), .ref xs, .ref xp, .ref xq, .ref xe, .ref xt]))] : va_W), ([((sa 0), .inr (4, [.ref (xa 0), .ref (ca 0), .ref (na 0), .int (si 3), .int (si 4)]))] : va_W), rmW k xa rm] [0, 1] [2] [0, 1, 2] (by decide +kernel))
  refine hc_is (z := q1) rfl ?_
  refine lv_if_ne (tgt := 18) hx hb dX8_sitter_13 (by decide) (fun c2 => ?_) (fun c2 => ?_)
  · have h := fw_f c2 h
    refine lv_iload_n hx hb dX8_sitter_18 rfl (lv_at hl 3 rfl) ?_
    by_cases c3 : x2 = 0
    · have h := fw_t c3 h
      refine lv_tableIn (off := 25) (tgt := 44) hx hb dX8_sitter_19 (by rw [c3]; decide) (by rw [c3]; decide) (by rw [c3]; rfl) (by decide) ?_
      refine lv_aload_n hx hb dX8_sitter_44 rfl (lv_at hl 0 rfl) ?_
      refine va_get (D := D) (ci := 2) (v := .ref (xa 4)) (C := RX3) (T := TX3) (N := 17) hx hb hts in3 hown hG.1 hP 2 rfl rfl 7 (by decide) (hts (.fieldLink RX8 141 "ChairCane$Room" "chairOf" "[I") (mem_b bq_wsX8_sitter 0 2 rfl)) (fun _ h9 => h9) rfl dX8_sitter_45 ?_
      refine lv_iload_n hx hb dX8_sitter_48 rfl (lv_at hl 2 rfl) ?_
      obtain ⟨g4, h⟩ := fw_g h
      refine va_iald hx hb hG.1 hP 6 0 rfl rfl (ib_vp g4) dX8_sitter_49 ?_
      exact fw_endI (rv := fun b : Int32 => b) (wp := fun b : Int32 => ([((xo 0), .inr (6, [.ref (ta 0), .ref xr, .int (xi 2), .ref (sa 0), .ref xm, .ref xg, .ref (tr 0), .ref xs, .ref xp, .ref xq, .ref xe, .ref xt]))] : va_W) ++ (([((sa 0), .inr (4, [.ref (xa 0), .ref (ca 0), .ref (na 0), .int (si 3), .int (si 4)]))] : va_W) ++ (rmW k xa rm))) hx hb hr hlocks h rfl hP hD hS dX8_sitter_50
    have h := fw_f c3 h
    by_cases c5 : x2 = 1
    · have h := fw_t c5 h
      refine lv_tableIn (off := 32) (tgt := 51) hx hb dX8_sitter_19 (by rw [c5]; decide) (by rw [c5]; decide) (by rw [c5]; rfl) (by decide) ?_
      refine lv_aload_n hx hb dX8_sitter_51 rfl (lv_at hl 0 rfl) ?_
      refine va_get (D := D) (ci := 2) (v := .ref (xa 5)) (C := RX3) (T := TX3) (N := 17) hx hb hts in3 hown hG.1 hP 2 rfl rfl 8 (by decide) (hts (.fieldLink RX8 144 "ChairCane$Room" "weight" "[I") (mem_b bq_wsX8_sitter 0 3 rfl)) (fun _ h9 => h9) rfl dX8_sitter_52 ?_
      refine lv_iload_n hx hb dX8_sitter_55 rfl (lv_at hl 2 rfl) ?_
      obtain ⟨g6, h⟩ := fw_g h
      refine va_iald hx hb hG.1 hP 7 0 rfl rfl (ib_vp g6) dX8_sitter_56 ?_
      exact fw_endI (rv := fun b : Int32 => b) (wp := fun b : Int32 => ([((xo 0), .inr (6, [.ref (ta 0), .ref xr, .int (xi 2), .ref (sa 0), .ref xm, .ref xg, .ref (tr 0), .ref xs, .ref xp, .ref xq, .ref xe, .ref xt]))] : va_W) ++ (([((sa 0), .inr (4, [.ref (xa 0), .ref (ca 0), .ref (na 0), .int (si 3), .int (si 4)]))] : va_W) ++ (rmW k xa rm))) hx hb hr hlocks h rfl hP hD hS dX8_sitter_57
    have h := fw_f c5 h
    by_cases c7 : x2 = 2
    · have h := fw_t c7 h
      refine lv_tableIn (off := 39) (tgt := 58) hx hb dX8_sitter_19 (by rw [c7]; decide) (by rw [c7]; decide) (by rw [c7]; rfl) (by decide) ?_
      refine lv_aload_n hx hb dX8_sitter_58 rfl (lv_at hl 0 rfl) ?_
      refine lv_iload_n hx hb dX8_sitter_59 rfl (lv_at hl 2 rfl) ?_
      obtain ⟨hP, hD⟩ := qm hP hD (q_to [([((xo 0), .inr (6, [.ref (ta 0), .ref xr, .int (xi 2), .ref (sa 0), .ref xm, .ref xg, .ref (tr 0), .ref xs, .ref xp, .ref xq, .ref xe, .ref xt]))] : va_W), ([((sa 0), .inr (4, [.ref (xa 0), .ref (ca 0), .ref (na 0), .int (si 3), .int (si 4)]))] : va_W), rmW k xa rm] [0, 1, 2] [2] [0, 1] (by decide +kernel))
      refine fw_Vi (As := [.int x1]) (rest := []) (n := 1) (rv := fun b : Int32 => b) (wp := fun b : Int32 => rmW k xa rm) h hx hb hml hown hts hG hA hP hD hS hl.1 _ _ (fun q hq9 => c_X3_stateOf l D k _  xa F x1 rm  hq9) (ci := 2) (q0 := 0) rfl rfl gX8_sitter_X3_stateOf rfl ⟨rfl, rfl, Nat.le_of_ble_eq_true rfl, Nat.le_of_ble_eq_true rfl⟩ (by decide +kernel) (q_l _ _) (q_r _ _) (q_nd _ _) ⟨rfl, rfl, Nat.le_of_ble_eq_true rfl, Nat.le_of_ble_eq_true rfl, Nat.le_of_ble_eq_true rfl⟩ dX8_sitter_60 (fun q8 H locs h hP hD hS => ?_)
      obtain ⟨hP, hD⟩ := qm (w2 := ([((xo 0), .inr (6, [.ref (ta 0), .ref xr, .int (xi 2), .ref (sa 0), .ref xm, .ref xg, .ref (tr 0), .ref xs, .ref xp, .ref xq, .ref xe, .ref xt]))] : va_W) ++ (([((sa 0), .inr (4, [.ref (xa 0), .ref (ca 0), .ref (na 0), .int (si 3), .int (si 4)]))] : va_W) ++ (rmW k xa rm))) hP hD (q_from [([((xo 0), .inr (6, [.ref (ta 0), .ref xr, .int (xi 2), .ref (sa 0), .ref xm, .ref xg, .ref (tr 0), .ref xs, .ref xp, .ref xq, .ref xe, .ref xt]))] : va_W), ([((sa 0), .inr (4, [.ref (xa 0), .ref (ca 0), .ref (na 0), .int (si 3), .int (si 4)]))] : va_W), rmW k xa rm] [0, 1] [2] [0, 1, 2] (by decide +kernel))
      refine hc_is (z := q8) rfl ?_
      exact fw_endI (rv := fun b : Int32 => b) (wp := fun b : Int32 => ([((xo 0), .inr (6, [.ref (ta 0), .ref xr, .int (xi 2), .ref (sa 0), .ref xm, .ref xg, .ref (tr 0), .ref xs, .ref xp, .ref xq, .ref xe, .ref xt]))] : va_W) ++ (([((sa 0), .inr (4, [.ref (xa 0), .ref (ca 0), .ref (na 0), .int (si 3), .int (si 4)]))] : va_W) ++ (rmW k xa rm))) hx hb hr hlocks h rfl hP hD hS dX8_sitter_63
    have h := fw_f c7 h
    simp only [sp_eq, show (0 : Int32).toInt = 0 from by decide, show (1 : Int32).toInt = 1 from by decide, show (2 : Int32).toInt = 2 from by decide] at c3 c5 c7
    refine lv_tableOut (tgt := 64) hx hb dX8_sitter_19 (by omega) (by decide) ?_
    refine lv_iconst (v := (-1)) hx hb dX8_sitter_64 (by decide) ?_
    exact fw_endI (rv := fun b : Int32 => b) (wp := fun b : Int32 => ([((xo 0), .inr (6, [.ref (ta 0), .ref xr, .int (xi 2), .ref (sa 0), .ref xm, .ref xg, .ref (tr 0), .ref xs, .ref xp, .ref xq, .ref xe, .ref xt]))] : va_W) ++ (([((sa 0), .inr (4, [.ref (xa 0), .ref (ca 0), .ref (na 0), .int (si 3), .int (si 4)]))] : va_W) ++ (rmW k xa rm))) hx hb hr hlocks h rfl hP hD hS dX8_sitter_65
  · have h := fw_t c2 h
    refine lv_iconst (v := (-1)) hx hb dX8_sitter_16 (by decide) ?_
    exact fw_endI (rv := fun b : Int32 => b) (wp := fun b : Int32 => ([((xo 0), .inr (6, [.ref (ta 0), .ref xr, .int (xi 2), .ref (sa 0), .ref xm, .ref xg, .ref (tr 0), .ref xs, .ref xp, .ref xq, .ref xe, .ref xt]))] : va_W) ++ (([((sa 0), .inr (4, [.ref (xa 0), .ref (ca 0), .ref (na 0), .int (si 3), .int (si 4)]))] : va_W) ++ (rmW k xa rm))) hx hb hr hlocks h rfl hP hD hS dX8_sitter_17
noncomputable def b_X8_minute_25 (F : Nat)  (xi : Nat → Int32) (xrr : Nat → Option Nat) (si : Nat → Int32)  (rm : OB) (ac : OB) (rz : Nat → OB) : Option (Int32 × OB × OB × (Nat → OB)) :=
  some ((-1), rm, ac, rz)
noncomputable def f_X8_minute (F : Nat)   (xi : Nat → Int32) (xrr : Nat → Option Nat) (si : Nat → Int32) (rm : OB) (ac : OB) (rz : Nat → OB) : Option (Int32 × OB × OB × (Nat → OB)) :=
  if (rm.1 0) = 0 then (b_X8_minute_25 F xi xrr si rm ac rz) else (if (rm.1 12) < 999 then (Option.bind (f_X0_keep F ac rm) (fun q3 => (Option.bind (f_X8_ruleInForce F xi xrr si) (fun q4 => (Option.bind (f_X3_passMinute F q4 rm rz) (fun q5 => (some (q5.1, q5.2.1, q3, q5.2.2)))))))) else (b_X8_minute_25 F xi xrr si rm ac rz))
set_option maxHeartbeats 4000000 in
set_option maxRecDepth 100000 in
theorem c_X8_minute (l : Launch) (D : va_G) (k : Nat → ClassId) (sz : Nat)  (xo : Nat → Nat) (ta : Nat → Nat) (xr : Nat) (sa : Nat → Nat) (xm : Nat) (xg : Nat) (tr : Nat → Nat) (xs : Nat) (xp : Nat) (xq : Nat) (xe : Nat) (xt : Nat) (xa : Nat → Nat) (ca : Nat → Nat) (na : Nat → Nat) (ra : Nat → Nat) (F : Nat)   (xi : Nat → Int32) (xrr : Nat → Option Nat) (si : Nat → Int32) (rm : OB) (ac : OB) (rz : Nat → OB) (hq : ∀ i, i < 6 → xrr i = some (ra (6 * i))) {res : Int32 × OB × OB × (Nat → OB)} (h : f_X8_minute F xi xrr si rm ac rz = some res) : CtI l yX8_minute wsX8_minute (rmK 6 0 0) [.ref (xo 0)] D k sz (([((xo 0), .inr (6, [.ref (ta 0), .ref xr, .int (xi 2), .ref (sa 0), .ref xm, .ref xg, .ref (tr 0), .ref xs, .ref xp, .ref xq, .ref xe, .ref xt]))] : va_W) ++ (([(xr, hcR k 6 xrr)] : va_W) ++ (([((sa 0), .inr (4, [.ref (xa 0), .ref (ca 0), .ref (na 0), .int (si 3), .int (si 4)]))] : va_W) ++ (rmW k xa rm ++ (acW k ca ac ++ (RU k ra rz)))))) (fun r (_ : Unit) => r = res.1) (fun _ : Unit => ([((xo 0), .inr (6, [.ref (ta 0), .ref xr, .int (xi 2), .ref (sa 0), .ref xm, .ref xg, .ref (tr 0), .ref xs, .ref xp, .ref xq, .ref xe, .ref xt]))] : va_W) ++ (([(xr, hcR k 6 xrr)] : va_W) ++ (([((sa 0), .inr (4, [.ref (xa 0), .ref (ca 0), .ref (na 0), .int (si 3), .int (si 4)]))] : va_W) ++ (rmW k xa res.2.1 ++ (acW k ca res.2.2.1 ++ (RU k ra res.2.2.2)))))) 0 0 := by
  refine CtI.mk (cc := cX8_minute) (maxL := 2) (ret := (some .int)) (by decide) rfl (Nat.le_of_ble_eq_true rfl) ?_
  intro p e s m below meth c A ls E hP hD hS hl
  obtain ⟨hx, hb, hr, hml, hown, hts, hlocks, hin, hG, hA⟩ := E
  have hown : s.vm.findClass RX8 = some m.cls := hown
  have in0 : ∀ w ∈ u_ws RX0 TX0 5, w ∈ wsX8_minute := fun _ h => List.mem_cons_of_mem _ (List.mem_append_left _ (List.mem_append_right _ h))
  have in3 : ∀ w ∈ u_ws RX3 TX3 17, w ∈ wsX8_minute := fun _ h => List.mem_cons_of_mem _ (List.mem_append_left _ (List.mem_append_left _ (List.mem_append_right _ h)))
  have in4 : ∀ w ∈ u_ws RX4 TX4 8, w ∈ wsX8_minute := fun _ h => List.mem_cons_of_mem _ (List.mem_append_right _ h)
  have in6 : ∀ w ∈ u_ws RX6 TX6 5, w ∈ wsX8_minute := fun _ h => List.mem_cons_of_mem _ (List.mem_append_left _ (List.mem_append_left _ (List.mem_append_left _ (List.mem_append_right _ h))))
  have in8 : ∀ w ∈ u_ws RX8 TX8 12, w ∈ wsX8_minute := fun _ h => List.mem_cons_of_mem _ (List.mem_append_left _ (List.mem_append_left _ (List.mem_append_left _ (List.mem_append_left _ (List.mem_append_right _ h)))))
  have hl : lv_has ls 2 [(0, .ref (xo 0))] := hl
  have B25 : ∀ (rm : OB) (ac : OB) (rz : Nat → OB) (H : Heap) (locs : List Loc) (ls : Array Slot), b_X8_minute_25 F xi xrr si rm ac rz = some res → va_P D vwCl (([((xo 0), .inr (6, [.ref (ta 0), .ref xr, .int (xi 2), .ref (sa 0), .ref xm, .ref xg, .ref (tr 0), .ref xs, .ref xp, .ref xq, .ref xe, .ref xt]))] : va_W) ++ (([(xr, hcR k 6 xrr)] : va_W) ++ (([((sa 0), .inr (4, [.ref (xa 0), .ref (ca 0), .ref (na 0), .int (si 3), .int (si 4)]))] : va_W) ++ (rmW k xa rm ++ (acW k ca ac ++ (RU k ra rz)))))) H → va_D A (([((xo 0), .inr (6, [.ref (ta 0), .ref xr, .int (xi 2), .ref (sa 0), .ref xm, .ref xg, .ref (tr 0), .ref xs, .ref xp, .ref xq, .ref xe, .ref xt]))] : va_W) ++ (([(xr, hcR k 6 xrr)] : va_W) ++ (([((sa 0), .inr (4, [.ref (xa 0), .ref (ca 0), .ref (na 0), .int (si 3), .int (si 4)]))] : va_W) ++ (rmW k xa rm ++ (acW k ca ac ++ (RU k ra rz)))))) → va_S A s.heap H locs → lv_has ls 2 [] → W p l e (rmK 6 0 0) s m (List.toArray [.ref (xo 0)]) below meth c H locs 0 0 (MQ below (va_Qi (fun r (_ : Unit) => r = res.1) (hcB D (fun _ : Unit => ([((xo 0), .inr (6, [.ref (ta 0), .ref xr, .int (xi 2), .ref (sa 0), .ref xm, .ref xg, .ref (tr 0), .ref xs, .ref xp, .ref xq, .ref xe, .ref xt]))] : va_W) ++ (([(xr, hcR k 6 xrr)] : va_W) ++ (([((sa 0), .inr (4, [.ref (xa 0), .ref (ca 0), .ref (na 0), .int (si 3), .int (si 4)]))] : va_W) ++ (rmW k xa res.2.1 ++ (acW k ca res.2.2.1 ++ (RU k ra res.2.2.2)))))) A) A) (List.toArray [.ref (xo 0)]) s 0 0 A) (F0 m 25 ls []) := by
    intro rm ac rz H locs ls h hP hD hS hl
    refine lv_iconst (v := (-1)) hx hb dX8_minute_25 (by decide) ?_
    exact fw_endI (rv := fun b : Int32 × OB × OB × (Nat → OB) => b.1) (wp := fun b : Int32 × OB × OB × (Nat → OB) => ([((xo 0), .inr (6, [.ref (ta 0), .ref xr, .int (xi 2), .ref (sa 0), .ref xm, .ref xg, .ref (tr 0), .ref xs, .ref xp, .ref xq, .ref xe, .ref xt]))] : va_W) ++ (([(xr, hcR k 6 xrr)] : va_W) ++ (([((sa 0), .inr (4, [.ref (xa 0), .ref (ca 0), .ref (na 0), .int (si 3), .int (si 4)]))] : va_W) ++ (rmW k xa b.2.1 ++ (acW k ca b.2.2.1 ++ (RU k ra b.2.2.2)))))) hx hb hr hlocks h rfl hP hD hS dX8_minute_26
  refine lv_aload_n hx hb dX8_minute_0 rfl (lv_at hl 0 rfl) ?_
  refine va_get (D := D) (ci := 6) (v := .ref (sa 0)) (C := RX8) (T := TX8) (N := 12) hx hb hts in8 hown hG.1 hP 0 rfl rfl 3 (by decide) (hts (.fieldLink RX8 29 "ChairCane" "now" "LChairCane$Standing;") (mem_b bq_wsX8_minute 0 0 rfl)) (fun _ h9 => h9) rfl dX8_minute_1 ?_
  refine va_get (D := D) (ci := 4) (v := .ref (xa 0)) (C := RX6) (T := TX6) (N := 5) hx hb hts in6 hown hG.1 hP 2 rfl rfl 0 (by decide) (hts (.fieldLink RX8 81 "ChairCane$Standing" "room" "LChairCane$Room;") (mem_b bq_wsX8_minute 0 1 rfl)) (fun _ h9 => h9) rfl dX8_minute_4 ?_
  refine lv_astore_n (lv' := [(1, .ref (xa 0)), (0, .ref (xo 0))]) hx hb dX8_minute_7 rfl hl (by decide) rfl (fun ls hl => ?_)
  refine lv_aload_n hx hb dX8_minute_8 rfl (lv_at hl 0 rfl) ?_
  refine va_get (D := D) (ci := 2) (v := .int (rm.1 0)) (C := RX3) (T := TX3) (N := 17) hx hb hts in3 hown hG.1 hP 3 rfl rfl 0 (by decide) (hts (.fieldLink RX8 150 "ChairCane$Room" "told" "Z") (mem_b bq_wsX8_minute 0 2 rfl)) (fun _ h9 => h9) rfl dX8_minute_9 ?_
  refine lv_if_eq (tgt := 25) hx hb dX8_minute_12 (by decide) (fun c1 => ?_) (fun c1 => ?_)
  · have h := fw_t c1 h
    exact B25 _ _ _ _ _ _ h hP hD hS (lv_sub hl [] rfl)
  · have h := fw_f c1 h
    refine lv_aload_n hx hb dX8_minute_15 rfl (lv_at hl 0 rfl) ?_
    refine va_get (D := D) (ci := 2) (v := .int (rm.1 12)) (C := RX3) (T := TX3) (N := 17) hx hb hts in3 hown hG.1 hP 3 rfl rfl 12 (by decide) (hts (.fieldLink RX8 154 "ChairCane$Room" "minute" "I") (mem_b bq_wsX8_minute 0 3 rfl)) (fun _ h9 => h9) rfl dX8_minute_16 ?_
    refine lv_sipush (v := 999) hx hb dX8_minute_19 (by decide) ?_
    refine lv_icmp_lt (tgt := 27) hx hb dX8_minute_22 (by decide) (fun c2 => ?_) (fun c2 => ?_)
    · have h := fw_t c2 h
      refine lv_aload_n hx hb dX8_minute_27 rfl (lv_at hl 1 rfl) ?_
      refine va_get (D := D) (ci := 6) (v := .ref (sa 0)) (C := RX8) (T := TX8) (N := 12) hx hb hts in8 hown hG.1 hP 0 rfl rfl 3 (by decide) (hts (.fieldLink RX8 29 "ChairCane" "now" "LChairCane$Standing;") (mem_b bq_wsX8_minute 0 0 rfl)) (fun _ h9 => h9) rfl dX8_minute_28 ?_
      refine va_get (D := D) (ci := 4) (v := .ref (ca 0)) (C := RX6) (T := TX6) (N := 5) hx hb hts in6 hown hG.1 hP 2 rfl rfl 1 (by decide) (hts (.fieldLink RX8 88 "ChairCane$Standing" "acts" "LChairCane$Acts;") (mem_b bq_wsX8_minute 0 4 rfl)) (fun _ h9 => h9) rfl dX8_minute_31 ?_
      refine lv_aload_n hx hb dX8_minute_34 rfl (lv_at hl 0 rfl) ?_
      obtain ⟨hP, hD⟩ := qm hP hD (q_to [([((xo 0), .inr (6, [.ref (ta 0), .ref xr, .int (xi 2), .ref (sa 0), .ref xm, .ref xg, .ref (tr 0), .ref xs, .ref xp, .ref xq, .ref xe, .ref xt]))] : va_W), ([(xr, hcR k 6 xrr)] : va_W), ([((sa 0), .inr (4, [.ref (xa 0), .ref (ca 0), .ref (na 0), .int (si 3), .int (si 4)]))] : va_W), rmW k xa rm, acW k ca ac, RU k ra rz] [0, 1, 2, 3, 4, 5] [4, 3] [0, 1, 2, 5] (by decide +kernel))
      refine fw_Vv (As := [.ref (xa 0)]) (rest := []) (n := 1) (wp := fun b : OB => acW k ca b ++ (rmW k xa rm)) h hx hb hml hown hts hG hA hP hD hS hl.1 _ _ (fun q hq9 => c_X0_keep l D k _  ca xa F  ac rm  hq9) (ci := 0) (q0 := 0) rfl rfl gX8_minute_X0_keep rfl ⟨rfl, rfl, Nat.le_of_ble_eq_true rfl, Nat.le_of_ble_eq_true rfl⟩ (by decide +kernel) (q_l _ _) (q_r _ _) (q_nd _ _) ⟨rfl, rfl, Nat.le_of_ble_eq_true rfl, Nat.le_of_ble_eq_true rfl, Nat.le_of_ble_eq_true rfl⟩ dX8_minute_35 (fun q3 H locs h hP hD hS => ?_)
      obtain ⟨hP, hD⟩ := qm (w2 := ([((xo 0), .inr (6, [.ref (ta 0), .ref xr, .int (xi 2), .ref (sa 0), .ref xm, .ref xg, .ref (tr 0), .ref xs, .ref xp, .ref xq, .ref xe, .ref xt]))] : va_W) ++ (([(xr, hcR k 6 xrr)] : va_W) ++ (([((sa 0), .inr (4, [.ref (xa 0), .ref (ca 0), .ref (na 0), .int (si 3), .int (si 4)]))] : va_W) ++ (rmW k xa rm ++ (acW k ca q3 ++ (RU k ra rz)))))) hP hD (q_from [([((xo 0), .inr (6, [.ref (ta 0), .ref xr, .int (xi 2), .ref (sa 0), .ref xm, .ref xg, .ref (tr 0), .ref xs, .ref xp, .ref xq, .ref xe, .ref xt]))] : va_W), ([(xr, hcR k 6 xrr)] : va_W), ([((sa 0), .inr (4, [.ref (xa 0), .ref (ca 0), .ref (na 0), .int (si 3), .int (si 4)]))] : va_W), rmW k xa rm, acW k ca q3, RU k ra rz] [0, 1, 2, 5] [4, 3] [0, 1, 2, 3, 4, 5] (by decide +kernel))
      refine lv_aload_n hx hb dX8_minute_38 rfl (lv_at hl 0 rfl) ?_
      refine lv_aload_n hx hb dX8_minute_39 rfl (lv_at hl 1 rfl) ?_
      obtain ⟨hP, hD⟩ := qm hP hD (q_to [([((xo 0), .inr (6, [.ref (ta 0), .ref xr, .int (xi 2), .ref (sa 0), .ref xm, .ref xg, .ref (tr 0), .ref xs, .ref xp, .ref xq, .ref xe, .ref xt]))] : va_W), ([(xr, hcR k 6 xrr)] : va_W), ([((sa 0), .inr (4, [.ref (xa 0), .ref (ca 0), .ref (na 0), .int (si 3), .int (si 4)]))] : va_W), rmW k xa rm, acW k ca q3, RU k ra rz] [0, 1, 2, 3, 4, 5] [0, 1, 2] [3, 4, 5] (by decide +kernel))
      refine fw_Vq (As := []) (rest := [.ref (xa 0)]) (n := 0) (rv := fun b : Int32 => rAd ra b) (wp := fun b : Int32 => ([((xo 0), .inr (6, [.ref (ta 0), .ref xr, .int (xi 2), .ref (sa 0), .ref xm, .ref xg, .ref (tr 0), .ref xs, .ref xp, .ref xq, .ref xe, .ref xt]))] : va_W) ++ (([(xr, hcR k 6 xrr)] : va_W) ++ (([((sa 0), .inr (4, [.ref (xa 0), .ref (ca 0), .ref (na 0), .int (si 3), .int (si 4)]))] : va_W)))) h hx hb hml hown hts hG hA hP hD hS hl.1 _ _ (fun q hq9 => c_X8_ruleInForce l D k _  xo ta xr sa xm xg tr xs xp xq xe xt xa ca na ra F  xi xrr si hq hq9) (ci := 6) (q0 := 0) rfl rfl gX8_minute_X8_ruleInForce rfl ⟨rfl, rfl, Nat.le_of_ble_eq_true rfl, Nat.le_of_ble_eq_true rfl⟩ (by decide +kernel) (q_l _ _) (q_r _ _) (q_nd _ _) ⟨rfl, rfl, Nat.le_of_ble_eq_true rfl, Nat.le_of_ble_eq_true rfl, Nat.le_of_ble_eq_true rfl⟩ dX8_minute_40 (fun q4 H locs h hP hD hS => ?_)
      obtain ⟨hP, hD⟩ := qm (w2 := ([((xo 0), .inr (6, [.ref (ta 0), .ref xr, .int (xi 2), .ref (sa 0), .ref xm, .ref xg, .ref (tr 0), .ref xs, .ref xp, .ref xq, .ref xe, .ref xt]))] : va_W) ++ (([(xr, hcR k 6 xrr)] : va_W) ++ (([((sa 0), .inr (4, [.ref (xa 0), .ref (ca 0), .ref (na 0), .int (si 3), .int (si 4)]))] : va_W) ++ (rmW k xa rm ++ (acW k ca q3 ++ (RU k ra rz)))))) hP hD (q_from [([((xo 0), .inr (6, [.ref (ta 0), .ref xr, .int (xi 2), .ref (sa 0), .ref xm, .ref xg, .ref (tr 0), .ref xs, .ref xp, .ref xq, .ref xe, .ref xt]))] : va_W), ([(xr, hcR k 6 xrr)] : va_W), ([((sa 0), .inr (4, [.ref (xa 0), .ref (ca 0), .ref (na 0), .int (si 3), .int (si 4)]))] : va_W), rmW k xa rm, acW k ca q3, RU k ra rz] [3, 4, 5] [0, 1, 2] [0, 1, 2, 3, 4, 5] (by decide +kernel))
      refine hc_isV (z := va_rf (rAd ra q4)) rfl ?_
      obtain ⟨hP, hD⟩ := qm hP hD (q_to [([((xo 0), .inr (6, [.ref (ta 0), .ref xr, .int (xi 2), .ref (sa 0), .ref xm, .ref xg, .ref (tr 0), .ref xs, .ref xp, .ref xq, .ref xe, .ref xt]))] : va_W), ([(xr, hcR k 6 xrr)] : va_W), ([((sa 0), .inr (4, [.ref (xa 0), .ref (ca 0), .ref (na 0), .int (si 3), .int (si 4)]))] : va_W), rmW k xa rm, acW k ca q3, RU k ra rz] [0, 1, 2, 3, 4, 5] [3, 5] [0, 1, 2, 4] (by decide +kernel))
      refine fw_Vi (As := [va_rf (rAd ra q4)]) (rest := []) (n := 1) (rv := fun b : Int32 × OB × (Nat → OB) => b.1) (wp := fun b : Int32 × OB × (Nat → OB) => rmW k xa b.2.1 ++ (RU k ra b.2.2)) h hx hb hml hown hts hG hA hP hD hS hl.1 _ _ (fun q hq9 => c_X3_passMinute l D k _  xa ra F q4 rm rz  hq9) (ci := 2) (q0 := 0) rfl rfl gX8_minute_X3_passMinute rfl ⟨rfl, rfl, Nat.le_of_ble_eq_true rfl, Nat.le_of_ble_eq_true rfl⟩ (by decide +kernel) (q_l _ _) (q_r _ _) (q_nd _ _) ⟨rfl, rfl, Nat.le_of_ble_eq_true rfl, Nat.le_of_ble_eq_true rfl, Nat.le_of_ble_eq_true rfl⟩ dX8_minute_43 (fun q5 H locs h hP hD hS => ?_)
      obtain ⟨hP, hD⟩ := qm (w2 := ([((xo 0), .inr (6, [.ref (ta 0), .ref xr, .int (xi 2), .ref (sa 0), .ref xm, .ref xg, .ref (tr 0), .ref xs, .ref xp, .ref xq, .ref xe, .ref xt]))] : va_W) ++ (([(xr, hcR k 6 xrr)] : va_W) ++ (([((sa 0), .inr (4, [.ref (xa 0), .ref (ca 0), .ref (na 0), .int (si 3), .int (si 4)]))] : va_W) ++ (rmW k xa q5.2.1 ++ (acW k ca q3 ++ (RU k ra q5.2.2)))))) hP hD (q_from [([((xo 0), .inr (6, [.ref (ta 0), .ref xr, .int (xi 2), .ref (sa 0), .ref xm, .ref xg, .ref (tr 0), .ref xs, .ref xp, .ref xq, .ref xe, .ref xt]))] : va_W), ([(xr, hcR k 6 xrr)] : va_W), ([((sa 0), .inr (4, [.ref (xa 0), .ref (ca 0), .ref (na 0), .int (si 3), .int (si 4)]))] : va_W), rmW k xa q5.2.1, acW k ca q3, RU k ra q5.2.2] [0, 1, 2, 4] [3, 5] [0, 1, 2, 3, 4, 5] (by decide +kernel))
      refine hc_is (z := q5.1) rfl ?_
      exact fw_endI (rv := fun b : Int32 × OB × OB × (Nat → OB) => b.1) (wp := fun b : Int32 × OB × OB × (Nat → OB) => ([((xo 0), .inr (6, [.ref (ta 0), .ref xr, .int (xi 2), .ref (sa 0), .ref xm, .ref xg, .ref (tr 0), .ref xs, .ref xp, .ref xq, .ref xe, .ref xt]))] : va_W) ++ (([(xr, hcR k 6 xrr)] : va_W) ++ (([((sa 0), .inr (4, [.ref (xa 0), .ref (ca 0), .ref (na 0), .int (si 3), .int (si 4)]))] : va_W) ++ (rmW k xa b.2.1 ++ (acW k ca b.2.2.1 ++ (RU k ra b.2.2.2)))))) hx hb hr hlocks h rfl hP hD hS dX8_minute_46
    · have h := fw_f c2 h
      exact B25 _ _ _ _ _ _ h hP hD hS (lv_sub hl [] rfl)
noncomputable def f_X8_sit (F : Nat)  (x1 : Int32) (xi : Nat → Int32) (si : Nat → Int32) (rm : OB) (ac : OB) : Option (Int32 × OB × OB) :=
  Option.bind (f_X3_stateOf F x1 rm) (fun q1 => (if q1 = 0 then (Option.bind (f_X0_keep F ac rm) (fun q3 => (Option.bind (f_X3_seat F x1 1 rm) (fun q4 => (Option.bind (f_X3_settle F q4) (fun q5 => (some (q5.1, q5.2, q3)))))))) else (some ((-1), rm, ac))))
set_option maxHeartbeats 4000000 in
set_option maxRecDepth 100000 in
theorem c_X8_sit (l : Launch) (D : va_G) (k : Nat → ClassId) (sz : Nat)  (xo : Nat → Nat) (ta : Nat → Nat) (xr : Nat) (sa : Nat → Nat) (xm : Nat) (xg : Nat) (tr : Nat → Nat) (xs : Nat) (xp : Nat) (xq : Nat) (xe : Nat) (xt : Nat) (xa : Nat → Nat) (ca : Nat → Nat) (na : Nat → Nat) (F : Nat)  (x1 : Int32) (xi : Nat → Int32) (si : Nat → Int32) (rm : OB) (ac : OB)  {res : Int32 × OB × OB} (h : f_X8_sit F x1 xi si rm ac = some res) : CtI l yX8_sit wsX8_sit (rmK 4 0 0) [.ref (xo 0), .int x1] D k sz (([((xo 0), .inr (6, [.ref (ta 0), .ref xr, .int (xi 2), .ref (sa 0), .ref xm, .ref xg, .ref (tr 0), .ref xs, .ref xp, .ref xq, .ref xe, .ref xt]))] : va_W) ++ (([((sa 0), .inr (4, [.ref (xa 0), .ref (ca 0), .ref (na 0), .int (si 3), .int (si 4)]))] : va_W) ++ (rmW k xa rm ++ (acW k ca ac)))) (fun r (_ : Unit) => r = res.1) (fun _ : Unit => ([((xo 0), .inr (6, [.ref (ta 0), .ref xr, .int (xi 2), .ref (sa 0), .ref xm, .ref xg, .ref (tr 0), .ref xs, .ref xp, .ref xq, .ref xe, .ref xt]))] : va_W) ++ (([((sa 0), .inr (4, [.ref (xa 0), .ref (ca 0), .ref (na 0), .int (si 3), .int (si 4)]))] : va_W) ++ (rmW k xa res.2.1 ++ (acW k ca res.2.2)))) 0 0 := by
  refine CtI.mk (cc := cX8_sit) (maxL := 2) (ret := (some .int)) (by decide) rfl (Nat.le_of_ble_eq_true rfl) ?_
  intro p e s m below meth c A ls E hP hD hS hl
  obtain ⟨hx, hb, hr, hml, hown, hts, hlocks, hin, hG, hA⟩ := E
  have hown : s.vm.findClass RX8 = some m.cls := hown
  have in0 : ∀ w ∈ u_ws RX0 TX0 5, w ∈ wsX8_sit := fun _ h => List.mem_cons_of_mem _ (List.mem_append_right _ h)
  have in3 : ∀ w ∈ u_ws RX3 TX3 17, w ∈ wsX8_sit := fun _ h => List.mem_cons_of_mem _ (List.mem_append_left _ (List.mem_append_right _ h))
  have in6 : ∀ w ∈ u_ws RX6 TX6 5, w ∈ wsX8_sit := fun _ h => List.mem_cons_of_mem _ (List.mem_append_left _ (List.mem_append_left _ (List.mem_append_right _ h)))
  have in8 : ∀ w ∈ u_ws RX8 TX8 12, w ∈ wsX8_sit := fun _ h => List.mem_cons_of_mem _ (List.mem_append_left _ (List.mem_append_left _ (List.mem_append_left _ (List.mem_append_right _ h))))
  have hl : lv_has ls 2 [(0, .ref (xo 0)), (1, .int x1)] := hl
  refine lv_aload_n hx hb dX8_sit_0 rfl (lv_at hl 0 rfl) ?_
  refine va_get (D := D) (ci := 6) (v := .ref (sa 0)) (C := RX8) (T := TX8) (N := 12) hx hb hts in8 hown hG.1 hP 0 rfl rfl 3 (by decide) (hts (.fieldLink RX8 29 "ChairCane" "now" "LChairCane$Standing;") (mem_b bq_wsX8_sit 0 0 rfl)) (fun _ h9 => h9) rfl dX8_sit_1 ?_
  refine va_get (D := D) (ci := 4) (v := .ref (xa 0)) (C := RX6) (T := TX6) (N := 5) hx hb hts in6 hown hG.1 hP 1 rfl rfl 0 (by decide) (hts (.fieldLink RX8 81 "ChairCane$Standing" "room" "LChairCane$Room;") (mem_b bq_wsX8_sit 0 1 rfl)) (fun _ h9 => h9) rfl dX8_sit_4 ?_
  refine lv_iload_n hx hb dX8_sit_7 rfl (lv_at hl 1 rfl) ?_
  obtain ⟨hP, hD⟩ := qm hP hD (q_to [([((xo 0), .inr (6, [.ref (ta 0), .ref xr, .int (xi 2), .ref (sa 0), .ref xm, .ref xg, .ref (tr 0), .ref xs, .ref xp, .ref xq, .ref xe, .ref xt]))] : va_W), ([((sa 0), .inr (4, [.ref (xa 0), .ref (ca 0), .ref (na 0), .int (si 3), .int (si 4)]))] : va_W), rmW k xa rm, acW k ca ac] [0, 1, 2, 3] [2] [0, 1, 3] (by decide +kernel))
  refine fw_Vi (As := [.int x1]) (rest := []) (n := 1) (rv := fun b : Int32 => b) (wp := fun b : Int32 => rmW k xa rm) h hx hb hml hown hts hG hA hP hD hS hl.1 _ _ (fun q hq9 => c_X3_stateOf l D k _  xa F x1 rm  hq9) (ci := 2) (q0 := 0) rfl rfl gX8_sit_X3_stateOf rfl ⟨rfl, rfl, Nat.le_of_ble_eq_true rfl, Nat.le_of_ble_eq_true rfl⟩ (by decide +kernel) (q_l _ _) (q_r _ _) (q_nd _ _) ⟨rfl, rfl, Nat.le_of_ble_eq_true rfl, Nat.le_of_ble_eq_true rfl, Nat.le_of_ble_eq_true rfl⟩ dX8_sit_8 (fun q1 H locs h hP hD hS => ?_)
  obtain ⟨hP, hD⟩ := qm (w2 := ([((xo 0), .inr (6, [.ref (ta 0), .ref xr, .int (xi 2), .ref (sa 0), .ref xm, .ref xg, .ref (tr 0), .ref xs, .ref xp, .ref xq, .ref xe, .ref xt]))] : va_W) ++ (([((sa 0), .inr (4, [.ref (xa 0), .ref (ca 0), .ref (na 0), .int (si 3), .int (si 4)]))] : va_W) ++ (rmW k xa rm ++ (acW k ca ac)))) hP hD (q_from [([((xo 0), .inr (6, [.ref (ta 0), .ref xr, .int (xi 2), .ref (sa 0), .ref xm, .ref xg, .ref (tr 0), .ref xs, .ref xp, .ref xq, .ref xe, .ref xt]))] : va_W), ([((sa 0), .inr (4, [.ref (xa 0), .ref (ca 0), .ref (na 0), .int (si 3), .int (si 4)]))] : va_W), rmW k xa rm, acW k ca ac] [0, 1, 3] [2] [0, 1, 2, 3] (by decide +kernel))
  refine hc_is (z := q1) rfl ?_
  refine lv_if_eq (tgt := 16) hx hb dX8_sit_11 (by decide) (fun c2 => ?_) (fun c2 => ?_)
  · have h := fw_t c2 h
    refine lv_aload_n hx hb dX8_sit_16 rfl (lv_at hl 0 rfl) ?_
    refine va_get (D := D) (ci := 6) (v := .ref (sa 0)) (C := RX8) (T := TX8) (N := 12) hx hb hts in8 hown hG.1 hP 0 rfl rfl 3 (by decide) (hts (.fieldLink RX8 29 "ChairCane" "now" "LChairCane$Standing;") (mem_b bq_wsX8_sit 0 0 rfl)) (fun _ h9 => h9) rfl dX8_sit_17 ?_
    refine va_get (D := D) (ci := 4) (v := .ref (ca 0)) (C := RX6) (T := TX6) (N := 5) hx hb hts in6 hown hG.1 hP 1 rfl rfl 1 (by decide) (hts (.fieldLink RX8 88 "ChairCane$Standing" "acts" "LChairCane$Acts;") (mem_b bq_wsX8_sit 0 2 rfl)) (fun _ h9 => h9) rfl dX8_sit_20 ?_
    refine lv_aload_n hx hb dX8_sit_23 rfl (lv_at hl 0 rfl) ?_
    refine va_get (D := D) (ci := 6) (v := .ref (sa 0)) (C := RX8) (T := TX8) (N := 12) hx hb hts in8 hown hG.1 hP 0 rfl rfl 3 (by decide) (hts (.fieldLink RX8 29 "ChairCane" "now" "LChairCane$Standing;") (mem_b bq_wsX8_sit 0 0 rfl)) (fun _ h9 => h9) rfl dX8_sit_24 ?_
    refine va_get (D := D) (ci := 4) (v := .ref (xa 0)) (C := RX6) (T := TX6) (N := 5) hx hb hts in6 hown hG.1 hP 1 rfl rfl 0 (by decide) (hts (.fieldLink RX8 81 "ChairCane$Standing" "room" "LChairCane$Room;") (mem_b bq_wsX8_sit 0 1 rfl)) (fun _ h9 => h9) rfl dX8_sit_27 ?_
    obtain ⟨hP, hD⟩ := qm hP hD (q_to [([((xo 0), .inr (6, [.ref (ta 0), .ref xr, .int (xi 2), .ref (sa 0), .ref xm, .ref xg, .ref (tr 0), .ref xs, .ref xp, .ref xq, .ref xe, .ref xt]))] : va_W), ([((sa 0), .inr (4, [.ref (xa 0), .ref (ca 0), .ref (na 0), .int (si 3), .int (si 4)]))] : va_W), rmW k xa rm, acW k ca ac] [0, 1, 2, 3] [3, 2] [0, 1] (by decide +kernel))
    refine fw_Vv (As := [.ref (xa 0)]) (rest := []) (n := 1) (wp := fun b : OB => acW k ca b ++ (rmW k xa rm)) h hx hb hml hown hts hG hA hP hD hS hl.1 _ _ (fun q hq9 => c_X0_keep l D k _  ca xa F  ac rm  hq9) (ci := 0) (q0 := 0) rfl rfl gX8_sit_X0_keep rfl ⟨rfl, rfl, Nat.le_of_ble_eq_true rfl, Nat.le_of_ble_eq_true rfl⟩ (by decide +kernel) (q_l _ _) (q_r _ _) (q_nd _ _) ⟨rfl, rfl, Nat.le_of_ble_eq_true rfl, Nat.le_of_ble_eq_true rfl, Nat.le_of_ble_eq_true rfl⟩ dX8_sit_30 (fun q3 H locs h hP hD hS => ?_)
    obtain ⟨hP, hD⟩ := qm (w2 := ([((xo 0), .inr (6, [.ref (ta 0), .ref xr, .int (xi 2), .ref (sa 0), .ref xm, .ref xg, .ref (tr 0), .ref xs, .ref xp, .ref xq, .ref xe, .ref xt]))] : va_W) ++ (([((sa 0), .inr (4, [.ref (xa 0), .ref (ca 0), .ref (na 0), .int (si 3), .int (si 4)]))] : va_W) ++ (rmW k xa rm ++ (acW k ca q3)))) hP hD (q_from [([((xo 0), .inr (6, [.ref (ta 0), .ref xr, .int (xi 2), .ref (sa 0), .ref xm, .ref xg, .ref (tr 0), .ref xs, .ref xp, .ref xq, .ref xe, .ref xt]))] : va_W), ([((sa 0), .inr (4, [.ref (xa 0), .ref (ca 0), .ref (na 0), .int (si 3), .int (si 4)]))] : va_W), rmW k xa rm, acW k ca q3] [0, 1] [3, 2] [0, 1, 2, 3] (by decide +kernel))
    refine lv_aload_n hx hb dX8_sit_33 rfl (lv_at hl 0 rfl) ?_
    refine va_get (D := D) (ci := 6) (v := .ref (sa 0)) (C := RX8) (T := TX8) (N := 12) hx hb hts in8 hown hG.1 hP 0 rfl rfl 3 (by decide) (hts (.fieldLink RX8 29 "ChairCane" "now" "LChairCane$Standing;") (mem_b bq_wsX8_sit 0 0 rfl)) (fun _ h9 => h9) rfl dX8_sit_34 ?_
    refine va_get (D := D) (ci := 4) (v := .ref (xa 0)) (C := RX6) (T := TX6) (N := 5) hx hb hts in6 hown hG.1 hP 1 rfl rfl 0 (by decide) (hts (.fieldLink RX8 81 "ChairCane$Standing" "room" "LChairCane$Room;") (mem_b bq_wsX8_sit 0 1 rfl)) (fun _ h9 => h9) rfl dX8_sit_37 ?_
    refine lv_iload_n hx hb dX8_sit_40 rfl (lv_at hl 1 rfl) ?_
    refine lv_iconst (v := 1) hx hb dX8_sit_41 (by decide) ?_
    obtain ⟨hP, hD⟩ := qm hP hD (q_to [([((xo 0), .inr (6, [.ref (ta 0), .ref xr, .int (xi 2), .ref (sa 0), .ref xm, .ref xg, .ref (tr 0), .ref xs, .ref xp, .ref xq, .ref xe, .ref xt]))] : va_W), ([((sa 0), .inr (4, [.ref (xa 0), .ref (ca 0), .ref (na 0), .int (si 3), .int (si 4)]))] : va_W), rmW k xa rm, acW k ca q3] [0, 1, 2, 3] [2] [0, 1, 3] (by decide +kernel))
    refine fw_Vv (As := [.int x1, .int 1]) (rest := []) (n := 2) (wp := fun b : OB => rmW k xa b) h hx hb hml hown hts hG hA hP hD hS hl.1 _ _ (fun q hq9 => c_X3_seat l D k _  xa F x1 1 rm  hq9) (ci := 2) (q0 := 0) rfl rfl gX8_sit_X3_seat rfl ⟨rfl, rfl, Nat.le_of_ble_eq_true rfl, Nat.le_of_ble_eq_true rfl⟩ (by decide +kernel) (q_l _ _) (q_r _ _) (q_nd _ _) ⟨rfl, rfl, Nat.le_of_ble_eq_true rfl, Nat.le_of_ble_eq_true rfl, Nat.le_of_ble_eq_true rfl⟩ dX8_sit_42 (fun q4 H locs h hP hD hS => ?_)
    obtain ⟨hP, hD⟩ := qm (w2 := ([((xo 0), .inr (6, [.ref (ta 0), .ref xr, .int (xi 2), .ref (sa 0), .ref xm, .ref xg, .ref (tr 0), .ref xs, .ref xp, .ref xq, .ref xe, .ref xt]))] : va_W) ++ (([((sa 0), .inr (4, [.ref (xa 0), .ref (ca 0), .ref (na 0), .int (si 3), .int (si 4)]))] : va_W) ++ (rmW k xa q4 ++ (acW k ca q3)))) hP hD (q_from [([((xo 0), .inr (6, [.ref (ta 0), .ref xr, .int (xi 2), .ref (sa 0), .ref xm, .ref xg, .ref (tr 0), .ref xs, .ref xp, .ref xq, .ref xe, .ref xt]))] : va_W), ([((sa 0), .inr (4, [.ref (xa 0), .ref (ca 0), .ref (na 0), .int (si 3), .int (si 4)]))] : va_W), rmW k xa q4, acW k ca q3] [0, 1, 3] [2] [0, 1, 2, 3] (by decide +kernel))
    refine lv_aload_n hx hb dX8_sit_45 rfl (lv_at hl 0 rfl) ?_
    refine va_get (D := D) (ci := 6) (v := .ref (sa 0)) (C := RX8) (T := TX8) (N := 12) hx hb hts in8 hown hG.1 hP 0 rfl rfl 3 (by decide) (hts (.fieldLink RX8 29 "ChairCane" "now" "LChairCane$Standing;") (mem_b bq_wsX8_sit 0 0 rfl)) (fun _ h9 => h9) rfl dX8_sit_46 ?_
    refine va_get (D := D) (ci := 4) (v := .ref (xa 0)) (C := RX6) (T := TX6) (N := 5) hx hb hts in6 hown hG.1 hP 1 rfl rfl 0 (by decide) (hts (.fieldLink RX8 81 "ChairCane$Standing" "room" "LChairCane$Room;") (mem_b bq_wsX8_sit 0 1 rfl)) (fun _ h9 => h9) rfl dX8_sit_49 ?_
    obtain ⟨hP, hD⟩ := qm hP hD (q_to [([((xo 0), .inr (6, [.ref (ta 0), .ref xr, .int (xi 2), .ref (sa 0), .ref xm, .ref xg, .ref (tr 0), .ref xs, .ref xp, .ref xq, .ref xe, .ref xt]))] : va_W), ([((sa 0), .inr (4, [.ref (xa 0), .ref (ca 0), .ref (na 0), .int (si 3), .int (si 4)]))] : va_W), rmW k xa q4, acW k ca q3] [0, 1, 2, 3] [2] [0, 1, 3] (by decide +kernel))
    refine fw_Vi (As := []) (rest := []) (n := 0) (rv := fun b : Int32 × OB => b.1) (wp := fun b : Int32 × OB => rmW k xa b.2) h hx hb hml hown hts hG hA hP hD hS hl.1 _ _ (fun q hq9 => c_X3_settle l D k _  xa F  q4  hq9) (ci := 2) (q0 := 0) rfl rfl gX8_sit_X3_settle rfl ⟨rfl, rfl, Nat.le_of_ble_eq_true rfl, Nat.le_of_ble_eq_true rfl⟩ (by decide +kernel) (q_l _ _) (q_r _ _) (q_nd _ _) ⟨rfl, rfl, Nat.le_of_ble_eq_true rfl, Nat.le_of_ble_eq_true rfl, Nat.le_of_ble_eq_true rfl⟩ dX8_sit_52 (fun q5 H locs h hP hD hS => ?_)
    obtain ⟨hP, hD⟩ := qm (w2 := ([((xo 0), .inr (6, [.ref (ta 0), .ref xr, .int (xi 2), .ref (sa 0), .ref xm, .ref xg, .ref (tr 0), .ref xs, .ref xp, .ref xq, .ref xe, .ref xt]))] : va_W) ++ (([((sa 0), .inr (4, [.ref (xa 0), .ref (ca 0), .ref (na 0), .int (si 3), .int (si 4)]))] : va_W) ++ (rmW k xa q5.2 ++ (acW k ca q3)))) hP hD (q_from [([((xo 0), .inr (6, [.ref (ta 0), .ref xr, .int (xi 2), .ref (sa 0), .ref xm, .ref xg, .ref (tr 0), .ref xs, .ref xp, .ref xq, .ref xe, .ref xt]))] : va_W), ([((sa 0), .inr (4, [.ref (xa 0), .ref (ca 0), .ref (na 0), .int (si 3), .int (si 4)]))] : va_W), rmW k xa q5.2, acW k ca q3] [0, 1, 3] [2] [0, 1, 2, 3] (by decide +kernel))
    refine hc_is (z := q5.1) rfl ?_
    exact fw_endI (rv := fun b : Int32 × OB × OB => b.1) (wp := fun b : Int32 × OB × OB => ([((xo 0), .inr (6, [.ref (ta 0), .ref xr, .int (xi 2), .ref (sa 0), .ref xm, .ref xg, .ref (tr 0), .ref xs, .ref xp, .ref xq, .ref xe, .ref xt]))] : va_W) ++ (([((sa 0), .inr (4, [.ref (xa 0), .ref (ca 0), .ref (na 0), .int (si 3), .int (si 4)]))] : va_W) ++ (rmW k xa b.2.1 ++ (acW k ca b.2.2)))) hx hb hr hlocks h rfl hP hD hS dX8_sit_55
  · have h := fw_f c2 h
    refine lv_iconst (v := (-1)) hx hb dX8_sit_14 (by decide) ?_
    exact fw_endI (rv := fun b : Int32 × OB × OB => b.1) (wp := fun b : Int32 × OB × OB => ([((xo 0), .inr (6, [.ref (ta 0), .ref xr, .int (xi 2), .ref (sa 0), .ref xm, .ref xg, .ref (tr 0), .ref xs, .ref xp, .ref xq, .ref xe, .ref xt]))] : va_W) ++ (([((sa 0), .inr (4, [.ref (xa 0), .ref (ca 0), .ref (na 0), .int (si 3), .int (si 4)]))] : va_W) ++ (rmW k xa b.2.1 ++ (acW k ca b.2.2)))) hx hb hr hlocks h rfl hP hD hS dX8_sit_15
noncomputable def f_X8_rise (F : Nat)  (x1 : Int32) (xi : Nat → Int32) (si : Nat → Int32) (rm : OB) (ac : OB) : Option (Int32 × OB × OB) :=
  Option.bind (f_X3_isDown F x1 rm) (fun q1 => (if q1 = 0 then (some ((-1), rm, ac)) else (Option.bind (f_X0_keep F ac rm) (fun q3 => (Option.bind (f_X3_seat F x1 0 rm) (fun q4 => (Option.bind (f_X3_settle F q4) (fun q5 => (some (q5.1, q5.2, q3))))))))))
set_option maxHeartbeats 4000000 in
set_option maxRecDepth 100000 in
theorem c_X8_rise (l : Launch) (D : va_G) (k : Nat → ClassId) (sz : Nat)  (xo : Nat → Nat) (ta : Nat → Nat) (xr : Nat) (sa : Nat → Nat) (xm : Nat) (xg : Nat) (tr : Nat → Nat) (xs : Nat) (xp : Nat) (xq : Nat) (xe : Nat) (xt : Nat) (xa : Nat → Nat) (ca : Nat → Nat) (na : Nat → Nat) (F : Nat)  (x1 : Int32) (xi : Nat → Int32) (si : Nat → Int32) (rm : OB) (ac : OB)  {res : Int32 × OB × OB} (h : f_X8_rise F x1 xi si rm ac = some res) : CtI l yX8_rise wsX8_rise (rmK 4 0 0) [.ref (xo 0), .int x1] D k sz (([((xo 0), .inr (6, [.ref (ta 0), .ref xr, .int (xi 2), .ref (sa 0), .ref xm, .ref xg, .ref (tr 0), .ref xs, .ref xp, .ref xq, .ref xe, .ref xt]))] : va_W) ++ (([((sa 0), .inr (4, [.ref (xa 0), .ref (ca 0), .ref (na 0), .int (si 3), .int (si 4)]))] : va_W) ++ (rmW k xa rm ++ (acW k ca ac)))) (fun r (_ : Unit) => r = res.1) (fun _ : Unit => ([((xo 0), .inr (6, [.ref (ta 0), .ref xr, .int (xi 2), .ref (sa 0), .ref xm, .ref xg, .ref (tr 0), .ref xs, .ref xp, .ref xq, .ref xe, .ref xt]))] : va_W) ++ (([((sa 0), .inr (4, [.ref (xa 0), .ref (ca 0), .ref (na 0), .int (si 3), .int (si 4)]))] : va_W) ++ (rmW k xa res.2.1 ++ (acW k ca res.2.2)))) 0 0 := by
  refine CtI.mk (cc := cX8_rise) (maxL := 2) (ret := (some .int)) (by decide) rfl (Nat.le_of_ble_eq_true rfl) ?_
  intro p e s m below meth c A ls E hP hD hS hl
  obtain ⟨hx, hb, hr, hml, hown, hts, hlocks, hin, hG, hA⟩ := E
  have hown : s.vm.findClass RX8 = some m.cls := hown
  have in0 : ∀ w ∈ u_ws RX0 TX0 5, w ∈ wsX8_rise := fun _ h => List.mem_cons_of_mem _ (List.mem_append_right _ h)
  have in3 : ∀ w ∈ u_ws RX3 TX3 17, w ∈ wsX8_rise := fun _ h => List.mem_cons_of_mem _ (List.mem_append_left _ (List.mem_append_right _ h))
  have in6 : ∀ w ∈ u_ws RX6 TX6 5, w ∈ wsX8_rise := fun _ h => List.mem_cons_of_mem _ (List.mem_append_left _ (List.mem_append_left _ (List.mem_append_right _ h)))
  have in8 : ∀ w ∈ u_ws RX8 TX8 12, w ∈ wsX8_rise := fun _ h => List.mem_cons_of_mem _ (List.mem_append_left _ (List.mem_append_left _ (List.mem_append_left _ (List.mem_append_right _ h))))
  have hl : lv_has ls 2 [(0, .ref (xo 0)), (1, .int x1)] := hl
  refine lv_aload_n hx hb dX8_rise_0 rfl (lv_at hl 0 rfl) ?_
  refine va_get (D := D) (ci := 6) (v := .ref (sa 0)) (C := RX8) (T := TX8) (N := 12) hx hb hts in8 hown hG.1 hP 0 rfl rfl 3 (by decide) (hts (.fieldLink RX8 29 "ChairCane" "now" "LChairCane$Standing;") (mem_b bq_wsX8_rise 0 0 rfl)) (fun _ h9 => h9) rfl dX8_rise_1 ?_
  refine va_get (D := D) (ci := 4) (v := .ref (xa 0)) (C := RX6) (T := TX6) (N := 5) hx hb hts in6 hown hG.1 hP 1 rfl rfl 0 (by decide) (hts (.fieldLink RX8 81 "ChairCane$Standing" "room" "LChairCane$Room;") (mem_b bq_wsX8_rise 0 1 rfl)) (fun _ h9 => h9) rfl dX8_rise_4 ?_
  refine lv_iload_n hx hb dX8_rise_7 rfl (lv_at hl 1 rfl) ?_
  obtain ⟨hP, hD⟩ := qm hP hD (q_to [([((xo 0), .inr (6, [.ref (ta 0), .ref xr, .int (xi 2), .ref (sa 0), .ref xm, .ref xg, .ref (tr 0), .ref xs, .ref xp, .ref xq, .ref xe, .ref xt]))] : va_W), ([((sa 0), .inr (4, [.ref (xa 0), .ref (ca 0), .ref (na 0), .int (si 3), .int (si 4)]))] : va_W), rmW k xa rm, acW k ca ac] [0, 1, 2, 3] [2] [0, 1, 3] (by decide +kernel))
  refine fw_Vi (As := [.int x1]) (rest := []) (n := 1) (rv := fun b : Int32 => b) (wp := fun b : Int32 => rmW k xa rm) h hx hb hml hown hts hG hA hP hD hS hl.1 _ _ (fun q hq9 => c_X3_isDown l D k _  xa F x1 rm  hq9) (ci := 2) (q0 := 0) rfl rfl gX8_rise_X3_isDown rfl ⟨rfl, rfl, Nat.le_of_ble_eq_true rfl, Nat.le_of_ble_eq_true rfl⟩ (by decide +kernel) (q_l _ _) (q_r _ _) (q_nd _ _) ⟨rfl, rfl, Nat.le_of_ble_eq_true rfl, Nat.le_of_ble_eq_true rfl, Nat.le_of_ble_eq_true rfl⟩ dX8_rise_8 (fun q1 H locs h hP hD hS => ?_)
  obtain ⟨hP, hD⟩ := qm (w2 := ([((xo 0), .inr (6, [.ref (ta 0), .ref xr, .int (xi 2), .ref (sa 0), .ref xm, .ref xg, .ref (tr 0), .ref xs, .ref xp, .ref xq, .ref xe, .ref xt]))] : va_W) ++ (([((sa 0), .inr (4, [.ref (xa 0), .ref (ca 0), .ref (na 0), .int (si 3), .int (si 4)]))] : va_W) ++ (rmW k xa rm ++ (acW k ca ac)))) hP hD (q_from [([((xo 0), .inr (6, [.ref (ta 0), .ref xr, .int (xi 2), .ref (sa 0), .ref xm, .ref xg, .ref (tr 0), .ref xs, .ref xp, .ref xq, .ref xe, .ref xt]))] : va_W), ([((sa 0), .inr (4, [.ref (xa 0), .ref (ca 0), .ref (na 0), .int (si 3), .int (si 4)]))] : va_W), rmW k xa rm, acW k ca ac] [0, 1, 3] [2] [0, 1, 2, 3] (by decide +kernel))
  refine hc_is (z := q1) rfl ?_
  refine lv_if_ne (tgt := 16) hx hb dX8_rise_11 (by decide) (fun c2 => ?_) (fun c2 => ?_)
  · have h := fw_f c2 h
    refine lv_aload_n hx hb dX8_rise_16 rfl (lv_at hl 0 rfl) ?_
    refine va_get (D := D) (ci := 6) (v := .ref (sa 0)) (C := RX8) (T := TX8) (N := 12) hx hb hts in8 hown hG.1 hP 0 rfl rfl 3 (by decide) (hts (.fieldLink RX8 29 "ChairCane" "now" "LChairCane$Standing;") (mem_b bq_wsX8_rise 0 0 rfl)) (fun _ h9 => h9) rfl dX8_rise_17 ?_
    refine va_get (D := D) (ci := 4) (v := .ref (ca 0)) (C := RX6) (T := TX6) (N := 5) hx hb hts in6 hown hG.1 hP 1 rfl rfl 1 (by decide) (hts (.fieldLink RX8 88 "ChairCane$Standing" "acts" "LChairCane$Acts;") (mem_b bq_wsX8_rise 0 2 rfl)) (fun _ h9 => h9) rfl dX8_rise_20 ?_
    refine lv_aload_n hx hb dX8_rise_23 rfl (lv_at hl 0 rfl) ?_
    refine va_get (D := D) (ci := 6) (v := .ref (sa 0)) (C := RX8) (T := TX8) (N := 12) hx hb hts in8 hown hG.1 hP 0 rfl rfl 3 (by decide) (hts (.fieldLink RX8 29 "ChairCane" "now" "LChairCane$Standing;") (mem_b bq_wsX8_rise 0 0 rfl)) (fun _ h9 => h9) rfl dX8_rise_24 ?_
    refine va_get (D := D) (ci := 4) (v := .ref (xa 0)) (C := RX6) (T := TX6) (N := 5) hx hb hts in6 hown hG.1 hP 1 rfl rfl 0 (by decide) (hts (.fieldLink RX8 81 "ChairCane$Standing" "room" "LChairCane$Room;") (mem_b bq_wsX8_rise 0 1 rfl)) (fun _ h9 => h9) rfl dX8_rise_27 ?_
    obtain ⟨hP, hD⟩ := qm hP hD (q_to [([((xo 0), .inr (6, [.ref (ta 0), .ref xr, .int (xi 2), .ref (sa 0), .ref xm, .ref xg, .ref (tr 0), .ref xs, .ref xp, .ref xq, .ref xe, .ref xt]))] : va_W), ([((sa 0), .inr (4, [.ref (xa 0), .ref (ca 0), .ref (na 0), .int (si 3), .int (si 4)]))] : va_W), rmW k xa rm, acW k ca ac] [0, 1, 2, 3] [3, 2] [0, 1] (by decide +kernel))
    refine fw_Vv (As := [.ref (xa 0)]) (rest := []) (n := 1) (wp := fun b : OB => acW k ca b ++ (rmW k xa rm)) h hx hb hml hown hts hG hA hP hD hS hl.1 _ _ (fun q hq9 => c_X0_keep l D k _  ca xa F  ac rm  hq9) (ci := 0) (q0 := 0) rfl rfl gX8_rise_X0_keep rfl ⟨rfl, rfl, Nat.le_of_ble_eq_true rfl, Nat.le_of_ble_eq_true rfl⟩ (by decide +kernel) (q_l _ _) (q_r _ _) (q_nd _ _) ⟨rfl, rfl, Nat.le_of_ble_eq_true rfl, Nat.le_of_ble_eq_true rfl, Nat.le_of_ble_eq_true rfl⟩ dX8_rise_30 (fun q3 H locs h hP hD hS => ?_)
    obtain ⟨hP, hD⟩ := qm (w2 := ([((xo 0), .inr (6, [.ref (ta 0), .ref xr, .int (xi 2), .ref (sa 0), .ref xm, .ref xg, .ref (tr 0), .ref xs, .ref xp, .ref xq, .ref xe, .ref xt]))] : va_W) ++ (([((sa 0), .inr (4, [.ref (xa 0), .ref (ca 0), .ref (na 0), .int (si 3), .int (si 4)]))] : va_W) ++ (rmW k xa rm ++ (acW k ca q3)))) hP hD (q_from [([((xo 0), .inr (6, [.ref (ta 0), .ref xr, .int (xi 2), .ref (sa 0), .ref xm, .ref xg, .ref (tr 0), .ref xs, .ref xp, .ref xq, .ref xe, .ref xt]))] : va_W), ([((sa 0), .inr (4, [.ref (xa 0), .ref (ca 0), .ref (na 0), .int (si 3), .int (si 4)]))] : va_W), rmW k xa rm, acW k ca q3] [0, 1] [3, 2] [0, 1, 2, 3] (by decide +kernel))
    refine lv_aload_n hx hb dX8_rise_33 rfl (lv_at hl 0 rfl) ?_
    refine va_get (D := D) (ci := 6) (v := .ref (sa 0)) (C := RX8) (T := TX8) (N := 12) hx hb hts in8 hown hG.1 hP 0 rfl rfl 3 (by decide) (hts (.fieldLink RX8 29 "ChairCane" "now" "LChairCane$Standing;") (mem_b bq_wsX8_rise 0 0 rfl)) (fun _ h9 => h9) rfl dX8_rise_34 ?_
    refine va_get (D := D) (ci := 4) (v := .ref (xa 0)) (C := RX6) (T := TX6) (N := 5) hx hb hts in6 hown hG.1 hP 1 rfl rfl 0 (by decide) (hts (.fieldLink RX8 81 "ChairCane$Standing" "room" "LChairCane$Room;") (mem_b bq_wsX8_rise 0 1 rfl)) (fun _ h9 => h9) rfl dX8_rise_37 ?_
    refine lv_iload_n hx hb dX8_rise_40 rfl (lv_at hl 1 rfl) ?_
    refine lv_iconst (v := 0) hx hb dX8_rise_41 (by decide) ?_
    obtain ⟨hP, hD⟩ := qm hP hD (q_to [([((xo 0), .inr (6, [.ref (ta 0), .ref xr, .int (xi 2), .ref (sa 0), .ref xm, .ref xg, .ref (tr 0), .ref xs, .ref xp, .ref xq, .ref xe, .ref xt]))] : va_W), ([((sa 0), .inr (4, [.ref (xa 0), .ref (ca 0), .ref (na 0), .int (si 3), .int (si 4)]))] : va_W), rmW k xa rm, acW k ca q3] [0, 1, 2, 3] [2] [0, 1, 3] (by decide +kernel))
    refine fw_Vv (As := [.int x1, .int 0]) (rest := []) (n := 2) (wp := fun b : OB => rmW k xa b) h hx hb hml hown hts hG hA hP hD hS hl.1 _ _ (fun q hq9 => c_X3_seat l D k _  xa F x1 0 rm  hq9) (ci := 2) (q0 := 0) rfl rfl gX8_rise_X3_seat rfl ⟨rfl, rfl, Nat.le_of_ble_eq_true rfl, Nat.le_of_ble_eq_true rfl⟩ (by decide +kernel) (q_l _ _) (q_r _ _) (q_nd _ _) ⟨rfl, rfl, Nat.le_of_ble_eq_true rfl, Nat.le_of_ble_eq_true rfl, Nat.le_of_ble_eq_true rfl⟩ dX8_rise_42 (fun q4 H locs h hP hD hS => ?_)
    obtain ⟨hP, hD⟩ := qm (w2 := ([((xo 0), .inr (6, [.ref (ta 0), .ref xr, .int (xi 2), .ref (sa 0), .ref xm, .ref xg, .ref (tr 0), .ref xs, .ref xp, .ref xq, .ref xe, .ref xt]))] : va_W) ++ (([((sa 0), .inr (4, [.ref (xa 0), .ref (ca 0), .ref (na 0), .int (si 3), .int (si 4)]))] : va_W) ++ (rmW k xa q4 ++ (acW k ca q3)))) hP hD (q_from [([((xo 0), .inr (6, [.ref (ta 0), .ref xr, .int (xi 2), .ref (sa 0), .ref xm, .ref xg, .ref (tr 0), .ref xs, .ref xp, .ref xq, .ref xe, .ref xt]))] : va_W), ([((sa 0), .inr (4, [.ref (xa 0), .ref (ca 0), .ref (na 0), .int (si 3), .int (si 4)]))] : va_W), rmW k xa q4, acW k ca q3] [0, 1, 3] [2] [0, 1, 2, 3] (by decide +kernel))
    refine lv_aload_n hx hb dX8_rise_45 rfl (lv_at hl 0 rfl) ?_
    refine va_get (D := D) (ci := 6) (v := .ref (sa 0)) (C := RX8) (T := TX8) (N := 12) hx hb hts in8 hown hG.1 hP 0 rfl rfl 3 (by decide) (hts (.fieldLink RX8 29 "ChairCane" "now" "LChairCane$Standing;") (mem_b bq_wsX8_rise 0 0 rfl)) (fun _ h9 => h9) rfl dX8_rise_46 ?_
    refine va_get (D := D) (ci := 4) (v := .ref (xa 0)) (C := RX6) (T := TX6) (N := 5) hx hb hts in6 hown hG.1 hP 1 rfl rfl 0 (by decide) (hts (.fieldLink RX8 81 "ChairCane$Standing" "room" "LChairCane$Room;") (mem_b bq_wsX8_rise 0 1 rfl)) (fun _ h9 => h9) rfl dX8_rise_49 ?_
    obtain ⟨hP, hD⟩ := qm hP hD (q_to [([((xo 0), .inr (6, [.ref (ta 0), .ref xr, .int (xi 2), .ref (sa 0), .ref xm, .ref xg, .ref (tr 0), .ref xs, .ref xp, .ref xq, .ref xe, .ref xt]))] : va_W), ([((sa 0), .inr (4, [.ref (xa 0), .ref (ca 0), .ref (na 0), .int (si 3), .int (si 4)]))] : va_W), rmW k xa q4, acW k ca q3] [0, 1, 2, 3] [2] [0, 1, 3] (by decide +kernel))
    refine fw_Vi (As := []) (rest := []) (n := 0) (rv := fun b : Int32 × OB => b.1) (wp := fun b : Int32 × OB => rmW k xa b.2) h hx hb hml hown hts hG hA hP hD hS hl.1 _ _ (fun q hq9 => c_X3_settle l D k _  xa F  q4  hq9) (ci := 2) (q0 := 0) rfl rfl gX8_rise_X3_settle rfl ⟨rfl, rfl, Nat.le_of_ble_eq_true rfl, Nat.le_of_ble_eq_true rfl⟩ (by decide +kernel) (q_l _ _) (q_r _ _) (q_nd _ _) ⟨rfl, rfl, Nat.le_of_ble_eq_true rfl, Nat.le_of_ble_eq_true rfl, Nat.le_of_ble_eq_true rfl⟩ dX8_rise_52 (fun q5 H locs h hP hD hS => ?_)
    obtain ⟨hP, hD⟩ := qm (w2 := ([((xo 0), .inr (6, [.ref (ta 0), .ref xr, .int (xi 2), .ref (sa 0), .ref xm, .ref xg, .ref (tr 0), .ref xs, .ref xp, .ref xq, .ref xe, .ref xt]))] : va_W) ++ (([((sa 0), .inr (4, [.ref (xa 0), .ref (ca 0), .ref (na 0), .int (si 3), .int (si 4)]))] : va_W) ++ (rmW k xa q5.2 ++ (acW k ca q3)))) hP hD (q_from [([((xo 0), .inr (6, [.ref (ta 0), .ref xr, .int (xi 2), .ref (sa 0), .ref xm, .ref xg, .ref (tr 0), .ref xs, .ref xp, .ref xq, .ref xe, .ref xt]))] : va_W), ([((sa 0), .inr (4, [.ref (xa 0), .ref (ca 0), .ref (na 0), .int (si 3), .int (si 4)]))] : va_W), rmW k xa q5.2, acW k ca q3] [0, 1, 3] [2] [0, 1, 2, 3] (by decide +kernel))
    refine hc_is (z := q5.1) rfl ?_
    exact fw_endI (rv := fun b : Int32 × OB × OB => b.1) (wp := fun b : Int32 × OB × OB => ([((xo 0), .inr (6, [.ref (ta 0), .ref xr, .int (xi 2), .ref (sa 0), .ref xm, .ref xg, .ref (tr 0), .ref xs, .ref xp, .ref xq, .ref xe, .ref xt]))] : va_W) ++ (([((sa 0), .inr (4, [.ref (xa 0), .ref (ca 0), .ref (na 0), .int (si 3), .int (si 4)]))] : va_W) ++ (rmW k xa b.2.1 ++ (acW k ca b.2.2)))) hx hb hr hlocks h rfl hP hD hS dX8_rise_55
  · have h := fw_t c2 h
    refine lv_iconst (v := (-1)) hx hb dX8_rise_14 (by decide) ?_
    exact fw_endI (rv := fun b : Int32 × OB × OB => b.1) (wp := fun b : Int32 × OB × OB => ([((xo 0), .inr (6, [.ref (ta 0), .ref xr, .int (xi 2), .ref (sa 0), .ref xm, .ref xg, .ref (tr 0), .ref xs, .ref xp, .ref xq, .ref xe, .ref xt]))] : va_W) ++ (([((sa 0), .inr (4, [.ref (xa 0), .ref (ca 0), .ref (na 0), .int (si 3), .int (si 4)]))] : va_W) ++ (rmW k xa b.2.1 ++ (acW k ca b.2.2)))) hx hb hr hlocks h rfl hP hD hS dX8_rise_15
noncomputable def f_X8_help (F : Nat)  (x1 : Int32) (xi : Nat → Int32) (si : Nat → Int32) (rm : OB) (ac : OB) : Option (Int32 × OB × OB) :=
  Option.bind (f_X3_stateOf F x1 rm) (fun q1 => (if q1 = 2 then (Option.bind (f_X0_keep F ac rm) (fun q3 => (Option.bind (f_J6_bitCount_0f7a4 F ((rm.1 11) &&& ((1 <<< (x1 &&& 31)) ^^^ (-1)))) (fun q4 => (some (q4, ((uF rm.1 11 ((rm.1 11) &&& ((1 <<< (x1 &&& 31)) ^^^ (-1)))), rm.2.1, rm.2.2), q3)))))) else (some ((-1), rm, ac))))
set_option maxHeartbeats 4000000 in
set_option maxRecDepth 100000 in
theorem c_X8_help (l : Launch) (D : va_G) (k : Nat → ClassId) (sz : Nat)  (xo : Nat → Nat) (ta : Nat → Nat) (xr : Nat) (sa : Nat → Nat) (xm : Nat) (xg : Nat) (tr : Nat → Nat) (xs : Nat) (xp : Nat) (xq : Nat) (xe : Nat) (xt : Nat) (xa : Nat → Nat) (ca : Nat → Nat) (na : Nat → Nat) (F : Nat)  (x1 : Int32) (xi : Nat → Int32) (si : Nat → Int32) (rm : OB) (ac : OB)  {res : Int32 × OB × OB} (h : f_X8_help F x1 xi si rm ac = some res) : CtI l yX8_help wsX8_help (rmK 3 0 0) [.ref (xo 0), .int x1] D k sz (([((xo 0), .inr (6, [.ref (ta 0), .ref xr, .int (xi 2), .ref (sa 0), .ref xm, .ref xg, .ref (tr 0), .ref xs, .ref xp, .ref xq, .ref xe, .ref xt]))] : va_W) ++ (([((sa 0), .inr (4, [.ref (xa 0), .ref (ca 0), .ref (na 0), .int (si 3), .int (si 4)]))] : va_W) ++ (rmW k xa rm ++ (acW k ca ac)))) (fun r (_ : Unit) => r = res.1) (fun _ : Unit => ([((xo 0), .inr (6, [.ref (ta 0), .ref xr, .int (xi 2), .ref (sa 0), .ref xm, .ref xg, .ref (tr 0), .ref xs, .ref xp, .ref xq, .ref xe, .ref xt]))] : va_W) ++ (([((sa 0), .inr (4, [.ref (xa 0), .ref (ca 0), .ref (na 0), .int (si 3), .int (si 4)]))] : va_W) ++ (rmW k xa res.2.1 ++ (acW k ca res.2.2)))) 0 0 := by
  refine CtI.mk (cc := cX8_help) (maxL := 2) (ret := (some .int)) (by decide) rfl (Nat.le_of_ble_eq_true rfl) ?_
  intro p e s m below meth c A ls E hP hD hS hl
  obtain ⟨hx, hb, hr, hml, hown, hts, hlocks, hin, hG, hA⟩ := E
  have hown : s.vm.findClass RX8 = some m.cls := hown
  have in0 : ∀ w ∈ u_ws RX0 TX0 5, w ∈ wsX8_help := fun _ h => List.mem_cons_of_mem _ (List.mem_append_right _ h)
  have in3 : ∀ w ∈ u_ws RX3 TX3 17, w ∈ wsX8_help := fun _ h => List.mem_cons_of_mem _ (List.mem_append_left _ (List.mem_append_right _ h))
  have in6 : ∀ w ∈ u_ws RX6 TX6 5, w ∈ wsX8_help := fun _ h => List.mem_cons_of_mem _ (List.mem_append_left _ (List.mem_append_left _ (List.mem_append_right _ h)))
  have in8 : ∀ w ∈ u_ws RX8 TX8 12, w ∈ wsX8_help := fun _ h => List.mem_cons_of_mem _ (List.mem_append_left _ (List.mem_append_left _ (List.mem_append_left _ (List.mem_append_right _ h))))
  have hl : lv_has ls 2 [(0, .ref (xo 0)), (1, .int x1)] := hl
  refine lv_aload_n hx hb dX8_help_0 rfl (lv_at hl 0 rfl) ?_
  refine va_get (D := D) (ci := 6) (v := .ref (sa 0)) (C := RX8) (T := TX8) (N := 12) hx hb hts in8 hown hG.1 hP 0 rfl rfl 3 (by decide) (hts (.fieldLink RX8 29 "ChairCane" "now" "LChairCane$Standing;") (mem_b bq_wsX8_help 0 0 rfl)) (fun _ h9 => h9) rfl dX8_help_1 ?_
  refine va_get (D := D) (ci := 4) (v := .ref (xa 0)) (C := RX6) (T := TX6) (N := 5) hx hb hts in6 hown hG.1 hP 1 rfl rfl 0 (by decide) (hts (.fieldLink RX8 81 "ChairCane$Standing" "room" "LChairCane$Room;") (mem_b bq_wsX8_help 0 1 rfl)) (fun _ h9 => h9) rfl dX8_help_4 ?_
  refine lv_iload_n hx hb dX8_help_7 rfl (lv_at hl 1 rfl) ?_
  obtain ⟨hP, hD⟩ := qm hP hD (q_to [([((xo 0), .inr (6, [.ref (ta 0), .ref xr, .int (xi 2), .ref (sa 0), .ref xm, .ref xg, .ref (tr 0), .ref xs, .ref xp, .ref xq, .ref xe, .ref xt]))] : va_W), ([((sa 0), .inr (4, [.ref (xa 0), .ref (ca 0), .ref (na 0), .int (si 3), .int (si 4)]))] : va_W), rmW k xa rm, acW k ca ac] [0, 1, 2, 3] [2] [0, 1, 3] (by decide +kernel))
  refine fw_Vi (As := [.int x1]) (rest := []) (n := 1) (rv := fun b : Int32 => b) (wp := fun b : Int32 => rmW k xa rm) h hx hb hml hown hts hG hA hP hD hS hl.1 _ _ (fun q hq9 => c_X3_stateOf l D k _  xa F x1 rm  hq9) (ci := 2) (q0 := 0) rfl rfl gX8_help_X3_stateOf rfl ⟨rfl, rfl, Nat.le_of_ble_eq_true rfl, Nat.le_of_ble_eq_true rfl⟩ (by decide +kernel) (q_l _ _) (q_r _ _) (q_nd _ _) ⟨rfl, rfl, Nat.le_of_ble_eq_true rfl, Nat.le_of_ble_eq_true rfl, Nat.le_of_ble_eq_true rfl⟩ dX8_help_8 (fun q1 H locs h hP hD hS => ?_)
  obtain ⟨hP, hD⟩ := qm (w2 := ([((xo 0), .inr (6, [.ref (ta 0), .ref xr, .int (xi 2), .ref (sa 0), .ref xm, .ref xg, .ref (tr 0), .ref xs, .ref xp, .ref xq, .ref xe, .ref xt]))] : va_W) ++ (([((sa 0), .inr (4, [.ref (xa 0), .ref (ca 0), .ref (na 0), .int (si 3), .int (si 4)]))] : va_W) ++ (rmW k xa rm ++ (acW k ca ac)))) hP hD (q_from [([((xo 0), .inr (6, [.ref (ta 0), .ref xr, .int (xi 2), .ref (sa 0), .ref xm, .ref xg, .ref (tr 0), .ref xs, .ref xp, .ref xq, .ref xe, .ref xt]))] : va_W), ([((sa 0), .inr (4, [.ref (xa 0), .ref (ca 0), .ref (na 0), .int (si 3), .int (si 4)]))] : va_W), rmW k xa rm, acW k ca ac] [0, 1, 3] [2] [0, 1, 2, 3] (by decide +kernel))
  refine hc_is (z := q1) rfl ?_
  refine lv_iconst (v := 2) hx hb dX8_help_11 (by decide) ?_
  refine lv_icmp_eq (tgt := 17) hx hb dX8_help_12 (by decide) (fun c2 => ?_) (fun c2 => ?_)
  · have h := fw_t c2 h
    refine lv_aload_n hx hb dX8_help_17 rfl (lv_at hl 0 rfl) ?_
    refine va_get (D := D) (ci := 6) (v := .ref (sa 0)) (C := RX8) (T := TX8) (N := 12) hx hb hts in8 hown hG.1 hP 0 rfl rfl 3 (by decide) (hts (.fieldLink RX8 29 "ChairCane" "now" "LChairCane$Standing;") (mem_b bq_wsX8_help 0 0 rfl)) (fun _ h9 => h9) rfl dX8_help_18 ?_
    refine va_get (D := D) (ci := 4) (v := .ref (ca 0)) (C := RX6) (T := TX6) (N := 5) hx hb hts in6 hown hG.1 hP 1 rfl rfl 1 (by decide) (hts (.fieldLink RX8 88 "ChairCane$Standing" "acts" "LChairCane$Acts;") (mem_b bq_wsX8_help 0 2 rfl)) (fun _ h9 => h9) rfl dX8_help_21 ?_
    refine lv_aload_n hx hb dX8_help_24 rfl (lv_at hl 0 rfl) ?_
    refine va_get (D := D) (ci := 6) (v := .ref (sa 0)) (C := RX8) (T := TX8) (N := 12) hx hb hts in8 hown hG.1 hP 0 rfl rfl 3 (by decide) (hts (.fieldLink RX8 29 "ChairCane" "now" "LChairCane$Standing;") (mem_b bq_wsX8_help 0 0 rfl)) (fun _ h9 => h9) rfl dX8_help_25 ?_
    refine va_get (D := D) (ci := 4) (v := .ref (xa 0)) (C := RX6) (T := TX6) (N := 5) hx hb hts in6 hown hG.1 hP 1 rfl rfl 0 (by decide) (hts (.fieldLink RX8 81 "ChairCane$Standing" "room" "LChairCane$Room;") (mem_b bq_wsX8_help 0 1 rfl)) (fun _ h9 => h9) rfl dX8_help_28 ?_
    obtain ⟨hP, hD⟩ := qm hP hD (q_to [([((xo 0), .inr (6, [.ref (ta 0), .ref xr, .int (xi 2), .ref (sa 0), .ref xm, .ref xg, .ref (tr 0), .ref xs, .ref xp, .ref xq, .ref xe, .ref xt]))] : va_W), ([((sa 0), .inr (4, [.ref (xa 0), .ref (ca 0), .ref (na 0), .int (si 3), .int (si 4)]))] : va_W), rmW k xa rm, acW k ca ac] [0, 1, 2, 3] [3, 2] [0, 1] (by decide +kernel))
    refine fw_Vv (As := [.ref (xa 0)]) (rest := []) (n := 1) (wp := fun b : OB => acW k ca b ++ (rmW k xa rm)) h hx hb hml hown hts hG hA hP hD hS hl.1 _ _ (fun q hq9 => c_X0_keep l D k _  ca xa F  ac rm  hq9) (ci := 0) (q0 := 0) rfl rfl gX8_help_X0_keep rfl ⟨rfl, rfl, Nat.le_of_ble_eq_true rfl, Nat.le_of_ble_eq_true rfl⟩ (by decide +kernel) (q_l _ _) (q_r _ _) (q_nd _ _) ⟨rfl, rfl, Nat.le_of_ble_eq_true rfl, Nat.le_of_ble_eq_true rfl, Nat.le_of_ble_eq_true rfl⟩ dX8_help_31 (fun q3 H locs h hP hD hS => ?_)
    obtain ⟨hP, hD⟩ := qm (w2 := ([((xo 0), .inr (6, [.ref (ta 0), .ref xr, .int (xi 2), .ref (sa 0), .ref xm, .ref xg, .ref (tr 0), .ref xs, .ref xp, .ref xq, .ref xe, .ref xt]))] : va_W) ++ (([((sa 0), .inr (4, [.ref (xa 0), .ref (ca 0), .ref (na 0), .int (si 3), .int (si 4)]))] : va_W) ++ (rmW k xa rm ++ (acW k ca q3)))) hP hD (q_from [([((xo 0), .inr (6, [.ref (ta 0), .ref xr, .int (xi 2), .ref (sa 0), .ref xm, .ref xg, .ref (tr 0), .ref xs, .ref xp, .ref xq, .ref xe, .ref xt]))] : va_W), ([((sa 0), .inr (4, [.ref (xa 0), .ref (ca 0), .ref (na 0), .int (si 3), .int (si 4)]))] : va_W), rmW k xa rm, acW k ca q3] [0, 1] [3, 2] [0, 1, 2, 3] (by decide +kernel))
    refine lv_aload_n hx hb dX8_help_34 rfl (lv_at hl 0 rfl) ?_
    refine va_get (D := D) (ci := 6) (v := .ref (sa 0)) (C := RX8) (T := TX8) (N := 12) hx hb hts in8 hown hG.1 hP 0 rfl rfl 3 (by decide) (hts (.fieldLink RX8 29 "ChairCane" "now" "LChairCane$Standing;") (mem_b bq_wsX8_help 0 0 rfl)) (fun _ h9 => h9) rfl dX8_help_35 ?_
    refine va_get (D := D) (ci := 4) (v := .ref (xa 0)) (C := RX6) (T := TX6) (N := 5) hx hb hts in6 hown hG.1 hP 1 rfl rfl 0 (by decide) (hts (.fieldLink RX8 81 "ChairCane$Standing" "room" "LChairCane$Room;") (mem_b bq_wsX8_help 0 1 rfl)) (fun _ h9 => h9) rfl dX8_help_38 ?_
    refine lv_dup hx hb dX8_help_41 rfl ?_
    refine va_get (D := D) (ci := 2) (v := .int (rm.1 11)) (C := RX3) (T := TX3) (N := 17) hx hb hts in3 hown hG.1 hP 2 rfl rfl 11 (by decide) (hts (.fieldLink RX8 179 "ChairCane$Room" "dropped" "I") (mem_b bq_wsX8_help 0 3 rfl)) (fun _ h9 => h9) rfl dX8_help_42 ?_
    refine lv_iconst (v := 1) hx hb dX8_help_45 (by decide) ?_
    refine lv_iload_n hx hb dX8_help_46 rfl (lv_at hl 1 rfl) ?_
    refine lv_ishl hx hb dX8_help_47 ?_
    refine lv_iconst (v := (-1)) hx hb dX8_help_48 (by decide) ?_
    refine lv_ixor hx hb dX8_help_49 ?_
    refine lv_iand hx hb dX8_help_50 ?_
    refine va_put (D := D) (ci := 2) (v := .int ((rm.1 11) &&& ((1 <<< (x1 &&& 31)) ^^^ (-1)))) (C := RX3) (T := TX3) (N := 17) hx hb hts in3 tyX3 tyX3_ok nmX3 hown hG.1 hP hD hS 2 rfl rfl 11 (by decide) (hts (.fieldLink RX8 179 "ChairCane$Room" "dropped" "I") (mem_b bq_wsX8_help 0 3 rfl)) (fun _ h9 => h9) rfl (tyX3_ok 11 (by decide)) rfl rfl (Nat.le_of_ble_eq_true rfl) dX8_help_51 (fun H locs hP hD hS => ?_)
    refine lv_aload_n hx hb dX8_help_54 rfl (lv_at hl 0 rfl) ?_
    refine va_get (D := D) (ci := 6) (v := .ref (sa 0)) (C := RX8) (T := TX8) (N := 12) hx hb hts in8 hown hG.1 hP 0 rfl rfl 3 (by decide) (hts (.fieldLink RX8 29 "ChairCane" "now" "LChairCane$Standing;") (mem_b bq_wsX8_help 0 0 rfl)) (fun _ h9 => h9) rfl dX8_help_55 ?_
    refine va_get (D := D) (ci := 4) (v := .ref (xa 0)) (C := RX6) (T := TX6) (N := 5) hx hb hts in6 hown hG.1 hP 1 rfl rfl 0 (by decide) (hts (.fieldLink RX8 81 "ChairCane$Standing" "room" "LChairCane$Room;") (mem_b bq_wsX8_help 0 1 rfl)) (fun _ h9 => h9) rfl dX8_help_58 ?_
    refine va_get (D := D) (ci := 2) (v := .int ((rm.1 11) &&& ((1 <<< (x1 &&& 31)) ^^^ (-1)))) (C := RX3) (T := TX3) (N := 17) hx hb hts in3 hown hG.1 hP 2 rfl rfl 11 (by decide) (hts (.fieldLink RX8 179 "ChairCane$Room" "dropped" "I") (mem_b bq_wsX8_help 0 3 rfl)) (fun _ h9 => h9) rfl dX8_help_61 ?_
    obtain ⟨hP, hD⟩ := cv (w' := ([((xo 0), .inr (6, [.ref (ta 0), .ref xr, .int (xi 2), .ref (sa 0), .ref xm, .ref xg, .ref (tr 0), .ref xs, .ref xp, .ref xq, .ref xe, .ref xt]))] : va_W) ++ (([((sa 0), .inr (4, [.ref (xa 0), .ref (ca 0), .ref (na 0), .int (si 3), .int (si 4)]))] : va_W) ++ (rmW k xa ((uF rm.1 11 ((rm.1 11) &&& ((1 <<< (x1 &&& 31)) ^^^ (-1)))), rm.2.1, rm.2.2) ++ (acW k ca q3)))) hP hD rfl
    refine fw_Si (As := [.int ((rm.1 11) &&& ((1 <<< (x1 &&& 31)) ^^^ (-1)))]) (rest := []) (n := 1) (wr := ([((xo 0), .inr (6, [.ref (ta 0), .ref xr, .int (xi 2), .ref (sa 0), .ref xm, .ref xg, .ref (tr 0), .ref xs, .ref xp, .ref xq, .ref xe, .ref xt]))] : va_W) ++ (([((sa 0), .inr (4, [.ref (xa 0), .ref (ca 0), .ref (na 0), .int (si 3), .int (si 4)]))] : va_W) ++ (rmW k xa ((uF rm.1 11 ((rm.1 11) &&& ((1 <<< (x1 &&& 31)) ^^^ (-1)))), rm.2.1, rm.2.2) ++ (acW k ca q3)))) (rv := fun b : Int32 => b) (wp := fun b : Int32 => []) h hx hb hml hown hts hG hA hP hD hS hl.1 [] (List.range (([((xo 0), .inr (6, [.ref (ta 0), .ref xr, .int (xi 2), .ref (sa 0), .ref xm, .ref xg, .ref (tr 0), .ref xs, .ref xp, .ref xq, .ref xe, .ref xt]))] : va_W) ++ (([((sa 0), .inr (4, [.ref (xa 0), .ref (ca 0), .ref (na 0), .int (si 3), .int (si 4)]))] : va_W) ++ (rmW k xa ((uF rm.1 11 ((rm.1 11) &&& ((1 <<< (x1 &&& 31)) ^^^ (-1)))), rm.2.1, rm.2.2) ++ (acW k ca q3))) : va_W).length) (fun q hq9 => c_J6_bitCount_0f7a4 l D k _   F ((rm.1 11) &&& ((1 <<< (x1 &&& 31)) ^^^ (-1)))   hq9) gX8_help_J6_bitCount_0f7a4 rfl ⟨rfl, rfl, Nat.le_of_ble_eq_true rfl, Nat.le_of_ble_eq_true rfl⟩ (by decide +kernel) rfl (al_C _) (al_m _) ⟨rfl, rfl, Nat.le_of_ble_eq_true rfl, Nat.le_of_ble_eq_true rfl, Nat.le_of_ble_eq_true rfl⟩ dX8_help_64 (fun q4 H locs h hP hD hS => ?_)
    obtain ⟨hP, hD⟩ := cv (w' := (([((xo 0), .inr (6, [.ref (ta 0), .ref xr, .int (xi 2), .ref (sa 0), .ref xm, .ref xg, .ref (tr 0), .ref xs, .ref xp, .ref xq, .ref xe, .ref xt]))] : va_W) ++ (([((sa 0), .inr (4, [.ref (xa 0), .ref (ca 0), .ref (na 0), .int (si 3), .int (si 4)]))] : va_W) ++ (rmW k xa ((uF rm.1 11 ((rm.1 11) &&& ((1 <<< (x1 &&& 31)) ^^^ (-1)))), rm.2.1, rm.2.2) ++ (acW k ca q3)))) ++ []) hP hD rfl
    rw [List.append_nil] at hP hD
    refine hc_is (z := q4) rfl ?_
    exact fw_endI (rv := fun b : Int32 × OB × OB => b.1) (wp := fun b : Int32 × OB × OB => ([((xo 0), .inr (6, [.ref (ta 0), .ref xr, .int (xi 2), .ref (sa 0), .ref xm, .ref xg, .ref (tr 0), .ref xs, .ref xp, .ref xq, .ref xe, .ref xt]))] : va_W) ++ (([((sa 0), .inr (4, [.ref (xa 0), .ref (ca 0), .ref (na 0), .int (si 3), .int (si 4)]))] : va_W) ++ (rmW k xa b.2.1 ++ (acW k ca b.2.2)))) hx hb hr hlocks h rfl hP hD hS dX8_help_67
  · have h := fw_f c2 h
    refine lv_iconst (v := (-1)) hx hb dX8_help_15 (by decide) ?_
    exact fw_endI (rv := fun b : Int32 × OB × OB => b.1) (wp := fun b : Int32 × OB × OB => ([((xo 0), .inr (6, [.ref (ta 0), .ref xr, .int (xi 2), .ref (sa 0), .ref xm, .ref xg, .ref (tr 0), .ref xs, .ref xp, .ref xq, .ref xe, .ref xt]))] : va_W) ++ (([((sa 0), .inr (4, [.ref (xa 0), .ref (ca 0), .ref (na 0), .int (si 3), .int (si 4)]))] : va_W) ++ (rmW k xa b.2.1 ++ (acW k ca b.2.2)))) hx hb hr hlocks h rfl hP hD hS dX8_help_16
noncomputable def b_X8_let_36 (F : Nat)  (xi : Nat → Int32) (si : Nat → Int32)  (rm : OB) (ac : OB) : Option (Int32 × OB × OB) :=
  some ((-1), rm, ac)
noncomputable def f_X8_let (F : Nat)  (x1 : Int32) (x2 : Int32) (xi : Nat → Int32) (si : Nat → Int32) (rm : OB) (ac : OB) : Option (Int32 × OB × OB) :=
  Option.bind (f_X3_hasStrand F x1 rm) (fun q1 => (if q1 = 0 then (b_X8_let_36 F xi si rm ac) else (if x2 < 0 then (b_X8_let_36 F xi si rm ac) else (if 99 < x2 then (b_X8_let_36 F xi si rm ac) else (if ib x1 4 then (if x2 = ((rm.2.1 9) (Int32.toNatClampNeg x1)) then (b_X8_let_36 F xi si rm ac) else (Option.bind (f_X0_keep F ac rm) (fun q7 => (Option.bind (f_X3_settle F (rm.1, (uF rm.2.1 9 (upd (rm.2.1 9) (Int32.toNatClampNeg x1) x2)), rm.2.2)) (fun q8 => (some (q8.1, q8.2, q7))))))) else none)))))
set_option maxHeartbeats 4000000 in
set_option maxRecDepth 100000 in
theorem c_X8_let (l : Launch) (D : va_G) (k : Nat → ClassId) (sz : Nat)  (xo : Nat → Nat) (ta : Nat → Nat) (xr : Nat) (sa : Nat → Nat) (xm : Nat) (xg : Nat) (tr : Nat → Nat) (xs : Nat) (xp : Nat) (xq : Nat) (xe : Nat) (xt : Nat) (xa : Nat → Nat) (ca : Nat → Nat) (na : Nat → Nat) (F : Nat)  (x1 : Int32) (x2 : Int32) (xi : Nat → Int32) (si : Nat → Int32) (rm : OB) (ac : OB)  {res : Int32 × OB × OB} (h : f_X8_let F x1 x2 xi si rm ac = some res) : CtI l yX8_let wsX8_let (rmK 4 0 0) [.ref (xo 0), .int x1, .int x2] D k sz (([((xo 0), .inr (6, [.ref (ta 0), .ref xr, .int (xi 2), .ref (sa 0), .ref xm, .ref xg, .ref (tr 0), .ref xs, .ref xp, .ref xq, .ref xe, .ref xt]))] : va_W) ++ (([((sa 0), .inr (4, [.ref (xa 0), .ref (ca 0), .ref (na 0), .int (si 3), .int (si 4)]))] : va_W) ++ (rmW k xa rm ++ (acW k ca ac)))) (fun r (_ : Unit) => r = res.1) (fun _ : Unit => ([((xo 0), .inr (6, [.ref (ta 0), .ref xr, .int (xi 2), .ref (sa 0), .ref xm, .ref xg, .ref (tr 0), .ref xs, .ref xp, .ref xq, .ref xe, .ref xt]))] : va_W) ++ (([((sa 0), .inr (4, [.ref (xa 0), .ref (ca 0), .ref (na 0), .int (si 3), .int (si 4)]))] : va_W) ++ (rmW k xa res.2.1 ++ (acW k ca res.2.2)))) 0 0 := by
  refine CtI.mk (cc := cX8_let) (maxL := 4) (ret := (some .int)) (by decide) rfl (Nat.le_of_ble_eq_true rfl) ?_
  intro p e s m below meth c A ls E hP hD hS hl
  obtain ⟨hx, hb, hr, hml, hown, hts, hlocks, hin, hG, hA⟩ := E
  have hown : s.vm.findClass RX8 = some m.cls := hown
  have in0 : ∀ w ∈ u_ws RX0 TX0 5, w ∈ wsX8_let := fun _ h => List.mem_cons_of_mem _ (List.mem_append_right _ h)
  have in3 : ∀ w ∈ u_ws RX3 TX3 17, w ∈ wsX8_let := fun _ h => List.mem_cons_of_mem _ (List.mem_append_left _ (List.mem_append_right _ h))
  have in6 : ∀ w ∈ u_ws RX6 TX6 5, w ∈ wsX8_let := fun _ h => List.mem_cons_of_mem _ (List.mem_append_left _ (List.mem_append_left _ (List.mem_append_right _ h)))
  have in8 : ∀ w ∈ u_ws RX8 TX8 12, w ∈ wsX8_let := fun _ h => List.mem_cons_of_mem _ (List.mem_append_left _ (List.mem_append_left _ (List.mem_append_left _ (List.mem_append_right _ h))))
  have hl : lv_has ls 4 [(0, .ref (xo 0)), (1, .int x1), (2, .int x2)] := hl
  have B36 : ∀ (rm : OB) (ac : OB) (H : Heap) (locs : List Loc) (ls : Array Slot), b_X8_let_36 F xi si rm ac = some res → va_P D vwCl (([((xo 0), .inr (6, [.ref (ta 0), .ref xr, .int (xi 2), .ref (sa 0), .ref xm, .ref xg, .ref (tr 0), .ref xs, .ref xp, .ref xq, .ref xe, .ref xt]))] : va_W) ++ (([((sa 0), .inr (4, [.ref (xa 0), .ref (ca 0), .ref (na 0), .int (si 3), .int (si 4)]))] : va_W) ++ (rmW k xa rm ++ (acW k ca ac)))) H → va_D A (([((xo 0), .inr (6, [.ref (ta 0), .ref xr, .int (xi 2), .ref (sa 0), .ref xm, .ref xg, .ref (tr 0), .ref xs, .ref xp, .ref xq, .ref xe, .ref xt]))] : va_W) ++ (([((sa 0), .inr (4, [.ref (xa 0), .ref (ca 0), .ref (na 0), .int (si 3), .int (si 4)]))] : va_W) ++ (rmW k xa rm ++ (acW k ca ac)))) → va_S A s.heap H locs → lv_has ls 4 [] → W p l e (rmK 4 0 0) s m (List.toArray [.ref (xo 0), .int x1, .int x2]) below meth c H locs 0 0 (MQ below (va_Qi (fun r (_ : Unit) => r = res.1) (hcB D (fun _ : Unit => ([((xo 0), .inr (6, [.ref (ta 0), .ref xr, .int (xi 2), .ref (sa 0), .ref xm, .ref xg, .ref (tr 0), .ref xs, .ref xp, .ref xq, .ref xe, .ref xt]))] : va_W) ++ (([((sa 0), .inr (4, [.ref (xa 0), .ref (ca 0), .ref (na 0), .int (si 3), .int (si 4)]))] : va_W) ++ (rmW k xa res.2.1 ++ (acW k ca res.2.2)))) A) A) (List.toArray [.ref (xo 0), .int x1, .int x2]) s 0 0 A) (F0 m 36 ls []) := by
    intro rm ac H locs ls h hP hD hS hl
    refine lv_iconst (v := (-1)) hx hb dX8_let_36 (by decide) ?_
    exact fw_endI (rv := fun b : Int32 × OB × OB => b.1) (wp := fun b : Int32 × OB × OB => ([((xo 0), .inr (6, [.ref (ta 0), .ref xr, .int (xi 2), .ref (sa 0), .ref xm, .ref xg, .ref (tr 0), .ref xs, .ref xp, .ref xq, .ref xe, .ref xt]))] : va_W) ++ (([((sa 0), .inr (4, [.ref (xa 0), .ref (ca 0), .ref (na 0), .int (si 3), .int (si 4)]))] : va_W) ++ (rmW k xa b.2.1 ++ (acW k ca b.2.2)))) hx hb hr hlocks h rfl hP hD hS dX8_let_37
  refine lv_aload_n hx hb dX8_let_0 rfl (lv_at hl 0 rfl) ?_
  refine va_get (D := D) (ci := 6) (v := .ref (sa 0)) (C := RX8) (T := TX8) (N := 12) hx hb hts in8 hown hG.1 hP 0 rfl rfl 3 (by decide) (hts (.fieldLink RX8 29 "ChairCane" "now" "LChairCane$Standing;") (mem_b bq_wsX8_let 0 0 rfl)) (fun _ h9 => h9) rfl dX8_let_1 ?_
  refine va_get (D := D) (ci := 4) (v := .ref (xa 0)) (C := RX6) (T := TX6) (N := 5) hx hb hts in6 hown hG.1 hP 1 rfl rfl 0 (by decide) (hts (.fieldLink RX8 81 "ChairCane$Standing" "room" "LChairCane$Room;") (mem_b bq_wsX8_let 0 1 rfl)) (fun _ h9 => h9) rfl dX8_let_4 ?_
  refine lv_astore_n (lv' := [(3, .ref (xa 0)), (0, .ref (xo 0)), (1, .int x1), (2, .int x2)]) hx hb dX8_let_7 rfl hl (by decide) rfl (fun ls hl => ?_)
  refine lv_aload_n hx hb dX8_let_8 rfl (lv_at hl 0 rfl) ?_
  refine lv_iload_n hx hb dX8_let_9 rfl (lv_at hl 2 rfl) ?_
  obtain ⟨hP, hD⟩ := qm hP hD (q_to [([((xo 0), .inr (6, [.ref (ta 0), .ref xr, .int (xi 2), .ref (sa 0), .ref xm, .ref xg, .ref (tr 0), .ref xs, .ref xp, .ref xq, .ref xe, .ref xt]))] : va_W), ([((sa 0), .inr (4, [.ref (xa 0), .ref (ca 0), .ref (na 0), .int (si 3), .int (si 4)]))] : va_W), rmW k xa rm, acW k ca ac] [0, 1, 2, 3] [2] [0, 1, 3] (by decide +kernel))
  refine fw_Vi (As := [.int x1]) (rest := []) (n := 1) (rv := fun b : Int32 => b) (wp := fun b : Int32 => rmW k xa rm) h hx hb hml hown hts hG hA hP hD hS hl.1 _ _ (fun q hq9 => c_X3_hasStrand l D k _  xa F x1 rm  hq9) (ci := 2) (q0 := 0) rfl rfl gX8_let_X3_hasStrand rfl ⟨rfl, rfl, Nat.le_of_ble_eq_true rfl, Nat.le_of_ble_eq_true rfl⟩ (by decide +kernel) (q_l _ _) (q_r _ _) (q_nd _ _) ⟨rfl, rfl, Nat.le_of_ble_eq_true rfl, Nat.le_of_ble_eq_true rfl, Nat.le_of_ble_eq_true rfl⟩ dX8_let_10 (fun q1 H locs h hP hD hS => ?_)
  obtain ⟨hP, hD⟩ := qm (w2 := ([((xo 0), .inr (6, [.ref (ta 0), .ref xr, .int (xi 2), .ref (sa 0), .ref xm, .ref xg, .ref (tr 0), .ref xs, .ref xp, .ref xq, .ref xe, .ref xt]))] : va_W) ++ (([((sa 0), .inr (4, [.ref (xa 0), .ref (ca 0), .ref (na 0), .int (si 3), .int (si 4)]))] : va_W) ++ (rmW k xa rm ++ (acW k ca ac)))) hP hD (q_from [([((xo 0), .inr (6, [.ref (ta 0), .ref xr, .int (xi 2), .ref (sa 0), .ref xm, .ref xg, .ref (tr 0), .ref xs, .ref xp, .ref xq, .ref xe, .ref xt]))] : va_W), ([((sa 0), .inr (4, [.ref (xa 0), .ref (ca 0), .ref (na 0), .int (si 3), .int (si 4)]))] : va_W), rmW k xa rm, acW k ca ac] [0, 1, 3] [2] [0, 1, 2, 3] (by decide +kernel))
  refine hc_is (z := q1) rfl ?_
  refine lv_if_eq (tgt := 36) hx hb dX8_let_13 (by decide) (fun c2 => ?_) (fun c2 => ?_)
  · have h := fw_t c2 h
    exact B36 _ _ _ _ _ h hP hD hS (lv_sub hl [] rfl)
  · have h := fw_f c2 h
    refine lv_iload_n hx hb dX8_let_16 rfl (lv_at hl 3 rfl) ?_
    refine lv_if_lt (tgt := 36) hx hb dX8_let_17 (by decide) (fun c3 => ?_) (fun c3 => ?_)
    · have h := fw_t c3 h
      exact B36 _ _ _ _ _ h hP hD hS (lv_sub hl [] rfl)
    · have h := fw_f c3 h
      refine lv_iload_n hx hb dX8_let_20 rfl (lv_at hl 3 rfl) ?_
      refine lv_bipush (v := 99) hx hb dX8_let_21 (by decide) ?_
      refine lv_icmp_gt (tgt := 36) hx hb dX8_let_23 (by decide) (fun c4 => ?_) (fun c4 => ?_)
      · have h := fw_t c4 h
        exact B36 _ _ _ _ _ h hP hD hS (lv_sub hl [] rfl)
      · have h := fw_f c4 h
        refine lv_iload_n hx hb dX8_let_26 rfl (lv_at hl 3 rfl) ?_
        refine lv_aload_n hx hb dX8_let_27 rfl (lv_at hl 0 rfl) ?_
        refine va_get (D := D) (ci := 2) (v := .ref (xa 6)) (C := RX3) (T := TX3) (N := 17) hx hb hts in3 hown hG.1 hP 2 rfl rfl 9 (by decide) (hts (.fieldLink RX8 119 "ChairCane$Room" "cane" "[I") (mem_b bq_wsX8_let 0 2 rfl)) (fun _ h9 => h9) rfl dX8_let_28 ?_
        refine lv_iload_n hx hb dX8_let_31 rfl (lv_at hl 2 rfl) ?_
        obtain ⟨g5, h⟩ := fw_g h
        refine va_iald hx hb hG.1 hP 8 0 rfl rfl (ib_vp g5) dX8_let_32 ?_
        refine lv_icmp_ne (tgt := 38) hx hb dX8_let_33 (by decide) (fun c6 => ?_) (fun c6 => ?_)
        · have h := fw_f c6 h
          refine lv_aload_n hx hb dX8_let_38 rfl (lv_at hl 1 rfl) ?_
          refine va_get (D := D) (ci := 6) (v := .ref (sa 0)) (C := RX8) (T := TX8) (N := 12) hx hb hts in8 hown hG.1 hP 0 rfl rfl 3 (by decide) (hts (.fieldLink RX8 29 "ChairCane" "now" "LChairCane$Standing;") (mem_b bq_wsX8_let 0 0 rfl)) (fun _ h9 => h9) rfl dX8_let_39 ?_
          refine va_get (D := D) (ci := 4) (v := .ref (ca 0)) (C := RX6) (T := TX6) (N := 5) hx hb hts in6 hown hG.1 hP 1 rfl rfl 1 (by decide) (hts (.fieldLink RX8 88 "ChairCane$Standing" "acts" "LChairCane$Acts;") (mem_b bq_wsX8_let 0 3 rfl)) (fun _ h9 => h9) rfl dX8_let_42 ?_
          refine lv_aload_n hx hb dX8_let_45 rfl (lv_at hl 0 rfl) ?_
          obtain ⟨hP, hD⟩ := qm hP hD (q_to [([((xo 0), .inr (6, [.ref (ta 0), .ref xr, .int (xi 2), .ref (sa 0), .ref xm, .ref xg, .ref (tr 0), .ref xs, .ref xp, .ref xq, .ref xe, .ref xt]))] : va_W), ([((sa 0), .inr (4, [.ref (xa 0), .ref (ca 0), .ref (na 0), .int (si 3), .int (si 4)]))] : va_W), rmW k xa rm, acW k ca ac] [0, 1, 2, 3] [3, 2] [0, 1] (by decide +kernel))
          refine fw_Vv (As := [.ref (xa 0)]) (rest := []) (n := 1) (wp := fun b : OB => acW k ca b ++ (rmW k xa rm)) h hx hb hml hown hts hG hA hP hD hS hl.1 _ _ (fun q hq9 => c_X0_keep l D k _  ca xa F  ac rm  hq9) (ci := 0) (q0 := 0) rfl rfl gX8_let_X0_keep rfl ⟨rfl, rfl, Nat.le_of_ble_eq_true rfl, Nat.le_of_ble_eq_true rfl⟩ (by decide +kernel) (q_l _ _) (q_r _ _) (q_nd _ _) ⟨rfl, rfl, Nat.le_of_ble_eq_true rfl, Nat.le_of_ble_eq_true rfl, Nat.le_of_ble_eq_true rfl⟩ dX8_let_46 (fun q7 H locs h hP hD hS => ?_)
          obtain ⟨hP, hD⟩ := qm (w2 := ([((xo 0), .inr (6, [.ref (ta 0), .ref xr, .int (xi 2), .ref (sa 0), .ref xm, .ref xg, .ref (tr 0), .ref xs, .ref xp, .ref xq, .ref xe, .ref xt]))] : va_W) ++ (([((sa 0), .inr (4, [.ref (xa 0), .ref (ca 0), .ref (na 0), .int (si 3), .int (si 4)]))] : va_W) ++ (rmW k xa rm ++ (acW k ca q7)))) hP hD (q_from [([((xo 0), .inr (6, [.ref (ta 0), .ref xr, .int (xi 2), .ref (sa 0), .ref xm, .ref xg, .ref (tr 0), .ref xs, .ref xp, .ref xq, .ref xe, .ref xt]))] : va_W), ([((sa 0), .inr (4, [.ref (xa 0), .ref (ca 0), .ref (na 0), .int (si 3), .int (si 4)]))] : va_W), rmW k xa rm, acW k ca q7] [0, 1] [3, 2] [0, 1, 2, 3] (by decide +kernel))
          refine lv_aload_n hx hb dX8_let_49 rfl (lv_at hl 0 rfl) ?_
          refine va_get (D := D) (ci := 2) (v := .ref (xa 6)) (C := RX3) (T := TX3) (N := 17) hx hb hts in3 hown hG.1 hP 2 rfl rfl 9 (by decide) (hts (.fieldLink RX8 119 "ChairCane$Room" "cane" "[I") (mem_b bq_wsX8_let 0 2 rfl)) (fun _ h9 => h9) rfl dX8_let_50 ?_
          refine lv_iload_n hx hb dX8_let_53 rfl (lv_at hl 2 rfl) ?_
          refine lv_iload_n hx hb dX8_let_54 rfl (lv_at hl 3 rfl) ?_
          refine va_iast hx hb hG.1 hP hD hS 8 0 rfl rfl (ib_vp g5) dX8_let_55 (fun H locs hP hD hS => ?_)
          refine lv_aload_n hx hb dX8_let_56 rfl (lv_at hl 0 rfl) ?_
          obtain ⟨hP, hD⟩ := cv (w' := ([((xo 0), .inr (6, [.ref (ta 0), .ref xr, .int (xi 2), .ref (sa 0), .ref xm, .ref xg, .ref (tr 0), .ref xs, .ref xp, .ref xq, .ref xe, .ref xt]))] : va_W) ++ (([((sa 0), .inr (4, [.ref (xa 0), .ref (ca 0), .ref (na 0), .int (si 3), .int (si 4)]))] : va_W) ++ (rmW k xa (rm.1, (uF rm.2.1 9 (upd (rm.2.1 9) (Int32.toNatClampNeg x1) x2)), rm.2.2) ++ (acW k ca q7)))) hP hD rfl
          obtain ⟨hP, hD⟩ := qm hP hD (q_to [([((xo 0), .inr (6, [.ref (ta 0), .ref xr, .int (xi 2), .ref (sa 0), .ref xm, .ref xg, .ref (tr 0), .ref xs, .ref xp, .ref xq, .ref xe, .ref xt]))] : va_W), ([((sa 0), .inr (4, [.ref (xa 0), .ref (ca 0), .ref (na 0), .int (si 3), .int (si 4)]))] : va_W), rmW k xa (rm.1, (uF rm.2.1 9 (upd (rm.2.1 9) (Int32.toNatClampNeg x1) x2)), rm.2.2), acW k ca q7] [0, 1, 2, 3] [2] [0, 1, 3] (by decide +kernel))
          refine fw_Vi (As := []) (rest := []) (n := 0) (rv := fun b : Int32 × OB => b.1) (wp := fun b : Int32 × OB => rmW k xa b.2) h hx hb hml hown hts hG hA hP hD hS hl.1 _ _ (fun q hq9 => c_X3_settle l D k _  xa F  (rm.1, (uF rm.2.1 9 (upd (rm.2.1 9) (Int32.toNatClampNeg x1) x2)), rm.2.2)  hq9) (ci := 2) (q0 := 0) rfl rfl gX8_let_X3_settle rfl ⟨rfl, rfl, Nat.le_of_ble_eq_true rfl, Nat.le_of_ble_eq_true rfl⟩ (by decide +kernel) (q_l _ _) (q_r _ _) (q_nd _ _) ⟨rfl, rfl, Nat.le_of_ble_eq_true rfl, Nat.le_of_ble_eq_true rfl, Nat.le_of_ble_eq_true rfl⟩ dX8_let_57 (fun q8 H locs h hP hD hS => ?_)
          obtain ⟨hP, hD⟩ := qm (w2 := ([((xo 0), .inr (6, [.ref (ta 0), .ref xr, .int (xi 2), .ref (sa 0), .ref xm, .ref xg, .ref (tr 0), .ref xs, .ref xp, .ref xq, .ref xe, .ref xt]))] : va_W) ++ (([((sa 0), .inr (4, [.ref (xa 0), .ref (ca 0), .ref (na 0), .int (si 3), .int (si 4)]))] : va_W) ++ (rmW k xa q8.2 ++ (acW k ca q7)))) hP hD (q_from [([((xo 0), .inr (6, [.ref (ta 0), .ref xr, .int (xi 2), .ref (sa 0), .ref xm, .ref xg, .ref (tr 0), .ref xs, .ref xp, .ref xq, .ref xe, .ref xt]))] : va_W), ([((sa 0), .inr (4, [.ref (xa 0), .ref (ca 0), .ref (na 0), .int (si 3), .int (si 4)]))] : va_W), rmW k xa q8.2, acW k ca q7] [0, 1, 3] [2] [0, 1, 2, 3] (by decide +kernel))
          refine hc_is (z := q8.1) rfl ?_
          exact fw_endI (rv := fun b : Int32 × OB × OB => b.1) (wp := fun b : Int32 × OB × OB => ([((xo 0), .inr (6, [.ref (ta 0), .ref xr, .int (xi 2), .ref (sa 0), .ref xm, .ref xg, .ref (tr 0), .ref xs, .ref xp, .ref xq, .ref xe, .ref xt]))] : va_W) ++ (([((sa 0), .inr (4, [.ref (xa 0), .ref (ca 0), .ref (na 0), .int (si 3), .int (si 4)]))] : va_W) ++ (rmW k xa b.2.1 ++ (acW k ca b.2.2)))) hx hb hr hlocks h rfl hP hD hS dX8_let_60
        · have h := fw_t c6 h
          exact B36 _ _ _ _ _ h hP hD hS (lv_sub hl [] rfl)
noncomputable def f_X8_undo (F : Nat)   (xi : Nat → Int32) (si : Nat → Int32) (rm : OB) (ac : OB) : Option (Int32 × OB × OB) :=
  if 0 < (ac.1 4) then (Option.bind (f_X0_takeBack F ac rm) (fun q2 => (some ((q2.1.1 4), q2.2, q2.1)))) else (some ((-2), rm, ac))
set_option maxHeartbeats 4000000 in
set_option maxRecDepth 100000 in
theorem c_X8_undo (l : Launch) (D : va_G) (k : Nat → ClassId) (sz : Nat)  (xo : Nat → Nat) (ta : Nat → Nat) (xr : Nat) (sa : Nat → Nat) (xm : Nat) (xg : Nat) (tr : Nat → Nat) (xs : Nat) (xp : Nat) (xq : Nat) (xe : Nat) (xt : Nat) (xa : Nat → Nat) (ca : Nat → Nat) (na : Nat → Nat) (F : Nat)   (xi : Nat → Int32) (si : Nat → Int32) (rm : OB) (ac : OB)  {res : Int32 × OB × OB} (h : f_X8_undo F xi si rm ac = some res) : CtI l yX8_undo wsX8_undo (rmK 4 0 0) [.ref (xo 0)] D k sz (([((xo 0), .inr (6, [.ref (ta 0), .ref xr, .int (xi 2), .ref (sa 0), .ref xm, .ref xg, .ref (tr 0), .ref xs, .ref xp, .ref xq, .ref xe, .ref xt]))] : va_W) ++ (([((sa 0), .inr (4, [.ref (xa 0), .ref (ca 0), .ref (na 0), .int (si 3), .int (si 4)]))] : va_W) ++ (rmW k xa rm ++ (acW k ca ac)))) (fun r (_ : Unit) => r = res.1) (fun _ : Unit => ([((xo 0), .inr (6, [.ref (ta 0), .ref xr, .int (xi 2), .ref (sa 0), .ref xm, .ref xg, .ref (tr 0), .ref xs, .ref xp, .ref xq, .ref xe, .ref xt]))] : va_W) ++ (([((sa 0), .inr (4, [.ref (xa 0), .ref (ca 0), .ref (na 0), .int (si 3), .int (si 4)]))] : va_W) ++ (rmW k xa res.2.1 ++ (acW k ca res.2.2)))) 0 0 := by
  refine CtI.mk (cc := cX8_undo) (maxL := 1) (ret := (some .int)) (by decide) rfl (Nat.le_of_ble_eq_true rfl) ?_
  intro p e s m below meth c A ls E hP hD hS hl
  obtain ⟨hx, hb, hr, hml, hown, hts, hlocks, hin, hG, hA⟩ := E
  have hown : s.vm.findClass RX8 = some m.cls := hown
  have in0 : ∀ w ∈ u_ws RX0 TX0 5, w ∈ wsX8_undo := fun _ h => List.mem_cons_of_mem _ (List.mem_append_left _ (List.mem_append_right _ h))
  have in3 : ∀ w ∈ u_ws RX3 TX3 17, w ∈ wsX8_undo := fun _ h => List.mem_cons_of_mem _ (List.mem_append_right _ h)
  have in6 : ∀ w ∈ u_ws RX6 TX6 5, w ∈ wsX8_undo := fun _ h => List.mem_cons_of_mem _ (List.mem_append_left _ (List.mem_append_left _ (List.mem_append_right _ h)))
  have in8 : ∀ w ∈ u_ws RX8 TX8 12, w ∈ wsX8_undo := fun _ h => List.mem_cons_of_mem _ (List.mem_append_left _ (List.mem_append_left _ (List.mem_append_left _ (List.mem_append_right _ h))))
  have hl : lv_has ls 1 [(0, .ref (xo 0))] := hl
  refine lv_aload_n hx hb dX8_undo_0 rfl (lv_at hl 0 rfl) ?_
  refine va_get (D := D) (ci := 6) (v := .ref (sa 0)) (C := RX8) (T := TX8) (N := 12) hx hb hts in8 hown hG.1 hP 0 rfl rfl 3 (by decide) (hts (.fieldLink RX8 29 "ChairCane" "now" "LChairCane$Standing;") (mem_b bq_wsX8_undo 0 0 rfl)) (fun _ h9 => h9) rfl dX8_undo_1 ?_
  refine va_get (D := D) (ci := 4) (v := .ref (ca 0)) (C := RX6) (T := TX6) (N := 5) hx hb hts in6 hown hG.1 hP 1 rfl rfl 1 (by decide) (hts (.fieldLink RX8 88 "ChairCane$Standing" "acts" "LChairCane$Acts;") (mem_b bq_wsX8_undo 0 1 rfl)) (fun _ h9 => h9) rfl dX8_undo_4 ?_
  refine va_get (D := D) (ci := 0) (v := .int (ac.1 4)) (C := RX0) (T := TX0) (N := 5) hx hb hts in0 hown hG.1 hP 11 rfl rfl 4 (by decide) (hts (.fieldLink RX8 187 "ChairCane$Acts" "kept" "I") (mem_b bq_wsX8_undo 0 2 rfl)) (fun _ h9 => h9) rfl dX8_undo_7 ?_
  refine lv_if_gt (tgt := 16) hx hb dX8_undo_10 (by decide) (fun c1 => ?_) (fun c1 => ?_)
  · have h := fw_t c1 h
    refine lv_aload_n hx hb dX8_undo_16 rfl (lv_at hl 0 rfl) ?_
    refine va_get (D := D) (ci := 6) (v := .ref (sa 0)) (C := RX8) (T := TX8) (N := 12) hx hb hts in8 hown hG.1 hP 0 rfl rfl 3 (by decide) (hts (.fieldLink RX8 29 "ChairCane" "now" "LChairCane$Standing;") (mem_b bq_wsX8_undo 0 0 rfl)) (fun _ h9 => h9) rfl dX8_undo_17 ?_
    refine va_get (D := D) (ci := 4) (v := .ref (ca 0)) (C := RX6) (T := TX6) (N := 5) hx hb hts in6 hown hG.1 hP 1 rfl rfl 1 (by decide) (hts (.fieldLink RX8 88 "ChairCane$Standing" "acts" "LChairCane$Acts;") (mem_b bq_wsX8_undo 0 1 rfl)) (fun _ h9 => h9) rfl dX8_undo_20 ?_
    refine lv_aload_n hx hb dX8_undo_23 rfl (lv_at hl 0 rfl) ?_
    refine va_get (D := D) (ci := 6) (v := .ref (sa 0)) (C := RX8) (T := TX8) (N := 12) hx hb hts in8 hown hG.1 hP 0 rfl rfl 3 (by decide) (hts (.fieldLink RX8 29 "ChairCane" "now" "LChairCane$Standing;") (mem_b bq_wsX8_undo 0 0 rfl)) (fun _ h9 => h9) rfl dX8_undo_24 ?_
    refine va_get (D := D) (ci := 4) (v := .ref (xa 0)) (C := RX6) (T := TX6) (N := 5) hx hb hts in6 hown hG.1 hP 1 rfl rfl 0 (by decide) (hts (.fieldLink RX8 81 "ChairCane$Standing" "room" "LChairCane$Room;") (mem_b bq_wsX8_undo 0 3 rfl)) (fun _ h9 => h9) rfl dX8_undo_27 ?_
    obtain ⟨hP, hD⟩ := qm hP hD (q_to [([((xo 0), .inr (6, [.ref (ta 0), .ref xr, .int (xi 2), .ref (sa 0), .ref xm, .ref xg, .ref (tr 0), .ref xs, .ref xp, .ref xq, .ref xe, .ref xt]))] : va_W), ([((sa 0), .inr (4, [.ref (xa 0), .ref (ca 0), .ref (na 0), .int (si 3), .int (si 4)]))] : va_W), rmW k xa rm, acW k ca ac] [0, 1, 2, 3] [3, 2] [0, 1] (by decide +kernel))
    refine fw_Vv (As := [.ref (xa 0)]) (rest := []) (n := 1) (wp := fun b : OB × OB => acW k ca b.1 ++ (rmW k xa b.2)) h hx hb hml hown hts hG hA hP hD hS hl.1 _ _ (fun q hq9 => c_X0_takeBack l D k _  ca xa F  ac rm  hq9) (ci := 0) (q0 := 0) rfl rfl gX8_undo_X0_takeBack rfl ⟨rfl, rfl, Nat.le_of_ble_eq_true rfl, Nat.le_of_ble_eq_true rfl⟩ (by decide +kernel) (q_l _ _) (q_r _ _) (q_nd _ _) ⟨rfl, rfl, Nat.le_of_ble_eq_true rfl, Nat.le_of_ble_eq_true rfl, Nat.le_of_ble_eq_true rfl⟩ dX8_undo_30 (fun q2 H locs h hP hD hS => ?_)
    obtain ⟨hP, hD⟩ := qm (w2 := ([((xo 0), .inr (6, [.ref (ta 0), .ref xr, .int (xi 2), .ref (sa 0), .ref xm, .ref xg, .ref (tr 0), .ref xs, .ref xp, .ref xq, .ref xe, .ref xt]))] : va_W) ++ (([((sa 0), .inr (4, [.ref (xa 0), .ref (ca 0), .ref (na 0), .int (si 3), .int (si 4)]))] : va_W) ++ (rmW k xa q2.2 ++ (acW k ca q2.1)))) hP hD (q_from [([((xo 0), .inr (6, [.ref (ta 0), .ref xr, .int (xi 2), .ref (sa 0), .ref xm, .ref xg, .ref (tr 0), .ref xs, .ref xp, .ref xq, .ref xe, .ref xt]))] : va_W), ([((sa 0), .inr (4, [.ref (xa 0), .ref (ca 0), .ref (na 0), .int (si 3), .int (si 4)]))] : va_W), rmW k xa q2.2, acW k ca q2.1] [0, 1] [3, 2] [0, 1, 2, 3] (by decide +kernel))
    refine lv_aload_n hx hb dX8_undo_33 rfl (lv_at hl 0 rfl) ?_
    refine va_get (D := D) (ci := 6) (v := .ref (sa 0)) (C := RX8) (T := TX8) (N := 12) hx hb hts in8 hown hG.1 hP 0 rfl rfl 3 (by decide) (hts (.fieldLink RX8 29 "ChairCane" "now" "LChairCane$Standing;") (mem_b bq_wsX8_undo 0 0 rfl)) (fun _ h9 => h9) rfl dX8_undo_34 ?_
    refine va_get (D := D) (ci := 4) (v := .ref (ca 0)) (C := RX6) (T := TX6) (N := 5) hx hb hts in6 hown hG.1 hP 1 rfl rfl 1 (by decide) (hts (.fieldLink RX8 88 "ChairCane$Standing" "acts" "LChairCane$Acts;") (mem_b bq_wsX8_undo 0 1 rfl)) (fun _ h9 => h9) rfl dX8_undo_37 ?_
    refine va_get (D := D) (ci := 0) (v := .int (q2.1.1 4)) (C := RX0) (T := TX0) (N := 5) hx hb hts in0 hown hG.1 hP 11 rfl rfl 4 (by decide) (hts (.fieldLink RX8 187 "ChairCane$Acts" "kept" "I") (mem_b bq_wsX8_undo 0 2 rfl)) (fun _ h9 => h9) rfl dX8_undo_40 ?_
    exact fw_endI (rv := fun b : Int32 × OB × OB => b.1) (wp := fun b : Int32 × OB × OB => ([((xo 0), .inr (6, [.ref (ta 0), .ref xr, .int (xi 2), .ref (sa 0), .ref xm, .ref xg, .ref (tr 0), .ref xs, .ref xp, .ref xq, .ref xe, .ref xt]))] : va_W) ++ (([((sa 0), .inr (4, [.ref (xa 0), .ref (ca 0), .ref (na 0), .int (si 3), .int (si 4)]))] : va_W) ++ (rmW k xa b.2.1 ++ (acW k ca b.2.2)))) hx hb hr hlocks h rfl hP hD hS dX8_undo_43
  · have h := fw_f c1 h
    refine lv_bipush (v := (-2)) hx hb dX8_undo_13 (by decide) ?_
    exact fw_endI (rv := fun b : Int32 × OB × OB => b.1) (wp := fun b : Int32 × OB × OB => ([((xo 0), .inr (6, [.ref (ta 0), .ref xr, .int (xi 2), .ref (sa 0), .ref xm, .ref xg, .ref (tr 0), .ref xs, .ref xp, .ref xq, .ref xe, .ref xt]))] : va_W) ++ (([((sa 0), .inr (4, [.ref (xa 0), .ref (ca 0), .ref (na 0), .int (si 3), .int (si 4)]))] : va_W) ++ (rmW k xa b.2.1 ++ (acW k ca b.2.2)))) hx hb hr hlocks h rfl hP hD hS dX8_undo_15
noncomputable def b_X8_ahead_36 (F : Nat)  (xi : Nat → Int32) (xrr : Nat → Option Nat) (si : Nat → Int32) (rm : OB)  (tm : OB) (rz : Nat → OB) : Option (Int32 × OB × (Nat → OB)) :=
  some ((-1), tm, rz)
noncomputable def b_X8_ahead_114 (F : Nat)  (xi : Nat → Int32) (xrr : Nat → Option Nat) (si : Nat → Int32) (rm : OB)  (y0 : Int32) (tm : OB) (rz : Nat → OB) : Option (Int32 × OB × (Nat → OB)) :=
  some (y0, tm, rz)
noncomputable def b_X8_ahead_54 (F : Nat)  (xi : Nat → Int32) (xrr : Nat → Option Nat) (si : Nat → Int32) (rm : OB)  (v1 : Int32) (v2 : Int32) (v3 : Int32) (tm : OB) (rz : Nat → OB) : Option (Int32 × OB × (Nat → OB)) :=
  Option.bind (f_X3_copyFrom F tm rm) (fun q1 => (Option.bind (f_X8_ruleInForce F xi xrr si) (fun q2 => (Option.bind (f_X3_passMinutes F v2 q2 q1 rz) (fun q3 => (if v3 = 2 then (Option.bind (f_J6_bitCount_0f7a4 F (q3.1.1 11)) (fun q8 => (some (q8, q3.1, q3.2)))) else (if v3 = 0 then (Option.bind (f_X3_stateOf F v1 q3.1) (fun q7 => (b_X8_ahead_114 F xi xrr si rm q7 q3.1 q3.2))) else (Option.bind (f_X3_givesUnder F v1 q3.1) (fun q6 => (b_X8_ahead_114 F xi xrr si rm q6 q3.1 q3.2))))))))))
noncomputable def f_X8_ahead (F : Nat)  (x1 : Int32) (x2 : Int32) (x3 : Int32) (xi : Nat → Int32) (xrr : Nat → Option Nat) (si : Nat → Int32) (rm : OB) (tm : OB) (rz : Nat → OB) : Option (Int32 × OB × (Nat → OB)) :=
  if (rm.1 0) = 0 then (b_X8_ahead_36 F xi xrr si rm tm rz) else (if x2 < 0 then (b_X8_ahead_36 F xi xrr si rm tm rz) else (if 100 < x2 then (b_X8_ahead_36 F xi xrr si rm tm rz) else (if x3 < 0 then (b_X8_ahead_36 F xi xrr si rm tm rz) else (if x3 ≤ 2 then (if x3 = 2 then (b_X8_ahead_54 F xi xrr si rm x1 x2 x3 tm rz) else (Option.bind (f_X3_hasSitter F x1 rm) (fun q15 => (if q15 = 0 then (some ((-1), tm, rz)) else (b_X8_ahead_54 F xi xrr si rm x1 x2 x3 tm rz))))) else (b_X8_ahead_36 F xi xrr si rm tm rz)))))
set_option maxHeartbeats 4000000 in
set_option maxRecDepth 100000 in
theorem c_X8_ahead (l : Launch) (D : va_G) (k : Nat → ClassId) (sz : Nat)  (xo : Nat → Nat) (ta : Nat → Nat) (xr : Nat) (sa : Nat → Nat) (xm : Nat) (xg : Nat) (tr : Nat → Nat) (xs : Nat) (xp : Nat) (xq : Nat) (xe : Nat) (xt : Nat) (xa : Nat → Nat) (ca : Nat → Nat) (na : Nat → Nat) (ra : Nat → Nat) (F : Nat)  (x1 : Int32) (x2 : Int32) (x3 : Int32) (xi : Nat → Int32) (xrr : Nat → Option Nat) (si : Nat → Int32) (rm : OB) (tm : OB) (rz : Nat → OB) (hq : ∀ i, i < 6 → xrr i = some (ra (6 * i))) {res : Int32 × OB × (Nat → OB)} (h : f_X8_ahead F x1 x2 x3 xi xrr si rm tm rz = some res) : CtI l yX8_ahead wsX8_ahead (rmK 7 0 0) [.ref (xo 0), .int x1, .int x2, .int x3] D k sz (([((xo 0), .inr (6, [.ref (ta 0), .ref xr, .int (xi 2), .ref (sa 0), .ref xm, .ref xg, .ref (tr 0), .ref xs, .ref xp, .ref xq, .ref xe, .ref xt]))] : va_W) ++ (([(xr, hcR k 6 xrr)] : va_W) ++ (([((sa 0), .inr (4, [.ref (xa 0), .ref (ca 0), .ref (na 0), .int (si 3), .int (si 4)]))] : va_W) ++ (rmW k xa rm ++ (rmW k tr tm ++ (RU k ra rz)))))) (fun r (_ : Unit) => r = res.1) (fun _ : Unit => ([((xo 0), .inr (6, [.ref (ta 0), .ref xr, .int (xi 2), .ref (sa 0), .ref xm, .ref xg, .ref (tr 0), .ref xs, .ref xp, .ref xq, .ref xe, .ref xt]))] : va_W) ++ (([(xr, hcR k 6 xrr)] : va_W) ++ (([((sa 0), .inr (4, [.ref (xa 0), .ref (ca 0), .ref (na 0), .int (si 3), .int (si 4)]))] : va_W) ++ (rmW k xa rm ++ (rmW k tr res.2.1 ++ (RU k ra res.2.2)))))) 0 0 := by
  refine CtI.mk (cc := cX8_ahead) (maxL := 5) (ret := (some .int)) (by decide) rfl (Nat.le_of_ble_eq_true rfl) ?_
  intro p e s m below meth c A ls E hP hD hS hl
  obtain ⟨hx, hb, hr, hml, hown, hts, hlocks, hin, hG, hA⟩ := E
  have hown : s.vm.findClass RX8 = some m.cls := hown
  have in3 : ∀ w ∈ u_ws RX3 TX3 17, w ∈ wsX8_ahead := fun _ h => List.mem_cons_of_mem _ (List.mem_append_left _ (List.mem_append_right _ h))
  have in4 : ∀ w ∈ u_ws RX4 TX4 8, w ∈ wsX8_ahead := fun _ h => List.mem_cons_of_mem _ (List.mem_append_right _ h)
  have in6 : ∀ w ∈ u_ws RX6 TX6 5, w ∈ wsX8_ahead := fun _ h => List.mem_cons_of_mem _ (List.mem_append_left _ (List.mem_append_left _ (List.mem_append_right _ h)))
  have in8 : ∀ w ∈ u_ws RX8 TX8 12, w ∈ wsX8_ahead := fun _ h => List.mem_cons_of_mem _ (List.mem_append_left _ (List.mem_append_left _ (List.mem_append_left _ (List.mem_append_right _ h))))
  have hl : lv_has ls 5 [(0, .ref (xo 0)), (1, .int x1), (2, .int x2), (3, .int x3)] := hl
  have B36 : ∀ (tm : OB) (rz : Nat → OB) (H : Heap) (locs : List Loc) (ls : Array Slot), b_X8_ahead_36 F xi xrr si rm tm rz = some res → va_P D vwCl (([((xo 0), .inr (6, [.ref (ta 0), .ref xr, .int (xi 2), .ref (sa 0), .ref xm, .ref xg, .ref (tr 0), .ref xs, .ref xp, .ref xq, .ref xe, .ref xt]))] : va_W) ++ (([(xr, hcR k 6 xrr)] : va_W) ++ (([((sa 0), .inr (4, [.ref (xa 0), .ref (ca 0), .ref (na 0), .int (si 3), .int (si 4)]))] : va_W) ++ (rmW k xa rm ++ (rmW k tr tm ++ (RU k ra rz)))))) H → va_D A (([((xo 0), .inr (6, [.ref (ta 0), .ref xr, .int (xi 2), .ref (sa 0), .ref xm, .ref xg, .ref (tr 0), .ref xs, .ref xp, .ref xq, .ref xe, .ref xt]))] : va_W) ++ (([(xr, hcR k 6 xrr)] : va_W) ++ (([((sa 0), .inr (4, [.ref (xa 0), .ref (ca 0), .ref (na 0), .int (si 3), .int (si 4)]))] : va_W) ++ (rmW k xa rm ++ (rmW k tr tm ++ (RU k ra rz)))))) → va_S A s.heap H locs → lv_has ls 5 [] → W p l e (rmK 7 0 0) s m (List.toArray [.ref (xo 0), .int x1, .int x2, .int x3]) below meth c H locs 0 0 (MQ below (va_Qi (fun r (_ : Unit) => r = res.1) (hcB D (fun _ : Unit => ([((xo 0), .inr (6, [.ref (ta 0), .ref xr, .int (xi 2), .ref (sa 0), .ref xm, .ref xg, .ref (tr 0), .ref xs, .ref xp, .ref xq, .ref xe, .ref xt]))] : va_W) ++ (([(xr, hcR k 6 xrr)] : va_W) ++ (([((sa 0), .inr (4, [.ref (xa 0), .ref (ca 0), .ref (na 0), .int (si 3), .int (si 4)]))] : va_W) ++ (rmW k xa rm ++ (rmW k tr res.2.1 ++ (RU k ra res.2.2)))))) A) A) (List.toArray [.ref (xo 0), .int x1, .int x2, .int x3]) s 0 0 A) (F0 m 36 ls []) := by
    intro tm rz H locs ls h hP hD hS hl
    refine lv_iconst (v := (-1)) hx hb dX8_ahead_36 (by decide) ?_
    exact fw_endI (rv := fun b : Int32 × OB × (Nat → OB) => b.1) (wp := fun b : Int32 × OB × (Nat → OB) => ([((xo 0), .inr (6, [.ref (ta 0), .ref xr, .int (xi 2), .ref (sa 0), .ref xm, .ref xg, .ref (tr 0), .ref xs, .ref xp, .ref xq, .ref xe, .ref xt]))] : va_W) ++ (([(xr, hcR k 6 xrr)] : va_W) ++ (([((sa 0), .inr (4, [.ref (xa 0), .ref (ca 0), .ref (na 0), .int (si 3), .int (si 4)]))] : va_W) ++ (rmW k xa rm ++ (rmW k tr b.2.1 ++ (RU k ra b.2.2)))))) hx hb hr hlocks h rfl hP hD hS dX8_ahead_37
  have B114 : ∀ (y0 : Int32) (tm : OB) (rz : Nat → OB) (H : Heap) (locs : List Loc) (ls : Array Slot), b_X8_ahead_114 F xi xrr si rm y0 tm rz = some res → va_P D vwCl (([((xo 0), .inr (6, [.ref (ta 0), .ref xr, .int (xi 2), .ref (sa 0), .ref xm, .ref xg, .ref (tr 0), .ref xs, .ref xp, .ref xq, .ref xe, .ref xt]))] : va_W) ++ (([(xr, hcR k 6 xrr)] : va_W) ++ (([((sa 0), .inr (4, [.ref (xa 0), .ref (ca 0), .ref (na 0), .int (si 3), .int (si 4)]))] : va_W) ++ (rmW k xa rm ++ (rmW k tr tm ++ (RU k ra rz)))))) H → va_D A (([((xo 0), .inr (6, [.ref (ta 0), .ref xr, .int (xi 2), .ref (sa 0), .ref xm, .ref xg, .ref (tr 0), .ref xs, .ref xp, .ref xq, .ref xe, .ref xt]))] : va_W) ++ (([(xr, hcR k 6 xrr)] : va_W) ++ (([((sa 0), .inr (4, [.ref (xa 0), .ref (ca 0), .ref (na 0), .int (si 3), .int (si 4)]))] : va_W) ++ (rmW k xa rm ++ (rmW k tr tm ++ (RU k ra rz)))))) → va_S A s.heap H locs → lv_has ls 5 [] → W p l e (rmK 7 0 0) s m (List.toArray [.ref (xo 0), .int x1, .int x2, .int x3]) below meth c H locs 0 0 (MQ below (va_Qi (fun r (_ : Unit) => r = res.1) (hcB D (fun _ : Unit => ([((xo 0), .inr (6, [.ref (ta 0), .ref xr, .int (xi 2), .ref (sa 0), .ref xm, .ref xg, .ref (tr 0), .ref xs, .ref xp, .ref xq, .ref xe, .ref xt]))] : va_W) ++ (([(xr, hcR k 6 xrr)] : va_W) ++ (([((sa 0), .inr (4, [.ref (xa 0), .ref (ca 0), .ref (na 0), .int (si 3), .int (si 4)]))] : va_W) ++ (rmW k xa rm ++ (rmW k tr res.2.1 ++ (RU k ra res.2.2)))))) A) A) (List.toArray [.ref (xo 0), .int x1, .int x2, .int x3]) s 0 0 A) (F0 m 114 ls [.int y0]) := by
    intro y0 tm rz H locs ls h hP hD hS hl
    exact fw_endI (rv := fun b : Int32 × OB × (Nat → OB) => b.1) (wp := fun b : Int32 × OB × (Nat → OB) => ([((xo 0), .inr (6, [.ref (ta 0), .ref xr, .int (xi 2), .ref (sa 0), .ref xm, .ref xg, .ref (tr 0), .ref xs, .ref xp, .ref xq, .ref xe, .ref xt]))] : va_W) ++ (([(xr, hcR k 6 xrr)] : va_W) ++ (([((sa 0), .inr (4, [.ref (xa 0), .ref (ca 0), .ref (na 0), .int (si 3), .int (si 4)]))] : va_W) ++ (rmW k xa rm ++ (rmW k tr b.2.1 ++ (RU k ra b.2.2)))))) hx hb hr hlocks h rfl hP hD hS dX8_ahead_114
  have B54 : ∀ (v1 : Int32) (v2 : Int32) (v3 : Int32) (tm : OB) (rz : Nat → OB) (H : Heap) (locs : List Loc) (ls : Array Slot), b_X8_ahead_54 F xi xrr si rm v1 v2 v3 tm rz = some res → va_P D vwCl (([((xo 0), .inr (6, [.ref (ta 0), .ref xr, .int (xi 2), .ref (sa 0), .ref xm, .ref xg, .ref (tr 0), .ref xs, .ref xp, .ref xq, .ref xe, .ref xt]))] : va_W) ++ (([(xr, hcR k 6 xrr)] : va_W) ++ (([((sa 0), .inr (4, [.ref (xa 0), .ref (ca 0), .ref (na 0), .int (si 3), .int (si 4)]))] : va_W) ++ (rmW k xa rm ++ (rmW k tr tm ++ (RU k ra rz)))))) H → va_D A (([((xo 0), .inr (6, [.ref (ta 0), .ref xr, .int (xi 2), .ref (sa 0), .ref xm, .ref xg, .ref (tr 0), .ref xs, .ref xp, .ref xq, .ref xe, .ref xt]))] : va_W) ++ (([(xr, hcR k 6 xrr)] : va_W) ++ (([((sa 0), .inr (4, [.ref (xa 0), .ref (ca 0), .ref (na 0), .int (si 3), .int (si 4)]))] : va_W) ++ (rmW k xa rm ++ (rmW k tr tm ++ (RU k ra rz)))))) → va_S A s.heap H locs → lv_has ls 5 [(0, .ref (xo 0)), (1, .int v1), (2, .int v2), (3, .int v3), (4, .ref (xa 0))] → W p l e (rmK 7 0 0) s m (List.toArray [.ref (xo 0), .int x1, .int x2, .int x3]) below meth c H locs 0 0 (MQ below (va_Qi (fun r (_ : Unit) => r = res.1) (hcB D (fun _ : Unit => ([((xo 0), .inr (6, [.ref (ta 0), .ref xr, .int (xi 2), .ref (sa 0), .ref xm, .ref xg, .ref (tr 0), .ref xs, .ref xp, .ref xq, .ref xe, .ref xt]))] : va_W) ++ (([(xr, hcR k 6 xrr)] : va_W) ++ (([((sa 0), .inr (4, [.ref (xa 0), .ref (ca 0), .ref (na 0), .int (si 3), .int (si 4)]))] : va_W) ++ (rmW k xa rm ++ (rmW k tr res.2.1 ++ (RU k ra res.2.2)))))) A) A) (List.toArray [.ref (xo 0), .int x1, .int x2, .int x3]) s 0 0 A) (F0 m 54 ls []) := by
    intro v1 v2 v3 tm rz H locs ls h hP hD hS hl
    refine lv_aload_n hx hb dX8_ahead_54 rfl (lv_at hl 0 rfl) ?_
    refine va_get (D := D) (ci := 6) (v := .ref (tr 0)) (C := RX8) (T := TX8) (N := 12) hx hb hts in8 hown hG.1 hP 0 rfl rfl 6 (by decide) (hts (.fieldLink RX8 44 "ChairCane" "trial" "LChairCane$Room;") (mem_b bq_wsX8_ahead 0 3 rfl)) (fun _ h9 => h9) rfl dX8_ahead_55 ?_
    refine lv_aload hx hb dX8_ahead_58 (lv_at hl 4 rfl) ?_
    obtain ⟨hP, hD⟩ := qm hP hD (q_to [([((xo 0), .inr (6, [.ref (ta 0), .ref xr, .int (xi 2), .ref (sa 0), .ref xm, .ref xg, .ref (tr 0), .ref xs, .ref xp, .ref xq, .ref xe, .ref xt]))] : va_W), ([(xr, hcR k 6 xrr)] : va_W), ([((sa 0), .inr (4, [.ref (xa 0), .ref (ca 0), .ref (na 0), .int (si 3), .int (si 4)]))] : va_W), rmW k xa rm, rmW k tr tm, RU k ra rz] [0, 1, 2, 3, 4, 5] [4, 3] [0, 1, 2, 5] (by decide +kernel))
    refine fw_Vv (As := [.ref (xa 0)]) (rest := []) (n := 1) (wp := fun b : OB => rmW k tr b ++ (rmW k xa rm)) h hx hb hml hown hts hG hA hP hD hS hl.1 _ _ (fun q hq9 => c_X3_copyFrom l D k _  tr xa F  tm rm  hq9) (ci := 2) (q0 := 0) rfl rfl gX8_ahead_X3_copyFrom rfl ⟨rfl, rfl, Nat.le_of_ble_eq_true rfl, Nat.le_of_ble_eq_true rfl⟩ (by decide +kernel) (q_l _ _) (q_r _ _) (q_nd _ _) ⟨rfl, rfl, Nat.le_of_ble_eq_true rfl, Nat.le_of_ble_eq_true rfl, Nat.le_of_ble_eq_true rfl⟩ dX8_ahead_60 (fun q1 H locs h hP hD hS => ?_)
    obtain ⟨hP, hD⟩ := qm (w2 := ([((xo 0), .inr (6, [.ref (ta 0), .ref xr, .int (xi 2), .ref (sa 0), .ref xm, .ref xg, .ref (tr 0), .ref xs, .ref xp, .ref xq, .ref xe, .ref xt]))] : va_W) ++ (([(xr, hcR k 6 xrr)] : va_W) ++ (([((sa 0), .inr (4, [.ref (xa 0), .ref (ca 0), .ref (na 0), .int (si 3), .int (si 4)]))] : va_W) ++ (rmW k xa rm ++ (rmW k tr q1 ++ (RU k ra rz)))))) hP hD (q_from [([((xo 0), .inr (6, [.ref (ta 0), .ref xr, .int (xi 2), .ref (sa 0), .ref xm, .ref xg, .ref (tr 0), .ref xs, .ref xp, .ref xq, .ref xe, .ref xt]))] : va_W), ([(xr, hcR k 6 xrr)] : va_W), ([((sa 0), .inr (4, [.ref (xa 0), .ref (ca 0), .ref (na 0), .int (si 3), .int (si 4)]))] : va_W), rmW k xa rm, rmW k tr q1, RU k ra rz] [0, 1, 2, 5] [4, 3] [0, 1, 2, 3, 4, 5] (by decide +kernel))
    refine lv_aload_n hx hb dX8_ahead_63 rfl (lv_at hl 0 rfl) ?_
    refine va_get (D := D) (ci := 6) (v := .ref (tr 0)) (C := RX8) (T := TX8) (N := 12) hx hb hts in8 hown hG.1 hP 0 rfl rfl 6 (by decide) (hts (.fieldLink RX8 44 "ChairCane" "trial" "LChairCane$Room;") (mem_b bq_wsX8_ahead 0 3 rfl)) (fun _ h9 => h9) rfl dX8_ahead_64 ?_
    refine lv_iload_n hx hb dX8_ahead_67 rfl (lv_at hl 2 rfl) ?_
    refine lv_aload_n hx hb dX8_ahead_68 rfl (lv_at hl 0 rfl) ?_
    obtain ⟨hP, hD⟩ := qm hP hD (q_to [([((xo 0), .inr (6, [.ref (ta 0), .ref xr, .int (xi 2), .ref (sa 0), .ref xm, .ref xg, .ref (tr 0), .ref xs, .ref xp, .ref xq, .ref xe, .ref xt]))] : va_W), ([(xr, hcR k 6 xrr)] : va_W), ([((sa 0), .inr (4, [.ref (xa 0), .ref (ca 0), .ref (na 0), .int (si 3), .int (si 4)]))] : va_W), rmW k xa rm, rmW k tr q1, RU k ra rz] [0, 1, 2, 3, 4, 5] [0, 1, 2] [3, 4, 5] (by decide +kernel))
    refine fw_Vq (As := []) (rest := [.int v2, .ref (tr 0)]) (n := 0) (rv := fun b : Int32 => rAd ra b) (wp := fun b : Int32 => ([((xo 0), .inr (6, [.ref (ta 0), .ref xr, .int (xi 2), .ref (sa 0), .ref xm, .ref xg, .ref (tr 0), .ref xs, .ref xp, .ref xq, .ref xe, .ref xt]))] : va_W) ++ (([(xr, hcR k 6 xrr)] : va_W) ++ (([((sa 0), .inr (4, [.ref (xa 0), .ref (ca 0), .ref (na 0), .int (si 3), .int (si 4)]))] : va_W)))) h hx hb hml hown hts hG hA hP hD hS hl.1 _ _ (fun q hq9 => c_X8_ruleInForce l D k _  xo ta xr sa xm xg tr xs xp xq xe xt xa ca na ra F  xi xrr si hq hq9) (ci := 6) (q0 := 0) rfl rfl gX8_ahead_X8_ruleInForce rfl ⟨rfl, rfl, Nat.le_of_ble_eq_true rfl, Nat.le_of_ble_eq_true rfl⟩ (by decide +kernel) (q_l _ _) (q_r _ _) (q_nd _ _) ⟨rfl, rfl, Nat.le_of_ble_eq_true rfl, Nat.le_of_ble_eq_true rfl, Nat.le_of_ble_eq_true rfl⟩ dX8_ahead_69 (fun q2 H locs h hP hD hS => ?_)
    obtain ⟨hP, hD⟩ := qm (w2 := ([((xo 0), .inr (6, [.ref (ta 0), .ref xr, .int (xi 2), .ref (sa 0), .ref xm, .ref xg, .ref (tr 0), .ref xs, .ref xp, .ref xq, .ref xe, .ref xt]))] : va_W) ++ (([(xr, hcR k 6 xrr)] : va_W) ++ (([((sa 0), .inr (4, [.ref (xa 0), .ref (ca 0), .ref (na 0), .int (si 3), .int (si 4)]))] : va_W) ++ (rmW k xa rm ++ (rmW k tr q1 ++ (RU k ra rz)))))) hP hD (q_from [([((xo 0), .inr (6, [.ref (ta 0), .ref xr, .int (xi 2), .ref (sa 0), .ref xm, .ref xg, .ref (tr 0), .ref xs, .ref xp, .ref xq, .ref xe, .ref xt]))] : va_W), ([(xr, hcR k 6 xrr)] : va_W), ([((sa 0), .inr (4, [.ref (xa 0), .ref (ca 0), .ref (na 0), .int (si 3), .int (si 4)]))] : va_W), rmW k xa rm, rmW k tr q1, RU k ra rz] [3, 4, 5] [0, 1, 2] [0, 1, 2, 3, 4, 5] (by decide +kernel))
    refine hc_isV (z := va_rf (rAd ra q2)) rfl ?_
    obtain ⟨hP, hD⟩ := qm hP hD (q_to [([((xo 0), .inr (6, [.ref (ta 0), .ref xr, .int (xi 2), .ref (sa 0), .ref xm, .ref xg, .ref (tr 0), .ref xs, .ref xp, .ref xq, .ref xe, .ref xt]))] : va_W), ([(xr, hcR k 6 xrr)] : va_W), ([((sa 0), .inr (4, [.ref (xa 0), .ref (ca 0), .ref (na 0), .int (si 3), .int (si 4)]))] : va_W), rmW k xa rm, rmW k tr q1, RU k ra rz] [0, 1, 2, 3, 4, 5] [4, 5] [0, 1, 2, 3] (by decide +kernel))
    refine fw_Vv (As := [.int v2, va_rf (rAd ra q2)]) (rest := []) (n := 2) (wp := fun b : OB × (Nat → OB) => rmW k tr b.1 ++ (RU k ra b.2)) h hx hb hml hown hts hG hA hP hD hS hl.1 _ _ (fun q hq9 => c_X3_passMinutes l D k _  tr ra F v2 q2 q1 rz  hq9) (ci := 2) (q0 := 0) rfl rfl gX8_ahead_X3_passMinutes rfl ⟨rfl, rfl, Nat.le_of_ble_eq_true rfl, Nat.le_of_ble_eq_true rfl⟩ (by decide +kernel) (q_l _ _) (q_r _ _) (q_nd _ _) ⟨rfl, rfl, Nat.le_of_ble_eq_true rfl, Nat.le_of_ble_eq_true rfl, Nat.le_of_ble_eq_true rfl⟩ dX8_ahead_72 (fun q3 H locs h hP hD hS => ?_)
    obtain ⟨hP, hD⟩ := qm (w2 := ([((xo 0), .inr (6, [.ref (ta 0), .ref xr, .int (xi 2), .ref (sa 0), .ref xm, .ref xg, .ref (tr 0), .ref xs, .ref xp, .ref xq, .ref xe, .ref xt]))] : va_W) ++ (([(xr, hcR k 6 xrr)] : va_W) ++ (([((sa 0), .inr (4, [.ref (xa 0), .ref (ca 0), .ref (na 0), .int (si 3), .int (si 4)]))] : va_W) ++ (rmW k xa rm ++ (rmW k tr q3.1 ++ (RU k ra q3.2)))))) hP hD (q_from [([((xo 0), .inr (6, [.ref (ta 0), .ref xr, .int (xi 2), .ref (sa 0), .ref xm, .ref xg, .ref (tr 0), .ref xs, .ref xp, .ref xq, .ref xe, .ref xt]))] : va_W), ([(xr, hcR k 6 xrr)] : va_W), ([((sa 0), .inr (4, [.ref (xa 0), .ref (ca 0), .ref (na 0), .int (si 3), .int (si 4)]))] : va_W), rmW k xa rm, rmW k tr q3.1, RU k ra q3.2] [0, 1, 2, 3] [4, 5] [0, 1, 2, 3, 4, 5] (by decide +kernel))
    refine lv_iload_n hx hb dX8_ahead_75 rfl (lv_at hl 3 rfl) ?_
    refine lv_iconst (v := 2) hx hb dX8_ahead_76 (by decide) ?_
    refine lv_icmp_ne (tgt := 91) hx hb dX8_ahead_77 (by decide) (fun c4 => ?_) (fun c4 => ?_)
    · have h := fw_f c4 h
      refine lv_iload_n hx hb dX8_ahead_91 rfl (lv_at hl 3 rfl) ?_
      refine lv_if_ne (tgt := 106) hx hb dX8_ahead_92 (by decide) (fun c5 => ?_) (fun c5 => ?_)
      · have h := fw_f c5 h
        refine lv_aload_n hx hb dX8_ahead_106 rfl (lv_at hl 0 rfl) ?_
        refine va_get (D := D) (ci := 6) (v := .ref (tr 0)) (C := RX8) (T := TX8) (N := 12) hx hb hts in8 hown hG.1 hP 0 rfl rfl 6 (by decide) (hts (.fieldLink RX8 44 "ChairCane" "trial" "LChairCane$Room;") (mem_b bq_wsX8_ahead 0 3 rfl)) (fun _ h9 => h9) rfl dX8_ahead_107 ?_
        refine lv_iload_n hx hb dX8_ahead_110 rfl (lv_at hl 1 rfl) ?_
        obtain ⟨hP, hD⟩ := qm hP hD (q_to [([((xo 0), .inr (6, [.ref (ta 0), .ref xr, .int (xi 2), .ref (sa 0), .ref xm, .ref xg, .ref (tr 0), .ref xs, .ref xp, .ref xq, .ref xe, .ref xt]))] : va_W), ([(xr, hcR k 6 xrr)] : va_W), ([((sa 0), .inr (4, [.ref (xa 0), .ref (ca 0), .ref (na 0), .int (si 3), .int (si 4)]))] : va_W), rmW k xa rm, rmW k tr q3.1, RU k ra q3.2] [0, 1, 2, 3, 4, 5] [4] [0, 1, 2, 3, 5] (by decide +kernel))
        refine fw_Vi (As := [.int v1]) (rest := []) (n := 1) (rv := fun b : Int32 => b) (wp := fun b : Int32 => rmW k tr q3.1) h hx hb hml hown hts hG hA hP hD hS hl.1 _ _ (fun q hq9 => c_X3_givesUnder l D k _  tr F v1 q3.1  hq9) (ci := 2) (q0 := 0) rfl rfl gX8_ahead_X3_givesUnder rfl ⟨rfl, rfl, Nat.le_of_ble_eq_true rfl, Nat.le_of_ble_eq_true rfl⟩ (by decide +kernel) (q_l _ _) (q_r _ _) (q_nd _ _) ⟨rfl, rfl, Nat.le_of_ble_eq_true rfl, Nat.le_of_ble_eq_true rfl, Nat.le_of_ble_eq_true rfl⟩ dX8_ahead_111 (fun q6 H locs h hP hD hS => ?_)
        obtain ⟨hP, hD⟩ := qm (w2 := ([((xo 0), .inr (6, [.ref (ta 0), .ref xr, .int (xi 2), .ref (sa 0), .ref xm, .ref xg, .ref (tr 0), .ref xs, .ref xp, .ref xq, .ref xe, .ref xt]))] : va_W) ++ (([(xr, hcR k 6 xrr)] : va_W) ++ (([((sa 0), .inr (4, [.ref (xa 0), .ref (ca 0), .ref (na 0), .int (si 3), .int (si 4)]))] : va_W) ++ (rmW k xa rm ++ (rmW k tr q3.1 ++ (RU k ra q3.2)))))) hP hD (q_from [([((xo 0), .inr (6, [.ref (ta 0), .ref xr, .int (xi 2), .ref (sa 0), .ref xm, .ref xg, .ref (tr 0), .ref xs, .ref xp, .ref xq, .ref xe, .ref xt]))] : va_W), ([(xr, hcR k 6 xrr)] : va_W), ([((sa 0), .inr (4, [.ref (xa 0), .ref (ca 0), .ref (na 0), .int (si 3), .int (si 4)]))] : va_W), rmW k xa rm, rmW k tr q3.1, RU k ra q3.2] [0, 1, 2, 3, 5] [4] [0, 1, 2, 3, 4, 5] (by decide +kernel))
        refine hc_is (z := q6) rfl ?_
        exact B114 _ _ _ _ _ _ h hP hD hS (lv_sub hl [] rfl)
      · have h := fw_t c5 h
        refine lv_aload_n hx hb dX8_ahead_95 rfl (lv_at hl 0 rfl) ?_
        refine va_get (D := D) (ci := 6) (v := .ref (tr 0)) (C := RX8) (T := TX8) (N := 12) hx hb hts in8 hown hG.1 hP 0 rfl rfl 6 (by decide) (hts (.fieldLink RX8 44 "ChairCane" "trial" "LChairCane$Room;") (mem_b bq_wsX8_ahead 0 3 rfl)) (fun _ h9 => h9) rfl dX8_ahead_96 ?_
        refine lv_iload_n hx hb dX8_ahead_99 rfl (lv_at hl 1 rfl) ?_
        obtain ⟨hP, hD⟩ := qm hP hD (q_to [([((xo 0), .inr (6, [.ref (ta 0), .ref xr, .int (xi 2), .ref (sa 0), .ref xm, .ref xg, .ref (tr 0), .ref xs, .ref xp, .ref xq, .ref xe, .ref xt]))] : va_W), ([(xr, hcR k 6 xrr)] : va_W), ([((sa 0), .inr (4, [.ref (xa 0), .ref (ca 0), .ref (na 0), .int (si 3), .int (si 4)]))] : va_W), rmW k xa rm, rmW k tr q3.1, RU k ra q3.2] [0, 1, 2, 3, 4, 5] [4] [0, 1, 2, 3, 5] (by decide +kernel))
        refine fw_Vi (As := [.int v1]) (rest := []) (n := 1) (rv := fun b : Int32 => b) (wp := fun b : Int32 => rmW k tr q3.1) h hx hb hml hown hts hG hA hP hD hS hl.1 _ _ (fun q hq9 => c_X3_stateOf l D k _  tr F v1 q3.1  hq9) (ci := 2) (q0 := 0) rfl rfl gX8_ahead_X3_stateOf rfl ⟨rfl, rfl, Nat.le_of_ble_eq_true rfl, Nat.le_of_ble_eq_true rfl⟩ (by decide +kernel) (q_l _ _) (q_r _ _) (q_nd _ _) ⟨rfl, rfl, Nat.le_of_ble_eq_true rfl, Nat.le_of_ble_eq_true rfl, Nat.le_of_ble_eq_true rfl⟩ dX8_ahead_100 (fun q7 H locs h hP hD hS => ?_)
        obtain ⟨hP, hD⟩ := qm (w2 := ([((xo 0), .inr (6, [.ref (ta 0), .ref xr, .int (xi 2), .ref (sa 0), .ref xm, .ref xg, .ref (tr 0), .ref xs, .ref xp, .ref xq, .ref xe, .ref xt]))] : va_W) ++ (([(xr, hcR k 6 xrr)] : va_W) ++ (([((sa 0), .inr (4, [.ref (xa 0), .ref (ca 0), .ref (na 0), .int (si 3), .int (si 4)]))] : va_W) ++ (rmW k xa rm ++ (rmW k tr q3.1 ++ (RU k ra q3.2)))))) hP hD (q_from [([((xo 0), .inr (6, [.ref (ta 0), .ref xr, .int (xi 2), .ref (sa 0), .ref xm, .ref xg, .ref (tr 0), .ref xs, .ref xp, .ref xq, .ref xe, .ref xt]))] : va_W), ([(xr, hcR k 6 xrr)] : va_W), ([((sa 0), .inr (4, [.ref (xa 0), .ref (ca 0), .ref (na 0), .int (si 3), .int (si 4)]))] : va_W), rmW k xa rm, rmW k tr q3.1, RU k ra q3.2] [0, 1, 2, 3, 5] [4] [0, 1, 2, 3, 4, 5] (by decide +kernel))
        refine hc_is (z := q7) rfl ?_
        refine lv_goto (tgt := 114) hx hb dX8_ahead_103 (by decide) ?_
        exact B114 _ _ _ _ _ _ h hP hD hS (lv_sub hl [] rfl)
    · have h := fw_t c4 h
      refine lv_aload_n hx hb dX8_ahead_80 rfl (lv_at hl 0 rfl) ?_
      refine va_get (D := D) (ci := 6) (v := .ref (tr 0)) (C := RX8) (T := TX8) (N := 12) hx hb hts in8 hown hG.1 hP 0 rfl rfl 6 (by decide) (hts (.fieldLink RX8 44 "ChairCane" "trial" "LChairCane$Room;") (mem_b bq_wsX8_ahead 0 3 rfl)) (fun _ h9 => h9) rfl dX8_ahead_81 ?_
      refine va_get (D := D) (ci := 2) (v := .int (q3.1.1 11)) (C := RX3) (T := TX3) (N := 17) hx hb hts in3 hown hG.1 hP 12 rfl rfl 11 (by decide) (hts (.fieldLink RX8 179 "ChairCane$Room" "dropped" "I") (mem_b bq_wsX8_ahead 0 4 rfl)) (fun _ h9 => h9) rfl dX8_ahead_84 ?_
      refine fw_Si (As := [.int (q3.1.1 11)]) (rest := []) (n := 1) (wr := ([((xo 0), .inr (6, [.ref (ta 0), .ref xr, .int (xi 2), .ref (sa 0), .ref xm, .ref xg, .ref (tr 0), .ref xs, .ref xp, .ref xq, .ref xe, .ref xt]))] : va_W) ++ (([(xr, hcR k 6 xrr)] : va_W) ++ (([((sa 0), .inr (4, [.ref (xa 0), .ref (ca 0), .ref (na 0), .int (si 3), .int (si 4)]))] : va_W) ++ (rmW k xa rm ++ (rmW k tr q3.1 ++ (RU k ra q3.2)))))) (rv := fun b : Int32 => b) (wp := fun b : Int32 => []) h hx hb hml hown hts hG hA hP hD hS hl.1 [] (List.range (([((xo 0), .inr (6, [.ref (ta 0), .ref xr, .int (xi 2), .ref (sa 0), .ref xm, .ref xg, .ref (tr 0), .ref xs, .ref xp, .ref xq, .ref xe, .ref xt]))] : va_W) ++ (([(xr, hcR k 6 xrr)] : va_W) ++ (([((sa 0), .inr (4, [.ref (xa 0), .ref (ca 0), .ref (na 0), .int (si 3), .int (si 4)]))] : va_W) ++ (rmW k xa rm ++ (rmW k tr q3.1 ++ (RU k ra q3.2))))) : va_W).length) (fun q hq9 => c_J6_bitCount_0f7a4 l D k _   F (q3.1.1 11)   hq9) gX8_ahead_J6_bitCount_0f7a4 rfl ⟨rfl, rfl, Nat.le_of_ble_eq_true rfl, Nat.le_of_ble_eq_true rfl⟩ (by decide +kernel) rfl (al_C _) (al_m _) ⟨rfl, rfl, Nat.le_of_ble_eq_true rfl, Nat.le_of_ble_eq_true rfl, Nat.le_of_ble_eq_true rfl⟩ dX8_ahead_87 (fun q8 H locs h hP hD hS => ?_)
      obtain ⟨hP, hD⟩ := cv (w' := (([((xo 0), .inr (6, [.ref (ta 0), .ref xr, .int (xi 2), .ref (sa 0), .ref xm, .ref xg, .ref (tr 0), .ref xs, .ref xp, .ref xq, .ref xe, .ref xt]))] : va_W) ++ (([(xr, hcR k 6 xrr)] : va_W) ++ (([((sa 0), .inr (4, [.ref (xa 0), .ref (ca 0), .ref (na 0), .int (si 3), .int (si 4)]))] : va_W) ++ (rmW k xa rm ++ (rmW k tr q3.1 ++ (RU k ra q3.2)))))) ++ []) hP hD rfl
      rw [List.append_nil] at hP hD
      refine hc_is (z := q8) rfl ?_
      exact fw_endI (rv := fun b : Int32 × OB × (Nat → OB) => b.1) (wp := fun b : Int32 × OB × (Nat → OB) => ([((xo 0), .inr (6, [.ref (ta 0), .ref xr, .int (xi 2), .ref (sa 0), .ref xm, .ref xg, .ref (tr 0), .ref xs, .ref xp, .ref xq, .ref xe, .ref xt]))] : va_W) ++ (([(xr, hcR k 6 xrr)] : va_W) ++ (([((sa 0), .inr (4, [.ref (xa 0), .ref (ca 0), .ref (na 0), .int (si 3), .int (si 4)]))] : va_W) ++ (rmW k xa rm ++ (rmW k tr b.2.1 ++ (RU k ra b.2.2)))))) hx hb hr hlocks h rfl hP hD hS dX8_ahead_90
  refine lv_aload_n hx hb dX8_ahead_0 rfl (lv_at hl 0 rfl) ?_
  refine va_get (D := D) (ci := 6) (v := .ref (sa 0)) (C := RX8) (T := TX8) (N := 12) hx hb hts in8 hown hG.1 hP 0 rfl rfl 3 (by decide) (hts (.fieldLink RX8 29 "ChairCane" "now" "LChairCane$Standing;") (mem_b bq_wsX8_ahead 0 0 rfl)) (fun _ h9 => h9) rfl dX8_ahead_1 ?_
  refine va_get (D := D) (ci := 4) (v := .ref (xa 0)) (C := RX6) (T := TX6) (N := 5) hx hb hts in6 hown hG.1 hP 2 rfl rfl 0 (by decide) (hts (.fieldLink RX8 81 "ChairCane$Standing" "room" "LChairCane$Room;") (mem_b bq_wsX8_ahead 0 1 rfl)) (fun _ h9 => h9) rfl dX8_ahead_4 ?_
  refine lv_astore (lv' := [(4, .ref (xa 0)), (0, .ref (xo 0)), (1, .int x1), (2, .int x2), (3, .int x3)]) hx hb dX8_ahead_7 hl (by decide) rfl (fun ls hl => ?_)
  refine lv_aload hx hb dX8_ahead_9 (lv_at hl 0 rfl) ?_
  refine va_get (D := D) (ci := 2) (v := .int (rm.1 0)) (C := RX3) (T := TX3) (N := 17) hx hb hts in3 hown hG.1 hP 3 rfl rfl 0 (by decide) (hts (.fieldLink RX8 150 "ChairCane$Room" "told" "Z") (mem_b bq_wsX8_ahead 0 2 rfl)) (fun _ h9 => h9) rfl dX8_ahead_11 ?_
  refine lv_if_eq (tgt := 36) hx hb dX8_ahead_14 (by decide) (fun c9 => ?_) (fun c9 => ?_)
  · have h := fw_t c9 h
    exact B36 _ _ _ _ _ h hP hD hS (lv_sub hl [] rfl)
  · have h := fw_f c9 h
    refine lv_iload_n hx hb dX8_ahead_17 rfl (lv_at hl 3 rfl) ?_
    refine lv_if_lt (tgt := 36) hx hb dX8_ahead_18 (by decide) (fun c10 => ?_) (fun c10 => ?_)
    · have h := fw_t c10 h
      exact B36 _ _ _ _ _ h hP hD hS (lv_sub hl [] rfl)
    · have h := fw_f c10 h
      refine lv_iload_n hx hb dX8_ahead_21 rfl (lv_at hl 3 rfl) ?_
      refine lv_bipush (v := 100) hx hb dX8_ahead_22 (by decide) ?_
      refine lv_icmp_gt (tgt := 36) hx hb dX8_ahead_24 (by decide) (fun c11 => ?_) (fun c11 => ?_)
      · have h := fw_t c11 h
        exact B36 _ _ _ _ _ h hP hD hS (lv_sub hl [] rfl)
      · have h := fw_f c11 h
        refine lv_iload_n hx hb dX8_ahead_27 rfl (lv_at hl 4 rfl) ?_
        refine lv_if_lt (tgt := 36) hx hb dX8_ahead_28 (by decide) (fun c12 => ?_) (fun c12 => ?_)
        · have h := fw_t c12 h
          exact B36 _ _ _ _ _ h hP hD hS (lv_sub hl [] rfl)
        · have h := fw_f c12 h
          refine lv_iload_n hx hb dX8_ahead_31 rfl (lv_at hl 4 rfl) ?_
          refine lv_iconst (v := 2) hx hb dX8_ahead_32 (by decide) ?_
          refine lv_icmp_le (tgt := 38) hx hb dX8_ahead_33 (by decide) (fun c13 => ?_) (fun c13 => ?_)
          · have h := fw_t c13 h
            refine lv_iload_n hx hb dX8_ahead_38 rfl (lv_at hl 4 rfl) ?_
            refine lv_iconst (v := 2) hx hb dX8_ahead_39 (by decide) ?_
            refine lv_icmp_eq (tgt := 54) hx hb dX8_ahead_40 (by decide) (fun c14 => ?_) (fun c14 => ?_)
            · have h := fw_t c14 h
              exact B54 _ _ _ _ _ _ _ _ h hP hD hS (lv_sub hl [1, 2, 3, 4, 0] rfl)
            · have h := fw_f c14 h
              refine lv_aload hx hb dX8_ahead_43 (lv_at hl 0 rfl) ?_
              refine lv_iload_n hx hb dX8_ahead_45 rfl (lv_at hl 2 rfl) ?_
              obtain ⟨hP, hD⟩ := qm hP hD (q_to [([((xo 0), .inr (6, [.ref (ta 0), .ref xr, .int (xi 2), .ref (sa 0), .ref xm, .ref xg, .ref (tr 0), .ref xs, .ref xp, .ref xq, .ref xe, .ref xt]))] : va_W), ([(xr, hcR k 6 xrr)] : va_W), ([((sa 0), .inr (4, [.ref (xa 0), .ref (ca 0), .ref (na 0), .int (si 3), .int (si 4)]))] : va_W), rmW k xa rm, rmW k tr tm, RU k ra rz] [0, 1, 2, 3, 4, 5] [3] [0, 1, 2, 4, 5] (by decide +kernel))
              refine fw_Vi (As := [.int x1]) (rest := []) (n := 1) (rv := fun b : Int32 => b) (wp := fun b : Int32 => rmW k xa rm) h hx hb hml hown hts hG hA hP hD hS hl.1 _ _ (fun q hq9 => c_X3_hasSitter l D k _  xa F x1 rm  hq9) (ci := 2) (q0 := 0) rfl rfl gX8_ahead_X3_hasSitter rfl ⟨rfl, rfl, Nat.le_of_ble_eq_true rfl, Nat.le_of_ble_eq_true rfl⟩ (by decide +kernel) (q_l _ _) (q_r _ _) (q_nd _ _) ⟨rfl, rfl, Nat.le_of_ble_eq_true rfl, Nat.le_of_ble_eq_true rfl, Nat.le_of_ble_eq_true rfl⟩ dX8_ahead_46 (fun q15 H locs h hP hD hS => ?_)
              obtain ⟨hP, hD⟩ := qm (w2 := ([((xo 0), .inr (6, [.ref (ta 0), .ref xr, .int (xi 2), .ref (sa 0), .ref xm, .ref xg, .ref (tr 0), .ref xs, .ref xp, .ref xq, .ref xe, .ref xt]))] : va_W) ++ (([(xr, hcR k 6 xrr)] : va_W) ++ (([((sa 0), .inr (4, [.ref (xa 0), .ref (ca 0), .ref (na 0), .int (si 3), .int (si 4)]))] : va_W) ++ (rmW k xa rm ++ (rmW k tr tm ++ (RU k ra rz)))))) hP hD (q_from [([((xo 0), .inr (6, [.ref (ta 0), .ref xr, .int (xi 2), .ref (sa 0), .ref xm, .ref xg, .ref (tr 0), .ref xs, .ref xp, .ref xq, .ref xe, .ref xt]))] : va_W), ([(xr, hcR k 6 xrr)] : va_W), ([((sa 0), .inr (4, [.ref (xa 0), .ref (ca 0), .ref (na 0), .int (si 3), .int (si 4)]))] : va_W), rmW k xa rm, rmW k tr tm, RU k ra rz] [0, 1, 2, 4, 5] [3] [0, 1, 2, 3, 4, 5] (by decide +kernel))
              refine hc_is (z := q15) rfl ?_
              refine lv_if_ne (tgt := 54) hx hb dX8_ahead_49 (by decide) (fun c16 => ?_) (fun c16 => ?_)
              · have h := fw_f c16 h
                exact B54 _ _ _ _ _ _ _ _ h hP hD hS (lv_sub hl [1, 2, 3, 4, 0] rfl)
              · have h := fw_t c16 h
                refine lv_iconst (v := (-1)) hx hb dX8_ahead_52 (by decide) ?_
                exact fw_endI (rv := fun b : Int32 × OB × (Nat → OB) => b.1) (wp := fun b : Int32 × OB × (Nat → OB) => ([((xo 0), .inr (6, [.ref (ta 0), .ref xr, .int (xi 2), .ref (sa 0), .ref xm, .ref xg, .ref (tr 0), .ref xs, .ref xp, .ref xq, .ref xe, .ref xt]))] : va_W) ++ (([(xr, hcR k 6 xrr)] : va_W) ++ (([((sa 0), .inr (4, [.ref (xa 0), .ref (ca 0), .ref (na 0), .int (si 3), .int (si 4)]))] : va_W) ++ (rmW k xa rm ++ (rmW k tr b.2.1 ++ (RU k ra b.2.2)))))) hx hb hr hlocks h rfl hP hD hS dX8_ahead_53
          · have h := fw_f c13 h
            exact B36 _ _ _ _ _ h hP hD hS (lv_sub hl [] rfl)
noncomputable def b_X8_falls_22 (F : Nat)  (xi : Nat → Int32) (xrr : Nat → Option Nat) (si : Nat → Int32) (rm : OB)  (tm : OB) (rz : Nat → OB) : Option (Int32 × OB × (Nat → OB)) :=
  some ((-1), tm, rz)
noncomputable def b_X8_falls_87 (F : Nat)  (xi : Nat → Int32) (xrr : Nat → Option Nat) (si : Nat → Int32) (rm : OB)  (y0 : Int32) (tm : OB) (rz : Nat → OB) : Option (Int32 × OB × (Nat → OB)) :=
  some (y0, tm, rz)
noncomputable def b_X8_falls_45 (F : Nat)  (xi : Nat → Int32) (xrr : Nat → Option Nat) (si : Nat → Int32) (rm : OB)  (k45 : (Int32 × Int32 × Int32 × OB × (Nat → OB)) → Option (Int32 × OB × (Nat → OB))) (a45 : (Int32 × Int32 × Int32 × OB × (Nat → OB))) : Option (Int32 × OB × (Nat → OB)) :=
  if 200 ≤ a45.2.2.1 then (some ((-2), a45.2.2.2.1, a45.2.2.2.2)) else (Option.bind (f_X3_passMinute F a45.2.1 a45.2.2.2.1 a45.2.2.2.2) (fun q2 => (if q2.1 = 0 then (k45 (a45.1, a45.2.1, (a45.2.2.1 + 1), q2.2.1, q2.2.2)) else (if a45.1 = 0 then (b_X8_falls_87 F xi xrr si rm (a45.2.2.2.1.1 12) q2.2.1 q2.2.2) else (b_X8_falls_87 F xi xrr si rm q2.1 q2.2.1 q2.2.2)))))
noncomputable def f_X8_falls (F : Nat)  (x1 : Int32) (xi : Nat → Int32) (xrr : Nat → Option Nat) (si : Nat → Int32) (rm : OB) (tm : OB) (rz : Nat → OB) : Option (Int32 × OB × (Nat → OB)) :=
  if (rm.1 0) = 0 then (b_X8_falls_22 F xi xrr si rm tm rz) else (if x1 < 0 then (b_X8_falls_22 F xi xrr si rm tm rz) else (if x1 ≤ 1 then (Option.bind (f_X8_ruleInForce F xi xrr si) (fun q8 => (Option.bind (f_X3_copyFrom F tm rm) (fun q9 => (lp (b_X8_falls_45 F xi xrr si rm) F (x1, q8, 0, q9, rz)))))) else (b_X8_falls_22 F xi xrr si rm tm rz)))
set_option maxHeartbeats 4000000 in
set_option maxRecDepth 100000 in
theorem c_X8_falls (l : Launch) (D : va_G) (k : Nat → ClassId) (sz : Nat)  (xo : Nat → Nat) (ta : Nat → Nat) (xr : Nat) (sa : Nat → Nat) (xm : Nat) (xg : Nat) (tr : Nat → Nat) (xs : Nat) (xp : Nat) (xq : Nat) (xe : Nat) (xt : Nat) (xa : Nat → Nat) (ca : Nat → Nat) (na : Nat → Nat) (ra : Nat → Nat) (F : Nat)  (x1 : Int32) (xi : Nat → Int32) (xrr : Nat → Option Nat) (si : Nat → Int32) (rm : OB) (tm : OB) (rz : Nat → OB) (hq : ∀ i, i < 6 → xrr i = some (ra (6 * i))) {res : Int32 × OB × (Nat → OB)} (h : f_X8_falls F x1 xi xrr si rm tm rz = some res) : CtI l yX8_falls wsX8_falls (rmK 6 0 0) [.ref (xo 0), .int x1] D k sz (([((xo 0), .inr (6, [.ref (ta 0), .ref xr, .int (xi 2), .ref (sa 0), .ref xm, .ref xg, .ref (tr 0), .ref xs, .ref xp, .ref xq, .ref xe, .ref xt]))] : va_W) ++ (([(xr, hcR k 6 xrr)] : va_W) ++ (([((sa 0), .inr (4, [.ref (xa 0), .ref (ca 0), .ref (na 0), .int (si 3), .int (si 4)]))] : va_W) ++ (rmW k xa rm ++ (rmW k tr tm ++ (RU k ra rz)))))) (fun r (_ : Unit) => r = res.1) (fun _ : Unit => ([((xo 0), .inr (6, [.ref (ta 0), .ref xr, .int (xi 2), .ref (sa 0), .ref xm, .ref xg, .ref (tr 0), .ref xs, .ref xp, .ref xq, .ref xe, .ref xt]))] : va_W) ++ (([(xr, hcR k 6 xrr)] : va_W) ++ (([((sa 0), .inr (4, [.ref (xa 0), .ref (ca 0), .ref (na 0), .int (si 3), .int (si 4)]))] : va_W) ++ (rmW k xa rm ++ (rmW k tr res.2.1 ++ (RU k ra res.2.2)))))) 0 0 := by
  refine CtI.mk (cc := cX8_falls) (maxL := 6) (ret := (some .int)) (by decide) rfl (Nat.le_of_ble_eq_true rfl) ?_
  intro p e s m below meth c A ls E hP hD hS hl
  obtain ⟨hx, hb, hr, hml, hown, hts, hlocks, hin, hG, hA⟩ := E
  have hown : s.vm.findClass RX8 = some m.cls := hown
  have in3 : ∀ w ∈ u_ws RX3 TX3 17, w ∈ wsX8_falls := fun _ h => List.mem_cons_of_mem _ (List.mem_append_left _ (List.mem_append_right _ h))
  have in4 : ∀ w ∈ u_ws RX4 TX4 8, w ∈ wsX8_falls := fun _ h => List.mem_cons_of_mem _ (List.mem_append_right _ h)
  have in6 : ∀ w ∈ u_ws RX6 TX6 5, w ∈ wsX8_falls := fun _ h => List.mem_cons_of_mem _ (List.mem_append_left _ (List.mem_append_left _ (List.mem_append_right _ h)))
  have in8 : ∀ w ∈ u_ws RX8 TX8 12, w ∈ wsX8_falls := fun _ h => List.mem_cons_of_mem _ (List.mem_append_left _ (List.mem_append_left _ (List.mem_append_left _ (List.mem_append_right _ h))))
  have hl : lv_has ls 6 [(0, .ref (xo 0)), (1, .int x1)] := hl
  have B22 : ∀ (tm : OB) (rz : Nat → OB) (H : Heap) (locs : List Loc) (ls : Array Slot), b_X8_falls_22 F xi xrr si rm tm rz = some res → va_P D vwCl (([((xo 0), .inr (6, [.ref (ta 0), .ref xr, .int (xi 2), .ref (sa 0), .ref xm, .ref xg, .ref (tr 0), .ref xs, .ref xp, .ref xq, .ref xe, .ref xt]))] : va_W) ++ (([(xr, hcR k 6 xrr)] : va_W) ++ (([((sa 0), .inr (4, [.ref (xa 0), .ref (ca 0), .ref (na 0), .int (si 3), .int (si 4)]))] : va_W) ++ (rmW k xa rm ++ (rmW k tr tm ++ (RU k ra rz)))))) H → va_D A (([((xo 0), .inr (6, [.ref (ta 0), .ref xr, .int (xi 2), .ref (sa 0), .ref xm, .ref xg, .ref (tr 0), .ref xs, .ref xp, .ref xq, .ref xe, .ref xt]))] : va_W) ++ (([(xr, hcR k 6 xrr)] : va_W) ++ (([((sa 0), .inr (4, [.ref (xa 0), .ref (ca 0), .ref (na 0), .int (si 3), .int (si 4)]))] : va_W) ++ (rmW k xa rm ++ (rmW k tr tm ++ (RU k ra rz)))))) → va_S A s.heap H locs → lv_has ls 6 [] → W p l e (rmK 6 0 0) s m (List.toArray [.ref (xo 0), .int x1]) below meth c H locs 0 0 (MQ below (va_Qi (fun r (_ : Unit) => r = res.1) (hcB D (fun _ : Unit => ([((xo 0), .inr (6, [.ref (ta 0), .ref xr, .int (xi 2), .ref (sa 0), .ref xm, .ref xg, .ref (tr 0), .ref xs, .ref xp, .ref xq, .ref xe, .ref xt]))] : va_W) ++ (([(xr, hcR k 6 xrr)] : va_W) ++ (([((sa 0), .inr (4, [.ref (xa 0), .ref (ca 0), .ref (na 0), .int (si 3), .int (si 4)]))] : va_W) ++ (rmW k xa rm ++ (rmW k tr res.2.1 ++ (RU k ra res.2.2)))))) A) A) (List.toArray [.ref (xo 0), .int x1]) s 0 0 A) (F0 m 22 ls []) := by
    intro tm rz H locs ls h hP hD hS hl
    refine lv_iconst (v := (-1)) hx hb dX8_falls_22 (by decide) ?_
    exact fw_endI (rv := fun b : Int32 × OB × (Nat → OB) => b.1) (wp := fun b : Int32 × OB × (Nat → OB) => ([((xo 0), .inr (6, [.ref (ta 0), .ref xr, .int (xi 2), .ref (sa 0), .ref xm, .ref xg, .ref (tr 0), .ref xs, .ref xp, .ref xq, .ref xe, .ref xt]))] : va_W) ++ (([(xr, hcR k 6 xrr)] : va_W) ++ (([((sa 0), .inr (4, [.ref (xa 0), .ref (ca 0), .ref (na 0), .int (si 3), .int (si 4)]))] : va_W) ++ (rmW k xa rm ++ (rmW k tr b.2.1 ++ (RU k ra b.2.2)))))) hx hb hr hlocks h rfl hP hD hS dX8_falls_23
  have B87 : ∀ (y0 : Int32) (tm : OB) (rz : Nat → OB) (H : Heap) (locs : List Loc) (ls : Array Slot), b_X8_falls_87 F xi xrr si rm y0 tm rz = some res → va_P D vwCl (([((xo 0), .inr (6, [.ref (ta 0), .ref xr, .int (xi 2), .ref (sa 0), .ref xm, .ref xg, .ref (tr 0), .ref xs, .ref xp, .ref xq, .ref xe, .ref xt]))] : va_W) ++ (([(xr, hcR k 6 xrr)] : va_W) ++ (([((sa 0), .inr (4, [.ref (xa 0), .ref (ca 0), .ref (na 0), .int (si 3), .int (si 4)]))] : va_W) ++ (rmW k xa rm ++ (rmW k tr tm ++ (RU k ra rz)))))) H → va_D A (([((xo 0), .inr (6, [.ref (ta 0), .ref xr, .int (xi 2), .ref (sa 0), .ref xm, .ref xg, .ref (tr 0), .ref xs, .ref xp, .ref xq, .ref xe, .ref xt]))] : va_W) ++ (([(xr, hcR k 6 xrr)] : va_W) ++ (([((sa 0), .inr (4, [.ref (xa 0), .ref (ca 0), .ref (na 0), .int (si 3), .int (si 4)]))] : va_W) ++ (rmW k xa rm ++ (rmW k tr tm ++ (RU k ra rz)))))) → va_S A s.heap H locs → lv_has ls 6 [] → W p l e (rmK 6 0 0) s m (List.toArray [.ref (xo 0), .int x1]) below meth c H locs 0 0 (MQ below (va_Qi (fun r (_ : Unit) => r = res.1) (hcB D (fun _ : Unit => ([((xo 0), .inr (6, [.ref (ta 0), .ref xr, .int (xi 2), .ref (sa 0), .ref xm, .ref xg, .ref (tr 0), .ref xs, .ref xp, .ref xq, .ref xe, .ref xt]))] : va_W) ++ (([(xr, hcR k 6 xrr)] : va_W) ++ (([((sa 0), .inr (4, [.ref (xa 0), .ref (ca 0), .ref (na 0), .int (si 3), .int (si 4)]))] : va_W) ++ (rmW k xa rm ++ (rmW k tr res.2.1 ++ (RU k ra res.2.2)))))) A) A) (List.toArray [.ref (xo 0), .int x1]) s 0 0 A) (F0 m 87 ls [.int y0]) := by
    intro y0 tm rz H locs ls h hP hD hS hl
    exact fw_endI (rv := fun b : Int32 × OB × (Nat → OB) => b.1) (wp := fun b : Int32 × OB × (Nat → OB) => ([((xo 0), .inr (6, [.ref (ta 0), .ref xr, .int (xi 2), .ref (sa 0), .ref xm, .ref xg, .ref (tr 0), .ref xs, .ref xp, .ref xq, .ref xe, .ref xt]))] : va_W) ++ (([(xr, hcR k 6 xrr)] : va_W) ++ (([((sa 0), .inr (4, [.ref (xa 0), .ref (ca 0), .ref (na 0), .int (si 3), .int (si 4)]))] : va_W) ++ (rmW k xa rm ++ (rmW k tr b.2.1 ++ (RU k ra b.2.2)))))) hx hb hr hlocks h rfl hP hD hS dX8_falls_87
  have B45 : ∀ a45 : (Int32 × Int32 × Int32 × OB × (Nat → OB)), lp (b_X8_falls_45 F xi xrr si rm) F a45 = some res → ∀ (H : Heap) (locs : List Loc) (ls : Array Slot), va_P D vwCl (([((xo 0), .inr (6, [.ref (ta 0), .ref xr, .int (xi 2), .ref (sa 0), .ref xm, .ref xg, .ref (tr 0), .ref xs, .ref xp, .ref xq, .ref xe, .ref xt]))] : va_W) ++ (([(xr, hcR k 6 xrr)] : va_W) ++ (([((sa 0), .inr (4, [.ref (xa 0), .ref (ca 0), .ref (na 0), .int (si 3), .int (si 4)]))] : va_W) ++ (rmW k xa rm ++ (rmW k tr a45.2.2.2.1 ++ (RU k ra a45.2.2.2.2)))))) H → va_D A (([((xo 0), .inr (6, [.ref (ta 0), .ref xr, .int (xi 2), .ref (sa 0), .ref xm, .ref xg, .ref (tr 0), .ref xs, .ref xp, .ref xq, .ref xe, .ref xt]))] : va_W) ++ (([(xr, hcR k 6 xrr)] : va_W) ++ (([((sa 0), .inr (4, [.ref (xa 0), .ref (ca 0), .ref (na 0), .int (si 3), .int (si 4)]))] : va_W) ++ (rmW k xa rm ++ (rmW k tr a45.2.2.2.1 ++ (RU k ra a45.2.2.2.2)))))) → va_S A s.heap H locs → lv_has ls 6 [(0, .ref (xo 0)), (1, .int a45.1), (2, va_rf (rAd ra a45.2.1)), (3, .int a45.2.2.1)] → W p l e (rmK 6 0 0) s m (List.toArray [.ref (xo 0), .int x1]) below meth c H locs 0 0 (MQ below (va_Qi (fun r (_ : Unit) => r = res.1) (hcB D (fun _ : Unit => ([((xo 0), .inr (6, [.ref (ta 0), .ref xr, .int (xi 2), .ref (sa 0), .ref xm, .ref xg, .ref (tr 0), .ref xs, .ref xp, .ref xq, .ref xe, .ref xt]))] : va_W) ++ (([(xr, hcR k 6 xrr)] : va_W) ++ (([((sa 0), .inr (4, [.ref (xa 0), .ref (ca 0), .ref (na 0), .int (si 3), .int (si 4)]))] : va_W) ++ (rmW k xa rm ++ (rmW k tr res.2.1 ++ (RU k ra res.2.2)))))) A) A) (List.toArray [.ref (xo 0), .int x1]) s 0 0 A) (F0 m 45 ls []) := by
    refine lp_W ?_ F
    intro k45 hk45 a45 h H locs ls hP hD hS hl
    have hc45 : ∀ (v1 : Int32) (v2 : Int32) (v3 : Int32) (tm : OB) (rz : Nat → OB), k45 (v1, v2, v3, tm, rz) = some res → ∀ (H : Heap) (locs : List Loc) (ls : Array Slot), va_P D vwCl (([((xo 0), .inr (6, [.ref (ta 0), .ref xr, .int (xi 2), .ref (sa 0), .ref xm, .ref xg, .ref (tr 0), .ref xs, .ref xp, .ref xq, .ref xe, .ref xt]))] : va_W) ++ (([(xr, hcR k 6 xrr)] : va_W) ++ (([((sa 0), .inr (4, [.ref (xa 0), .ref (ca 0), .ref (na 0), .int (si 3), .int (si 4)]))] : va_W) ++ (rmW k xa rm ++ (rmW k tr tm ++ (RU k ra rz)))))) H → va_D A (([((xo 0), .inr (6, [.ref (ta 0), .ref xr, .int (xi 2), .ref (sa 0), .ref xm, .ref xg, .ref (tr 0), .ref xs, .ref xp, .ref xq, .ref xe, .ref xt]))] : va_W) ++ (([(xr, hcR k 6 xrr)] : va_W) ++ (([((sa 0), .inr (4, [.ref (xa 0), .ref (ca 0), .ref (na 0), .int (si 3), .int (si 4)]))] : va_W) ++ (rmW k xa rm ++ (rmW k tr tm ++ (RU k ra rz)))))) → va_S A s.heap H locs → lv_has ls 6 [(0, .ref (xo 0)), (1, .int v1), (2, va_rf (rAd ra v2)), (3, .int v3)] → W p l e (rmK 6 0 0) s m (List.toArray [.ref (xo 0), .int x1]) below meth c H locs 0 0 (MQ below (va_Qi (fun r (_ : Unit) => r = res.1) (hcB D (fun _ : Unit => ([((xo 0), .inr (6, [.ref (ta 0), .ref xr, .int (xi 2), .ref (sa 0), .ref xm, .ref xg, .ref (tr 0), .ref xs, .ref xp, .ref xq, .ref xe, .ref xt]))] : va_W) ++ (([(xr, hcR k 6 xrr)] : va_W) ++ (([((sa 0), .inr (4, [.ref (xa 0), .ref (ca 0), .ref (na 0), .int (si 3), .int (si 4)]))] : va_W) ++ (rmW k xa rm ++ (rmW k tr res.2.1 ++ (RU k ra res.2.2)))))) A) A) (List.toArray [.ref (xo 0), .int x1]) s 0 0 A) (F0 m 45 ls []) := fun v1 v2 v3 tm rz => hk45 (v1, v2, v3, tm, rz)
    refine lv_iload_n hx hb dX8_falls_45 rfl (lv_at hl 3 rfl) ?_
    refine lv_sipush (v := 200) hx hb dX8_falls_46 (by decide) ?_
    refine lv_icmp_ge (tgt := 94) hx hb dX8_falls_49 (by decide) (fun c1 => ?_) (fun c1 => ?_)
    · have h := fw_t c1 h
      refine lv_bipush (v := (-2)) hx hb dX8_falls_94 (by decide) ?_
      exact fw_endI (rv := fun b : Int32 × OB × (Nat → OB) => b.1) (wp := fun b : Int32 × OB × (Nat → OB) => ([((xo 0), .inr (6, [.ref (ta 0), .ref xr, .int (xi 2), .ref (sa 0), .ref xm, .ref xg, .ref (tr 0), .ref xs, .ref xp, .ref xq, .ref xe, .ref xt]))] : va_W) ++ (([(xr, hcR k 6 xrr)] : va_W) ++ (([((sa 0), .inr (4, [.ref (xa 0), .ref (ca 0), .ref (na 0), .int (si 3), .int (si 4)]))] : va_W) ++ (rmW k xa rm ++ (rmW k tr b.2.1 ++ (RU k ra b.2.2)))))) hx hb hr hlocks h rfl hP hD hS dX8_falls_96
    · have h := fw_f c1 h
      refine lv_aload_n hx hb dX8_falls_52 rfl (lv_at hl 0 rfl) ?_
      refine va_get (D := D) (ci := 6) (v := .ref (tr 0)) (C := RX8) (T := TX8) (N := 12) hx hb hts in8 hown hG.1 hP 0 rfl rfl 6 (by decide) (hts (.fieldLink RX8 44 "ChairCane" "trial" "LChairCane$Room;") (mem_b bq_wsX8_falls 0 3 rfl)) (fun _ h9 => h9) rfl dX8_falls_53 ?_
      refine va_get (D := D) (ci := 2) (v := .int (a45.2.2.2.1.1 12)) (C := RX3) (T := TX3) (N := 17) hx hb hts in3 hown hG.1 hP 12 rfl rfl 12 (by decide) (hts (.fieldLink RX8 154 "ChairCane$Room" "minute" "I") (mem_b bq_wsX8_falls 0 4 rfl)) (fun _ h9 => h9) rfl dX8_falls_56 ?_
      refine lv_istore (lv' := [(4, .int (a45.2.2.2.1.1 12)), (0, .ref (xo 0)), (1, .int a45.1), (2, va_rf (rAd ra a45.2.1)), (3, .int a45.2.2.1)]) hx hb dX8_falls_59 hl (by decide) (by cases rAd ra a45.2.1 <;> rfl) (fun ls hl => ?_)
      refine lv_aload_n hx hb dX8_falls_61 rfl (lv_at hl 1 rfl) ?_
      refine va_get (D := D) (ci := 6) (v := .ref (tr 0)) (C := RX8) (T := TX8) (N := 12) hx hb hts in8 hown hG.1 hP 0 rfl rfl 6 (by decide) (hts (.fieldLink RX8 44 "ChairCane" "trial" "LChairCane$Room;") (mem_b bq_wsX8_falls 0 3 rfl)) (fun _ h9 => h9) rfl dX8_falls_62 ?_
      refine lv_aload_nO hx hb dX8_falls_65 rfl (lv_at hl 3 rfl) ?_
      obtain ⟨hP, hD⟩ := qm hP hD (q_to [([((xo 0), .inr (6, [.ref (ta 0), .ref xr, .int (xi 2), .ref (sa 0), .ref xm, .ref xg, .ref (tr 0), .ref xs, .ref xp, .ref xq, .ref xe, .ref xt]))] : va_W), ([(xr, hcR k 6 xrr)] : va_W), ([((sa 0), .inr (4, [.ref (xa 0), .ref (ca 0), .ref (na 0), .int (si 3), .int (si 4)]))] : va_W), rmW k xa rm, rmW k tr a45.2.2.2.1, RU k ra a45.2.2.2.2] [0, 1, 2, 3, 4, 5] [4, 5] [0, 1, 2, 3] (by decide +kernel))
      refine fw_Vi (As := [va_rf (rAd ra a45.2.1)]) (rest := []) (n := 1) (rv := fun b : Int32 × OB × (Nat → OB) => b.1) (wp := fun b : Int32 × OB × (Nat → OB) => rmW k tr b.2.1 ++ (RU k ra b.2.2)) h hx hb hml hown hts hG hA hP hD hS hl.1 _ _ (fun q hq9 => c_X3_passMinute l D k _  tr ra F a45.2.1 a45.2.2.2.1 a45.2.2.2.2  hq9) (ci := 2) (q0 := 0) rfl rfl gX8_falls_X3_passMinute rfl ⟨rfl, rfl, Nat.le_of_ble_eq_true rfl, Nat.le_of_ble_eq_true rfl⟩ (by decide +kernel) (q_l _ _) (q_r _ _) (q_nd _ _) ⟨rfl, rfl, Nat.le_of_ble_eq_true rfl, Nat.le_of_ble_eq_true rfl, Nat.le_of_ble_eq_true rfl⟩ dX8_falls_66 (fun q2 H locs h hP hD hS => ?_)
      obtain ⟨hP, hD⟩ := qm (w2 := ([((xo 0), .inr (6, [.ref (ta 0), .ref xr, .int (xi 2), .ref (sa 0), .ref xm, .ref xg, .ref (tr 0), .ref xs, .ref xp, .ref xq, .ref xe, .ref xt]))] : va_W) ++ (([(xr, hcR k 6 xrr)] : va_W) ++ (([((sa 0), .inr (4, [.ref (xa 0), .ref (ca 0), .ref (na 0), .int (si 3), .int (si 4)]))] : va_W) ++ (rmW k xa rm ++ (rmW k tr q2.2.1 ++ (RU k ra q2.2.2)))))) hP hD (q_from [([((xo 0), .inr (6, [.ref (ta 0), .ref xr, .int (xi 2), .ref (sa 0), .ref xm, .ref xg, .ref (tr 0), .ref xs, .ref xp, .ref xq, .ref xe, .ref xt]))] : va_W), ([(xr, hcR k 6 xrr)] : va_W), ([((sa 0), .inr (4, [.ref (xa 0), .ref (ca 0), .ref (na 0), .int (si 3), .int (si 4)]))] : va_W), rmW k xa rm, rmW k tr q2.2.1, RU k ra q2.2.2] [0, 1, 2, 3] [4, 5] [0, 1, 2, 3, 4, 5] (by decide +kernel))
      refine hc_is (z := q2.1) rfl ?_
      refine lv_istore (lv' := [(5, .int q2.1), (4, .int (a45.2.2.2.1.1 12)), (0, .ref (xo 0)), (1, .int a45.1), (2, va_rf (rAd ra a45.2.1)), (3, .int a45.2.2.1)]) hx hb dX8_falls_69 hl (by decide) (by cases rAd ra a45.2.1 <;> rfl) (fun ls hl => ?_)
      refine lv_iload hx hb dX8_falls_71 (lv_at hl 0 rfl) ?_
      refine lv_if_eq (tgt := 88) hx hb dX8_falls_73 (by decide) (fun c3 => ?_) (fun c3 => ?_)
      · have h := fw_t c3 h
        refine lv_iinc (v := (a45.2.2.1 + 1)) (lv' := [(3, .int (a45.2.2.1 + 1)), (5, .int q2.1), (4, .int (a45.2.2.2.1.1 12)), (0, .ref (xo 0)), (1, .int a45.1), (2, va_rf (rAd ra a45.2.1))]) hx hb dX8_falls_88 hl (k := 5) rfl rfl (by decide) (by cases rAd ra a45.2.1 <;> rfl) (fun ls hl => ?_)
        refine lv_goto (tgt := 45) hx hb dX8_falls_91 (by decide) ?_
        exact hc45 _ _ _ _ _ h _ _ _ hP hD hS (lv_sub hl [3, 4, 5, 0] rfl)
      · have h := fw_f c3 h
        refine lv_iload_n hx hb dX8_falls_76 rfl (lv_at hl 3 rfl) ?_
        refine lv_if_ne (tgt := 85) hx hb dX8_falls_77 (by decide) (fun c4 => ?_) (fun c4 => ?_)
        · have h := fw_f c4 h
          refine lv_iload hx hb dX8_falls_85 (lv_at hl 0 rfl) ?_
          exact B87 _ _ _ _ _ _ h hP hD hS (lv_sub hl [] rfl)
        · have h := fw_t c4 h
          refine lv_iload hx hb dX8_falls_80 (lv_at hl 1 rfl) ?_
          refine lv_goto (tgt := 87) hx hb dX8_falls_82 (by decide) ?_
          exact B87 _ _ _ _ _ _ h hP hD hS (lv_sub hl [] rfl)
  have C45 : ∀ (v1 : Int32) (v2 : Int32) (v3 : Int32) (tm : OB) (rz : Nat → OB), lp (b_X8_falls_45 F xi xrr si rm) F (v1, v2, v3, tm, rz) = some res → ∀ (H : Heap) (locs : List Loc) (ls : Array Slot), va_P D vwCl (([((xo 0), .inr (6, [.ref (ta 0), .ref xr, .int (xi 2), .ref (sa 0), .ref xm, .ref xg, .ref (tr 0), .ref xs, .ref xp, .ref xq, .ref xe, .ref xt]))] : va_W) ++ (([(xr, hcR k 6 xrr)] : va_W) ++ (([((sa 0), .inr (4, [.ref (xa 0), .ref (ca 0), .ref (na 0), .int (si 3), .int (si 4)]))] : va_W) ++ (rmW k xa rm ++ (rmW k tr tm ++ (RU k ra rz)))))) H → va_D A (([((xo 0), .inr (6, [.ref (ta 0), .ref xr, .int (xi 2), .ref (sa 0), .ref xm, .ref xg, .ref (tr 0), .ref xs, .ref xp, .ref xq, .ref xe, .ref xt]))] : va_W) ++ (([(xr, hcR k 6 xrr)] : va_W) ++ (([((sa 0), .inr (4, [.ref (xa 0), .ref (ca 0), .ref (na 0), .int (si 3), .int (si 4)]))] : va_W) ++ (rmW k xa rm ++ (rmW k tr tm ++ (RU k ra rz)))))) → va_S A s.heap H locs → lv_has ls 6 [(0, .ref (xo 0)), (1, .int v1), (2, va_rf (rAd ra v2)), (3, .int v3)] → W p l e (rmK 6 0 0) s m (List.toArray [.ref (xo 0), .int x1]) below meth c H locs 0 0 (MQ below (va_Qi (fun r (_ : Unit) => r = res.1) (hcB D (fun _ : Unit => ([((xo 0), .inr (6, [.ref (ta 0), .ref xr, .int (xi 2), .ref (sa 0), .ref xm, .ref xg, .ref (tr 0), .ref xs, .ref xp, .ref xq, .ref xe, .ref xt]))] : va_W) ++ (([(xr, hcR k 6 xrr)] : va_W) ++ (([((sa 0), .inr (4, [.ref (xa 0), .ref (ca 0), .ref (na 0), .int (si 3), .int (si 4)]))] : va_W) ++ (rmW k xa rm ++ (rmW k tr res.2.1 ++ (RU k ra res.2.2)))))) A) A) (List.toArray [.ref (xo 0), .int x1]) s 0 0 A) (F0 m 45 ls []) := fun v1 v2 v3 tm rz => B45 (v1, v2, v3, tm, rz)
  refine lv_aload_n hx hb dX8_falls_0 rfl (lv_at hl 0 rfl) ?_
  refine va_get (D := D) (ci := 6) (v := .ref (sa 0)) (C := RX8) (T := TX8) (N := 12) hx hb hts in8 hown hG.1 hP 0 rfl rfl 3 (by decide) (hts (.fieldLink RX8 29 "ChairCane" "now" "LChairCane$Standing;") (mem_b bq_wsX8_falls 0 0 rfl)) (fun _ h9 => h9) rfl dX8_falls_1 ?_
  refine va_get (D := D) (ci := 4) (v := .ref (xa 0)) (C := RX6) (T := TX6) (N := 5) hx hb hts in6 hown hG.1 hP 2 rfl rfl 0 (by decide) (hts (.fieldLink RX8 81 "ChairCane$Standing" "room" "LChairCane$Room;") (mem_b bq_wsX8_falls 0 1 rfl)) (fun _ h9 => h9) rfl dX8_falls_4 ?_
  refine va_get (D := D) (ci := 2) (v := .int (rm.1 0)) (C := RX3) (T := TX3) (N := 17) hx hb hts in3 hown hG.1 hP 3 rfl rfl 0 (by decide) (hts (.fieldLink RX8 150 "ChairCane$Room" "told" "Z") (mem_b bq_wsX8_falls 0 2 rfl)) (fun _ h9 => h9) rfl dX8_falls_7 ?_
  refine lv_if_eq (tgt := 22) hx hb dX8_falls_10 (by decide) (fun c5 => ?_) (fun c5 => ?_)
  · have h := fw_t c5 h
    exact B22 _ _ _ _ _ h hP hD hS (lv_sub hl [] rfl)
  · have h := fw_f c5 h
    refine lv_iload_n hx hb dX8_falls_13 rfl (lv_at hl 1 rfl) ?_
    refine lv_if_lt (tgt := 22) hx hb dX8_falls_14 (by decide) (fun c6 => ?_) (fun c6 => ?_)
    · have h := fw_t c6 h
      exact B22 _ _ _ _ _ h hP hD hS (lv_sub hl [] rfl)
    · have h := fw_f c6 h
      refine lv_iload_n hx hb dX8_falls_17 rfl (lv_at hl 1 rfl) ?_
      refine lv_iconst (v := 1) hx hb dX8_falls_18 (by decide) ?_
      refine lv_icmp_le (tgt := 24) hx hb dX8_falls_19 (by decide) (fun c7 => ?_) (fun c7 => ?_)
      · have h := fw_t c7 h
        refine lv_aload_n hx hb dX8_falls_24 rfl (lv_at hl 0 rfl) ?_
        obtain ⟨hP, hD⟩ := qm hP hD (q_to [([((xo 0), .inr (6, [.ref (ta 0), .ref xr, .int (xi 2), .ref (sa 0), .ref xm, .ref xg, .ref (tr 0), .ref xs, .ref xp, .ref xq, .ref xe, .ref xt]))] : va_W), ([(xr, hcR k 6 xrr)] : va_W), ([((sa 0), .inr (4, [.ref (xa 0), .ref (ca 0), .ref (na 0), .int (si 3), .int (si 4)]))] : va_W), rmW k xa rm, rmW k tr tm, RU k ra rz] [0, 1, 2, 3, 4, 5] [0, 1, 2] [3, 4, 5] (by decide +kernel))
        refine fw_Vq (As := []) (rest := []) (n := 0) (rv := fun b : Int32 => rAd ra b) (wp := fun b : Int32 => ([((xo 0), .inr (6, [.ref (ta 0), .ref xr, .int (xi 2), .ref (sa 0), .ref xm, .ref xg, .ref (tr 0), .ref xs, .ref xp, .ref xq, .ref xe, .ref xt]))] : va_W) ++ (([(xr, hcR k 6 xrr)] : va_W) ++ (([((sa 0), .inr (4, [.ref (xa 0), .ref (ca 0), .ref (na 0), .int (si 3), .int (si 4)]))] : va_W)))) h hx hb hml hown hts hG hA hP hD hS hl.1 _ _ (fun q hq9 => c_X8_ruleInForce l D k _  xo ta xr sa xm xg tr xs xp xq xe xt xa ca na ra F  xi xrr si hq hq9) (ci := 6) (q0 := 0) rfl rfl gX8_falls_X8_ruleInForce rfl ⟨rfl, rfl, Nat.le_of_ble_eq_true rfl, Nat.le_of_ble_eq_true rfl⟩ (by decide +kernel) (q_l _ _) (q_r _ _) (q_nd _ _) ⟨rfl, rfl, Nat.le_of_ble_eq_true rfl, Nat.le_of_ble_eq_true rfl, Nat.le_of_ble_eq_true rfl⟩ dX8_falls_25 (fun q8 H locs h hP hD hS => ?_)
        obtain ⟨hP, hD⟩ := qm (w2 := ([((xo 0), .inr (6, [.ref (ta 0), .ref xr, .int (xi 2), .ref (sa 0), .ref xm, .ref xg, .ref (tr 0), .ref xs, .ref xp, .ref xq, .ref xe, .ref xt]))] : va_W) ++ (([(xr, hcR k 6 xrr)] : va_W) ++ (([((sa 0), .inr (4, [.ref (xa 0), .ref (ca 0), .ref (na 0), .int (si 3), .int (si 4)]))] : va_W) ++ (rmW k xa rm ++ (rmW k tr tm ++ (RU k ra rz)))))) hP hD (q_from [([((xo 0), .inr (6, [.ref (ta 0), .ref xr, .int (xi 2), .ref (sa 0), .ref xm, .ref xg, .ref (tr 0), .ref xs, .ref xp, .ref xq, .ref xe, .ref xt]))] : va_W), ([(xr, hcR k 6 xrr)] : va_W), ([((sa 0), .inr (4, [.ref (xa 0), .ref (ca 0), .ref (na 0), .int (si 3), .int (si 4)]))] : va_W), rmW k xa rm, rmW k tr tm, RU k ra rz] [3, 4, 5] [0, 1, 2] [0, 1, 2, 3, 4, 5] (by decide +kernel))
        refine hc_isV (z := va_rf (rAd ra q8)) rfl ?_
        refine lv_astore_nO (lv' := [(2, va_rf (rAd ra q8)), (0, .ref (xo 0)), (1, .int x1)]) hx hb dX8_falls_28 rfl hl (by decide) (by cases rAd ra q8 <;> rfl) (fun ls hl => ?_)
        refine lv_aload_n hx hb dX8_falls_29 rfl (lv_at hl 1 rfl) ?_
        refine va_get (D := D) (ci := 6) (v := .ref (tr 0)) (C := RX8) (T := TX8) (N := 12) hx hb hts in8 hown hG.1 hP 0 rfl rfl 6 (by decide) (hts (.fieldLink RX8 44 "ChairCane" "trial" "LChairCane$Room;") (mem_b bq_wsX8_falls 0 3 rfl)) (fun _ h9 => h9) rfl dX8_falls_30 ?_
        refine lv_aload_n hx hb dX8_falls_33 rfl (lv_at hl 1 rfl) ?_
        refine va_get (D := D) (ci := 6) (v := .ref (sa 0)) (C := RX8) (T := TX8) (N := 12) hx hb hts in8 hown hG.1 hP 0 rfl rfl 3 (by decide) (hts (.fieldLink RX8 29 "ChairCane" "now" "LChairCane$Standing;") (mem_b bq_wsX8_falls 0 0 rfl)) (fun _ h9 => h9) rfl dX8_falls_34 ?_
        refine va_get (D := D) (ci := 4) (v := .ref (xa 0)) (C := RX6) (T := TX6) (N := 5) hx hb hts in6 hown hG.1 hP 2 rfl rfl 0 (by decide) (hts (.fieldLink RX8 81 "ChairCane$Standing" "room" "LChairCane$Room;") (mem_b bq_wsX8_falls 0 1 rfl)) (fun _ h9 => h9) rfl dX8_falls_37 ?_
        obtain ⟨hP, hD⟩ := qm hP hD (q_to [([((xo 0), .inr (6, [.ref (ta 0), .ref xr, .int (xi 2), .ref (sa 0), .ref xm, .ref xg, .ref (tr 0), .ref xs, .ref xp, .ref xq, .ref xe, .ref xt]))] : va_W), ([(xr, hcR k 6 xrr)] : va_W), ([((sa 0), .inr (4, [.ref (xa 0), .ref (ca 0), .ref (na 0), .int (si 3), .int (si 4)]))] : va_W), rmW k xa rm, rmW k tr tm, RU k ra rz] [0, 1, 2, 3, 4, 5] [4, 3] [0, 1, 2, 5] (by decide +kernel))
        refine fw_Vv (As := [.ref (xa 0)]) (rest := []) (n := 1) (wp := fun b : OB => rmW k tr b ++ (rmW k xa rm)) h hx hb hml hown hts hG hA hP hD hS hl.1 _ _ (fun q hq9 => c_X3_copyFrom l D k _  tr xa F  tm rm  hq9) (ci := 2) (q0 := 0) rfl rfl gX8_falls_X3_copyFrom rfl ⟨rfl, rfl, Nat.le_of_ble_eq_true rfl, Nat.le_of_ble_eq_true rfl⟩ (by decide +kernel) (q_l _ _) (q_r _ _) (q_nd _ _) ⟨rfl, rfl, Nat.le_of_ble_eq_true rfl, Nat.le_of_ble_eq_true rfl, Nat.le_of_ble_eq_true rfl⟩ dX8_falls_40 (fun q9 H locs h hP hD hS => ?_)
        obtain ⟨hP, hD⟩ := qm (w2 := ([((xo 0), .inr (6, [.ref (ta 0), .ref xr, .int (xi 2), .ref (sa 0), .ref xm, .ref xg, .ref (tr 0), .ref xs, .ref xp, .ref xq, .ref xe, .ref xt]))] : va_W) ++ (([(xr, hcR k 6 xrr)] : va_W) ++ (([((sa 0), .inr (4, [.ref (xa 0), .ref (ca 0), .ref (na 0), .int (si 3), .int (si 4)]))] : va_W) ++ (rmW k xa rm ++ (rmW k tr q9 ++ (RU k ra rz)))))) hP hD (q_from [([((xo 0), .inr (6, [.ref (ta 0), .ref xr, .int (xi 2), .ref (sa 0), .ref xm, .ref xg, .ref (tr 0), .ref xs, .ref xp, .ref xq, .ref xe, .ref xt]))] : va_W), ([(xr, hcR k 6 xrr)] : va_W), ([((sa 0), .inr (4, [.ref (xa 0), .ref (ca 0), .ref (na 0), .int (si 3), .int (si 4)]))] : va_W), rmW k xa rm, rmW k tr q9, RU k ra rz] [0, 1, 2, 5] [4, 3] [0, 1, 2, 3, 4, 5] (by decide +kernel))
        refine lv_iconst (v := 0) hx hb dX8_falls_43 (by decide) ?_
        refine lv_istore_n (lv' := [(3, .int 0), (2, va_rf (rAd ra q8)), (0, .ref (xo 0)), (1, .int x1)]) hx hb dX8_falls_44 rfl hl (by decide) (by cases rAd ra q8 <;> rfl) (fun ls hl => ?_)
        exact C45 _ _ _ _ _ h _ _ _ hP hD hS (lv_sub hl [2, 3, 1, 0] rfl)
      · have h := fw_f c7 h
        exact B22 _ _ _ _ _ h hP hD hS (lv_sub hl [] rfl)
noncomputable def b_X8_watchSixty_21 (F : Nat)  (xi : Nat → Int32) (xrr : Nat → Option Nat) (si : Nat → Int32) (rm : OB)  (k21 : (Int32 × Int32 × OB × (Nat → Int32) × (Nat → OB)) → Option (OB × (Nat → Int32) × (Nat → OB))) (a21 : (Int32 × Int32 × OB × (Nat → Int32) × (Nat → OB))) : Option (OB × (Nat → Int32) × (Nat → OB)) :=
  if 60 < a21.2.1 then (some (a21.2.2.1, a21.2.2.2.1, a21.2.2.2.2)) else (if ib a21.2.1 61 then (Option.bind (f_X3_passMinute F a21.1 a21.2.2.1 a21.2.2.2.2) (fun q3 => (k21 (a21.1, (a21.2.1 + 1), q3.2.1, (upd a21.2.2.2.1 (Int32.toNatClampNeg a21.2.1) ((a21.2.2.1.1 10) ||| ((a21.2.2.1.1 11) <<< (8 &&& 31)))), q3.2.2)))) else none)
noncomputable def f_X8_watchSixty (F : Nat)   (xi : Nat → Int32) (xrr : Nat → Option Nat) (si : Nat → Int32) (rm : OB) (tm : OB) (xer : Nat → Int32) (rz : Nat → OB) : Option (OB × (Nat → Int32) × (Nat → OB)) :=
  Option.bind (f_X8_ruleInForce F xi xrr si) (fun q4 => (Option.bind (f_X3_copyFrom F tm rm) (fun q5 => (lp (b_X8_watchSixty_21 F xi xrr si rm) F (q4, 0, q5, xer, rz)))))
set_option maxHeartbeats 4000000 in
set_option maxRecDepth 100000 in
theorem c_X8_watchSixty (l : Launch) (D : va_G) (k : Nat → ClassId) (sz : Nat)  (xo : Nat → Nat) (ta : Nat → Nat) (xr : Nat) (sa : Nat → Nat) (xm : Nat) (xg : Nat) (tr : Nat → Nat) (xs : Nat) (xp : Nat) (xq : Nat) (xe : Nat) (xt : Nat) (xa : Nat → Nat) (ca : Nat → Nat) (na : Nat → Nat) (ra : Nat → Nat) (F : Nat)   (xi : Nat → Int32) (xrr : Nat → Option Nat) (si : Nat → Int32) (rm : OB) (tm : OB) (xer : Nat → Int32) (rz : Nat → OB) (hq : ∀ i, i < 6 → xrr i = some (ra (6 * i))) {res : OB × (Nat → Int32) × (Nat → OB)} (h : f_X8_watchSixty F xi xrr si rm tm xer rz = some res) : CtV l yX8_watchSixty wsX8_watchSixty (rmK 6 0 0) [.ref (xo 0)] D k sz (([((xo 0), .inr (6, [.ref (ta 0), .ref xr, .int (xi 2), .ref (sa 0), .ref xm, .ref xg, .ref (tr 0), .ref xs, .ref xp, .ref xq, .ref xe, .ref xt]))] : va_W) ++ (([(xr, hcR k 6 xrr)] : va_W) ++ (([((sa 0), .inr (4, [.ref (xa 0), .ref (ca 0), .ref (na 0), .int (si 3), .int (si 4)]))] : va_W) ++ (rmW k xa rm ++ (rmW k tr tm ++ (([(xe, hcI k 61 xer)] : va_W) ++ (RU k ra rz))))))) (fun (_ : Unit) => True) (fun _ : Unit => ([((xo 0), .inr (6, [.ref (ta 0), .ref xr, .int (xi 2), .ref (sa 0), .ref xm, .ref xg, .ref (tr 0), .ref xs, .ref xp, .ref xq, .ref xe, .ref xt]))] : va_W) ++ (([(xr, hcR k 6 xrr)] : va_W) ++ (([((sa 0), .inr (4, [.ref (xa 0), .ref (ca 0), .ref (na 0), .int (si 3), .int (si 4)]))] : va_W) ++ (rmW k xa rm ++ (rmW k tr res.1 ++ (([(xe, hcI k 61 res.2.1)] : va_W) ++ (RU k ra res.2.2))))))) 0 0 := by
  refine CtV.mk (cc := cX8_watchSixty) (maxL := 3) (ret := none) (by decide) rfl (Nat.le_of_ble_eq_true rfl) ?_
  intro p e s m below meth c A ls E hP hD hS hl
  obtain ⟨hx, hb, hr, hml, hown, hts, hlocks, hin, hG, hA⟩ := E
  have hown : s.vm.findClass RX8 = some m.cls := hown
  have in3 : ∀ w ∈ u_ws RX3 TX3 17, w ∈ wsX8_watchSixty := fun _ h => List.mem_cons_of_mem _ (List.mem_append_left _ (List.mem_append_right _ h))
  have in4 : ∀ w ∈ u_ws RX4 TX4 8, w ∈ wsX8_watchSixty := fun _ h => List.mem_cons_of_mem _ (List.mem_append_right _ h)
  have in6 : ∀ w ∈ u_ws RX6 TX6 5, w ∈ wsX8_watchSixty := fun _ h => List.mem_cons_of_mem _ (List.mem_append_left _ (List.mem_append_left _ (List.mem_append_right _ h)))
  have in8 : ∀ w ∈ u_ws RX8 TX8 12, w ∈ wsX8_watchSixty := fun _ h => List.mem_cons_of_mem _ (List.mem_append_left _ (List.mem_append_left _ (List.mem_append_left _ (List.mem_append_right _ h))))
  have hl : lv_has ls 3 [(0, .ref (xo 0))] := hl
  have B21 : ∀ a21 : (Int32 × Int32 × OB × (Nat → Int32) × (Nat → OB)), lp (b_X8_watchSixty_21 F xi xrr si rm) F a21 = some res → ∀ (H : Heap) (locs : List Loc) (ls : Array Slot), va_P D vwCl (([((xo 0), .inr (6, [.ref (ta 0), .ref xr, .int (xi 2), .ref (sa 0), .ref xm, .ref xg, .ref (tr 0), .ref xs, .ref xp, .ref xq, .ref xe, .ref xt]))] : va_W) ++ (([(xr, hcR k 6 xrr)] : va_W) ++ (([((sa 0), .inr (4, [.ref (xa 0), .ref (ca 0), .ref (na 0), .int (si 3), .int (si 4)]))] : va_W) ++ (rmW k xa rm ++ (rmW k tr a21.2.2.1 ++ (([(xe, hcI k 61 a21.2.2.2.1)] : va_W) ++ (RU k ra a21.2.2.2.2))))))) H → va_D A (([((xo 0), .inr (6, [.ref (ta 0), .ref xr, .int (xi 2), .ref (sa 0), .ref xm, .ref xg, .ref (tr 0), .ref xs, .ref xp, .ref xq, .ref xe, .ref xt]))] : va_W) ++ (([(xr, hcR k 6 xrr)] : va_W) ++ (([((sa 0), .inr (4, [.ref (xa 0), .ref (ca 0), .ref (na 0), .int (si 3), .int (si 4)]))] : va_W) ++ (rmW k xa rm ++ (rmW k tr a21.2.2.1 ++ (([(xe, hcI k 61 a21.2.2.2.1)] : va_W) ++ (RU k ra a21.2.2.2.2))))))) → va_S A s.heap H locs → lv_has ls 3 [(0, .ref (xo 0)), (1, va_rf (rAd ra a21.1)), (2, .int a21.2.1)] → W p l e (rmK 6 0 0) s m (List.toArray [.ref (xo 0)]) below meth c H locs 0 0 (MQ below (va_Qv (fun (_ : Unit) => True) (hcB D (fun _ : Unit => ([((xo 0), .inr (6, [.ref (ta 0), .ref xr, .int (xi 2), .ref (sa 0), .ref xm, .ref xg, .ref (tr 0), .ref xs, .ref xp, .ref xq, .ref xe, .ref xt]))] : va_W) ++ (([(xr, hcR k 6 xrr)] : va_W) ++ (([((sa 0), .inr (4, [.ref (xa 0), .ref (ca 0), .ref (na 0), .int (si 3), .int (si 4)]))] : va_W) ++ (rmW k xa rm ++ (rmW k tr res.1 ++ (([(xe, hcI k 61 res.2.1)] : va_W) ++ (RU k ra res.2.2))))))) A) A) (List.toArray [.ref (xo 0)]) s 0 0 A) (F0 m 21 ls []) := by
    refine lp_W ?_ F
    intro k21 hk21 a21 h H locs ls hP hD hS hl
    have hc21 : ∀ (v1 : Int32) (v2 : Int32) (tm : OB) (xer : Nat → Int32) (rz : Nat → OB), k21 (v1, v2, tm, xer, rz) = some res → ∀ (H : Heap) (locs : List Loc) (ls : Array Slot), va_P D vwCl (([((xo 0), .inr (6, [.ref (ta 0), .ref xr, .int (xi 2), .ref (sa 0), .ref xm, .ref xg, .ref (tr 0), .ref xs, .ref xp, .ref xq, .ref xe, .ref xt]))] : va_W) ++ (([(xr, hcR k 6 xrr)] : va_W) ++ (([((sa 0), .inr (4, [.ref (xa 0), .ref (ca 0), .ref (na 0), .int (si 3), .int (si 4)]))] : va_W) ++ (rmW k xa rm ++ (rmW k tr tm ++ (([(xe, hcI k 61 xer)] : va_W) ++ (RU k ra rz))))))) H → va_D A (([((xo 0), .inr (6, [.ref (ta 0), .ref xr, .int (xi 2), .ref (sa 0), .ref xm, .ref xg, .ref (tr 0), .ref xs, .ref xp, .ref xq, .ref xe, .ref xt]))] : va_W) ++ (([(xr, hcR k 6 xrr)] : va_W) ++ (([((sa 0), .inr (4, [.ref (xa 0), .ref (ca 0), .ref (na 0), .int (si 3), .int (si 4)]))] : va_W) ++ (rmW k xa rm ++ (rmW k tr tm ++ (([(xe, hcI k 61 xer)] : va_W) ++ (RU k ra rz))))))) → va_S A s.heap H locs → lv_has ls 3 [(0, .ref (xo 0)), (1, va_rf (rAd ra v1)), (2, .int v2)] → W p l e (rmK 6 0 0) s m (List.toArray [.ref (xo 0)]) below meth c H locs 0 0 (MQ below (va_Qv (fun (_ : Unit) => True) (hcB D (fun _ : Unit => ([((xo 0), .inr (6, [.ref (ta 0), .ref xr, .int (xi 2), .ref (sa 0), .ref xm, .ref xg, .ref (tr 0), .ref xs, .ref xp, .ref xq, .ref xe, .ref xt]))] : va_W) ++ (([(xr, hcR k 6 xrr)] : va_W) ++ (([((sa 0), .inr (4, [.ref (xa 0), .ref (ca 0), .ref (na 0), .int (si 3), .int (si 4)]))] : va_W) ++ (rmW k xa rm ++ (rmW k tr res.1 ++ (([(xe, hcI k 61 res.2.1)] : va_W) ++ (RU k ra res.2.2))))))) A) A) (List.toArray [.ref (xo 0)]) s 0 0 A) (F0 m 21 ls []) := fun v1 v2 tm xer rz => hk21 (v1, v2, tm, xer, rz)
    refine lv_iload_n hx hb dX8_watchSixty_21 rfl (lv_at hl 2 rfl) ?_
    refine lv_bipush (v := 60) hx hb dX8_watchSixty_22 (by decide) ?_
    refine lv_icmp_gt (tgt := 66) hx hb dX8_watchSixty_24 (by decide) (fun c1 => ?_) (fun c1 => ?_)
    · have h := fw_t c1 h
      exact fw_endV (wp := fun b : OB × (Nat → Int32) × (Nat → OB) => ([((xo 0), .inr (6, [.ref (ta 0), .ref xr, .int (xi 2), .ref (sa 0), .ref xm, .ref xg, .ref (tr 0), .ref xs, .ref xp, .ref xq, .ref xe, .ref xt]))] : va_W) ++ (([(xr, hcR k 6 xrr)] : va_W) ++ (([((sa 0), .inr (4, [.ref (xa 0), .ref (ca 0), .ref (na 0), .int (si 3), .int (si 4)]))] : va_W) ++ (rmW k xa rm ++ (rmW k tr b.1 ++ (([(xe, hcI k 61 b.2.1)] : va_W) ++ (RU k ra b.2.2))))))) hx hb hr hlocks h hP hD hS dX8_watchSixty_66
    · have h := fw_f c1 h
      refine lv_aload_n hx hb dX8_watchSixty_27 rfl (lv_at hl 0 rfl) ?_
      refine va_get (D := D) (ci := 6) (v := .ref xe) (C := RX8) (T := TX8) (N := 12) hx hb hts in8 hown hG.1 hP 0 rfl rfl 10 (by decide) (hts (.fieldLink RX8 58 "ChairCane" "seen" "[I") (mem_b bq_wsX8_watchSixty 0 3 rfl)) (fun _ h9 => h9) rfl dX8_watchSixty_28 ?_
      refine lv_iload_n hx hb dX8_watchSixty_31 rfl (lv_at hl 2 rfl) ?_
      refine lv_aload_n hx hb dX8_watchSixty_32 rfl (lv_at hl 0 rfl) ?_
      refine va_get (D := D) (ci := 6) (v := .ref (tr 0)) (C := RX8) (T := TX8) (N := 12) hx hb hts in8 hown hG.1 hP 0 rfl rfl 6 (by decide) (hts (.fieldLink RX8 44 "ChairCane" "trial" "LChairCane$Room;") (mem_b bq_wsX8_watchSixty 0 0 rfl)) (fun _ h9 => h9) rfl dX8_watchSixty_33 ?_
      refine va_get (D := D) (ci := 2) (v := .int (a21.2.2.1.1 10)) (C := RX3) (T := TX3) (N := 17) hx hb hts in3 hown hG.1 hP 12 rfl rfl 10 (by decide) (hts (.fieldLink RX8 200 "ChairCane$Room" "sits" "I") (mem_b bq_wsX8_watchSixty 0 4 rfl)) (fun _ h9 => h9) rfl dX8_watchSixty_36 ?_
      refine lv_aload_n hx hb dX8_watchSixty_39 rfl (lv_at hl 0 rfl) ?_
      refine va_get (D := D) (ci := 6) (v := .ref (tr 0)) (C := RX8) (T := TX8) (N := 12) hx hb hts in8 hown hG.1 hP 0 rfl rfl 6 (by decide) (hts (.fieldLink RX8 44 "ChairCane" "trial" "LChairCane$Room;") (mem_b bq_wsX8_watchSixty 0 0 rfl)) (fun _ h9 => h9) rfl dX8_watchSixty_40 ?_
      refine va_get (D := D) (ci := 2) (v := .int (a21.2.2.1.1 11)) (C := RX3) (T := TX3) (N := 17) hx hb hts in3 hown hG.1 hP 12 rfl rfl 11 (by decide) (hts (.fieldLink RX8 179 "ChairCane$Room" "dropped" "I") (mem_b bq_wsX8_watchSixty 0 5 rfl)) (fun _ h9 => h9) rfl dX8_watchSixty_43 ?_
      refine lv_bipush (v := 8) hx hb dX8_watchSixty_46 (by decide) ?_
      refine lv_ishl hx hb dX8_watchSixty_48 ?_
      refine lv_ior hx hb dX8_watchSixty_49 ?_
      obtain ⟨g2, h⟩ := fw_g h
      refine va_iast hx hb hG.1 hP hD hS 21 0 rfl rfl (ib_vp g2) dX8_watchSixty_50 (fun H locs hP hD hS => ?_)
      refine lv_aload_n hx hb dX8_watchSixty_51 rfl (lv_at hl 0 rfl) ?_
      refine va_get (D := D) (ci := 6) (v := .ref (tr 0)) (C := RX8) (T := TX8) (N := 12) hx hb hts in8 hown hG.1 hP 0 rfl rfl 6 (by decide) (hts (.fieldLink RX8 44 "ChairCane" "trial" "LChairCane$Room;") (mem_b bq_wsX8_watchSixty 0 0 rfl)) (fun _ h9 => h9) rfl dX8_watchSixty_52 ?_
      refine lv_aload_nO hx hb dX8_watchSixty_55 rfl (lv_at hl 1 rfl) ?_
      obtain ⟨hP, hD⟩ := cv (w' := ([((xo 0), .inr (6, [.ref (ta 0), .ref xr, .int (xi 2), .ref (sa 0), .ref xm, .ref xg, .ref (tr 0), .ref xs, .ref xp, .ref xq, .ref xe, .ref xt]))] : va_W) ++ (([(xr, hcR k 6 xrr)] : va_W) ++ (([((sa 0), .inr (4, [.ref (xa 0), .ref (ca 0), .ref (na 0), .int (si 3), .int (si 4)]))] : va_W) ++ (rmW k xa rm ++ (rmW k tr a21.2.2.1 ++ (([(xe, hcI k 61 (upd a21.2.2.2.1 (Int32.toNatClampNeg a21.2.1) ((a21.2.2.1.1 10) ||| ((a21.2.2.1.1 11) <<< (8 &&& 31)))))] : va_W) ++ (RU k ra a21.2.2.2.2))))))) hP hD rfl
      obtain ⟨hP, hD⟩ := qm hP hD (q_to [([((xo 0), .inr (6, [.ref (ta 0), .ref xr, .int (xi 2), .ref (sa 0), .ref xm, .ref xg, .ref (tr 0), .ref xs, .ref xp, .ref xq, .ref xe, .ref xt]))] : va_W), ([(xr, hcR k 6 xrr)] : va_W), ([((sa 0), .inr (4, [.ref (xa 0), .ref (ca 0), .ref (na 0), .int (si 3), .int (si 4)]))] : va_W), rmW k xa rm, rmW k tr a21.2.2.1, ([(xe, hcI k 61 (upd a21.2.2.2.1 (Int32.toNatClampNeg a21.2.1) ((a21.2.2.1.1 10) ||| ((a21.2.2.1.1 11) <<< (8 &&& 31)))))] : va_W), RU k ra a21.2.2.2.2] [0, 1, 2, 3, 4, 5, 6] [4, 6] [0, 1, 2, 3, 5] (by decide +kernel))
      refine fw_Vi (As := [va_rf (rAd ra a21.1)]) (rest := []) (n := 1) (rv := fun b : Int32 × OB × (Nat → OB) => b.1) (wp := fun b : Int32 × OB × (Nat → OB) => rmW k tr b.2.1 ++ (RU k ra b.2.2)) h hx hb hml hown hts hG hA hP hD hS hl.1 _ _ (fun q hq9 => c_X3_passMinute l D k _  tr ra F a21.1 a21.2.2.1 a21.2.2.2.2  hq9) (ci := 2) (q0 := 0) rfl rfl gX8_watchSixty_X3_passMinute rfl ⟨rfl, rfl, Nat.le_of_ble_eq_true rfl, Nat.le_of_ble_eq_true rfl⟩ (by decide +kernel) (q_l _ _) (q_r _ _) (q_nd _ _) ⟨rfl, rfl, Nat.le_of_ble_eq_true rfl, Nat.le_of_ble_eq_true rfl, Nat.le_of_ble_eq_true rfl⟩ dX8_watchSixty_56 (fun q3 H locs h hP hD hS => ?_)
      obtain ⟨hP, hD⟩ := qm (w2 := ([((xo 0), .inr (6, [.ref (ta 0), .ref xr, .int (xi 2), .ref (sa 0), .ref xm, .ref xg, .ref (tr 0), .ref xs, .ref xp, .ref xq, .ref xe, .ref xt]))] : va_W) ++ (([(xr, hcR k 6 xrr)] : va_W) ++ (([((sa 0), .inr (4, [.ref (xa 0), .ref (ca 0), .ref (na 0), .int (si 3), .int (si 4)]))] : va_W) ++ (rmW k xa rm ++ (rmW k tr q3.2.1 ++ (([(xe, hcI k 61 (upd a21.2.2.2.1 (Int32.toNatClampNeg a21.2.1) ((a21.2.2.1.1 10) ||| ((a21.2.2.1.1 11) <<< (8 &&& 31)))))] : va_W) ++ (RU k ra q3.2.2))))))) hP hD (q_from [([((xo 0), .inr (6, [.ref (ta 0), .ref xr, .int (xi 2), .ref (sa 0), .ref xm, .ref xg, .ref (tr 0), .ref xs, .ref xp, .ref xq, .ref xe, .ref xt]))] : va_W), ([(xr, hcR k 6 xrr)] : va_W), ([((sa 0), .inr (4, [.ref (xa 0), .ref (ca 0), .ref (na 0), .int (si 3), .int (si 4)]))] : va_W), rmW k xa rm, rmW k tr q3.2.1, ([(xe, hcI k 61 (upd a21.2.2.2.1 (Int32.toNatClampNeg a21.2.1) ((a21.2.2.1.1 10) ||| ((a21.2.2.1.1 11) <<< (8 &&& 31)))))] : va_W), RU k ra q3.2.2] [0, 1, 2, 3, 5] [4, 6] [0, 1, 2, 3, 4, 5, 6] (by decide +kernel))
      refine hc_is (z := q3.1) rfl ?_
      refine lv_pop hx hb dX8_watchSixty_59 rfl ?_
      refine lv_iinc (v := (a21.2.1 + 1)) (lv' := [(2, .int (a21.2.1 + 1)), (0, .ref (xo 0)), (1, va_rf (rAd ra a21.1))]) hx hb dX8_watchSixty_60 hl (k := 2) rfl rfl (by decide) (by cases rAd ra a21.1 <;> rfl) (fun ls hl => ?_)
      refine lv_goto (tgt := 21) hx hb dX8_watchSixty_63 (by decide) ?_
      exact hc21 _ _ _ _ _ h _ _ _ hP hD hS (lv_sub hl [1, 2, 0] rfl)
  have C21 : ∀ (v1 : Int32) (v2 : Int32) (tm : OB) (xer : Nat → Int32) (rz : Nat → OB), lp (b_X8_watchSixty_21 F xi xrr si rm) F (v1, v2, tm, xer, rz) = some res → ∀ (H : Heap) (locs : List Loc) (ls : Array Slot), va_P D vwCl (([((xo 0), .inr (6, [.ref (ta 0), .ref xr, .int (xi 2), .ref (sa 0), .ref xm, .ref xg, .ref (tr 0), .ref xs, .ref xp, .ref xq, .ref xe, .ref xt]))] : va_W) ++ (([(xr, hcR k 6 xrr)] : va_W) ++ (([((sa 0), .inr (4, [.ref (xa 0), .ref (ca 0), .ref (na 0), .int (si 3), .int (si 4)]))] : va_W) ++ (rmW k xa rm ++ (rmW k tr tm ++ (([(xe, hcI k 61 xer)] : va_W) ++ (RU k ra rz))))))) H → va_D A (([((xo 0), .inr (6, [.ref (ta 0), .ref xr, .int (xi 2), .ref (sa 0), .ref xm, .ref xg, .ref (tr 0), .ref xs, .ref xp, .ref xq, .ref xe, .ref xt]))] : va_W) ++ (([(xr, hcR k 6 xrr)] : va_W) ++ (([((sa 0), .inr (4, [.ref (xa 0), .ref (ca 0), .ref (na 0), .int (si 3), .int (si 4)]))] : va_W) ++ (rmW k xa rm ++ (rmW k tr tm ++ (([(xe, hcI k 61 xer)] : va_W) ++ (RU k ra rz))))))) → va_S A s.heap H locs → lv_has ls 3 [(0, .ref (xo 0)), (1, va_rf (rAd ra v1)), (2, .int v2)] → W p l e (rmK 6 0 0) s m (List.toArray [.ref (xo 0)]) below meth c H locs 0 0 (MQ below (va_Qv (fun (_ : Unit) => True) (hcB D (fun _ : Unit => ([((xo 0), .inr (6, [.ref (ta 0), .ref xr, .int (xi 2), .ref (sa 0), .ref xm, .ref xg, .ref (tr 0), .ref xs, .ref xp, .ref xq, .ref xe, .ref xt]))] : va_W) ++ (([(xr, hcR k 6 xrr)] : va_W) ++ (([((sa 0), .inr (4, [.ref (xa 0), .ref (ca 0), .ref (na 0), .int (si 3), .int (si 4)]))] : va_W) ++ (rmW k xa rm ++ (rmW k tr res.1 ++ (([(xe, hcI k 61 res.2.1)] : va_W) ++ (RU k ra res.2.2))))))) A) A) (List.toArray [.ref (xo 0)]) s 0 0 A) (F0 m 21 ls []) := fun v1 v2 tm xer rz => B21 (v1, v2, tm, xer, rz)
  refine lv_aload_n hx hb dX8_watchSixty_0 rfl (lv_at hl 0 rfl) ?_
  obtain ⟨hP, hD⟩ := qm hP hD (q_to [([((xo 0), .inr (6, [.ref (ta 0), .ref xr, .int (xi 2), .ref (sa 0), .ref xm, .ref xg, .ref (tr 0), .ref xs, .ref xp, .ref xq, .ref xe, .ref xt]))] : va_W), ([(xr, hcR k 6 xrr)] : va_W), ([((sa 0), .inr (4, [.ref (xa 0), .ref (ca 0), .ref (na 0), .int (si 3), .int (si 4)]))] : va_W), rmW k xa rm, rmW k tr tm, ([(xe, hcI k 61 xer)] : va_W), RU k ra rz] [0, 1, 2, 3, 4, 5, 6] [0, 1, 2] [3, 4, 5, 6] (by decide +kernel))
  refine fw_Vq (As := []) (rest := []) (n := 0) (rv := fun b : Int32 => rAd ra b) (wp := fun b : Int32 => ([((xo 0), .inr (6, [.ref (ta 0), .ref xr, .int (xi 2), .ref (sa 0), .ref xm, .ref xg, .ref (tr 0), .ref xs, .ref xp, .ref xq, .ref xe, .ref xt]))] : va_W) ++ (([(xr, hcR k 6 xrr)] : va_W) ++ (([((sa 0), .inr (4, [.ref (xa 0), .ref (ca 0), .ref (na 0), .int (si 3), .int (si 4)]))] : va_W)))) h hx hb hml hown hts hG hA hP hD hS hl.1 _ _ (fun q hq9 => c_X8_ruleInForce l D k _  xo ta xr sa xm xg tr xs xp xq xe xt xa ca na ra F  xi xrr si hq hq9) (ci := 6) (q0 := 0) rfl rfl gX8_watchSixty_X8_ruleInForce rfl ⟨rfl, rfl, Nat.le_of_ble_eq_true rfl, Nat.le_of_ble_eq_true rfl⟩ (by decide +kernel) (q_l _ _) (q_r _ _) (q_nd _ _) ⟨rfl, rfl, Nat.le_of_ble_eq_true rfl, Nat.le_of_ble_eq_true rfl, Nat.le_of_ble_eq_true rfl⟩ dX8_watchSixty_1 (fun q4 H locs h hP hD hS => ?_)
  obtain ⟨hP, hD⟩ := qm (w2 := ([((xo 0), .inr (6, [.ref (ta 0), .ref xr, .int (xi 2), .ref (sa 0), .ref xm, .ref xg, .ref (tr 0), .ref xs, .ref xp, .ref xq, .ref xe, .ref xt]))] : va_W) ++ (([(xr, hcR k 6 xrr)] : va_W) ++ (([((sa 0), .inr (4, [.ref (xa 0), .ref (ca 0), .ref (na 0), .int (si 3), .int (si 4)]))] : va_W) ++ (rmW k xa rm ++ (rmW k tr tm ++ (([(xe, hcI k 61 xer)] : va_W) ++ (RU k ra rz))))))) hP hD (q_from [([((xo 0), .inr (6, [.ref (ta 0), .ref xr, .int (xi 2), .ref (sa 0), .ref xm, .ref xg, .ref (tr 0), .ref xs, .ref xp, .ref xq, .ref xe, .ref xt]))] : va_W), ([(xr, hcR k 6 xrr)] : va_W), ([((sa 0), .inr (4, [.ref (xa 0), .ref (ca 0), .ref (na 0), .int (si 3), .int (si 4)]))] : va_W), rmW k xa rm, rmW k tr tm, ([(xe, hcI k 61 xer)] : va_W), RU k ra rz] [3, 4, 5, 6] [0, 1, 2] [0, 1, 2, 3, 4, 5, 6] (by decide +kernel))
  refine hc_isV (z := va_rf (rAd ra q4)) rfl ?_
  refine lv_astore_nO (lv' := [(1, va_rf (rAd ra q4)), (0, .ref (xo 0))]) hx hb dX8_watchSixty_4 rfl hl (by decide) (by cases rAd ra q4 <;> rfl) (fun ls hl => ?_)
  refine lv_aload_n hx hb dX8_watchSixty_5 rfl (lv_at hl 1 rfl) ?_
  refine va_get (D := D) (ci := 6) (v := .ref (tr 0)) (C := RX8) (T := TX8) (N := 12) hx hb hts in8 hown hG.1 hP 0 rfl rfl 6 (by decide) (hts (.fieldLink RX8 44 "ChairCane" "trial" "LChairCane$Room;") (mem_b bq_wsX8_watchSixty 0 0 rfl)) (fun _ h9 => h9) rfl dX8_watchSixty_6 ?_
  refine lv_aload_n hx hb dX8_watchSixty_9 rfl (lv_at hl 1 rfl) ?_
  refine va_get (D := D) (ci := 6) (v := .ref (sa 0)) (C := RX8) (T := TX8) (N := 12) hx hb hts in8 hown hG.1 hP 0 rfl rfl 3 (by decide) (hts (.fieldLink RX8 29 "ChairCane" "now" "LChairCane$Standing;") (mem_b bq_wsX8_watchSixty 0 1 rfl)) (fun _ h9 => h9) rfl dX8_watchSixty_10 ?_
  refine va_get (D := D) (ci := 4) (v := .ref (xa 0)) (C := RX6) (T := TX6) (N := 5) hx hb hts in6 hown hG.1 hP 2 rfl rfl 0 (by decide) (hts (.fieldLink RX8 81 "ChairCane$Standing" "room" "LChairCane$Room;") (mem_b bq_wsX8_watchSixty 0 2 rfl)) (fun _ h9 => h9) rfl dX8_watchSixty_13 ?_
  obtain ⟨hP, hD⟩ := qm hP hD (q_to [([((xo 0), .inr (6, [.ref (ta 0), .ref xr, .int (xi 2), .ref (sa 0), .ref xm, .ref xg, .ref (tr 0), .ref xs, .ref xp, .ref xq, .ref xe, .ref xt]))] : va_W), ([(xr, hcR k 6 xrr)] : va_W), ([((sa 0), .inr (4, [.ref (xa 0), .ref (ca 0), .ref (na 0), .int (si 3), .int (si 4)]))] : va_W), rmW k xa rm, rmW k tr tm, ([(xe, hcI k 61 xer)] : va_W), RU k ra rz] [0, 1, 2, 3, 4, 5, 6] [4, 3] [0, 1, 2, 5, 6] (by decide +kernel))
  refine fw_Vv (As := [.ref (xa 0)]) (rest := []) (n := 1) (wp := fun b : OB => rmW k tr b ++ (rmW k xa rm)) h hx hb hml hown hts hG hA hP hD hS hl.1 _ _ (fun q hq9 => c_X3_copyFrom l D k _  tr xa F  tm rm  hq9) (ci := 2) (q0 := 0) rfl rfl gX8_watchSixty_X3_copyFrom rfl ⟨rfl, rfl, Nat.le_of_ble_eq_true rfl, Nat.le_of_ble_eq_true rfl⟩ (by decide +kernel) (q_l _ _) (q_r _ _) (q_nd _ _) ⟨rfl, rfl, Nat.le_of_ble_eq_true rfl, Nat.le_of_ble_eq_true rfl, Nat.le_of_ble_eq_true rfl⟩ dX8_watchSixty_16 (fun q5 H locs h hP hD hS => ?_)
  obtain ⟨hP, hD⟩ := qm (w2 := ([((xo 0), .inr (6, [.ref (ta 0), .ref xr, .int (xi 2), .ref (sa 0), .ref xm, .ref xg, .ref (tr 0), .ref xs, .ref xp, .ref xq, .ref xe, .ref xt]))] : va_W) ++ (([(xr, hcR k 6 xrr)] : va_W) ++ (([((sa 0), .inr (4, [.ref (xa 0), .ref (ca 0), .ref (na 0), .int (si 3), .int (si 4)]))] : va_W) ++ (rmW k xa rm ++ (rmW k tr q5 ++ (([(xe, hcI k 61 xer)] : va_W) ++ (RU k ra rz))))))) hP hD (q_from [([((xo 0), .inr (6, [.ref (ta 0), .ref xr, .int (xi 2), .ref (sa 0), .ref xm, .ref xg, .ref (tr 0), .ref xs, .ref xp, .ref xq, .ref xe, .ref xt]))] : va_W), ([(xr, hcR k 6 xrr)] : va_W), ([((sa 0), .inr (4, [.ref (xa 0), .ref (ca 0), .ref (na 0), .int (si 3), .int (si 4)]))] : va_W), rmW k xa rm, rmW k tr q5, ([(xe, hcI k 61 xer)] : va_W), RU k ra rz] [0, 1, 2, 5, 6] [4, 3] [0, 1, 2, 3, 4, 5, 6] (by decide +kernel))
  refine lv_iconst (v := 0) hx hb dX8_watchSixty_19 (by decide) ?_
  refine lv_istore_n (lv' := [(2, .int 0), (1, va_rf (rAd ra q4)), (0, .ref (xo 0))]) hx hb dX8_watchSixty_20 rfl hl (by decide) (by cases rAd ra q4 <;> rfl) (fun ls hl => ?_)
  exact C21 _ _ _ _ _ h _ _ _ hP hD hS (lv_sub hl [2, 1, 0] rfl)
noncomputable def b_X8_ring_22 (F : Nat)  (xi : Nat → Int32) (xrr : Nat → Option Nat) (si : Nat → Int32) (rm : OB)  (tm : OB) (xer : Nat → Int32) (rz : Nat → OB) : Option (Int32 × OB × (Nat → Int32) × (Nat → OB)) :=
  some ((-1), tm, xer, rz)
noncomputable def b_X8_ring_83 (F : Nat)  (xi : Nat → Int32) (xrr : Nat → Option Nat) (si : Nat → Int32) (rm : OB)  (y0 : Int32) (tm : OB) (xer : Nat → Int32) (rz : Nat → OB) : Option (Int32 × OB × (Nat → Int32) × (Nat → OB)) :=
  some (y0, tm, xer, rz)
noncomputable def b_X8_ring_40 (F : Nat)  (xi : Nat → Int32) (xrr : Nat → Option Nat) (si : Nat → Int32) (rm : OB) (k30 : (Int32 × Int32 × OB × (Nat → Int32) × (Nat → OB)) → Option (Int32 × OB × (Nat → Int32) × (Nat → OB))) (k40 : (Int32 × Int32 × Int32 × OB × (Nat → Int32) × (Nat → OB)) → Option (Int32 × OB × (Nat → Int32) × (Nat → OB))) (a40 : (Int32 × Int32 × Int32 × OB × (Nat → Int32) × (Nat → OB))) : Option (Int32 × OB × (Nat → Int32) × (Nat → OB)) :=
  if 60 < a40.2.2.1 then (k30 (a40.1, (a40.2.1 + 1), a40.2.2.2.1, a40.2.2.2.2.1, a40.2.2.2.2.2)) else (if ib a40.2.1 61 then (if ib a40.2.2.1 61 then (if (a40.2.2.2.2.1 (Int32.toNatClampNeg a40.2.1)) = (a40.2.2.2.2.1 (Int32.toNatClampNeg a40.2.2.1)) then (if a40.1 = 0 then (b_X8_ring_83 F xi xrr si rm ((rm.1 12) + a40.2.1) a40.2.2.2.1 a40.2.2.2.2.1 a40.2.2.2.2.2) else (b_X8_ring_83 F xi xrr si rm (a40.2.2.1 - a40.2.1) a40.2.2.2.1 a40.2.2.2.2.1 a40.2.2.2.2.2)) else (k40 (a40.1, a40.2.1, (a40.2.2.1 + 1), a40.2.2.2.1, a40.2.2.2.2.1, a40.2.2.2.2.2))) else none) else none)
noncomputable def b_X8_ring_30 (F : Nat)  (xi : Nat → Int32) (xrr : Nat → Option Nat) (si : Nat → Int32) (rm : OB)  (k30 : (Int32 × Int32 × OB × (Nat → Int32) × (Nat → OB)) → Option (Int32 × OB × (Nat → Int32) × (Nat → OB))) (a30 : (Int32 × Int32 × OB × (Nat → Int32) × (Nat → OB))) : Option (Int32 × OB × (Nat → Int32) × (Nat → OB)) :=
  if 60 ≤ a30.2.1 then (some ((-2), a30.2.2.1, a30.2.2.2.1, a30.2.2.2.2)) else (lp (b_X8_ring_40 F xi xrr si rm k30) F (a30.1, a30.2.1, (a30.2.1 + 1), a30.2.2.1, a30.2.2.2.1, a30.2.2.2.2))
noncomputable def f_X8_ring (F : Nat)  (x1 : Int32) (xi : Nat → Int32) (xrr : Nat → Option Nat) (si : Nat → Int32) (rm : OB) (tm : OB) (xer : Nat → Int32) (rz : Nat → OB) : Option (Int32 × OB × (Nat → Int32) × (Nat → OB)) :=
  if (rm.1 0) = 0 then (b_X8_ring_22 F xi xrr si rm tm xer rz) else (if x1 < 0 then (b_X8_ring_22 F xi xrr si rm tm xer rz) else (if x1 ≤ 1 then (Option.bind (f_X8_watchSixty F xi xrr si rm tm xer rz) (fun q10 => (lp (b_X8_ring_30 F xi xrr si rm) F (x1, 0, q10.1, q10.2.1, q10.2.2)))) else (b_X8_ring_22 F xi xrr si rm tm xer rz)))
set_option maxHeartbeats 4000000 in
set_option maxRecDepth 100000 in
theorem c_X8_ring (l : Launch) (D : va_G) (k : Nat → ClassId) (sz : Nat)  (xo : Nat → Nat) (ta : Nat → Nat) (xr : Nat) (sa : Nat → Nat) (xm : Nat) (xg : Nat) (tr : Nat → Nat) (xs : Nat) (xp : Nat) (xq : Nat) (xe : Nat) (xt : Nat) (xa : Nat → Nat) (ca : Nat → Nat) (na : Nat → Nat) (ra : Nat → Nat) (F : Nat)  (x1 : Int32) (xi : Nat → Int32) (xrr : Nat → Option Nat) (si : Nat → Int32) (rm : OB) (tm : OB) (xer : Nat → Int32) (rz : Nat → OB) (hq : ∀ i, i < 6 → xrr i = some (ra (6 * i))) {res : Int32 × OB × (Nat → Int32) × (Nat → OB)} (h : f_X8_ring F x1 xi xrr si rm tm xer rz = some res) : CtI l yX8_ring wsX8_ring (rmK 7 0 0) [.ref (xo 0), .int x1] D k sz (([((xo 0), .inr (6, [.ref (ta 0), .ref xr, .int (xi 2), .ref (sa 0), .ref xm, .ref xg, .ref (tr 0), .ref xs, .ref xp, .ref xq, .ref xe, .ref xt]))] : va_W) ++ (([(xr, hcR k 6 xrr)] : va_W) ++ (([((sa 0), .inr (4, [.ref (xa 0), .ref (ca 0), .ref (na 0), .int (si 3), .int (si 4)]))] : va_W) ++ (rmW k xa rm ++ (rmW k tr tm ++ (([(xe, hcI k 61 xer)] : va_W) ++ (RU k ra rz))))))) (fun r (_ : Unit) => r = res.1) (fun _ : Unit => ([((xo 0), .inr (6, [.ref (ta 0), .ref xr, .int (xi 2), .ref (sa 0), .ref xm, .ref xg, .ref (tr 0), .ref xs, .ref xp, .ref xq, .ref xe, .ref xt]))] : va_W) ++ (([(xr, hcR k 6 xrr)] : va_W) ++ (([((sa 0), .inr (4, [.ref (xa 0), .ref (ca 0), .ref (na 0), .int (si 3), .int (si 4)]))] : va_W) ++ (rmW k xa rm ++ (rmW k tr res.2.1 ++ (([(xe, hcI k 61 res.2.2.1)] : va_W) ++ (RU k ra res.2.2.2))))))) 0 0 := by
  refine CtI.mk (cc := cX8_ring) (maxL := 4) (ret := (some .int)) (by decide) rfl (Nat.le_of_ble_eq_true rfl) ?_
  intro p e s m below meth c A ls E hP hD hS hl
  obtain ⟨hx, hb, hr, hml, hown, hts, hlocks, hin, hG, hA⟩ := E
  have hown : s.vm.findClass RX8 = some m.cls := hown
  have in3 : ∀ w ∈ u_ws RX3 TX3 17, w ∈ wsX8_ring := fun _ h => List.mem_cons_of_mem _ (List.mem_append_left _ (List.mem_append_right _ h))
  have in4 : ∀ w ∈ u_ws RX4 TX4 8, w ∈ wsX8_ring := fun _ h => List.mem_cons_of_mem _ (List.mem_append_right _ h)
  have in6 : ∀ w ∈ u_ws RX6 TX6 5, w ∈ wsX8_ring := fun _ h => List.mem_cons_of_mem _ (List.mem_append_left _ (List.mem_append_left _ (List.mem_append_right _ h)))
  have in8 : ∀ w ∈ u_ws RX8 TX8 12, w ∈ wsX8_ring := fun _ h => List.mem_cons_of_mem _ (List.mem_append_left _ (List.mem_append_left _ (List.mem_append_left _ (List.mem_append_right _ h))))
  have hl : lv_has ls 4 [(0, .ref (xo 0)), (1, .int x1)] := hl
  have B22 : ∀ (tm : OB) (xer : Nat → Int32) (rz : Nat → OB) (H : Heap) (locs : List Loc) (ls : Array Slot), b_X8_ring_22 F xi xrr si rm tm xer rz = some res → va_P D vwCl (([((xo 0), .inr (6, [.ref (ta 0), .ref xr, .int (xi 2), .ref (sa 0), .ref xm, .ref xg, .ref (tr 0), .ref xs, .ref xp, .ref xq, .ref xe, .ref xt]))] : va_W) ++ (([(xr, hcR k 6 xrr)] : va_W) ++ (([((sa 0), .inr (4, [.ref (xa 0), .ref (ca 0), .ref (na 0), .int (si 3), .int (si 4)]))] : va_W) ++ (rmW k xa rm ++ (rmW k tr tm ++ (([(xe, hcI k 61 xer)] : va_W) ++ (RU k ra rz))))))) H → va_D A (([((xo 0), .inr (6, [.ref (ta 0), .ref xr, .int (xi 2), .ref (sa 0), .ref xm, .ref xg, .ref (tr 0), .ref xs, .ref xp, .ref xq, .ref xe, .ref xt]))] : va_W) ++ (([(xr, hcR k 6 xrr)] : va_W) ++ (([((sa 0), .inr (4, [.ref (xa 0), .ref (ca 0), .ref (na 0), .int (si 3), .int (si 4)]))] : va_W) ++ (rmW k xa rm ++ (rmW k tr tm ++ (([(xe, hcI k 61 xer)] : va_W) ++ (RU k ra rz))))))) → va_S A s.heap H locs → lv_has ls 4 [] → W p l e (rmK 7 0 0) s m (List.toArray [.ref (xo 0), .int x1]) below meth c H locs 0 0 (MQ below (va_Qi (fun r (_ : Unit) => r = res.1) (hcB D (fun _ : Unit => ([((xo 0), .inr (6, [.ref (ta 0), .ref xr, .int (xi 2), .ref (sa 0), .ref xm, .ref xg, .ref (tr 0), .ref xs, .ref xp, .ref xq, .ref xe, .ref xt]))] : va_W) ++ (([(xr, hcR k 6 xrr)] : va_W) ++ (([((sa 0), .inr (4, [.ref (xa 0), .ref (ca 0), .ref (na 0), .int (si 3), .int (si 4)]))] : va_W) ++ (rmW k xa rm ++ (rmW k tr res.2.1 ++ (([(xe, hcI k 61 res.2.2.1)] : va_W) ++ (RU k ra res.2.2.2))))))) A) A) (List.toArray [.ref (xo 0), .int x1]) s 0 0 A) (F0 m 22 ls []) := by
    intro tm xer rz H locs ls h hP hD hS hl
    refine lv_iconst (v := (-1)) hx hb dX8_ring_22 (by decide) ?_
    exact fw_endI (rv := fun b : Int32 × OB × (Nat → Int32) × (Nat → OB) => b.1) (wp := fun b : Int32 × OB × (Nat → Int32) × (Nat → OB) => ([((xo 0), .inr (6, [.ref (ta 0), .ref xr, .int (xi 2), .ref (sa 0), .ref xm, .ref xg, .ref (tr 0), .ref xs, .ref xp, .ref xq, .ref xe, .ref xt]))] : va_W) ++ (([(xr, hcR k 6 xrr)] : va_W) ++ (([((sa 0), .inr (4, [.ref (xa 0), .ref (ca 0), .ref (na 0), .int (si 3), .int (si 4)]))] : va_W) ++ (rmW k xa rm ++ (rmW k tr b.2.1 ++ (([(xe, hcI k 61 b.2.2.1)] : va_W) ++ (RU k ra b.2.2.2))))))) hx hb hr hlocks h rfl hP hD hS dX8_ring_23
  have B83 : ∀ (y0 : Int32) (tm : OB) (xer : Nat → Int32) (rz : Nat → OB) (H : Heap) (locs : List Loc) (ls : Array Slot), b_X8_ring_83 F xi xrr si rm y0 tm xer rz = some res → va_P D vwCl (([((xo 0), .inr (6, [.ref (ta 0), .ref xr, .int (xi 2), .ref (sa 0), .ref xm, .ref xg, .ref (tr 0), .ref xs, .ref xp, .ref xq, .ref xe, .ref xt]))] : va_W) ++ (([(xr, hcR k 6 xrr)] : va_W) ++ (([((sa 0), .inr (4, [.ref (xa 0), .ref (ca 0), .ref (na 0), .int (si 3), .int (si 4)]))] : va_W) ++ (rmW k xa rm ++ (rmW k tr tm ++ (([(xe, hcI k 61 xer)] : va_W) ++ (RU k ra rz))))))) H → va_D A (([((xo 0), .inr (6, [.ref (ta 0), .ref xr, .int (xi 2), .ref (sa 0), .ref xm, .ref xg, .ref (tr 0), .ref xs, .ref xp, .ref xq, .ref xe, .ref xt]))] : va_W) ++ (([(xr, hcR k 6 xrr)] : va_W) ++ (([((sa 0), .inr (4, [.ref (xa 0), .ref (ca 0), .ref (na 0), .int (si 3), .int (si 4)]))] : va_W) ++ (rmW k xa rm ++ (rmW k tr tm ++ (([(xe, hcI k 61 xer)] : va_W) ++ (RU k ra rz))))))) → va_S A s.heap H locs → lv_has ls 4 [] → W p l e (rmK 7 0 0) s m (List.toArray [.ref (xo 0), .int x1]) below meth c H locs 0 0 (MQ below (va_Qi (fun r (_ : Unit) => r = res.1) (hcB D (fun _ : Unit => ([((xo 0), .inr (6, [.ref (ta 0), .ref xr, .int (xi 2), .ref (sa 0), .ref xm, .ref xg, .ref (tr 0), .ref xs, .ref xp, .ref xq, .ref xe, .ref xt]))] : va_W) ++ (([(xr, hcR k 6 xrr)] : va_W) ++ (([((sa 0), .inr (4, [.ref (xa 0), .ref (ca 0), .ref (na 0), .int (si 3), .int (si 4)]))] : va_W) ++ (rmW k xa rm ++ (rmW k tr res.2.1 ++ (([(xe, hcI k 61 res.2.2.1)] : va_W) ++ (RU k ra res.2.2.2))))))) A) A) (List.toArray [.ref (xo 0), .int x1]) s 0 0 A) (F0 m 83 ls [.int y0]) := by
    intro y0 tm xer rz H locs ls h hP hD hS hl
    exact fw_endI (rv := fun b : Int32 × OB × (Nat → Int32) × (Nat → OB) => b.1) (wp := fun b : Int32 × OB × (Nat → Int32) × (Nat → OB) => ([((xo 0), .inr (6, [.ref (ta 0), .ref xr, .int (xi 2), .ref (sa 0), .ref xm, .ref xg, .ref (tr 0), .ref xs, .ref xp, .ref xq, .ref xe, .ref xt]))] : va_W) ++ (([(xr, hcR k 6 xrr)] : va_W) ++ (([((sa 0), .inr (4, [.ref (xa 0), .ref (ca 0), .ref (na 0), .int (si 3), .int (si 4)]))] : va_W) ++ (rmW k xa rm ++ (rmW k tr b.2.1 ++ (([(xe, hcI k 61 b.2.2.1)] : va_W) ++ (RU k ra b.2.2.2))))))) hx hb hr hlocks h rfl hP hD hS dX8_ring_83
  have B30 : ∀ a30 : (Int32 × Int32 × OB × (Nat → Int32) × (Nat → OB)), lp (b_X8_ring_30 F xi xrr si rm) F a30 = some res → ∀ (H : Heap) (locs : List Loc) (ls : Array Slot), va_P D vwCl (([((xo 0), .inr (6, [.ref (ta 0), .ref xr, .int (xi 2), .ref (sa 0), .ref xm, .ref xg, .ref (tr 0), .ref xs, .ref xp, .ref xq, .ref xe, .ref xt]))] : va_W) ++ (([(xr, hcR k 6 xrr)] : va_W) ++ (([((sa 0), .inr (4, [.ref (xa 0), .ref (ca 0), .ref (na 0), .int (si 3), .int (si 4)]))] : va_W) ++ (rmW k xa rm ++ (rmW k tr a30.2.2.1 ++ (([(xe, hcI k 61 a30.2.2.2.1)] : va_W) ++ (RU k ra a30.2.2.2.2))))))) H → va_D A (([((xo 0), .inr (6, [.ref (ta 0), .ref xr, .int (xi 2), .ref (sa 0), .ref xm, .ref xg, .ref (tr 0), .ref xs, .ref xp, .ref xq, .ref xe, .ref xt]))] : va_W) ++ (([(xr, hcR k 6 xrr)] : va_W) ++ (([((sa 0), .inr (4, [.ref (xa 0), .ref (ca 0), .ref (na 0), .int (si 3), .int (si 4)]))] : va_W) ++ (rmW k xa rm ++ (rmW k tr a30.2.2.1 ++ (([(xe, hcI k 61 a30.2.2.2.1)] : va_W) ++ (RU k ra a30.2.2.2.2))))))) → va_S A s.heap H locs → lv_has ls 4 [(0, .ref (xo 0)), (1, .int a30.1), (2, .int a30.2.1)] → W p l e (rmK 7 0 0) s m (List.toArray [.ref (xo 0), .int x1]) below meth c H locs 0 0 (MQ below (va_Qi (fun r (_ : Unit) => r = res.1) (hcB D (fun _ : Unit => ([((xo 0), .inr (6, [.ref (ta 0), .ref xr, .int (xi 2), .ref (sa 0), .ref xm, .ref xg, .ref (tr 0), .ref xs, .ref xp, .ref xq, .ref xe, .ref xt]))] : va_W) ++ (([(xr, hcR k 6 xrr)] : va_W) ++ (([((sa 0), .inr (4, [.ref (xa 0), .ref (ca 0), .ref (na 0), .int (si 3), .int (si 4)]))] : va_W) ++ (rmW k xa rm ++ (rmW k tr res.2.1 ++ (([(xe, hcI k 61 res.2.2.1)] : va_W) ++ (RU k ra res.2.2.2))))))) A) A) (List.toArray [.ref (xo 0), .int x1]) s 0 0 A) (F0 m 30 ls []) := by
    refine lp_W ?_ F
    intro k30 hk30 a30 h H locs ls hP hD hS hl
    have hc30 : ∀ (v1 : Int32) (v2 : Int32) (tm : OB) (xer : Nat → Int32) (rz : Nat → OB), k30 (v1, v2, tm, xer, rz) = some res → ∀ (H : Heap) (locs : List Loc) (ls : Array Slot), va_P D vwCl (([((xo 0), .inr (6, [.ref (ta 0), .ref xr, .int (xi 2), .ref (sa 0), .ref xm, .ref xg, .ref (tr 0), .ref xs, .ref xp, .ref xq, .ref xe, .ref xt]))] : va_W) ++ (([(xr, hcR k 6 xrr)] : va_W) ++ (([((sa 0), .inr (4, [.ref (xa 0), .ref (ca 0), .ref (na 0), .int (si 3), .int (si 4)]))] : va_W) ++ (rmW k xa rm ++ (rmW k tr tm ++ (([(xe, hcI k 61 xer)] : va_W) ++ (RU k ra rz))))))) H → va_D A (([((xo 0), .inr (6, [.ref (ta 0), .ref xr, .int (xi 2), .ref (sa 0), .ref xm, .ref xg, .ref (tr 0), .ref xs, .ref xp, .ref xq, .ref xe, .ref xt]))] : va_W) ++ (([(xr, hcR k 6 xrr)] : va_W) ++ (([((sa 0), .inr (4, [.ref (xa 0), .ref (ca 0), .ref (na 0), .int (si 3), .int (si 4)]))] : va_W) ++ (rmW k xa rm ++ (rmW k tr tm ++ (([(xe, hcI k 61 xer)] : va_W) ++ (RU k ra rz))))))) → va_S A s.heap H locs → lv_has ls 4 [(0, .ref (xo 0)), (1, .int v1), (2, .int v2)] → W p l e (rmK 7 0 0) s m (List.toArray [.ref (xo 0), .int x1]) below meth c H locs 0 0 (MQ below (va_Qi (fun r (_ : Unit) => r = res.1) (hcB D (fun _ : Unit => ([((xo 0), .inr (6, [.ref (ta 0), .ref xr, .int (xi 2), .ref (sa 0), .ref xm, .ref xg, .ref (tr 0), .ref xs, .ref xp, .ref xq, .ref xe, .ref xt]))] : va_W) ++ (([(xr, hcR k 6 xrr)] : va_W) ++ (([((sa 0), .inr (4, [.ref (xa 0), .ref (ca 0), .ref (na 0), .int (si 3), .int (si 4)]))] : va_W) ++ (rmW k xa rm ++ (rmW k tr res.2.1 ++ (([(xe, hcI k 61 res.2.2.1)] : va_W) ++ (RU k ra res.2.2.2))))))) A) A) (List.toArray [.ref (xo 0), .int x1]) s 0 0 A) (F0 m 30 ls []) := fun v1 v2 tm xer rz => hk30 (v1, v2, tm, xer, rz)
    have B40 : ∀ a40 : (Int32 × Int32 × Int32 × OB × (Nat → Int32) × (Nat → OB)), lp (b_X8_ring_40 F xi xrr si rm k30) F a40 = some res → ∀ (H : Heap) (locs : List Loc) (ls : Array Slot), va_P D vwCl (([((xo 0), .inr (6, [.ref (ta 0), .ref xr, .int (xi 2), .ref (sa 0), .ref xm, .ref xg, .ref (tr 0), .ref xs, .ref xp, .ref xq, .ref xe, .ref xt]))] : va_W) ++ (([(xr, hcR k 6 xrr)] : va_W) ++ (([((sa 0), .inr (4, [.ref (xa 0), .ref (ca 0), .ref (na 0), .int (si 3), .int (si 4)]))] : va_W) ++ (rmW k xa rm ++ (rmW k tr a40.2.2.2.1 ++ (([(xe, hcI k 61 a40.2.2.2.2.1)] : va_W) ++ (RU k ra a40.2.2.2.2.2))))))) H → va_D A (([((xo 0), .inr (6, [.ref (ta 0), .ref xr, .int (xi 2), .ref (sa 0), .ref xm, .ref xg, .ref (tr 0), .ref xs, .ref xp, .ref xq, .ref xe, .ref xt]))] : va_W) ++ (([(xr, hcR k 6 xrr)] : va_W) ++ (([((sa 0), .inr (4, [.ref (xa 0), .ref (ca 0), .ref (na 0), .int (si 3), .int (si 4)]))] : va_W) ++ (rmW k xa rm ++ (rmW k tr a40.2.2.2.1 ++ (([(xe, hcI k 61 a40.2.2.2.2.1)] : va_W) ++ (RU k ra a40.2.2.2.2.2))))))) → va_S A s.heap H locs → lv_has ls 4 [(0, .ref (xo 0)), (1, .int a40.1), (2, .int a40.2.1), (3, .int a40.2.2.1)] → W p l e (rmK 7 0 0) s m (List.toArray [.ref (xo 0), .int x1]) below meth c H locs 0 0 (MQ below (va_Qi (fun r (_ : Unit) => r = res.1) (hcB D (fun _ : Unit => ([((xo 0), .inr (6, [.ref (ta 0), .ref xr, .int (xi 2), .ref (sa 0), .ref xm, .ref xg, .ref (tr 0), .ref xs, .ref xp, .ref xq, .ref xe, .ref xt]))] : va_W) ++ (([(xr, hcR k 6 xrr)] : va_W) ++ (([((sa 0), .inr (4, [.ref (xa 0), .ref (ca 0), .ref (na 0), .int (si 3), .int (si 4)]))] : va_W) ++ (rmW k xa rm ++ (rmW k tr res.2.1 ++ (([(xe, hcI k 61 res.2.2.1)] : va_W) ++ (RU k ra res.2.2.2))))))) A) A) (List.toArray [.ref (xo 0), .int x1]) s 0 0 A) (F0 m 40 ls []) := by
      refine lp_W ?_ F
      intro k40 hk40 a40 h H locs ls hP hD hS hl
      have hc40 : ∀ (v1 : Int32) (v2 : Int32) (v3 : Int32) (tm : OB) (xer : Nat → Int32) (rz : Nat → OB), k40 (v1, v2, v3, tm, xer, rz) = some res → ∀ (H : Heap) (locs : List Loc) (ls : Array Slot), va_P D vwCl (([((xo 0), .inr (6, [.ref (ta 0), .ref xr, .int (xi 2), .ref (sa 0), .ref xm, .ref xg, .ref (tr 0), .ref xs, .ref xp, .ref xq, .ref xe, .ref xt]))] : va_W) ++ (([(xr, hcR k 6 xrr)] : va_W) ++ (([((sa 0), .inr (4, [.ref (xa 0), .ref (ca 0), .ref (na 0), .int (si 3), .int (si 4)]))] : va_W) ++ (rmW k xa rm ++ (rmW k tr tm ++ (([(xe, hcI k 61 xer)] : va_W) ++ (RU k ra rz))))))) H → va_D A (([((xo 0), .inr (6, [.ref (ta 0), .ref xr, .int (xi 2), .ref (sa 0), .ref xm, .ref xg, .ref (tr 0), .ref xs, .ref xp, .ref xq, .ref xe, .ref xt]))] : va_W) ++ (([(xr, hcR k 6 xrr)] : va_W) ++ (([((sa 0), .inr (4, [.ref (xa 0), .ref (ca 0), .ref (na 0), .int (si 3), .int (si 4)]))] : va_W) ++ (rmW k xa rm ++ (rmW k tr tm ++ (([(xe, hcI k 61 xer)] : va_W) ++ (RU k ra rz))))))) → va_S A s.heap H locs → lv_has ls 4 [(0, .ref (xo 0)), (1, .int v1), (2, .int v2), (3, .int v3)] → W p l e (rmK 7 0 0) s m (List.toArray [.ref (xo 0), .int x1]) below meth c H locs 0 0 (MQ below (va_Qi (fun r (_ : Unit) => r = res.1) (hcB D (fun _ : Unit => ([((xo 0), .inr (6, [.ref (ta 0), .ref xr, .int (xi 2), .ref (sa 0), .ref xm, .ref xg, .ref (tr 0), .ref xs, .ref xp, .ref xq, .ref xe, .ref xt]))] : va_W) ++ (([(xr, hcR k 6 xrr)] : va_W) ++ (([((sa 0), .inr (4, [.ref (xa 0), .ref (ca 0), .ref (na 0), .int (si 3), .int (si 4)]))] : va_W) ++ (rmW k xa rm ++ (rmW k tr res.2.1 ++ (([(xe, hcI k 61 res.2.2.1)] : va_W) ++ (RU k ra res.2.2.2))))))) A) A) (List.toArray [.ref (xo 0), .int x1]) s 0 0 A) (F0 m 40 ls []) := fun v1 v2 v3 tm xer rz => hk40 (v1, v2, v3, tm, xer, rz)
      refine lv_iload_n hx hb dX8_ring_40 rfl (lv_at hl 3 rfl) ?_
      refine lv_bipush (v := 60) hx hb dX8_ring_41 (by decide) ?_
      refine lv_icmp_gt (tgt := 90) hx hb dX8_ring_43 (by decide) (fun c1 => ?_) (fun c1 => ?_)
      · have h := fw_t c1 h
        refine lv_iinc (v := (a40.2.1 + 1)) (lv' := [(2, .int (a40.2.1 + 1)), (0, .ref (xo 0)), (1, .int a40.1), (3, .int a40.2.2.1)]) hx hb dX8_ring_90 hl (k := 2) rfl rfl (by decide) rfl (fun ls hl => ?_)
        refine lv_goto (tgt := 30) hx hb dX8_ring_93 (by decide) ?_
        exact hc30 _ _ _ _ _ h _ _ _ hP hD hS (lv_sub hl [1, 2, 0] rfl)
      · have h := fw_f c1 h
        refine lv_aload_n hx hb dX8_ring_46 rfl (lv_at hl 0 rfl) ?_
        refine va_get (D := D) (ci := 6) (v := .ref xe) (C := RX8) (T := TX8) (N := 12) hx hb hts in8 hown hG.1 hP 0 rfl rfl 10 (by decide) (hts (.fieldLink RX8 58 "ChairCane" "seen" "[I") (mem_b bq_wsX8_ring 0 3 rfl)) (fun _ h9 => h9) rfl dX8_ring_47 ?_
        refine lv_iload_n hx hb dX8_ring_50 rfl (lv_at hl 2 rfl) ?_
        obtain ⟨g2, h⟩ := fw_g h
        refine va_iald hx hb hG.1 hP 21 0 rfl rfl (ib_vp g2) dX8_ring_51 ?_
        refine lv_aload_n hx hb dX8_ring_52 rfl (lv_at hl 0 rfl) ?_
        refine va_get (D := D) (ci := 6) (v := .ref xe) (C := RX8) (T := TX8) (N := 12) hx hb hts in8 hown hG.1 hP 0 rfl rfl 10 (by decide) (hts (.fieldLink RX8 58 "ChairCane" "seen" "[I") (mem_b bq_wsX8_ring 0 3 rfl)) (fun _ h9 => h9) rfl dX8_ring_53 ?_
        refine lv_iload_n hx hb dX8_ring_56 rfl (lv_at hl 3 rfl) ?_
        obtain ⟨g3, h⟩ := fw_g h
        refine va_iald hx hb hG.1 hP 21 0 rfl rfl (ib_vp g3) dX8_ring_57 ?_
        refine lv_icmp_ne (tgt := 84) hx hb dX8_ring_58 (by decide) (fun c4 => ?_) (fun c4 => ?_)
        · have h := fw_f c4 h
          refine lv_iinc (v := (a40.2.2.1 + 1)) (lv' := [(3, .int (a40.2.2.1 + 1)), (0, .ref (xo 0)), (1, .int a40.1), (2, .int a40.2.1)]) hx hb dX8_ring_84 hl (k := 3) rfl rfl (by decide) rfl (fun ls hl => ?_)
          refine lv_goto (tgt := 40) hx hb dX8_ring_87 (by decide) ?_
          exact hc40 _ _ _ _ _ _ h _ _ _ hP hD hS (lv_sub hl [1, 2, 3, 0] rfl)
        · have h := fw_t c4 h
          refine lv_iload_n hx hb dX8_ring_61 rfl (lv_at hl 1 rfl) ?_
          refine lv_if_ne (tgt := 80) hx hb dX8_ring_62 (by decide) (fun c5 => ?_) (fun c5 => ?_)
          · have h := fw_f c5 h
            refine lv_iload_n hx hb dX8_ring_80 rfl (lv_at hl 3 rfl) ?_
            refine lv_iload_n hx hb dX8_ring_81 rfl (lv_at hl 2 rfl) ?_
            refine lv_isub hx hb dX8_ring_82 ?_
            exact B83 _ _ _ _ _ _ _ h hP hD hS (lv_sub hl [] rfl)
          · have h := fw_t c5 h
            refine lv_aload_n hx hb dX8_ring_65 rfl (lv_at hl 0 rfl) ?_
            refine va_get (D := D) (ci := 6) (v := .ref (sa 0)) (C := RX8) (T := TX8) (N := 12) hx hb hts in8 hown hG.1 hP 0 rfl rfl 3 (by decide) (hts (.fieldLink RX8 29 "ChairCane" "now" "LChairCane$Standing;") (mem_b bq_wsX8_ring 0 0 rfl)) (fun _ h9 => h9) rfl dX8_ring_66 ?_
            refine va_get (D := D) (ci := 4) (v := .ref (xa 0)) (C := RX6) (T := TX6) (N := 5) hx hb hts in6 hown hG.1 hP 2 rfl rfl 0 (by decide) (hts (.fieldLink RX8 81 "ChairCane$Standing" "room" "LChairCane$Room;") (mem_b bq_wsX8_ring 0 1 rfl)) (fun _ h9 => h9) rfl dX8_ring_69 ?_
            refine va_get (D := D) (ci := 2) (v := .int (rm.1 12)) (C := RX3) (T := TX3) (N := 17) hx hb hts in3 hown hG.1 hP 3 rfl rfl 12 (by decide) (hts (.fieldLink RX8 154 "ChairCane$Room" "minute" "I") (mem_b bq_wsX8_ring 0 4 rfl)) (fun _ h9 => h9) rfl dX8_ring_72 ?_
            refine lv_iload_n hx hb dX8_ring_75 rfl (lv_at hl 2 rfl) ?_
            refine lv_iadd hx hb dX8_ring_76 ?_
            refine lv_goto (tgt := 83) hx hb dX8_ring_77 (by decide) ?_
            exact B83 _ _ _ _ _ _ _ h hP hD hS (lv_sub hl [] rfl)
    have C40 : ∀ (v1 : Int32) (v2 : Int32) (v3 : Int32) (tm : OB) (xer : Nat → Int32) (rz : Nat → OB), lp (b_X8_ring_40 F xi xrr si rm k30) F (v1, v2, v3, tm, xer, rz) = some res → ∀ (H : Heap) (locs : List Loc) (ls : Array Slot), va_P D vwCl (([((xo 0), .inr (6, [.ref (ta 0), .ref xr, .int (xi 2), .ref (sa 0), .ref xm, .ref xg, .ref (tr 0), .ref xs, .ref xp, .ref xq, .ref xe, .ref xt]))] : va_W) ++ (([(xr, hcR k 6 xrr)] : va_W) ++ (([((sa 0), .inr (4, [.ref (xa 0), .ref (ca 0), .ref (na 0), .int (si 3), .int (si 4)]))] : va_W) ++ (rmW k xa rm ++ (rmW k tr tm ++ (([(xe, hcI k 61 xer)] : va_W) ++ (RU k ra rz))))))) H → va_D A (([((xo 0), .inr (6, [.ref (ta 0), .ref xr, .int (xi 2), .ref (sa 0), .ref xm, .ref xg, .ref (tr 0), .ref xs, .ref xp, .ref xq, .ref xe, .ref xt]))] : va_W) ++ (([(xr, hcR k 6 xrr)] : va_W) ++ (([((sa 0), .inr (4, [.ref (xa 0), .ref (ca 0), .ref (na 0), .int (si 3), .int (si 4)]))] : va_W) ++ (rmW k xa rm ++ (rmW k tr tm ++ (([(xe, hcI k 61 xer)] : va_W) ++ (RU k ra rz))))))) → va_S A s.heap H locs → lv_has ls 4 [(0, .ref (xo 0)), (1, .int v1), (2, .int v2), (3, .int v3)] → W p l e (rmK 7 0 0) s m (List.toArray [.ref (xo 0), .int x1]) below meth c H locs 0 0 (MQ below (va_Qi (fun r (_ : Unit) => r = res.1) (hcB D (fun _ : Unit => ([((xo 0), .inr (6, [.ref (ta 0), .ref xr, .int (xi 2), .ref (sa 0), .ref xm, .ref xg, .ref (tr 0), .ref xs, .ref xp, .ref xq, .ref xe, .ref xt]))] : va_W) ++ (([(xr, hcR k 6 xrr)] : va_W) ++ (([((sa 0), .inr (4, [.ref (xa 0), .ref (ca 0), .ref (na 0), .int (si 3), .int (si 4)]))] : va_W) ++ (rmW k xa rm ++ (rmW k tr res.2.1 ++ (([(xe, hcI k 61 res.2.2.1)] : va_W) ++ (RU k ra res.2.2.2))))))) A) A) (List.toArray [.ref (xo 0), .int x1]) s 0 0 A) (F0 m 40 ls []) := fun v1 v2 v3 tm xer rz => B40 (v1, v2, v3, tm, xer, rz)
    refine lv_iload_n hx hb dX8_ring_30 rfl (lv_at hl 2 rfl) ?_
    refine lv_bipush (v := 60) hx hb dX8_ring_31 (by decide) ?_
    refine lv_icmp_ge (tgt := 96) hx hb dX8_ring_33 (by decide) (fun c6 => ?_) (fun c6 => ?_)
    · have h := fw_t c6 h
      refine lv_bipush (v := (-2)) hx hb dX8_ring_96 (by decide) ?_
      exact fw_endI (rv := fun b : Int32 × OB × (Nat → Int32) × (Nat → OB) => b.1) (wp := fun b : Int32 × OB × (Nat → Int32) × (Nat → OB) => ([((xo 0), .inr (6, [.ref (ta 0), .ref xr, .int (xi 2), .ref (sa 0), .ref xm, .ref xg, .ref (tr 0), .ref xs, .ref xp, .ref xq, .ref xe, .ref xt]))] : va_W) ++ (([(xr, hcR k 6 xrr)] : va_W) ++ (([((sa 0), .inr (4, [.ref (xa 0), .ref (ca 0), .ref (na 0), .int (si 3), .int (si 4)]))] : va_W) ++ (rmW k xa rm ++ (rmW k tr b.2.1 ++ (([(xe, hcI k 61 b.2.2.1)] : va_W) ++ (RU k ra b.2.2.2))))))) hx hb hr hlocks h rfl hP hD hS dX8_ring_98
    · have h := fw_f c6 h
      refine lv_iload_n hx hb dX8_ring_36 rfl (lv_at hl 2 rfl) ?_
      refine lv_iconst (v := 1) hx hb dX8_ring_37 (by decide) ?_
      refine lv_iadd hx hb dX8_ring_38 ?_
      refine lv_istore_n (lv' := [(3, .int (a30.2.1 + 1)), (0, .ref (xo 0)), (1, .int a30.1), (2, .int a30.2.1)]) hx hb dX8_ring_39 rfl hl (by decide) rfl (fun ls hl => ?_)
      exact C40 _ _ _ _ _ _ h _ _ _ hP hD hS (lv_sub hl [1, 2, 3, 0] rfl)
  have C30 : ∀ (v1 : Int32) (v2 : Int32) (tm : OB) (xer : Nat → Int32) (rz : Nat → OB), lp (b_X8_ring_30 F xi xrr si rm) F (v1, v2, tm, xer, rz) = some res → ∀ (H : Heap) (locs : List Loc) (ls : Array Slot), va_P D vwCl (([((xo 0), .inr (6, [.ref (ta 0), .ref xr, .int (xi 2), .ref (sa 0), .ref xm, .ref xg, .ref (tr 0), .ref xs, .ref xp, .ref xq, .ref xe, .ref xt]))] : va_W) ++ (([(xr, hcR k 6 xrr)] : va_W) ++ (([((sa 0), .inr (4, [.ref (xa 0), .ref (ca 0), .ref (na 0), .int (si 3), .int (si 4)]))] : va_W) ++ (rmW k xa rm ++ (rmW k tr tm ++ (([(xe, hcI k 61 xer)] : va_W) ++ (RU k ra rz))))))) H → va_D A (([((xo 0), .inr (6, [.ref (ta 0), .ref xr, .int (xi 2), .ref (sa 0), .ref xm, .ref xg, .ref (tr 0), .ref xs, .ref xp, .ref xq, .ref xe, .ref xt]))] : va_W) ++ (([(xr, hcR k 6 xrr)] : va_W) ++ (([((sa 0), .inr (4, [.ref (xa 0), .ref (ca 0), .ref (na 0), .int (si 3), .int (si 4)]))] : va_W) ++ (rmW k xa rm ++ (rmW k tr tm ++ (([(xe, hcI k 61 xer)] : va_W) ++ (RU k ra rz))))))) → va_S A s.heap H locs → lv_has ls 4 [(0, .ref (xo 0)), (1, .int v1), (2, .int v2)] → W p l e (rmK 7 0 0) s m (List.toArray [.ref (xo 0), .int x1]) below meth c H locs 0 0 (MQ below (va_Qi (fun r (_ : Unit) => r = res.1) (hcB D (fun _ : Unit => ([((xo 0), .inr (6, [.ref (ta 0), .ref xr, .int (xi 2), .ref (sa 0), .ref xm, .ref xg, .ref (tr 0), .ref xs, .ref xp, .ref xq, .ref xe, .ref xt]))] : va_W) ++ (([(xr, hcR k 6 xrr)] : va_W) ++ (([((sa 0), .inr (4, [.ref (xa 0), .ref (ca 0), .ref (na 0), .int (si 3), .int (si 4)]))] : va_W) ++ (rmW k xa rm ++ (rmW k tr res.2.1 ++ (([(xe, hcI k 61 res.2.2.1)] : va_W) ++ (RU k ra res.2.2.2))))))) A) A) (List.toArray [.ref (xo 0), .int x1]) s 0 0 A) (F0 m 30 ls []) := fun v1 v2 tm xer rz => B30 (v1, v2, tm, xer, rz)
  refine lv_aload_n hx hb dX8_ring_0 rfl (lv_at hl 0 rfl) ?_
  refine va_get (D := D) (ci := 6) (v := .ref (sa 0)) (C := RX8) (T := TX8) (N := 12) hx hb hts in8 hown hG.1 hP 0 rfl rfl 3 (by decide) (hts (.fieldLink RX8 29 "ChairCane" "now" "LChairCane$Standing;") (mem_b bq_wsX8_ring 0 0 rfl)) (fun _ h9 => h9) rfl dX8_ring_1 ?_
  refine va_get (D := D) (ci := 4) (v := .ref (xa 0)) (C := RX6) (T := TX6) (N := 5) hx hb hts in6 hown hG.1 hP 2 rfl rfl 0 (by decide) (hts (.fieldLink RX8 81 "ChairCane$Standing" "room" "LChairCane$Room;") (mem_b bq_wsX8_ring 0 1 rfl)) (fun _ h9 => h9) rfl dX8_ring_4 ?_
  refine va_get (D := D) (ci := 2) (v := .int (rm.1 0)) (C := RX3) (T := TX3) (N := 17) hx hb hts in3 hown hG.1 hP 3 rfl rfl 0 (by decide) (hts (.fieldLink RX8 150 "ChairCane$Room" "told" "Z") (mem_b bq_wsX8_ring 0 2 rfl)) (fun _ h9 => h9) rfl dX8_ring_7 ?_
  refine lv_if_eq (tgt := 22) hx hb dX8_ring_10 (by decide) (fun c7 => ?_) (fun c7 => ?_)
  · have h := fw_t c7 h
    exact B22 _ _ _ _ _ _ h hP hD hS (lv_sub hl [] rfl)
  · have h := fw_f c7 h
    refine lv_iload_n hx hb dX8_ring_13 rfl (lv_at hl 1 rfl) ?_
    refine lv_if_lt (tgt := 22) hx hb dX8_ring_14 (by decide) (fun c8 => ?_) (fun c8 => ?_)
    · have h := fw_t c8 h
      exact B22 _ _ _ _ _ _ h hP hD hS (lv_sub hl [] rfl)
    · have h := fw_f c8 h
      refine lv_iload_n hx hb dX8_ring_17 rfl (lv_at hl 1 rfl) ?_
      refine lv_iconst (v := 1) hx hb dX8_ring_18 (by decide) ?_
      refine lv_icmp_le (tgt := 24) hx hb dX8_ring_19 (by decide) (fun c9 => ?_) (fun c9 => ?_)
      · have h := fw_t c9 h
        refine lv_aload_n hx hb dX8_ring_24 rfl (lv_at hl 0 rfl) ?_
        refine fw_Vv (As := []) (rest := []) (n := 0) (wr := []) (wp := fun b : OB × (Nat → Int32) × (Nat → OB) => ([((xo 0), .inr (6, [.ref (ta 0), .ref xr, .int (xi 2), .ref (sa 0), .ref xm, .ref xg, .ref (tr 0), .ref xs, .ref xp, .ref xq, .ref xe, .ref xt]))] : va_W) ++ (([(xr, hcR k 6 xrr)] : va_W) ++ (([((sa 0), .inr (4, [.ref (xa 0), .ref (ca 0), .ref (na 0), .int (si 3), .int (si 4)]))] : va_W) ++ (rmW k xa rm ++ (rmW k tr b.1 ++ (([(xe, hcI k 61 b.2.1)] : va_W) ++ (RU k ra b.2.2))))))) h hx hb hml hown hts hG hA hP hD hS hl.1 (List.range (([((xo 0), .inr (6, [.ref (ta 0), .ref xr, .int (xi 2), .ref (sa 0), .ref xm, .ref xg, .ref (tr 0), .ref xs, .ref xp, .ref xq, .ref xe, .ref xt]))] : va_W) ++ (([(xr, hcR k 6 xrr)] : va_W) ++ (([((sa 0), .inr (4, [.ref (xa 0), .ref (ca 0), .ref (na 0), .int (si 3), .int (si 4)]))] : va_W) ++ (rmW k xa rm ++ (rmW k tr tm ++ (([(xe, hcI k 61 xer)] : va_W) ++ (RU k ra rz)))))) : va_W).length) [] (fun q hq9 => c_X8_watchSixty l D k _  xo ta xr sa xm xg tr xs xp xq xe xt xa ca na ra F  xi xrr si rm tm xer rz hq hq9) (ci := 6) (q0 := 0) rfl rfl gX8_ring_X8_watchSixty rfl ⟨rfl, rfl, Nat.le_of_ble_eq_true rfl, Nat.le_of_ble_eq_true rfl⟩ (by decide +kernel) (al_C _) rfl (al_n _) ⟨rfl, rfl, Nat.le_of_ble_eq_true rfl, Nat.le_of_ble_eq_true rfl, Nat.le_of_ble_eq_true rfl⟩ dX8_ring_25 (fun q10 H locs h hP hD hS => ?_)
        obtain ⟨hP, hD⟩ := cv (w' := ([((xo 0), .inr (6, [.ref (ta 0), .ref xr, .int (xi 2), .ref (sa 0), .ref xm, .ref xg, .ref (tr 0), .ref xs, .ref xp, .ref xq, .ref xe, .ref xt]))] : va_W) ++ (([(xr, hcR k 6 xrr)] : va_W) ++ (([((sa 0), .inr (4, [.ref (xa 0), .ref (ca 0), .ref (na 0), .int (si 3), .int (si 4)]))] : va_W) ++ (rmW k xa rm ++ (rmW k tr q10.1 ++ (([(xe, hcI k 61 q10.2.1)] : va_W) ++ (RU k ra q10.2.2))))))) hP hD rfl
        refine lv_iconst (v := 0) hx hb dX8_ring_28 (by decide) ?_
        refine lv_istore_n (lv' := [(2, .int 0), (0, .ref (xo 0)), (1, .int x1)]) hx hb dX8_ring_29 rfl hl (by decide) rfl (fun ls hl => ?_)
        exact C30 _ _ _ _ _ h _ _ _ hP hD hS (lv_sub hl [1, 2, 0] rfl)
      · have h := fw_f c9 h
        exact B22 _ _ _ _ _ _ h hP hD hS (lv_sub hl [] rfl)
noncomputable def f_X8_felledBy (F : Nat)  (x1 : Int32) (xi : Nat → Int32) (si : Nat → Int32) (rm : OB) (tm : OB) : Option (Int32 × OB) :=
  Option.bind (f_X3_copyFrom F tm rm) (fun q1 => (Option.bind (f_X3_seat F x1 0 q1) (fun q2 => (Option.bind (f_X3_settle F q2) (fun q3 => (some (q3.1, q3.2)))))))
set_option maxHeartbeats 4000000 in
set_option maxRecDepth 100000 in
theorem c_X8_felledBy (l : Launch) (D : va_G) (k : Nat → ClassId) (sz : Nat)  (xo : Nat → Nat) (ta : Nat → Nat) (xr : Nat) (sa : Nat → Nat) (xm : Nat) (xg : Nat) (tr : Nat → Nat) (xs : Nat) (xp : Nat) (xq : Nat) (xe : Nat) (xt : Nat) (xa : Nat → Nat) (ca : Nat → Nat) (na : Nat → Nat) (F : Nat)  (x1 : Int32) (xi : Nat → Int32) (si : Nat → Int32) (rm : OB) (tm : OB)  {res : Int32 × OB} (h : f_X8_felledBy F x1 xi si rm tm = some res) : CtI l yX8_felledBy wsX8_felledBy (rmK 4 0 0) [.ref (xo 0), .int x1] D k sz (([((xo 0), .inr (6, [.ref (ta 0), .ref xr, .int (xi 2), .ref (sa 0), .ref xm, .ref xg, .ref (tr 0), .ref xs, .ref xp, .ref xq, .ref xe, .ref xt]))] : va_W) ++ (([((sa 0), .inr (4, [.ref (xa 0), .ref (ca 0), .ref (na 0), .int (si 3), .int (si 4)]))] : va_W) ++ (rmW k xa rm ++ (rmW k tr tm)))) (fun r (_ : Unit) => r = res.1) (fun _ : Unit => ([((xo 0), .inr (6, [.ref (ta 0), .ref xr, .int (xi 2), .ref (sa 0), .ref xm, .ref xg, .ref (tr 0), .ref xs, .ref xp, .ref xq, .ref xe, .ref xt]))] : va_W) ++ (([((sa 0), .inr (4, [.ref (xa 0), .ref (ca 0), .ref (na 0), .int (si 3), .int (si 4)]))] : va_W) ++ (rmW k xa rm ++ (rmW k tr res.2)))) 0 0 := by
  refine CtI.mk (cc := cX8_felledBy) (maxL := 2) (ret := (some .int)) (by decide) rfl (Nat.le_of_ble_eq_true rfl) ?_
  intro p e s m below meth c A ls E hP hD hS hl
  obtain ⟨hx, hb, hr, hml, hown, hts, hlocks, hin, hG, hA⟩ := E
  have hown : s.vm.findClass RX8 = some m.cls := hown
  have in3 : ∀ w ∈ u_ws RX3 TX3 17, w ∈ wsX8_felledBy := fun _ h => List.mem_cons_of_mem _ (List.mem_append_right _ h)
  have in6 : ∀ w ∈ u_ws RX6 TX6 5, w ∈ wsX8_felledBy := fun _ h => List.mem_cons_of_mem _ (List.mem_append_left _ (List.mem_append_right _ h))
  have in8 : ∀ w ∈ u_ws RX8 TX8 12, w ∈ wsX8_felledBy := fun _ h => List.mem_cons_of_mem _ (List.mem_append_left _ (List.mem_append_left _ (List.mem_append_right _ h)))
  have hl : lv_has ls 2 [(0, .ref (xo 0)), (1, .int x1)] := hl
  refine lv_aload_n hx hb dX8_felledBy_0 rfl (lv_at hl 0 rfl) ?_
  refine va_get (D := D) (ci := 6) (v := .ref (tr 0)) (C := RX8) (T := TX8) (N := 12) hx hb hts in8 hown hG.1 hP 0 rfl rfl 6 (by decide) (hts (.fieldLink RX8 44 "ChairCane" "trial" "LChairCane$Room;") (mem_b bq_wsX8_felledBy 0 0 rfl)) (fun _ h9 => h9) rfl dX8_felledBy_1 ?_
  refine lv_aload_n hx hb dX8_felledBy_4 rfl (lv_at hl 0 rfl) ?_
  refine va_get (D := D) (ci := 6) (v := .ref (sa 0)) (C := RX8) (T := TX8) (N := 12) hx hb hts in8 hown hG.1 hP 0 rfl rfl 3 (by decide) (hts (.fieldLink RX8 29 "ChairCane" "now" "LChairCane$Standing;") (mem_b bq_wsX8_felledBy 0 1 rfl)) (fun _ h9 => h9) rfl dX8_felledBy_5 ?_
  refine va_get (D := D) (ci := 4) (v := .ref (xa 0)) (C := RX6) (T := TX6) (N := 5) hx hb hts in6 hown hG.1 hP 1 rfl rfl 0 (by decide) (hts (.fieldLink RX8 81 "ChairCane$Standing" "room" "LChairCane$Room;") (mem_b bq_wsX8_felledBy 0 2 rfl)) (fun _ h9 => h9) rfl dX8_felledBy_8 ?_
  obtain ⟨hP, hD⟩ := qm hP hD (q_to [([((xo 0), .inr (6, [.ref (ta 0), .ref xr, .int (xi 2), .ref (sa 0), .ref xm, .ref xg, .ref (tr 0), .ref xs, .ref xp, .ref xq, .ref xe, .ref xt]))] : va_W), ([((sa 0), .inr (4, [.ref (xa 0), .ref (ca 0), .ref (na 0), .int (si 3), .int (si 4)]))] : va_W), rmW k xa rm, rmW k tr tm] [0, 1, 2, 3] [3, 2] [0, 1] (by decide +kernel))
  refine fw_Vv (As := [.ref (xa 0)]) (rest := []) (n := 1) (wp := fun b : OB => rmW k tr b ++ (rmW k xa rm)) h hx hb hml hown hts hG hA hP hD hS hl.1 _ _ (fun q hq9 => c_X3_copyFrom l D k _  tr xa F  tm rm  hq9) (ci := 2) (q0 := 0) rfl rfl gX8_felledBy_X3_copyFrom rfl ⟨rfl, rfl, Nat.le_of_ble_eq_true rfl, Nat.le_of_ble_eq_true rfl⟩ (by decide +kernel) (q_l _ _) (q_r _ _) (q_nd _ _) ⟨rfl, rfl, Nat.le_of_ble_eq_true rfl, Nat.le_of_ble_eq_true rfl, Nat.le_of_ble_eq_true rfl⟩ dX8_felledBy_11 (fun q1 H locs h hP hD hS => ?_)
  obtain ⟨hP, hD⟩ := qm (w2 := ([((xo 0), .inr (6, [.ref (ta 0), .ref xr, .int (xi 2), .ref (sa 0), .ref xm, .ref xg, .ref (tr 0), .ref xs, .ref xp, .ref xq, .ref xe, .ref xt]))] : va_W) ++ (([((sa 0), .inr (4, [.ref (xa 0), .ref (ca 0), .ref (na 0), .int (si 3), .int (si 4)]))] : va_W) ++ (rmW k xa rm ++ (rmW k tr q1)))) hP hD (q_from [([((xo 0), .inr (6, [.ref (ta 0), .ref xr, .int (xi 2), .ref (sa 0), .ref xm, .ref xg, .ref (tr 0), .ref xs, .ref xp, .ref xq, .ref xe, .ref xt]))] : va_W), ([((sa 0), .inr (4, [.ref (xa 0), .ref (ca 0), .ref (na 0), .int (si 3), .int (si 4)]))] : va_W), rmW k xa rm, rmW k tr q1] [0, 1] [3, 2] [0, 1, 2, 3] (by decide +kernel))
  refine lv_aload_n hx hb dX8_felledBy_14 rfl (lv_at hl 0 rfl) ?_
  refine va_get (D := D) (ci := 6) (v := .ref (tr 0)) (C := RX8) (T := TX8) (N := 12) hx hb hts in8 hown hG.1 hP 0 rfl rfl 6 (by decide) (hts (.fieldLink RX8 44 "ChairCane" "trial" "LChairCane$Room;") (mem_b bq_wsX8_felledBy 0 0 rfl)) (fun _ h9 => h9) rfl dX8_felledBy_15 ?_
  refine lv_iload_n hx hb dX8_felledBy_18 rfl (lv_at hl 1 rfl) ?_
  refine lv_iconst (v := 0) hx hb dX8_felledBy_19 (by decide) ?_
  obtain ⟨hP, hD⟩ := qm hP hD (q_to [([((xo 0), .inr (6, [.ref (ta 0), .ref xr, .int (xi 2), .ref (sa 0), .ref xm, .ref xg, .ref (tr 0), .ref xs, .ref xp, .ref xq, .ref xe, .ref xt]))] : va_W), ([((sa 0), .inr (4, [.ref (xa 0), .ref (ca 0), .ref (na 0), .int (si 3), .int (si 4)]))] : va_W), rmW k xa rm, rmW k tr q1] [0, 1, 2, 3] [3] [0, 1, 2] (by decide +kernel))
  refine fw_Vv (As := [.int x1, .int 0]) (rest := []) (n := 2) (wp := fun b : OB => rmW k tr b) h hx hb hml hown hts hG hA hP hD hS hl.1 _ _ (fun q hq9 => c_X3_seat l D k _  tr F x1 0 q1  hq9) (ci := 2) (q0 := 0) rfl rfl gX8_felledBy_X3_seat rfl ⟨rfl, rfl, Nat.le_of_ble_eq_true rfl, Nat.le_of_ble_eq_true rfl⟩ (by decide +kernel) (q_l _ _) (q_r _ _) (q_nd _ _) ⟨rfl, rfl, Nat.le_of_ble_eq_true rfl, Nat.le_of_ble_eq_true rfl, Nat.le_of_ble_eq_true rfl⟩ dX8_felledBy_20 (fun q2 H locs h hP hD hS => ?_)
  obtain ⟨hP, hD⟩ := qm (w2 := ([((xo 0), .inr (6, [.ref (ta 0), .ref xr, .int (xi 2), .ref (sa 0), .ref xm, .ref xg, .ref (tr 0), .ref xs, .ref xp, .ref xq, .ref xe, .ref xt]))] : va_W) ++ (([((sa 0), .inr (4, [.ref (xa 0), .ref (ca 0), .ref (na 0), .int (si 3), .int (si 4)]))] : va_W) ++ (rmW k xa rm ++ (rmW k tr q2)))) hP hD (q_from [([((xo 0), .inr (6, [.ref (ta 0), .ref xr, .int (xi 2), .ref (sa 0), .ref xm, .ref xg, .ref (tr 0), .ref xs, .ref xp, .ref xq, .ref xe, .ref xt]))] : va_W), ([((sa 0), .inr (4, [.ref (xa 0), .ref (ca 0), .ref (na 0), .int (si 3), .int (si 4)]))] : va_W), rmW k xa rm, rmW k tr q2] [0, 1, 2] [3] [0, 1, 2, 3] (by decide +kernel))
  refine lv_aload_n hx hb dX8_felledBy_23 rfl (lv_at hl 0 rfl) ?_
  refine va_get (D := D) (ci := 6) (v := .ref (tr 0)) (C := RX8) (T := TX8) (N := 12) hx hb hts in8 hown hG.1 hP 0 rfl rfl 6 (by decide) (hts (.fieldLink RX8 44 "ChairCane" "trial" "LChairCane$Room;") (mem_b bq_wsX8_felledBy 0 0 rfl)) (fun _ h9 => h9) rfl dX8_felledBy_24 ?_
  obtain ⟨hP, hD⟩ := qm hP hD (q_to [([((xo 0), .inr (6, [.ref (ta 0), .ref xr, .int (xi 2), .ref (sa 0), .ref xm, .ref xg, .ref (tr 0), .ref xs, .ref xp, .ref xq, .ref xe, .ref xt]))] : va_W), ([((sa 0), .inr (4, [.ref (xa 0), .ref (ca 0), .ref (na 0), .int (si 3), .int (si 4)]))] : va_W), rmW k xa rm, rmW k tr q2] [0, 1, 2, 3] [3] [0, 1, 2] (by decide +kernel))
  refine fw_Vi (As := []) (rest := []) (n := 0) (rv := fun b : Int32 × OB => b.1) (wp := fun b : Int32 × OB => rmW k tr b.2) h hx hb hml hown hts hG hA hP hD hS hl.1 _ _ (fun q hq9 => c_X3_settle l D k _  tr F  q2  hq9) (ci := 2) (q0 := 0) rfl rfl gX8_felledBy_X3_settle rfl ⟨rfl, rfl, Nat.le_of_ble_eq_true rfl, Nat.le_of_ble_eq_true rfl⟩ (by decide +kernel) (q_l _ _) (q_r _ _) (q_nd _ _) ⟨rfl, rfl, Nat.le_of_ble_eq_true rfl, Nat.le_of_ble_eq_true rfl, Nat.le_of_ble_eq_true rfl⟩ dX8_felledBy_27 (fun q3 H locs h hP hD hS => ?_)
  obtain ⟨hP, hD⟩ := qm (w2 := ([((xo 0), .inr (6, [.ref (ta 0), .ref xr, .int (xi 2), .ref (sa 0), .ref xm, .ref xg, .ref (tr 0), .ref xs, .ref xp, .ref xq, .ref xe, .ref xt]))] : va_W) ++ (([((sa 0), .inr (4, [.ref (xa 0), .ref (ca 0), .ref (na 0), .int (si 3), .int (si 4)]))] : va_W) ++ (rmW k xa rm ++ (rmW k tr q3.2)))) hP hD (q_from [([((xo 0), .inr (6, [.ref (ta 0), .ref xr, .int (xi 2), .ref (sa 0), .ref xm, .ref xg, .ref (tr 0), .ref xs, .ref xp, .ref xq, .ref xe, .ref xt]))] : va_W), ([((sa 0), .inr (4, [.ref (xa 0), .ref (ca 0), .ref (na 0), .int (si 3), .int (si 4)]))] : va_W), rmW k xa rm, rmW k tr q3.2] [0, 1, 2] [3] [0, 1, 2, 3] (by decide +kernel))
  refine hc_is (z := q3.1) rfl ?_
  exact fw_endI (rv := fun b : Int32 × OB => b.1) (wp := fun b : Int32 × OB => ([((xo 0), .inr (6, [.ref (ta 0), .ref xr, .int (xi 2), .ref (sa 0), .ref xm, .ref xg, .ref (tr 0), .ref xs, .ref xp, .ref xq, .ref xe, .ref xt]))] : va_W) ++ (([((sa 0), .inr (4, [.ref (xa 0), .ref (ca 0), .ref (na 0), .int (si 3), .int (si 4)]))] : va_W) ++ (rmW k xa rm ++ (rmW k tr b.2)))) hx hb hr hlocks h rfl hP hD hS dX8_felledBy_30
noncomputable def b_X8_felled_23 (F : Nat)  (xi : Nat → Int32) (si : Nat → Int32) (rm : OB)  (y0 : Int32) (tm : OB) : Option (Int32 × OB) :=
  some (y0, tm)
noncomputable def f_X8_felled (F : Nat)  (x1 : Int32) (xi : Nat → Int32) (si : Nat → Int32) (rm : OB) (tm : OB) : Option (Int32 × OB) :=
  Option.bind (f_X3_isDown F x1 rm) (fun q1 => (if q1 = 0 then (b_X8_felled_23 F xi si rm (-1) tm) else (Option.bind (f_X8_felledBy F x1 xi si rm tm) (fun q3 => (b_X8_felled_23 F xi si rm q3.1 q3.2)))))
set_option maxHeartbeats 4000000 in
set_option maxRecDepth 100000 in
theorem c_X8_felled (l : Launch) (D : va_G) (k : Nat → ClassId) (sz : Nat)  (xo : Nat → Nat) (ta : Nat → Nat) (xr : Nat) (sa : Nat → Nat) (xm : Nat) (xg : Nat) (tr : Nat → Nat) (xs : Nat) (xp : Nat) (xq : Nat) (xe : Nat) (xt : Nat) (xa : Nat → Nat) (ca : Nat → Nat) (na : Nat → Nat) (F : Nat)  (x1 : Int32) (xi : Nat → Int32) (si : Nat → Int32) (rm : OB) (tm : OB)  {res : Int32 × OB} (h : f_X8_felled F x1 xi si rm tm = some res) : CtI l yX8_felled wsX8_felled (rmK 5 0 0) [.ref (xo 0), .int x1] D k sz (([((xo 0), .inr (6, [.ref (ta 0), .ref xr, .int (xi 2), .ref (sa 0), .ref xm, .ref xg, .ref (tr 0), .ref xs, .ref xp, .ref xq, .ref xe, .ref xt]))] : va_W) ++ (([((sa 0), .inr (4, [.ref (xa 0), .ref (ca 0), .ref (na 0), .int (si 3), .int (si 4)]))] : va_W) ++ (rmW k xa rm ++ (rmW k tr tm)))) (fun r (_ : Unit) => r = res.1) (fun _ : Unit => ([((xo 0), .inr (6, [.ref (ta 0), .ref xr, .int (xi 2), .ref (sa 0), .ref xm, .ref xg, .ref (tr 0), .ref xs, .ref xp, .ref xq, .ref xe, .ref xt]))] : va_W) ++ (([((sa 0), .inr (4, [.ref (xa 0), .ref (ca 0), .ref (na 0), .int (si 3), .int (si 4)]))] : va_W) ++ (rmW k xa rm ++ (rmW k tr res.2)))) 0 0 := by
  refine CtI.mk (cc := cX8_felled) (maxL := 2) (ret := (some .int)) (by decide) rfl (Nat.le_of_ble_eq_true rfl) ?_
  intro p e s m below meth c A ls E hP hD hS hl
  obtain ⟨hx, hb, hr, hml, hown, hts, hlocks, hin, hG, hA⟩ := E
  have hown : s.vm.findClass RX8 = some m.cls := hown
  have in3 : ∀ w ∈ u_ws RX3 TX3 17, w ∈ wsX8_felled := fun _ h => List.mem_cons_of_mem _ (List.mem_append_right _ h)
  have in6 : ∀ w ∈ u_ws RX6 TX6 5, w ∈ wsX8_felled := fun _ h => List.mem_cons_of_mem _ (List.mem_append_left _ (List.mem_append_right _ h))
  have in8 : ∀ w ∈ u_ws RX8 TX8 12, w ∈ wsX8_felled := fun _ h => List.mem_cons_of_mem _ (List.mem_append_left _ (List.mem_append_left _ (List.mem_append_right _ h)))
  have hl : lv_has ls 2 [(0, .ref (xo 0)), (1, .int x1)] := hl
  have B23 : ∀ (y0 : Int32) (tm : OB) (H : Heap) (locs : List Loc) (ls : Array Slot), b_X8_felled_23 F xi si rm y0 tm = some res → va_P D vwCl (([((xo 0), .inr (6, [.ref (ta 0), .ref xr, .int (xi 2), .ref (sa 0), .ref xm, .ref xg, .ref (tr 0), .ref xs, .ref xp, .ref xq, .ref xe, .ref xt]))] : va_W) ++ (([((sa 0), .inr (4, [.ref (xa 0), .ref (ca 0), .ref (na 0), .int (si 3), .int (si 4)]))] : va_W) ++ (rmW k xa rm ++ (rmW k tr tm)))) H → va_D A (([((xo 0), .inr (6, [.ref (ta 0), .ref xr, .int (xi 2), .ref (sa 0), .ref xm, .ref xg, .ref (tr 0), .ref xs, .ref xp, .ref xq, .ref xe, .ref xt]))] : va_W) ++ (([((sa 0), .inr (4, [.ref (xa 0), .ref (ca 0), .ref (na 0), .int (si 3), .int (si 4)]))] : va_W) ++ (rmW k xa rm ++ (rmW k tr tm)))) → va_S A s.heap H locs → lv_has ls 2 [] → W p l e (rmK 5 0 0) s m (List.toArray [.ref (xo 0), .int x1]) below meth c H locs 0 0 (MQ below (va_Qi (fun r (_ : Unit) => r = res.1) (hcB D (fun _ : Unit => ([((xo 0), .inr (6, [.ref (ta 0), .ref xr, .int (xi 2), .ref (sa 0), .ref xm, .ref xg, .ref (tr 0), .ref xs, .ref xp, .ref xq, .ref xe, .ref xt]))] : va_W) ++ (([((sa 0), .inr (4, [.ref (xa 0), .ref (ca 0), .ref (na 0), .int (si 3), .int (si 4)]))] : va_W) ++ (rmW k xa rm ++ (rmW k tr res.2)))) A) A) (List.toArray [.ref (xo 0), .int x1]) s 0 0 A) (F0 m 23 ls [.int y0]) := by
    intro y0 tm H locs ls h hP hD hS hl
    exact fw_endI (rv := fun b : Int32 × OB => b.1) (wp := fun b : Int32 × OB => ([((xo 0), .inr (6, [.ref (ta 0), .ref xr, .int (xi 2), .ref (sa 0), .ref xm, .ref xg, .ref (tr 0), .ref xs, .ref xp, .ref xq, .ref xe, .ref xt]))] : va_W) ++ (([((sa 0), .inr (4, [.ref (xa 0), .ref (ca 0), .ref (na 0), .int (si 3), .int (si 4)]))] : va_W) ++ (rmW k xa rm ++ (rmW k tr b.2)))) hx hb hr hlocks h rfl hP hD hS dX8_felled_23
  refine lv_aload_n hx hb dX8_felled_0 rfl (lv_at hl 0 rfl) ?_
  refine va_get (D := D) (ci := 6) (v := .ref (sa 0)) (C := RX8) (T := TX8) (N := 12) hx hb hts in8 hown hG.1 hP 0 rfl rfl 3 (by decide) (hts (.fieldLink RX8 29 "ChairCane" "now" "LChairCane$Standing;") (mem_b bq_wsX8_felled 0 0 rfl)) (fun _ h9 => h9) rfl dX8_felled_1 ?_
  refine va_get (D := D) (ci := 4) (v := .ref (xa 0)) (C := RX6) (T := TX6) (N := 5) hx hb hts in6 hown hG.1 hP 1 rfl rfl 0 (by decide) (hts (.fieldLink RX8 81 "ChairCane$Standing" "room" "LChairCane$Room;") (mem_b bq_wsX8_felled 0 1 rfl)) (fun _ h9 => h9) rfl dX8_felled_4 ?_
  refine lv_iload_n hx hb dX8_felled_7 rfl (lv_at hl 1 rfl) ?_
  obtain ⟨hP, hD⟩ := qm hP hD (q_to [([((xo 0), .inr (6, [.ref (ta 0), .ref xr, .int (xi 2), .ref (sa 0), .ref xm, .ref xg, .ref (tr 0), .ref xs, .ref xp, .ref xq, .ref xe, .ref xt]))] : va_W), ([((sa 0), .inr (4, [.ref (xa 0), .ref (ca 0), .ref (na 0), .int (si 3), .int (si 4)]))] : va_W), rmW k xa rm, rmW k tr tm] [0, 1, 2, 3] [2] [0, 1, 3] (by decide +kernel))
  refine fw_Vi (As := [.int x1]) (rest := []) (n := 1) (rv := fun b : Int32 => b) (wp := fun b : Int32 => rmW k xa rm) h hx hb hml hown hts hG hA hP hD hS hl.1 _ _ (fun q hq9 => c_X3_isDown l D k _  xa F x1 rm  hq9) (ci := 2) (q0 := 0) rfl rfl gX8_felled_X3_isDown rfl ⟨rfl, rfl, Nat.le_of_ble_eq_true rfl, Nat.le_of_ble_eq_true rfl⟩ (by decide +kernel) (q_l _ _) (q_r _ _) (q_nd _ _) ⟨rfl, rfl, Nat.le_of_ble_eq_true rfl, Nat.le_of_ble_eq_true rfl, Nat.le_of_ble_eq_true rfl⟩ dX8_felled_8 (fun q1 H locs h hP hD hS => ?_)
  obtain ⟨hP, hD⟩ := qm (w2 := ([((xo 0), .inr (6, [.ref (ta 0), .ref xr, .int (xi 2), .ref (sa 0), .ref xm, .ref xg, .ref (tr 0), .ref xs, .ref xp, .ref xq, .ref xe, .ref xt]))] : va_W) ++ (([((sa 0), .inr (4, [.ref (xa 0), .ref (ca 0), .ref (na 0), .int (si 3), .int (si 4)]))] : va_W) ++ (rmW k xa rm ++ (rmW k tr tm)))) hP hD (q_from [([((xo 0), .inr (6, [.ref (ta 0), .ref xr, .int (xi 2), .ref (sa 0), .ref xm, .ref xg, .ref (tr 0), .ref xs, .ref xp, .ref xq, .ref xe, .ref xt]))] : va_W), ([((sa 0), .inr (4, [.ref (xa 0), .ref (ca 0), .ref (na 0), .int (si 3), .int (si 4)]))] : va_W), rmW k xa rm, rmW k tr tm] [0, 1, 3] [2] [0, 1, 2, 3] (by decide +kernel))
  refine hc_is (z := q1) rfl ?_
  refine lv_if_eq (tgt := 22) hx hb dX8_felled_11 (by decide) (fun c2 => ?_) (fun c2 => ?_)
  · have h := fw_t c2 h
    refine lv_iconst (v := (-1)) hx hb dX8_felled_22 (by decide) ?_
    exact B23 _ _ _ _ _ h hP hD hS (lv_sub hl [] rfl)
  · have h := fw_f c2 h
    refine lv_aload_n hx hb dX8_felled_14 rfl (lv_at hl 0 rfl) ?_
    refine lv_iload_n hx hb dX8_felled_15 rfl (lv_at hl 1 rfl) ?_
    refine fw_Vi (As := [.int x1]) (rest := []) (n := 1) (wr := []) (rv := fun b : Int32 × OB => b.1) (wp := fun b : Int32 × OB => ([((xo 0), .inr (6, [.ref (ta 0), .ref xr, .int (xi 2), .ref (sa 0), .ref xm, .ref xg, .ref (tr 0), .ref xs, .ref xp, .ref xq, .ref xe, .ref xt]))] : va_W) ++ (([((sa 0), .inr (4, [.ref (xa 0), .ref (ca 0), .ref (na 0), .int (si 3), .int (si 4)]))] : va_W) ++ (rmW k xa rm ++ (rmW k tr b.2)))) h hx hb hml hown hts hG hA hP hD hS hl.1 (List.range (([((xo 0), .inr (6, [.ref (ta 0), .ref xr, .int (xi 2), .ref (sa 0), .ref xm, .ref xg, .ref (tr 0), .ref xs, .ref xp, .ref xq, .ref xe, .ref xt]))] : va_W) ++ (([((sa 0), .inr (4, [.ref (xa 0), .ref (ca 0), .ref (na 0), .int (si 3), .int (si 4)]))] : va_W) ++ (rmW k xa rm ++ (rmW k tr tm))) : va_W).length) [] (fun q hq9 => c_X8_felledBy l D k _  xo ta xr sa xm xg tr xs xp xq xe xt xa ca na F x1 xi si rm tm  hq9) (ci := 6) (q0 := 0) rfl rfl gX8_felled_X8_felledBy rfl ⟨rfl, rfl, Nat.le_of_ble_eq_true rfl, Nat.le_of_ble_eq_true rfl⟩ (by decide +kernel) (al_C _) rfl (al_n _) ⟨rfl, rfl, Nat.le_of_ble_eq_true rfl, Nat.le_of_ble_eq_true rfl, Nat.le_of_ble_eq_true rfl⟩ dX8_felled_16 (fun q3 H locs h hP hD hS => ?_)
    obtain ⟨hP, hD⟩ := cv (w' := ([((xo 0), .inr (6, [.ref (ta 0), .ref xr, .int (xi 2), .ref (sa 0), .ref xm, .ref xg, .ref (tr 0), .ref xs, .ref xp, .ref xq, .ref xe, .ref xt]))] : va_W) ++ (([((sa 0), .inr (4, [.ref (xa 0), .ref (ca 0), .ref (na 0), .int (si 3), .int (si 4)]))] : va_W) ++ (rmW k xa rm ++ (rmW k tr q3.2)))) hP hD rfl
    refine hc_is (z := q3.1) rfl ?_
    refine lv_goto (tgt := 23) hx hb dX8_felled_19 (by decide) ?_
    exact B23 _ _ _ _ _ h hP hD hS (lv_sub hl [] rfl)
noncomputable def b_X8_tall_24 (F : Nat)  (xi : Nat → Int32) (si : Nat → Int32) (rm : OB)  (tm : OB) : Option (Int32 × OB) :=
  some ((-1), tm)
noncomputable def b_X8_tall_105 (F : Nat)  (xi : Nat → Int32) (si : Nat → Int32) (rm : OB)  (y0 : Int32) (tm : OB) : Option (Int32 × OB) :=
  some (y0, tm)
noncomputable def b_X8_tall_81 (F : Nat)  (xi : Nat → Int32) (si : Nat → Int32) (rm : OB) (k34 : (Int32 × Int32 × Int32 × Int32 × OB) → Option (Int32 × OB)) (v1 : Int32) (v3 : Int32) (v4 : Int32) (v5 : Int32) (tm : OB) : Option (Int32 × OB) :=
  k34 (v1, v3, v4, (v5 + 1), tm)
noncomputable def b_X8_tall_65 (F : Nat)  (xi : Nat → Int32) (si : Nat → Int32) (rm : OB) (k34 : (Int32 × Int32 × Int32 × Int32 × OB) → Option (Int32 × OB)) (v1 : Int32) (v3 : Int32) (v4 : Int32) (v5 : Int32) (y0 : Int32) (tm : OB) : Option (Int32 × OB) :=
  if y0 ≤ v4 then (b_X8_tall_81 F xi si rm k34 v1 v3 v4 v5 tm) else (b_X8_tall_81 F xi si rm k34 v1 v5 y0 v5 tm)
noncomputable def b_X8_tall_34 (F : Nat)  (xi : Nat → Int32) (si : Nat → Int32) (rm : OB)  (k34 : (Int32 × Int32 × Int32 × Int32 × OB) → Option (Int32 × OB)) (a34 : (Int32 × Int32 × Int32 × Int32 × OB)) : Option (Int32 × OB) :=
  if (rm.1 3) ≤ a34.2.2.2.1 then (if a34.2.1 = (-1) then (some ((-2), a34.2.2.2.2)) else (if a34.1 = 0 then (b_X8_tall_105 F xi si rm a34.2.1 a34.2.2.2.2) else (b_X8_tall_105 F xi si rm a34.2.2.1 a34.2.2.2.2))) else (Option.bind (f_X3_isDown F a34.2.2.2.1 rm) (fun q5 => (if q5 = 0 then (b_X8_tall_65 F xi si rm k34 a34.1 a34.2.1 a34.2.2.1 a34.2.2.2.1 (-1) a34.2.2.2.2) else (Option.bind (f_X8_felledBy F a34.2.2.2.1 xi si rm a34.2.2.2.2) (fun q7 => (Option.bind (f_J6_bitCount_0f7a4 F q7.1) (fun q8 => (b_X8_tall_65 F xi si rm k34 a34.1 a34.2.1 a34.2.2.1 a34.2.2.2.1 q8 q7.2))))))))
noncomputable def f_X8_tall (F : Nat)  (x1 : Int32) (xi : Nat → Int32) (si : Nat → Int32) (rm : OB) (tm : OB) : Option (Int32 × OB) :=
  if (rm.1 0) = 0 then (b_X8_tall_24 F xi si rm tm) else (if x1 < 0 then (b_X8_tall_24 F xi si rm tm) else (if x1 ≤ 1 then (lp (b_X8_tall_34 F xi si rm) F (x1, (-1), (-1), 0, tm)) else (b_X8_tall_24 F xi si rm tm)))
set_option maxHeartbeats 4000000 in
set_option maxRecDepth 100000 in
theorem c_X8_tall (l : Launch) (D : va_G) (k : Nat → ClassId) (sz : Nat)  (xo : Nat → Nat) (ta : Nat → Nat) (xr : Nat) (sa : Nat → Nat) (xm : Nat) (xg : Nat) (tr : Nat → Nat) (xs : Nat) (xp : Nat) (xq : Nat) (xe : Nat) (xt : Nat) (xa : Nat → Nat) (ca : Nat → Nat) (na : Nat → Nat) (F : Nat)  (x1 : Int32) (xi : Nat → Int32) (si : Nat → Int32) (rm : OB) (tm : OB)  {res : Int32 × OB} (h : f_X8_tall F x1 xi si rm tm = some res) : CtI l yX8_tall wsX8_tall (rmK 5 0 0) [.ref (xo 0), .int x1] D k sz (([((xo 0), .inr (6, [.ref (ta 0), .ref xr, .int (xi 2), .ref (sa 0), .ref xm, .ref xg, .ref (tr 0), .ref xs, .ref xp, .ref xq, .ref xe, .ref xt]))] : va_W) ++ (([((sa 0), .inr (4, [.ref (xa 0), .ref (ca 0), .ref (na 0), .int (si 3), .int (si 4)]))] : va_W) ++ (rmW k xa rm ++ (rmW k tr tm)))) (fun r (_ : Unit) => r = res.1) (fun _ : Unit => ([((xo 0), .inr (6, [.ref (ta 0), .ref xr, .int (xi 2), .ref (sa 0), .ref xm, .ref xg, .ref (tr 0), .ref xs, .ref xp, .ref xq, .ref xe, .ref xt]))] : va_W) ++ (([((sa 0), .inr (4, [.ref (xa 0), .ref (ca 0), .ref (na 0), .int (si 3), .int (si 4)]))] : va_W) ++ (rmW k xa rm ++ (rmW k tr res.2)))) 0 0 := by
  refine CtI.mk (cc := cX8_tall) (maxL := 7) (ret := (some .int)) (by decide) rfl (Nat.le_of_ble_eq_true rfl) ?_
  intro p e s m below meth c A ls E hP hD hS hl
  obtain ⟨hx, hb, hr, hml, hown, hts, hlocks, hin, hG, hA⟩ := E
  have hown : s.vm.findClass RX8 = some m.cls := hown
  have in3 : ∀ w ∈ u_ws RX3 TX3 17, w ∈ wsX8_tall := fun _ h => List.mem_cons_of_mem _ (List.mem_append_right _ h)
  have in6 : ∀ w ∈ u_ws RX6 TX6 5, w ∈ wsX8_tall := fun _ h => List.mem_cons_of_mem _ (List.mem_append_left _ (List.mem_append_right _ h))
  have in8 : ∀ w ∈ u_ws RX8 TX8 12, w ∈ wsX8_tall := fun _ h => List.mem_cons_of_mem _ (List.mem_append_left _ (List.mem_append_left _ (List.mem_append_right _ h)))
  have hl : lv_has ls 7 [(0, .ref (xo 0)), (1, .int x1)] := hl
  have B24 : ∀ (tm : OB) (H : Heap) (locs : List Loc) (ls : Array Slot), b_X8_tall_24 F xi si rm tm = some res → va_P D vwCl (([((xo 0), .inr (6, [.ref (ta 0), .ref xr, .int (xi 2), .ref (sa 0), .ref xm, .ref xg, .ref (tr 0), .ref xs, .ref xp, .ref xq, .ref xe, .ref xt]))] : va_W) ++ (([((sa 0), .inr (4, [.ref (xa 0), .ref (ca 0), .ref (na 0), .int (si 3), .int (si 4)]))] : va_W) ++ (rmW k xa rm ++ (rmW k tr tm)))) H → va_D A (([((xo 0), .inr (6, [.ref (ta 0), .ref xr, .int (xi 2), .ref (sa 0), .ref xm, .ref xg, .ref (tr 0), .ref xs, .ref xp, .ref xq, .ref xe, .ref xt]))] : va_W) ++ (([((sa 0), .inr (4, [.ref (xa 0), .ref (ca 0), .ref (na 0), .int (si 3), .int (si 4)]))] : va_W) ++ (rmW k xa rm ++ (rmW k tr tm)))) → va_S A s.heap H locs → lv_has ls 7 [] → W p l e (rmK 5 0 0) s m (List.toArray [.ref (xo 0), .int x1]) below meth c H locs 0 0 (MQ below (va_Qi (fun r (_ : Unit) => r = res.1) (hcB D (fun _ : Unit => ([((xo 0), .inr (6, [.ref (ta 0), .ref xr, .int (xi 2), .ref (sa 0), .ref xm, .ref xg, .ref (tr 0), .ref xs, .ref xp, .ref xq, .ref xe, .ref xt]))] : va_W) ++ (([((sa 0), .inr (4, [.ref (xa 0), .ref (ca 0), .ref (na 0), .int (si 3), .int (si 4)]))] : va_W) ++ (rmW k xa rm ++ (rmW k tr res.2)))) A) A) (List.toArray [.ref (xo 0), .int x1]) s 0 0 A) (F0 m 24 ls []) := by
    intro tm H locs ls h hP hD hS hl
    refine lv_iconst (v := (-1)) hx hb dX8_tall_24 (by decide) ?_
    exact fw_endI (rv := fun b : Int32 × OB => b.1) (wp := fun b : Int32 × OB => ([((xo 0), .inr (6, [.ref (ta 0), .ref xr, .int (xi 2), .ref (sa 0), .ref xm, .ref xg, .ref (tr 0), .ref xs, .ref xp, .ref xq, .ref xe, .ref xt]))] : va_W) ++ (([((sa 0), .inr (4, [.ref (xa 0), .ref (ca 0), .ref (na 0), .int (si 3), .int (si 4)]))] : va_W) ++ (rmW k xa rm ++ (rmW k tr b.2)))) hx hb hr hlocks h rfl hP hD hS dX8_tall_25
  have B105 : ∀ (y0 : Int32) (tm : OB) (H : Heap) (locs : List Loc) (ls : Array Slot), b_X8_tall_105 F xi si rm y0 tm = some res → va_P D vwCl (([((xo 0), .inr (6, [.ref (ta 0), .ref xr, .int (xi 2), .ref (sa 0), .ref xm, .ref xg, .ref (tr 0), .ref xs, .ref xp, .ref xq, .ref xe, .ref xt]))] : va_W) ++ (([((sa 0), .inr (4, [.ref (xa 0), .ref (ca 0), .ref (na 0), .int (si 3), .int (si 4)]))] : va_W) ++ (rmW k xa rm ++ (rmW k tr tm)))) H → va_D A (([((xo 0), .inr (6, [.ref (ta 0), .ref xr, .int (xi 2), .ref (sa 0), .ref xm, .ref xg, .ref (tr 0), .ref xs, .ref xp, .ref xq, .ref xe, .ref xt]))] : va_W) ++ (([((sa 0), .inr (4, [.ref (xa 0), .ref (ca 0), .ref (na 0), .int (si 3), .int (si 4)]))] : va_W) ++ (rmW k xa rm ++ (rmW k tr tm)))) → va_S A s.heap H locs → lv_has ls 7 [] → W p l e (rmK 5 0 0) s m (List.toArray [.ref (xo 0), .int x1]) below meth c H locs 0 0 (MQ below (va_Qi (fun r (_ : Unit) => r = res.1) (hcB D (fun _ : Unit => ([((xo 0), .inr (6, [.ref (ta 0), .ref xr, .int (xi 2), .ref (sa 0), .ref xm, .ref xg, .ref (tr 0), .ref xs, .ref xp, .ref xq, .ref xe, .ref xt]))] : va_W) ++ (([((sa 0), .inr (4, [.ref (xa 0), .ref (ca 0), .ref (na 0), .int (si 3), .int (si 4)]))] : va_W) ++ (rmW k xa rm ++ (rmW k tr res.2)))) A) A) (List.toArray [.ref (xo 0), .int x1]) s 0 0 A) (F0 m 105 ls [.int y0]) := by
    intro y0 tm H locs ls h hP hD hS hl
    exact fw_endI (rv := fun b : Int32 × OB => b.1) (wp := fun b : Int32 × OB => ([((xo 0), .inr (6, [.ref (ta 0), .ref xr, .int (xi 2), .ref (sa 0), .ref xm, .ref xg, .ref (tr 0), .ref xs, .ref xp, .ref xq, .ref xe, .ref xt]))] : va_W) ++ (([((sa 0), .inr (4, [.ref (xa 0), .ref (ca 0), .ref (na 0), .int (si 3), .int (si 4)]))] : va_W) ++ (rmW k xa rm ++ (rmW k tr b.2)))) hx hb hr hlocks h rfl hP hD hS dX8_tall_105
  have B34 : ∀ a34 : (Int32 × Int32 × Int32 × Int32 × OB), lp (b_X8_tall_34 F xi si rm) F a34 = some res → ∀ (H : Heap) (locs : List Loc) (ls : Array Slot), va_P D vwCl (([((xo 0), .inr (6, [.ref (ta 0), .ref xr, .int (xi 2), .ref (sa 0), .ref xm, .ref xg, .ref (tr 0), .ref xs, .ref xp, .ref xq, .ref xe, .ref xt]))] : va_W) ++ (([((sa 0), .inr (4, [.ref (xa 0), .ref (ca 0), .ref (na 0), .int (si 3), .int (si 4)]))] : va_W) ++ (rmW k xa rm ++ (rmW k tr a34.2.2.2.2)))) H → va_D A (([((xo 0), .inr (6, [.ref (ta 0), .ref xr, .int (xi 2), .ref (sa 0), .ref xm, .ref xg, .ref (tr 0), .ref xs, .ref xp, .ref xq, .ref xe, .ref xt]))] : va_W) ++ (([((sa 0), .inr (4, [.ref (xa 0), .ref (ca 0), .ref (na 0), .int (si 3), .int (si 4)]))] : va_W) ++ (rmW k xa rm ++ (rmW k tr a34.2.2.2.2)))) → va_S A s.heap H locs → lv_has ls 7 [(0, .ref (xo 0)), (1, .int a34.1), (2, .ref (xa 0)), (3, .int a34.2.1), (4, .int a34.2.2.1), (5, .int a34.2.2.2.1)] → W p l e (rmK 5 0 0) s m (List.toArray [.ref (xo 0), .int x1]) below meth c H locs 0 0 (MQ below (va_Qi (fun r (_ : Unit) => r = res.1) (hcB D (fun _ : Unit => ([((xo 0), .inr (6, [.ref (ta 0), .ref xr, .int (xi 2), .ref (sa 0), .ref xm, .ref xg, .ref (tr 0), .ref xs, .ref xp, .ref xq, .ref xe, .ref xt]))] : va_W) ++ (([((sa 0), .inr (4, [.ref (xa 0), .ref (ca 0), .ref (na 0), .int (si 3), .int (si 4)]))] : va_W) ++ (rmW k xa rm ++ (rmW k tr res.2)))) A) A) (List.toArray [.ref (xo 0), .int x1]) s 0 0 A) (F0 m 34 ls []) := by
    refine lp_W ?_ F
    intro k34 hk34 a34 h H locs ls hP hD hS hl
    have hc34 : ∀ (v1 : Int32) (v3 : Int32) (v4 : Int32) (v5 : Int32) (tm : OB), k34 (v1, v3, v4, v5, tm) = some res → ∀ (H : Heap) (locs : List Loc) (ls : Array Slot), va_P D vwCl (([((xo 0), .inr (6, [.ref (ta 0), .ref xr, .int (xi 2), .ref (sa 0), .ref xm, .ref xg, .ref (tr 0), .ref xs, .ref xp, .ref xq, .ref xe, .ref xt]))] : va_W) ++ (([((sa 0), .inr (4, [.ref (xa 0), .ref (ca 0), .ref (na 0), .int (si 3), .int (si 4)]))] : va_W) ++ (rmW k xa rm ++ (rmW k tr tm)))) H → va_D A (([((xo 0), .inr (6, [.ref (ta 0), .ref xr, .int (xi 2), .ref (sa 0), .ref xm, .ref xg, .ref (tr 0), .ref xs, .ref xp, .ref xq, .ref xe, .ref xt]))] : va_W) ++ (([((sa 0), .inr (4, [.ref (xa 0), .ref (ca 0), .ref (na 0), .int (si 3), .int (si 4)]))] : va_W) ++ (rmW k xa rm ++ (rmW k tr tm)))) → va_S A s.heap H locs → lv_has ls 7 [(0, .ref (xo 0)), (1, .int v1), (2, .ref (xa 0)), (3, .int v3), (4, .int v4), (5, .int v5)] → W p l e (rmK 5 0 0) s m (List.toArray [.ref (xo 0), .int x1]) below meth c H locs 0 0 (MQ below (va_Qi (fun r (_ : Unit) => r = res.1) (hcB D (fun _ : Unit => ([((xo 0), .inr (6, [.ref (ta 0), .ref xr, .int (xi 2), .ref (sa 0), .ref xm, .ref xg, .ref (tr 0), .ref xs, .ref xp, .ref xq, .ref xe, .ref xt]))] : va_W) ++ (([((sa 0), .inr (4, [.ref (xa 0), .ref (ca 0), .ref (na 0), .int (si 3), .int (si 4)]))] : va_W) ++ (rmW k xa rm ++ (rmW k tr res.2)))) A) A) (List.toArray [.ref (xo 0), .int x1]) s 0 0 A) (F0 m 34 ls []) := fun v1 v3 v4 v5 tm => hk34 (v1, v3, v4, v5, tm)
    have B81 : ∀ (v1 : Int32) (v3 : Int32) (v4 : Int32) (v5 : Int32) (tm : OB) (H : Heap) (locs : List Loc) (ls : Array Slot), b_X8_tall_81 F xi si rm k34 v1 v3 v4 v5 tm = some res → va_P D vwCl (([((xo 0), .inr (6, [.ref (ta 0), .ref xr, .int (xi 2), .ref (sa 0), .ref xm, .ref xg, .ref (tr 0), .ref xs, .ref xp, .ref xq, .ref xe, .ref xt]))] : va_W) ++ (([((sa 0), .inr (4, [.ref (xa 0), .ref (ca 0), .ref (na 0), .int (si 3), .int (si 4)]))] : va_W) ++ (rmW k xa rm ++ (rmW k tr tm)))) H → va_D A (([((xo 0), .inr (6, [.ref (ta 0), .ref xr, .int (xi 2), .ref (sa 0), .ref xm, .ref xg, .ref (tr 0), .ref xs, .ref xp, .ref xq, .ref xe, .ref xt]))] : va_W) ++ (([((sa 0), .inr (4, [.ref (xa 0), .ref (ca 0), .ref (na 0), .int (si 3), .int (si 4)]))] : va_W) ++ (rmW k xa rm ++ (rmW k tr tm)))) → va_S A s.heap H locs → lv_has ls 7 [(0, .ref (xo 0)), (1, .int v1), (2, .ref (xa 0)), (3, .int v3), (4, .int v4), (5, .int v5)] → W p l e (rmK 5 0 0) s m (List.toArray [.ref (xo 0), .int x1]) below meth c H locs 0 0 (MQ below (va_Qi (fun r (_ : Unit) => r = res.1) (hcB D (fun _ : Unit => ([((xo 0), .inr (6, [.ref (ta 0), .ref xr, .int (xi 2), .ref (sa 0), .ref xm, .ref xg, .ref (tr 0), .ref xs, .ref xp, .ref xq, .ref xe, .ref xt]))] : va_W) ++ (([((sa 0), .inr (4, [.ref (xa 0), .ref (ca 0), .ref (na 0), .int (si 3), .int (si 4)]))] : va_W) ++ (rmW k xa rm ++ (rmW k tr res.2)))) A) A) (List.toArray [.ref (xo 0), .int x1]) s 0 0 A) (F0 m 81 ls []) := by
      intro v1 v3 v4 v5 tm H locs ls h hP hD hS hl
      refine lv_iinc (v := (v5 + 1)) (lv' := [(5, .int (v5 + 1)), (0, .ref (xo 0)), (1, .int v1), (2, .ref (xa 0)), (3, .int v3), (4, .int v4)]) hx hb dX8_tall_81 hl (k := 5) rfl rfl (by decide) rfl (fun ls hl => ?_)
      refine lv_goto (tgt := 34) hx hb dX8_tall_84 (by decide) ?_
      exact hc34 _ _ _ _ _ h _ _ _ hP hD hS (lv_sub hl [1, 2, 3, 4, 5, 0] rfl)
    have B65 : ∀ (v1 : Int32) (v3 : Int32) (v4 : Int32) (v5 : Int32) (y0 : Int32) (tm : OB) (H : Heap) (locs : List Loc) (ls : Array Slot), b_X8_tall_65 F xi si rm k34 v1 v3 v4 v5 y0 tm = some res → va_P D vwCl (([((xo 0), .inr (6, [.ref (ta 0), .ref xr, .int (xi 2), .ref (sa 0), .ref xm, .ref xg, .ref (tr 0), .ref xs, .ref xp, .ref xq, .ref xe, .ref xt]))] : va_W) ++ (([((sa 0), .inr (4, [.ref (xa 0), .ref (ca 0), .ref (na 0), .int (si 3), .int (si 4)]))] : va_W) ++ (rmW k xa rm ++ (rmW k tr tm)))) H → va_D A (([((xo 0), .inr (6, [.ref (ta 0), .ref xr, .int (xi 2), .ref (sa 0), .ref xm, .ref xg, .ref (tr 0), .ref xs, .ref xp, .ref xq, .ref xe, .ref xt]))] : va_W) ++ (([((sa 0), .inr (4, [.ref (xa 0), .ref (ca 0), .ref (na 0), .int (si 3), .int (si 4)]))] : va_W) ++ (rmW k xa rm ++ (rmW k tr tm)))) → va_S A s.heap H locs → lv_has ls 7 [(0, .ref (xo 0)), (1, .int v1), (2, .ref (xa 0)), (3, .int v3), (4, .int v4), (5, .int v5)] → W p l e (rmK 5 0 0) s m (List.toArray [.ref (xo 0), .int x1]) below meth c H locs 0 0 (MQ below (va_Qi (fun r (_ : Unit) => r = res.1) (hcB D (fun _ : Unit => ([((xo 0), .inr (6, [.ref (ta 0), .ref xr, .int (xi 2), .ref (sa 0), .ref xm, .ref xg, .ref (tr 0), .ref xs, .ref xp, .ref xq, .ref xe, .ref xt]))] : va_W) ++ (([((sa 0), .inr (4, [.ref (xa 0), .ref (ca 0), .ref (na 0), .int (si 3), .int (si 4)]))] : va_W) ++ (rmW k xa rm ++ (rmW k tr res.2)))) A) A) (List.toArray [.ref (xo 0), .int x1]) s 0 0 A) (F0 m 65 ls [.int y0]) := by
      intro v1 v3 v4 v5 y0 tm H locs ls h hP hD hS hl
      refine lv_istore (lv' := [(6, .int y0), (0, .ref (xo 0)), (1, .int v1), (2, .ref (xa 0)), (3, .int v3), (4, .int v4), (5, .int v5)]) hx hb dX8_tall_65 hl (by decide) rfl (fun ls hl => ?_)
      refine lv_iload hx hb dX8_tall_67 (lv_at hl 0 rfl) ?_
      refine lv_iload hx hb dX8_tall_69 (lv_at hl 5 rfl) ?_
      refine lv_icmp_le (tgt := 81) hx hb dX8_tall_71 (by decide) (fun c1 => ?_) (fun c1 => ?_)
      · have h := fw_t c1 h
        exact B81 _ _ _ _ _ _ _ _ h hP hD hS (lv_sub hl [1, 2, 3, 4, 5, 6] rfl)
      · have h := fw_f c1 h
        refine lv_iload hx hb dX8_tall_74 (lv_at hl 6 rfl) ?_
        refine lv_istore_n (lv' := [(3, .int v5), (6, .int y0), (0, .ref (xo 0)), (1, .int v1), (2, .ref (xa 0)), (4, .int v4), (5, .int v5)]) hx hb dX8_tall_76 rfl hl (by decide) rfl (fun ls hl => ?_)
        refine lv_iload hx hb dX8_tall_77 (lv_at hl 1 rfl) ?_
        refine lv_istore (lv' := [(4, .int y0), (3, .int v5), (6, .int y0), (0, .ref (xo 0)), (1, .int v1), (2, .ref (xa 0)), (5, .int v5)]) hx hb dX8_tall_79 hl (by decide) rfl (fun ls hl => ?_)
        exact B81 _ _ _ _ _ _ _ _ h hP hD hS (lv_sub hl [3, 4, 5, 1, 0, 6] rfl)
    refine lv_iload hx hb dX8_tall_34 (lv_at hl 5 rfl) ?_
    refine lv_aload_n hx hb dX8_tall_36 rfl (lv_at hl 2 rfl) ?_
    refine va_get (D := D) (ci := 2) (v := .int (rm.1 3)) (C := RX3) (T := TX3) (N := 17) hx hb hts in3 hown hG.1 hP 2 rfl rfl 3 (by decide) (hts (.fieldLink RX8 104 "ChairCane$Room" "sitters" "I") (mem_b bq_wsX8_tall 0 3 rfl)) (fun _ h9 => h9) rfl dX8_tall_37 ?_
    refine lv_icmp_ge (tgt := 87) hx hb dX8_tall_40 (by decide) (fun c2 => ?_) (fun c2 => ?_)
    · have h := fw_t c2 h
      refine lv_iload_n hx hb dX8_tall_87 rfl (lv_at hl 3 rfl) ?_
      refine lv_iconst (v := (-1)) hx hb dX8_tall_88 (by decide) ?_
      refine lv_icmp_ne (tgt := 95) hx hb dX8_tall_89 (by decide) (fun c3 => ?_) (fun c3 => ?_)
      · have h := fw_f c3 h
        refine lv_iload_n hx hb dX8_tall_95 rfl (lv_at hl 1 rfl) ?_
        refine lv_if_ne (tgt := 103) hx hb dX8_tall_96 (by decide) (fun c4 => ?_) (fun c4 => ?_)
        · have h := fw_f c4 h
          refine lv_iload hx hb dX8_tall_103 (lv_at hl 4 rfl) ?_
          exact B105 _ _ _ _ _ h hP hD hS (lv_sub hl [] rfl)
        · have h := fw_t c4 h
          refine lv_iload_n hx hb dX8_tall_99 rfl (lv_at hl 3 rfl) ?_
          refine lv_goto (tgt := 105) hx hb dX8_tall_100 (by decide) ?_
          exact B105 _ _ _ _ _ h hP hD hS (lv_sub hl [] rfl)
      · have h := fw_t c3 h
        refine lv_bipush (v := (-2)) hx hb dX8_tall_92 (by decide) ?_
        exact fw_endI (rv := fun b : Int32 × OB => b.1) (wp := fun b : Int32 × OB => ([((xo 0), .inr (6, [.ref (ta 0), .ref xr, .int (xi 2), .ref (sa 0), .ref xm, .ref xg, .ref (tr 0), .ref xs, .ref xp, .ref xq, .ref xe, .ref xt]))] : va_W) ++ (([((sa 0), .inr (4, [.ref (xa 0), .ref (ca 0), .ref (na 0), .int (si 3), .int (si 4)]))] : va_W) ++ (rmW k xa rm ++ (rmW k tr b.2)))) hx hb hr hlocks h rfl hP hD hS dX8_tall_94
    · have h := fw_f c2 h
      refine lv_aload_n hx hb dX8_tall_43 rfl (lv_at hl 2 rfl) ?_
      refine lv_iload hx hb dX8_tall_44 (lv_at hl 5 rfl) ?_
      obtain ⟨hP, hD⟩ := qm hP hD (q_to [([((xo 0), .inr (6, [.ref (ta 0), .ref xr, .int (xi 2), .ref (sa 0), .ref xm, .ref xg, .ref (tr 0), .ref xs, .ref xp, .ref xq, .ref xe, .ref xt]))] : va_W), ([((sa 0), .inr (4, [.ref (xa 0), .ref (ca 0), .ref (na 0), .int (si 3), .int (si 4)]))] : va_W), rmW k xa rm, rmW k tr a34.2.2.2.2] [0, 1, 2, 3] [2] [0, 1, 3] (by decide +kernel))
      refine fw_Vi (As := [.int a34.2.2.2.1]) (rest := []) (n := 1) (rv := fun b : Int32 => b) (wp := fun b : Int32 => rmW k xa rm) h hx hb hml hown hts hG hA hP hD hS hl.1 _ _ (fun q hq9 => c_X3_isDown l D k _  xa F a34.2.2.2.1 rm  hq9) (ci := 2) (q0 := 0) rfl rfl gX8_tall_X3_isDown rfl ⟨rfl, rfl, Nat.le_of_ble_eq_true rfl, Nat.le_of_ble_eq_true rfl⟩ (by decide +kernel) (q_l _ _) (q_r _ _) (q_nd _ _) ⟨rfl, rfl, Nat.le_of_ble_eq_true rfl, Nat.le_of_ble_eq_true rfl, Nat.le_of_ble_eq_true rfl⟩ dX8_tall_46 (fun q5 H locs h hP hD hS => ?_)
      obtain ⟨hP, hD⟩ := qm (w2 := ([((xo 0), .inr (6, [.ref (ta 0), .ref xr, .int (xi 2), .ref (sa 0), .ref xm, .ref xg, .ref (tr 0), .ref xs, .ref xp, .ref xq, .ref xe, .ref xt]))] : va_W) ++ (([((sa 0), .inr (4, [.ref (xa 0), .ref (ca 0), .ref (na 0), .int (si 3), .int (si 4)]))] : va_W) ++ (rmW k xa rm ++ (rmW k tr a34.2.2.2.2)))) hP hD (q_from [([((xo 0), .inr (6, [.ref (ta 0), .ref xr, .int (xi 2), .ref (sa 0), .ref xm, .ref xg, .ref (tr 0), .ref xs, .ref xp, .ref xq, .ref xe, .ref xt]))] : va_W), ([((sa 0), .inr (4, [.ref (xa 0), .ref (ca 0), .ref (na 0), .int (si 3), .int (si 4)]))] : va_W), rmW k xa rm, rmW k tr a34.2.2.2.2] [0, 1, 3] [2] [0, 1, 2, 3] (by decide +kernel))
      refine hc_is (z := q5) rfl ?_
      refine lv_if_eq (tgt := 64) hx hb dX8_tall_49 (by decide) (fun c6 => ?_) (fun c6 => ?_)
      · have h := fw_t c6 h
        refine lv_iconst (v := (-1)) hx hb dX8_tall_64 (by decide) ?_
        exact B65 _ _ _ _ _ _ _ _ _ h hP hD hS hl
      · have h := fw_f c6 h
        refine lv_aload_n hx hb dX8_tall_52 rfl (lv_at hl 0 rfl) ?_
        refine lv_iload hx hb dX8_tall_53 (lv_at hl 5 rfl) ?_
        refine fw_Vi (As := [.int a34.2.2.2.1]) (rest := []) (n := 1) (wr := []) (rv := fun b : Int32 × OB => b.1) (wp := fun b : Int32 × OB => ([((xo 0), .inr (6, [.ref (ta 0), .ref xr, .int (xi 2), .ref (sa 0), .ref xm, .ref xg, .ref (tr 0), .ref xs, .ref xp, .ref xq, .ref xe, .ref xt]))] : va_W) ++ (([((sa 0), .inr (4, [.ref (xa 0), .ref (ca 0), .ref (na 0), .int (si 3), .int (si 4)]))] : va_W) ++ (rmW k xa rm ++ (rmW k tr b.2)))) h hx hb hml hown hts hG hA hP hD hS hl.1 (List.range (([((xo 0), .inr (6, [.ref (ta 0), .ref xr, .int (xi 2), .ref (sa 0), .ref xm, .ref xg, .ref (tr 0), .ref xs, .ref xp, .ref xq, .ref xe, .ref xt]))] : va_W) ++ (([((sa 0), .inr (4, [.ref (xa 0), .ref (ca 0), .ref (na 0), .int (si 3), .int (si 4)]))] : va_W) ++ (rmW k xa rm ++ (rmW k tr a34.2.2.2.2))) : va_W).length) [] (fun q hq9 => c_X8_felledBy l D k _  xo ta xr sa xm xg tr xs xp xq xe xt xa ca na F a34.2.2.2.1 xi si rm a34.2.2.2.2  hq9) (ci := 6) (q0 := 0) rfl rfl gX8_tall_X8_felledBy rfl ⟨rfl, rfl, Nat.le_of_ble_eq_true rfl, Nat.le_of_ble_eq_true rfl⟩ (by decide +kernel) (al_C _) rfl (al_n _) ⟨rfl, rfl, Nat.le_of_ble_eq_true rfl, Nat.le_of_ble_eq_true rfl, Nat.le_of_ble_eq_true rfl⟩ dX8_tall_55 (fun q7 H locs h hP hD hS => ?_)
        obtain ⟨hP, hD⟩ := cv (w' := ([((xo 0), .inr (6, [.ref (ta 0), .ref xr, .int (xi 2), .ref (sa 0), .ref xm, .ref xg, .ref (tr 0), .ref xs, .ref xp, .ref xq, .ref xe, .ref xt]))] : va_W) ++ (([((sa 0), .inr (4, [.ref (xa 0), .ref (ca 0), .ref (na 0), .int (si 3), .int (si 4)]))] : va_W) ++ (rmW k xa rm ++ (rmW k tr q7.2)))) hP hD rfl
        refine hc_is (z := q7.1) rfl ?_
        refine fw_Si (As := [.int q7.1]) (rest := []) (n := 1) (wr := ([((xo 0), .inr (6, [.ref (ta 0), .ref xr, .int (xi 2), .ref (sa 0), .ref xm, .ref xg, .ref (tr 0), .ref xs, .ref xp, .ref xq, .ref xe, .ref xt]))] : va_W) ++ (([((sa 0), .inr (4, [.ref (xa 0), .ref (ca 0), .ref (na 0), .int (si 3), .int (si 4)]))] : va_W) ++ (rmW k xa rm ++ (rmW k tr q7.2)))) (rv := fun b : Int32 => b) (wp := fun b : Int32 => []) h hx hb hml hown hts hG hA hP hD hS hl.1 [] (List.range (([((xo 0), .inr (6, [.ref (ta 0), .ref xr, .int (xi 2), .ref (sa 0), .ref xm, .ref xg, .ref (tr 0), .ref xs, .ref xp, .ref xq, .ref xe, .ref xt]))] : va_W) ++ (([((sa 0), .inr (4, [.ref (xa 0), .ref (ca 0), .ref (na 0), .int (si 3), .int (si 4)]))] : va_W) ++ (rmW k xa rm ++ (rmW k tr q7.2))) : va_W).length) (fun q hq9 => c_J6_bitCount_0f7a4 l D k _   F q7.1   hq9) gX8_tall_J6_bitCount_0f7a4 rfl ⟨rfl, rfl, Nat.le_of_ble_eq_true rfl, Nat.le_of_ble_eq_true rfl⟩ (by decide +kernel) rfl (al_C _) (al_m _) ⟨rfl, rfl, Nat.le_of_ble_eq_true rfl, Nat.le_of_ble_eq_true rfl, Nat.le_of_ble_eq_true rfl⟩ dX8_tall_58 (fun q8 H locs h hP hD hS => ?_)
        obtain ⟨hP, hD⟩ := cv (w' := (([((xo 0), .inr (6, [.ref (ta 0), .ref xr, .int (xi 2), .ref (sa 0), .ref xm, .ref xg, .ref (tr 0), .ref xs, .ref xp, .ref xq, .ref xe, .ref xt]))] : va_W) ++ (([((sa 0), .inr (4, [.ref (xa 0), .ref (ca 0), .ref (na 0), .int (si 3), .int (si 4)]))] : va_W) ++ (rmW k xa rm ++ (rmW k tr q7.2)))) ++ []) hP hD rfl
        rw [List.append_nil] at hP hD
        refine hc_is (z := q8) rfl ?_
        refine lv_goto (tgt := 65) hx hb dX8_tall_61 (by decide) ?_
        exact B65 _ _ _ _ _ _ _ _ _ h hP hD hS hl
  have C34 : ∀ (v1 : Int32) (v3 : Int32) (v4 : Int32) (v5 : Int32) (tm : OB), lp (b_X8_tall_34 F xi si rm) F (v1, v3, v4, v5, tm) = some res → ∀ (H : Heap) (locs : List Loc) (ls : Array Slot), va_P D vwCl (([((xo 0), .inr (6, [.ref (ta 0), .ref xr, .int (xi 2), .ref (sa 0), .ref xm, .ref xg, .ref (tr 0), .ref xs, .ref xp, .ref xq, .ref xe, .ref xt]))] : va_W) ++ (([((sa 0), .inr (4, [.ref (xa 0), .ref (ca 0), .ref (na 0), .int (si 3), .int (si 4)]))] : va_W) ++ (rmW k xa rm ++ (rmW k tr tm)))) H → va_D A (([((xo 0), .inr (6, [.ref (ta 0), .ref xr, .int (xi 2), .ref (sa 0), .ref xm, .ref xg, .ref (tr 0), .ref xs, .ref xp, .ref xq, .ref xe, .ref xt]))] : va_W) ++ (([((sa 0), .inr (4, [.ref (xa 0), .ref (ca 0), .ref (na 0), .int (si 3), .int (si 4)]))] : va_W) ++ (rmW k xa rm ++ (rmW k tr tm)))) → va_S A s.heap H locs → lv_has ls 7 [(0, .ref (xo 0)), (1, .int v1), (2, .ref (xa 0)), (3, .int v3), (4, .int v4), (5, .int v5)] → W p l e (rmK 5 0 0) s m (List.toArray [.ref (xo 0), .int x1]) below meth c H locs 0 0 (MQ below (va_Qi (fun r (_ : Unit) => r = res.1) (hcB D (fun _ : Unit => ([((xo 0), .inr (6, [.ref (ta 0), .ref xr, .int (xi 2), .ref (sa 0), .ref xm, .ref xg, .ref (tr 0), .ref xs, .ref xp, .ref xq, .ref xe, .ref xt]))] : va_W) ++ (([((sa 0), .inr (4, [.ref (xa 0), .ref (ca 0), .ref (na 0), .int (si 3), .int (si 4)]))] : va_W) ++ (rmW k xa rm ++ (rmW k tr res.2)))) A) A) (List.toArray [.ref (xo 0), .int x1]) s 0 0 A) (F0 m 34 ls []) := fun v1 v3 v4 v5 tm => B34 (v1, v3, v4, v5, tm)
  refine lv_aload_n hx hb dX8_tall_0 rfl (lv_at hl 0 rfl) ?_
  refine va_get (D := D) (ci := 6) (v := .ref (sa 0)) (C := RX8) (T := TX8) (N := 12) hx hb hts in8 hown hG.1 hP 0 rfl rfl 3 (by decide) (hts (.fieldLink RX8 29 "ChairCane" "now" "LChairCane$Standing;") (mem_b bq_wsX8_tall 0 0 rfl)) (fun _ h9 => h9) rfl dX8_tall_1 ?_
  refine va_get (D := D) (ci := 4) (v := .ref (xa 0)) (C := RX6) (T := TX6) (N := 5) hx hb hts in6 hown hG.1 hP 1 rfl rfl 0 (by decide) (hts (.fieldLink RX8 81 "ChairCane$Standing" "room" "LChairCane$Room;") (mem_b bq_wsX8_tall 0 1 rfl)) (fun _ h9 => h9) rfl dX8_tall_4 ?_
  refine lv_astore_n (lv' := [(2, .ref (xa 0)), (0, .ref (xo 0)), (1, .int x1)]) hx hb dX8_tall_7 rfl hl (by decide) rfl (fun ls hl => ?_)
  refine lv_aload_n hx hb dX8_tall_8 rfl (lv_at hl 0 rfl) ?_
  refine va_get (D := D) (ci := 2) (v := .int (rm.1 0)) (C := RX3) (T := TX3) (N := 17) hx hb hts in3 hown hG.1 hP 2 rfl rfl 0 (by decide) (hts (.fieldLink RX8 150 "ChairCane$Room" "told" "Z") (mem_b bq_wsX8_tall 0 2 rfl)) (fun _ h9 => h9) rfl dX8_tall_9 ?_
  refine lv_if_eq (tgt := 24) hx hb dX8_tall_12 (by decide) (fun c9 => ?_) (fun c9 => ?_)
  · have h := fw_t c9 h
    exact B24 _ _ _ _ h hP hD hS (lv_sub hl [] rfl)
  · have h := fw_f c9 h
    refine lv_iload_n hx hb dX8_tall_15 rfl (lv_at hl 2 rfl) ?_
    refine lv_if_lt (tgt := 24) hx hb dX8_tall_16 (by decide) (fun c10 => ?_) (fun c10 => ?_)
    · have h := fw_t c10 h
      exact B24 _ _ _ _ h hP hD hS (lv_sub hl [] rfl)
    · have h := fw_f c10 h
      refine lv_iload_n hx hb dX8_tall_19 rfl (lv_at hl 2 rfl) ?_
      refine lv_iconst (v := 1) hx hb dX8_tall_20 (by decide) ?_
      refine lv_icmp_le (tgt := 26) hx hb dX8_tall_21 (by decide) (fun c11 => ?_) (fun c11 => ?_)
      · have h := fw_t c11 h
        refine lv_iconst (v := (-1)) hx hb dX8_tall_26 (by decide) ?_
        refine lv_istore_n (lv' := [(3, .int (-1)), (2, .ref (xa 0)), (0, .ref (xo 0)), (1, .int x1)]) hx hb dX8_tall_27 rfl hl (by decide) rfl (fun ls hl => ?_)
        refine lv_iconst (v := (-1)) hx hb dX8_tall_28 (by decide) ?_
        refine lv_istore (lv' := [(4, .int (-1)), (3, .int (-1)), (2, .ref (xa 0)), (0, .ref (xo 0)), (1, .int x1)]) hx hb dX8_tall_29 hl (by decide) rfl (fun ls hl => ?_)
        refine lv_iconst (v := 0) hx hb dX8_tall_31 (by decide) ?_
        refine lv_istore (lv' := [(5, .int 0), (4, .int (-1)), (3, .int (-1)), (2, .ref (xa 0)), (0, .ref (xo 0)), (1, .int x1)]) hx hb dX8_tall_32 hl (by decide) rfl (fun ls hl => ?_)
        exact C34 _ _ _ _ _ h _ _ _ hP hD hS (lv_sub hl [4, 5, 3, 2, 1, 0] rfl)
      · have h := fw_f c11 h
        exact B24 _ _ _ _ h hP hD hS (lv_sub hl [] rfl)
noncomputable def b_X8_ease_24 (F : Nat)  (xi : Nat → Int32) (si : Nat → Int32) (rm : OB)  (tm : OB) : Option (Int32 × OB) :=
  some ((-1), tm)
noncomputable def b_X8_ease_118 (F : Nat)  (xi : Nat → Int32) (si : Nat → Int32) (rm : OB)  (y0 : Int32) (tm : OB) : Option (Int32 × OB) :=
  some (y0, tm)
noncomputable def b_X8_ease_101 (F : Nat)  (xi : Nat → Int32) (si : Nat → Int32) (rm : OB) (k48 : (Int32 × Int32 × Int32 × Int32 × Int32 × OB) → Option (Int32 × OB)) (v1 : Int32) (v3 : Int32) (v4 : Int32) (v5 : Int32) (v6 : Int32) (tm : OB) : Option (Int32 × OB) :=
  k48 (v1, v3, v4, v5, (v6 + 1), tm)
noncomputable def b_X8_ease_48 (F : Nat)  (xi : Nat → Int32) (si : Nat → Int32) (rm : OB)  (k48 : (Int32 × Int32 × Int32 × Int32 × Int32 × OB) → Option (Int32 × OB)) (a48 : (Int32 × Int32 × Int32 × Int32 × Int32 × OB)) : Option (Int32 × OB) :=
  if a48.2.1 < a48.2.2.2.2.1 then (if a48.1 = 0 then (b_X8_ease_118 F xi si rm a48.2.2.1 a48.2.2.2.2.2) else (b_X8_ease_118 F xi si rm a48.2.2.2.1 a48.2.2.2.2.2)) else (if (a48.2.2.2.2.1 &&& (a48.2.1 ^^^ (-1))) = 0 then (Option.bind (f_J6_bitCount_0f7a4 F a48.2.2.2.2.1) (fun q4 => (if q4 ≤ a48.2.2.1 then (b_X8_ease_101 F xi si rm k48 a48.1 a48.2.1 a48.2.2.1 a48.2.2.2.1 a48.2.2.2.2.1 a48.2.2.2.2.2) else (Option.bind (f_X3_bears F ((rm.1 10) ||| a48.2.2.2.2.1) a48.2.2.2.2.2) (fun q6 => (if q6.1 = 0 then (b_X8_ease_101 F xi si rm k48 a48.1 a48.2.1 a48.2.2.1 a48.2.2.2.1 a48.2.2.2.2.1 q6.2) else (Option.bind (f_J6_bitCount_0f7a4 F a48.2.2.2.2.1) (fun q8 => (b_X8_ease_101 F xi si rm k48 a48.1 a48.2.1 q8 a48.2.2.2.2.1 a48.2.2.2.2.1 q6.2))))))))) else (b_X8_ease_101 F xi si rm k48 a48.1 a48.2.1 a48.2.2.1 a48.2.2.2.1 a48.2.2.2.2.1 a48.2.2.2.2.2))
noncomputable def f_X8_ease (F : Nat)  (x1 : Int32) (xi : Nat → Int32) (si : Nat → Int32) (rm : OB) (tm : OB) : Option (Int32 × OB) :=
  if (rm.1 0) = 0 then (b_X8_ease_24 F xi si rm tm) else (if x1 < 0 then (b_X8_ease_24 F xi si rm tm) else (if x1 ≤ 1 then (Option.bind (f_X3_standing F rm) (fun q12 => (Option.bind (f_X3_copyFrom F tm rm) (fun q13 => (lp (b_X8_ease_48 F xi si rm) F (x1, q12, 0, 0, 1, q13)))))) else (b_X8_ease_24 F xi si rm tm)))
set_option maxHeartbeats 4000000 in
set_option maxRecDepth 100000 in
theorem c_X8_ease (l : Launch) (D : va_G) (k : Nat → ClassId) (sz : Nat)  (xo : Nat → Nat) (ta : Nat → Nat) (xr : Nat) (sa : Nat → Nat) (xm : Nat) (xg : Nat) (tr : Nat → Nat) (xs : Nat) (xp : Nat) (xq : Nat) (xe : Nat) (xt : Nat) (xa : Nat → Nat) (ca : Nat → Nat) (na : Nat → Nat) (F : Nat)  (x1 : Int32) (xi : Nat → Int32) (si : Nat → Int32) (rm : OB) (tm : OB)  {res : Int32 × OB} (h : f_X8_ease F x1 xi si rm tm = some res) : CtI l yX8_ease wsX8_ease (rmK 4 0 0) [.ref (xo 0), .int x1] D k sz (([((xo 0), .inr (6, [.ref (ta 0), .ref xr, .int (xi 2), .ref (sa 0), .ref xm, .ref xg, .ref (tr 0), .ref xs, .ref xp, .ref xq, .ref xe, .ref xt]))] : va_W) ++ (([((sa 0), .inr (4, [.ref (xa 0), .ref (ca 0), .ref (na 0), .int (si 3), .int (si 4)]))] : va_W) ++ (rmW k xa rm ++ (rmW k tr tm)))) (fun r (_ : Unit) => r = res.1) (fun _ : Unit => ([((xo 0), .inr (6, [.ref (ta 0), .ref xr, .int (xi 2), .ref (sa 0), .ref xm, .ref xg, .ref (tr 0), .ref xs, .ref xp, .ref xq, .ref xe, .ref xt]))] : va_W) ++ (([((sa 0), .inr (4, [.ref (xa 0), .ref (ca 0), .ref (na 0), .int (si 3), .int (si 4)]))] : va_W) ++ (rmW k xa rm ++ (rmW k tr res.2)))) 0 0 := by
  refine CtI.mk (cc := cX8_ease) (maxL := 7) (ret := (some .int)) (by decide) rfl (Nat.le_of_ble_eq_true rfl) ?_
  intro p e s m below meth c A ls E hP hD hS hl
  obtain ⟨hx, hb, hr, hml, hown, hts, hlocks, hin, hG, hA⟩ := E
  have hown : s.vm.findClass RX8 = some m.cls := hown
  have in3 : ∀ w ∈ u_ws RX3 TX3 17, w ∈ wsX8_ease := fun _ h => List.mem_cons_of_mem _ (List.mem_append_right _ h)
  have in6 : ∀ w ∈ u_ws RX6 TX6 5, w ∈ wsX8_ease := fun _ h => List.mem_cons_of_mem _ (List.mem_append_left _ (List.mem_append_right _ h))
  have in8 : ∀ w ∈ u_ws RX8 TX8 12, w ∈ wsX8_ease := fun _ h => List.mem_cons_of_mem _ (List.mem_append_left _ (List.mem_append_left _ (List.mem_append_right _ h)))
  have hl : lv_has ls 7 [(0, .ref (xo 0)), (1, .int x1)] := hl
  have B24 : ∀ (tm : OB) (H : Heap) (locs : List Loc) (ls : Array Slot), b_X8_ease_24 F xi si rm tm = some res → va_P D vwCl (([((xo 0), .inr (6, [.ref (ta 0), .ref xr, .int (xi 2), .ref (sa 0), .ref xm, .ref xg, .ref (tr 0), .ref xs, .ref xp, .ref xq, .ref xe, .ref xt]))] : va_W) ++ (([((sa 0), .inr (4, [.ref (xa 0), .ref (ca 0), .ref (na 0), .int (si 3), .int (si 4)]))] : va_W) ++ (rmW k xa rm ++ (rmW k tr tm)))) H → va_D A (([((xo 0), .inr (6, [.ref (ta 0), .ref xr, .int (xi 2), .ref (sa 0), .ref xm, .ref xg, .ref (tr 0), .ref xs, .ref xp, .ref xq, .ref xe, .ref xt]))] : va_W) ++ (([((sa 0), .inr (4, [.ref (xa 0), .ref (ca 0), .ref (na 0), .int (si 3), .int (si 4)]))] : va_W) ++ (rmW k xa rm ++ (rmW k tr tm)))) → va_S A s.heap H locs → lv_has ls 7 [] → W p l e (rmK 4 0 0) s m (List.toArray [.ref (xo 0), .int x1]) below meth c H locs 0 0 (MQ below (va_Qi (fun r (_ : Unit) => r = res.1) (hcB D (fun _ : Unit => ([((xo 0), .inr (6, [.ref (ta 0), .ref xr, .int (xi 2), .ref (sa 0), .ref xm, .ref xg, .ref (tr 0), .ref xs, .ref xp, .ref xq, .ref xe, .ref xt]))] : va_W) ++ (([((sa 0), .inr (4, [.ref (xa 0), .ref (ca 0), .ref (na 0), .int (si 3), .int (si 4)]))] : va_W) ++ (rmW k xa rm ++ (rmW k tr res.2)))) A) A) (List.toArray [.ref (xo 0), .int x1]) s 0 0 A) (F0 m 24 ls []) := by
    intro tm H locs ls h hP hD hS hl
    refine lv_iconst (v := (-1)) hx hb dX8_ease_24 (by decide) ?_
    exact fw_endI (rv := fun b : Int32 × OB => b.1) (wp := fun b : Int32 × OB => ([((xo 0), .inr (6, [.ref (ta 0), .ref xr, .int (xi 2), .ref (sa 0), .ref xm, .ref xg, .ref (tr 0), .ref xs, .ref xp, .ref xq, .ref xe, .ref xt]))] : va_W) ++ (([((sa 0), .inr (4, [.ref (xa 0), .ref (ca 0), .ref (na 0), .int (si 3), .int (si 4)]))] : va_W) ++ (rmW k xa rm ++ (rmW k tr b.2)))) hx hb hr hlocks h rfl hP hD hS dX8_ease_25
  have B118 : ∀ (y0 : Int32) (tm : OB) (H : Heap) (locs : List Loc) (ls : Array Slot), b_X8_ease_118 F xi si rm y0 tm = some res → va_P D vwCl (([((xo 0), .inr (6, [.ref (ta 0), .ref xr, .int (xi 2), .ref (sa 0), .ref xm, .ref xg, .ref (tr 0), .ref xs, .ref xp, .ref xq, .ref xe, .ref xt]))] : va_W) ++ (([((sa 0), .inr (4, [.ref (xa 0), .ref (ca 0), .ref (na 0), .int (si 3), .int (si 4)]))] : va_W) ++ (rmW k xa rm ++ (rmW k tr tm)))) H → va_D A (([((xo 0), .inr (6, [.ref (ta 0), .ref xr, .int (xi 2), .ref (sa 0), .ref xm, .ref xg, .ref (tr 0), .ref xs, .ref xp, .ref xq, .ref xe, .ref xt]))] : va_W) ++ (([((sa 0), .inr (4, [.ref (xa 0), .ref (ca 0), .ref (na 0), .int (si 3), .int (si 4)]))] : va_W) ++ (rmW k xa rm ++ (rmW k tr tm)))) → va_S A s.heap H locs → lv_has ls 7 [] → W p l e (rmK 4 0 0) s m (List.toArray [.ref (xo 0), .int x1]) below meth c H locs 0 0 (MQ below (va_Qi (fun r (_ : Unit) => r = res.1) (hcB D (fun _ : Unit => ([((xo 0), .inr (6, [.ref (ta 0), .ref xr, .int (xi 2), .ref (sa 0), .ref xm, .ref xg, .ref (tr 0), .ref xs, .ref xp, .ref xq, .ref xe, .ref xt]))] : va_W) ++ (([((sa 0), .inr (4, [.ref (xa 0), .ref (ca 0), .ref (na 0), .int (si 3), .int (si 4)]))] : va_W) ++ (rmW k xa rm ++ (rmW k tr res.2)))) A) A) (List.toArray [.ref (xo 0), .int x1]) s 0 0 A) (F0 m 118 ls [.int y0]) := by
    intro y0 tm H locs ls h hP hD hS hl
    exact fw_endI (rv := fun b : Int32 × OB => b.1) (wp := fun b : Int32 × OB => ([((xo 0), .inr (6, [.ref (ta 0), .ref xr, .int (xi 2), .ref (sa 0), .ref xm, .ref xg, .ref (tr 0), .ref xs, .ref xp, .ref xq, .ref xe, .ref xt]))] : va_W) ++ (([((sa 0), .inr (4, [.ref (xa 0), .ref (ca 0), .ref (na 0), .int (si 3), .int (si 4)]))] : va_W) ++ (rmW k xa rm ++ (rmW k tr b.2)))) hx hb hr hlocks h rfl hP hD hS dX8_ease_118
  have B48 : ∀ a48 : (Int32 × Int32 × Int32 × Int32 × Int32 × OB), lp (b_X8_ease_48 F xi si rm) F a48 = some res → ∀ (H : Heap) (locs : List Loc) (ls : Array Slot), va_P D vwCl (([((xo 0), .inr (6, [.ref (ta 0), .ref xr, .int (xi 2), .ref (sa 0), .ref xm, .ref xg, .ref (tr 0), .ref xs, .ref xp, .ref xq, .ref xe, .ref xt]))] : va_W) ++ (([((sa 0), .inr (4, [.ref (xa 0), .ref (ca 0), .ref (na 0), .int (si 3), .int (si 4)]))] : va_W) ++ (rmW k xa rm ++ (rmW k tr a48.2.2.2.2.2)))) H → va_D A (([((xo 0), .inr (6, [.ref (ta 0), .ref xr, .int (xi 2), .ref (sa 0), .ref xm, .ref xg, .ref (tr 0), .ref xs, .ref xp, .ref xq, .ref xe, .ref xt]))] : va_W) ++ (([((sa 0), .inr (4, [.ref (xa 0), .ref (ca 0), .ref (na 0), .int (si 3), .int (si 4)]))] : va_W) ++ (rmW k xa rm ++ (rmW k tr a48.2.2.2.2.2)))) → va_S A s.heap H locs → lv_has ls 7 [(0, .ref (xo 0)), (1, .int a48.1), (2, .ref (xa 0)), (3, .int a48.2.1), (4, .int a48.2.2.1), (5, .int a48.2.2.2.1), (6, .int a48.2.2.2.2.1)] → W p l e (rmK 4 0 0) s m (List.toArray [.ref (xo 0), .int x1]) below meth c H locs 0 0 (MQ below (va_Qi (fun r (_ : Unit) => r = res.1) (hcB D (fun _ : Unit => ([((xo 0), .inr (6, [.ref (ta 0), .ref xr, .int (xi 2), .ref (sa 0), .ref xm, .ref xg, .ref (tr 0), .ref xs, .ref xp, .ref xq, .ref xe, .ref xt]))] : va_W) ++ (([((sa 0), .inr (4, [.ref (xa 0), .ref (ca 0), .ref (na 0), .int (si 3), .int (si 4)]))] : va_W) ++ (rmW k xa rm ++ (rmW k tr res.2)))) A) A) (List.toArray [.ref (xo 0), .int x1]) s 0 0 A) (F0 m 48 ls []) := by
    refine lp_W ?_ F
    intro k48 hk48 a48 h H locs ls hP hD hS hl
    have hc48 : ∀ (v1 : Int32) (v3 : Int32) (v4 : Int32) (v5 : Int32) (v6 : Int32) (tm : OB), k48 (v1, v3, v4, v5, v6, tm) = some res → ∀ (H : Heap) (locs : List Loc) (ls : Array Slot), va_P D vwCl (([((xo 0), .inr (6, [.ref (ta 0), .ref xr, .int (xi 2), .ref (sa 0), .ref xm, .ref xg, .ref (tr 0), .ref xs, .ref xp, .ref xq, .ref xe, .ref xt]))] : va_W) ++ (([((sa 0), .inr (4, [.ref (xa 0), .ref (ca 0), .ref (na 0), .int (si 3), .int (si 4)]))] : va_W) ++ (rmW k xa rm ++ (rmW k tr tm)))) H → va_D A (([((xo 0), .inr (6, [.ref (ta 0), .ref xr, .int (xi 2), .ref (sa 0), .ref xm, .ref xg, .ref (tr 0), .ref xs, .ref xp, .ref xq, .ref xe, .ref xt]))] : va_W) ++ (([((sa 0), .inr (4, [.ref (xa 0), .ref (ca 0), .ref (na 0), .int (si 3), .int (si 4)]))] : va_W) ++ (rmW k xa rm ++ (rmW k tr tm)))) → va_S A s.heap H locs → lv_has ls 7 [(0, .ref (xo 0)), (1, .int v1), (2, .ref (xa 0)), (3, .int v3), (4, .int v4), (5, .int v5), (6, .int v6)] → W p l e (rmK 4 0 0) s m (List.toArray [.ref (xo 0), .int x1]) below meth c H locs 0 0 (MQ below (va_Qi (fun r (_ : Unit) => r = res.1) (hcB D (fun _ : Unit => ([((xo 0), .inr (6, [.ref (ta 0), .ref xr, .int (xi 2), .ref (sa 0), .ref xm, .ref xg, .ref (tr 0), .ref xs, .ref xp, .ref xq, .ref xe, .ref xt]))] : va_W) ++ (([((sa 0), .inr (4, [.ref (xa 0), .ref (ca 0), .ref (na 0), .int (si 3), .int (si 4)]))] : va_W) ++ (rmW k xa rm ++ (rmW k tr res.2)))) A) A) (List.toArray [.ref (xo 0), .int x1]) s 0 0 A) (F0 m 48 ls []) := fun v1 v3 v4 v5 v6 tm => hk48 (v1, v3, v4, v5, v6, tm)
    have B101 : ∀ (v1 : Int32) (v3 : Int32) (v4 : Int32) (v5 : Int32) (v6 : Int32) (tm : OB) (H : Heap) (locs : List Loc) (ls : Array Slot), b_X8_ease_101 F xi si rm k48 v1 v3 v4 v5 v6 tm = some res → va_P D vwCl (([((xo 0), .inr (6, [.ref (ta 0), .ref xr, .int (xi 2), .ref (sa 0), .ref xm, .ref xg, .ref (tr 0), .ref xs, .ref xp, .ref xq, .ref xe, .ref xt]))] : va_W) ++ (([((sa 0), .inr (4, [.ref (xa 0), .ref (ca 0), .ref (na 0), .int (si 3), .int (si 4)]))] : va_W) ++ (rmW k xa rm ++ (rmW k tr tm)))) H → va_D A (([((xo 0), .inr (6, [.ref (ta 0), .ref xr, .int (xi 2), .ref (sa 0), .ref xm, .ref xg, .ref (tr 0), .ref xs, .ref xp, .ref xq, .ref xe, .ref xt]))] : va_W) ++ (([((sa 0), .inr (4, [.ref (xa 0), .ref (ca 0), .ref (na 0), .int (si 3), .int (si 4)]))] : va_W) ++ (rmW k xa rm ++ (rmW k tr tm)))) → va_S A s.heap H locs → lv_has ls 7 [(0, .ref (xo 0)), (1, .int v1), (2, .ref (xa 0)), (3, .int v3), (4, .int v4), (5, .int v5), (6, .int v6)] → W p l e (rmK 4 0 0) s m (List.toArray [.ref (xo 0), .int x1]) below meth c H locs 0 0 (MQ below (va_Qi (fun r (_ : Unit) => r = res.1) (hcB D (fun _ : Unit => ([((xo 0), .inr (6, [.ref (ta 0), .ref xr, .int (xi 2), .ref (sa 0), .ref xm, .ref xg, .ref (tr 0), .ref xs, .ref xp, .ref xq, .ref xe, .ref xt]))] : va_W) ++ (([((sa 0), .inr (4, [.ref (xa 0), .ref (ca 0), .ref (na 0), .int (si 3), .int (si 4)]))] : va_W) ++ (rmW k xa rm ++ (rmW k tr res.2)))) A) A) (List.toArray [.ref (xo 0), .int x1]) s 0 0 A) (F0 m 101 ls []) := by
      intro v1 v3 v4 v5 v6 tm H locs ls h hP hD hS hl
      refine lv_iinc (v := (v6 + 1)) (lv' := [(6, .int (v6 + 1)), (0, .ref (xo 0)), (1, .int v1), (2, .ref (xa 0)), (3, .int v3), (4, .int v4), (5, .int v5)]) hx hb dX8_ease_101 hl (k := 6) rfl rfl (by decide) rfl (fun ls hl => ?_)
      refine lv_goto (tgt := 48) hx hb dX8_ease_104 (by decide) ?_
      exact hc48 _ _ _ _ _ _ h _ _ _ hP hD hS (lv_sub hl [1, 2, 3, 4, 5, 6, 0] rfl)
    refine lv_iload hx hb dX8_ease_48 (lv_at hl 6 rfl) ?_
    refine lv_iload_n hx hb dX8_ease_50 rfl (lv_at hl 3 rfl) ?_
    refine lv_icmp_gt (tgt := 107) hx hb dX8_ease_51 (by decide) (fun c1 => ?_) (fun c1 => ?_)
    · have h := fw_t c1 h
      refine lv_iload_n hx hb dX8_ease_107 rfl (lv_at hl 1 rfl) ?_
      refine lv_if_ne (tgt := 116) hx hb dX8_ease_108 (by decide) (fun c2 => ?_) (fun c2 => ?_)
      · have h := fw_f c2 h
        refine lv_iload hx hb dX8_ease_116 (lv_at hl 5 rfl) ?_
        exact B118 _ _ _ _ _ h hP hD hS (lv_sub hl [] rfl)
      · have h := fw_t c2 h
        refine lv_iload hx hb dX8_ease_111 (lv_at hl 4 rfl) ?_
        refine lv_goto (tgt := 118) hx hb dX8_ease_113 (by decide) ?_
        exact B118 _ _ _ _ _ h hP hD hS (lv_sub hl [] rfl)
    · have h := fw_f c1 h
      refine lv_iload hx hb dX8_ease_54 (lv_at hl 6 rfl) ?_
      refine lv_iload_n hx hb dX8_ease_56 rfl (lv_at hl 3 rfl) ?_
      refine lv_iconst (v := (-1)) hx hb dX8_ease_57 (by decide) ?_
      refine lv_ixor hx hb dX8_ease_58 ?_
      refine lv_iand hx hb dX8_ease_59 ?_
      refine lv_if_ne (tgt := 101) hx hb dX8_ease_60 (by decide) (fun c3 => ?_) (fun c3 => ?_)
      · have h := fw_f c3 h
        exact B101 _ _ _ _ _ _ _ _ _ h hP hD hS hl
      · have h := fw_t c3 h
        refine lv_iload hx hb dX8_ease_63 (lv_at hl 6 rfl) ?_
        refine fw_Si (As := [.int a48.2.2.2.2.1]) (rest := []) (n := 1) (wr := ([((xo 0), .inr (6, [.ref (ta 0), .ref xr, .int (xi 2), .ref (sa 0), .ref xm, .ref xg, .ref (tr 0), .ref xs, .ref xp, .ref xq, .ref xe, .ref xt]))] : va_W) ++ (([((sa 0), .inr (4, [.ref (xa 0), .ref (ca 0), .ref (na 0), .int (si 3), .int (si 4)]))] : va_W) ++ (rmW k xa rm ++ (rmW k tr a48.2.2.2.2.2)))) (rv := fun b : Int32 => b) (wp := fun b : Int32 => []) h hx hb hml hown hts hG hA hP hD hS hl.1 [] (List.range (([((xo 0), .inr (6, [.ref (ta 0), .ref xr, .int (xi 2), .ref (sa 0), .ref xm, .ref xg, .ref (tr 0), .ref xs, .ref xp, .ref xq, .ref xe, .ref xt]))] : va_W) ++ (([((sa 0), .inr (4, [.ref (xa 0), .ref (ca 0), .ref (na 0), .int (si 3), .int (si 4)]))] : va_W) ++ (rmW k xa rm ++ (rmW k tr a48.2.2.2.2.2))) : va_W).length) (fun q hq9 => c_J6_bitCount_0f7a4 l D k _   F a48.2.2.2.2.1   hq9) gX8_ease_J6_bitCount_0f7a4 rfl ⟨rfl, rfl, Nat.le_of_ble_eq_true rfl, Nat.le_of_ble_eq_true rfl⟩ (by decide +kernel) rfl (al_C _) (al_m _) ⟨rfl, rfl, Nat.le_of_ble_eq_true rfl, Nat.le_of_ble_eq_true rfl, Nat.le_of_ble_eq_true rfl⟩ dX8_ease_65 (fun q4 H locs h hP hD hS => ?_)
        obtain ⟨hP, hD⟩ := cv (w' := (([((xo 0), .inr (6, [.ref (ta 0), .ref xr, .int (xi 2), .ref (sa 0), .ref xm, .ref xg, .ref (tr 0), .ref xs, .ref xp, .ref xq, .ref xe, .ref xt]))] : va_W) ++ (([((sa 0), .inr (4, [.ref (xa 0), .ref (ca 0), .ref (na 0), .int (si 3), .int (si 4)]))] : va_W) ++ (rmW k xa rm ++ (rmW k tr a48.2.2.2.2.2)))) ++ []) hP hD rfl
        rw [List.append_nil] at hP hD
        refine hc_is (z := q4) rfl ?_
        refine lv_iload hx hb dX8_ease_68 (lv_at hl 4 rfl) ?_
        refine lv_icmp_le (tgt := 101) hx hb dX8_ease_70 (by decide) (fun c5 => ?_) (fun c5 => ?_)
        · have h := fw_t c5 h
          exact B101 _ _ _ _ _ _ _ _ _ h hP hD hS hl
        · have h := fw_f c5 h
          refine lv_aload_n hx hb dX8_ease_73 rfl (lv_at hl 0 rfl) ?_
          refine va_get (D := D) (ci := 6) (v := .ref (tr 0)) (C := RX8) (T := TX8) (N := 12) hx hb hts in8 hown hG.1 hP 0 rfl rfl 6 (by decide) (hts (.fieldLink RX8 44 "ChairCane" "trial" "LChairCane$Room;") (mem_b bq_wsX8_ease 0 3 rfl)) (fun _ h9 => h9) rfl dX8_ease_74 ?_
          refine lv_aload_n hx hb dX8_ease_77 rfl (lv_at hl 2 rfl) ?_
          refine va_get (D := D) (ci := 2) (v := .int (rm.1 10)) (C := RX3) (T := TX3) (N := 17) hx hb hts in3 hown hG.1 hP 2 rfl rfl 10 (by decide) (hts (.fieldLink RX8 200 "ChairCane$Room" "sits" "I") (mem_b bq_wsX8_ease 0 4 rfl)) (fun _ h9 => h9) rfl dX8_ease_78 ?_
          refine lv_iload hx hb dX8_ease_81 (lv_at hl 6 rfl) ?_
          refine lv_ior hx hb dX8_ease_83 ?_
          obtain ⟨hP, hD⟩ := qm hP hD (q_to [([((xo 0), .inr (6, [.ref (ta 0), .ref xr, .int (xi 2), .ref (sa 0), .ref xm, .ref xg, .ref (tr 0), .ref xs, .ref xp, .ref xq, .ref xe, .ref xt]))] : va_W), ([((sa 0), .inr (4, [.ref (xa 0), .ref (ca 0), .ref (na 0), .int (si 3), .int (si 4)]))] : va_W), rmW k xa rm, rmW k tr a48.2.2.2.2.2] [0, 1, 2, 3] [3] [0, 1, 2] (by decide +kernel))
          refine fw_Vi (As := [.int ((rm.1 10) ||| a48.2.2.2.2.1)]) (rest := []) (n := 1) (rv := fun b : Int32 × OB => b.1) (wp := fun b : Int32 × OB => rmW k tr b.2) h hx hb hml hown hts hG hA hP hD hS hl.1 _ _ (fun q hq9 => c_X3_bears l D k _  tr F ((rm.1 10) ||| a48.2.2.2.2.1) a48.2.2.2.2.2  hq9) (ci := 2) (q0 := 0) rfl rfl gX8_ease_X3_bears rfl ⟨rfl, rfl, Nat.le_of_ble_eq_true rfl, Nat.le_of_ble_eq_true rfl⟩ (by decide +kernel) (q_l _ _) (q_r _ _) (q_nd _ _) ⟨rfl, rfl, Nat.le_of_ble_eq_true rfl, Nat.le_of_ble_eq_true rfl, Nat.le_of_ble_eq_true rfl⟩ dX8_ease_84 (fun q6 H locs h hP hD hS => ?_)
          obtain ⟨hP, hD⟩ := qm (w2 := ([((xo 0), .inr (6, [.ref (ta 0), .ref xr, .int (xi 2), .ref (sa 0), .ref xm, .ref xg, .ref (tr 0), .ref xs, .ref xp, .ref xq, .ref xe, .ref xt]))] : va_W) ++ (([((sa 0), .inr (4, [.ref (xa 0), .ref (ca 0), .ref (na 0), .int (si 3), .int (si 4)]))] : va_W) ++ (rmW k xa rm ++ (rmW k tr q6.2)))) hP hD (q_from [([((xo 0), .inr (6, [.ref (ta 0), .ref xr, .int (xi 2), .ref (sa 0), .ref xm, .ref xg, .ref (tr 0), .ref xs, .ref xp, .ref xq, .ref xe, .ref xt]))] : va_W), ([((sa 0), .inr (4, [.ref (xa 0), .ref (ca 0), .ref (na 0), .int (si 3), .int (si 4)]))] : va_W), rmW k xa rm, rmW k tr q6.2] [0, 1, 2] [3] [0, 1, 2, 3] (by decide +kernel))
          refine hc_is (z := q6.1) rfl ?_
          refine lv_if_eq (tgt := 101) hx hb dX8_ease_87 (by decide) (fun c7 => ?_) (fun c7 => ?_)
          · have h := fw_t c7 h
            exact B101 _ _ _ _ _ _ _ _ _ h hP hD hS hl
          · have h := fw_f c7 h
            refine lv_iload hx hb dX8_ease_90 (lv_at hl 6 rfl) ?_
            refine fw_Si (As := [.int a48.2.2.2.2.1]) (rest := []) (n := 1) (wr := ([((xo 0), .inr (6, [.ref (ta 0), .ref xr, .int (xi 2), .ref (sa 0), .ref xm, .ref xg, .ref (tr 0), .ref xs, .ref xp, .ref xq, .ref xe, .ref xt]))] : va_W) ++ (([((sa 0), .inr (4, [.ref (xa 0), .ref (ca 0), .ref (na 0), .int (si 3), .int (si 4)]))] : va_W) ++ (rmW k xa rm ++ (rmW k tr q6.2)))) (rv := fun b : Int32 => b) (wp := fun b : Int32 => []) h hx hb hml hown hts hG hA hP hD hS hl.1 [] (List.range (([((xo 0), .inr (6, [.ref (ta 0), .ref xr, .int (xi 2), .ref (sa 0), .ref xm, .ref xg, .ref (tr 0), .ref xs, .ref xp, .ref xq, .ref xe, .ref xt]))] : va_W) ++ (([((sa 0), .inr (4, [.ref (xa 0), .ref (ca 0), .ref (na 0), .int (si 3), .int (si 4)]))] : va_W) ++ (rmW k xa rm ++ (rmW k tr q6.2))) : va_W).length) (fun q hq9 => c_J6_bitCount_0f7a4 l D k _   F a48.2.2.2.2.1   hq9) gX8_ease_J6_bitCount_0f7a4 rfl ⟨rfl, rfl, Nat.le_of_ble_eq_true rfl, Nat.le_of_ble_eq_true rfl⟩ (by decide +kernel) rfl (al_C _) (al_m _) ⟨rfl, rfl, Nat.le_of_ble_eq_true rfl, Nat.le_of_ble_eq_true rfl, Nat.le_of_ble_eq_true rfl⟩ dX8_ease_92 (fun q8 H locs h hP hD hS => ?_)
            obtain ⟨hP, hD⟩ := cv (w' := (([((xo 0), .inr (6, [.ref (ta 0), .ref xr, .int (xi 2), .ref (sa 0), .ref xm, .ref xg, .ref (tr 0), .ref xs, .ref xp, .ref xq, .ref xe, .ref xt]))] : va_W) ++ (([((sa 0), .inr (4, [.ref (xa 0), .ref (ca 0), .ref (na 0), .int (si 3), .int (si 4)]))] : va_W) ++ (rmW k xa rm ++ (rmW k tr q6.2)))) ++ []) hP hD rfl
            rw [List.append_nil] at hP hD
            refine hc_is (z := q8) rfl ?_
            refine lv_istore (lv' := [(4, .int q8), (0, .ref (xo 0)), (1, .int a48.1), (2, .ref (xa 0)), (3, .int a48.2.1), (5, .int a48.2.2.2.1), (6, .int a48.2.2.2.2.1)]) hx hb dX8_ease_95 hl (by decide) rfl (fun ls hl => ?_)
            refine lv_iload hx hb dX8_ease_97 (lv_at hl 6 rfl) ?_
            refine lv_istore (lv' := [(5, .int a48.2.2.2.2.1), (4, .int q8), (0, .ref (xo 0)), (1, .int a48.1), (2, .ref (xa 0)), (3, .int a48.2.1), (6, .int a48.2.2.2.2.1)]) hx hb dX8_ease_99 hl (by decide) rfl (fun ls hl => ?_)
            exact B101 _ _ _ _ _ _ _ _ _ h hP hD hS (lv_sub hl [2, 3, 4, 5, 1, 0, 6] rfl)
  have C48 : ∀ (v1 : Int32) (v3 : Int32) (v4 : Int32) (v5 : Int32) (v6 : Int32) (tm : OB), lp (b_X8_ease_48 F xi si rm) F (v1, v3, v4, v5, v6, tm) = some res → ∀ (H : Heap) (locs : List Loc) (ls : Array Slot), va_P D vwCl (([((xo 0), .inr (6, [.ref (ta 0), .ref xr, .int (xi 2), .ref (sa 0), .ref xm, .ref xg, .ref (tr 0), .ref xs, .ref xp, .ref xq, .ref xe, .ref xt]))] : va_W) ++ (([((sa 0), .inr (4, [.ref (xa 0), .ref (ca 0), .ref (na 0), .int (si 3), .int (si 4)]))] : va_W) ++ (rmW k xa rm ++ (rmW k tr tm)))) H → va_D A (([((xo 0), .inr (6, [.ref (ta 0), .ref xr, .int (xi 2), .ref (sa 0), .ref xm, .ref xg, .ref (tr 0), .ref xs, .ref xp, .ref xq, .ref xe, .ref xt]))] : va_W) ++ (([((sa 0), .inr (4, [.ref (xa 0), .ref (ca 0), .ref (na 0), .int (si 3), .int (si 4)]))] : va_W) ++ (rmW k xa rm ++ (rmW k tr tm)))) → va_S A s.heap H locs → lv_has ls 7 [(0, .ref (xo 0)), (1, .int v1), (2, .ref (xa 0)), (3, .int v3), (4, .int v4), (5, .int v5), (6, .int v6)] → W p l e (rmK 4 0 0) s m (List.toArray [.ref (xo 0), .int x1]) below meth c H locs 0 0 (MQ below (va_Qi (fun r (_ : Unit) => r = res.1) (hcB D (fun _ : Unit => ([((xo 0), .inr (6, [.ref (ta 0), .ref xr, .int (xi 2), .ref (sa 0), .ref xm, .ref xg, .ref (tr 0), .ref xs, .ref xp, .ref xq, .ref xe, .ref xt]))] : va_W) ++ (([((sa 0), .inr (4, [.ref (xa 0), .ref (ca 0), .ref (na 0), .int (si 3), .int (si 4)]))] : va_W) ++ (rmW k xa rm ++ (rmW k tr res.2)))) A) A) (List.toArray [.ref (xo 0), .int x1]) s 0 0 A) (F0 m 48 ls []) := fun v1 v3 v4 v5 v6 tm => B48 (v1, v3, v4, v5, v6, tm)
  refine lv_aload_n hx hb dX8_ease_0 rfl (lv_at hl 0 rfl) ?_
  refine va_get (D := D) (ci := 6) (v := .ref (sa 0)) (C := RX8) (T := TX8) (N := 12) hx hb hts in8 hown hG.1 hP 0 rfl rfl 3 (by decide) (hts (.fieldLink RX8 29 "ChairCane" "now" "LChairCane$Standing;") (mem_b bq_wsX8_ease 0 0 rfl)) (fun _ h9 => h9) rfl dX8_ease_1 ?_
  refine va_get (D := D) (ci := 4) (v := .ref (xa 0)) (C := RX6) (T := TX6) (N := 5) hx hb hts in6 hown hG.1 hP 1 rfl rfl 0 (by decide) (hts (.fieldLink RX8 81 "ChairCane$Standing" "room" "LChairCane$Room;") (mem_b bq_wsX8_ease 0 1 rfl)) (fun _ h9 => h9) rfl dX8_ease_4 ?_
  refine lv_astore_n (lv' := [(2, .ref (xa 0)), (0, .ref (xo 0)), (1, .int x1)]) hx hb dX8_ease_7 rfl hl (by decide) rfl (fun ls hl => ?_)
  refine lv_aload_n hx hb dX8_ease_8 rfl (lv_at hl 0 rfl) ?_
  refine va_get (D := D) (ci := 2) (v := .int (rm.1 0)) (C := RX3) (T := TX3) (N := 17) hx hb hts in3 hown hG.1 hP 2 rfl rfl 0 (by decide) (hts (.fieldLink RX8 150 "ChairCane$Room" "told" "Z") (mem_b bq_wsX8_ease 0 2 rfl)) (fun _ h9 => h9) rfl dX8_ease_9 ?_
  refine lv_if_eq (tgt := 24) hx hb dX8_ease_12 (by decide) (fun c9 => ?_) (fun c9 => ?_)
  · have h := fw_t c9 h
    exact B24 _ _ _ _ h hP hD hS (lv_sub hl [] rfl)
  · have h := fw_f c9 h
    refine lv_iload_n hx hb dX8_ease_15 rfl (lv_at hl 2 rfl) ?_
    refine lv_if_lt (tgt := 24) hx hb dX8_ease_16 (by decide) (fun c10 => ?_) (fun c10 => ?_)
    · have h := fw_t c10 h
      exact B24 _ _ _ _ h hP hD hS (lv_sub hl [] rfl)
    · have h := fw_f c10 h
      refine lv_iload_n hx hb dX8_ease_19 rfl (lv_at hl 2 rfl) ?_
      refine lv_iconst (v := 1) hx hb dX8_ease_20 (by decide) ?_
      refine lv_icmp_le (tgt := 26) hx hb dX8_ease_21 (by decide) (fun c11 => ?_) (fun c11 => ?_)
      · have h := fw_t c11 h
        refine lv_aload_n hx hb dX8_ease_26 rfl (lv_at hl 0 rfl) ?_
        obtain ⟨hP, hD⟩ := qm hP hD (q_to [([((xo 0), .inr (6, [.ref (ta 0), .ref xr, .int (xi 2), .ref (sa 0), .ref xm, .ref xg, .ref (tr 0), .ref xs, .ref xp, .ref xq, .ref xe, .ref xt]))] : va_W), ([((sa 0), .inr (4, [.ref (xa 0), .ref (ca 0), .ref (na 0), .int (si 3), .int (si 4)]))] : va_W), rmW k xa rm, rmW k tr tm] [0, 1, 2, 3] [2] [0, 1, 3] (by decide +kernel))
        refine fw_Vi (As := []) (rest := []) (n := 0) (rv := fun b : Int32 => b) (wp := fun b : Int32 => rmW k xa rm) h hx hb hml hown hts hG hA hP hD hS hl.1 _ _ (fun q hq9 => c_X3_standing l D k _  xa F  rm  hq9) (ci := 2) (q0 := 0) rfl rfl gX8_ease_X3_standing rfl ⟨rfl, rfl, Nat.le_of_ble_eq_true rfl, Nat.le_of_ble_eq_true rfl⟩ (by decide +kernel) (q_l _ _) (q_r _ _) (q_nd _ _) ⟨rfl, rfl, Nat.le_of_ble_eq_true rfl, Nat.le_of_ble_eq_true rfl, Nat.le_of_ble_eq_true rfl⟩ dX8_ease_27 (fun q12 H locs h hP hD hS => ?_)
        obtain ⟨hP, hD⟩ := qm (w2 := ([((xo 0), .inr (6, [.ref (ta 0), .ref xr, .int (xi 2), .ref (sa 0), .ref xm, .ref xg, .ref (tr 0), .ref xs, .ref xp, .ref xq, .ref xe, .ref xt]))] : va_W) ++ (([((sa 0), .inr (4, [.ref (xa 0), .ref (ca 0), .ref (na 0), .int (si 3), .int (si 4)]))] : va_W) ++ (rmW k xa rm ++ (rmW k tr tm)))) hP hD (q_from [([((xo 0), .inr (6, [.ref (ta 0), .ref xr, .int (xi 2), .ref (sa 0), .ref xm, .ref xg, .ref (tr 0), .ref xs, .ref xp, .ref xq, .ref xe, .ref xt]))] : va_W), ([((sa 0), .inr (4, [.ref (xa 0), .ref (ca 0), .ref (na 0), .int (si 3), .int (si 4)]))] : va_W), rmW k xa rm, rmW k tr tm] [0, 1, 3] [2] [0, 1, 2, 3] (by decide +kernel))
        refine hc_is (z := q12) rfl ?_
        refine lv_istore_n (lv' := [(3, .int q12), (2, .ref (xa 0)), (0, .ref (xo 0)), (1, .int x1)]) hx hb dX8_ease_30 rfl hl (by decide) rfl (fun ls hl => ?_)
        refine lv_iconst (v := 0) hx hb dX8_ease_31 (by decide) ?_
        refine lv_istore (lv' := [(4, .int 0), (3, .int q12), (2, .ref (xa 0)), (0, .ref (xo 0)), (1, .int x1)]) hx hb dX8_ease_32 hl (by decide) rfl (fun ls hl => ?_)
        refine lv_iconst (v := 0) hx hb dX8_ease_34 (by decide) ?_
        refine lv_istore (lv' := [(5, .int 0), (4, .int 0), (3, .int q12), (2, .ref (xa 0)), (0, .ref (xo 0)), (1, .int x1)]) hx hb dX8_ease_35 hl (by decide) rfl (fun ls hl => ?_)
        refine lv_aload_n hx hb dX8_ease_37 rfl (lv_at hl 4 rfl) ?_
        refine va_get (D := D) (ci := 6) (v := .ref (tr 0)) (C := RX8) (T := TX8) (N := 12) hx hb hts in8 hown hG.1 hP 0 rfl rfl 6 (by decide) (hts (.fieldLink RX8 44 "ChairCane" "trial" "LChairCane$Room;") (mem_b bq_wsX8_ease 0 3 rfl)) (fun _ h9 => h9) rfl dX8_ease_38 ?_
        refine lv_aload_n hx hb dX8_ease_41 rfl (lv_at hl 3 rfl) ?_
        obtain ⟨hP, hD⟩ := qm hP hD (q_to [([((xo 0), .inr (6, [.ref (ta 0), .ref xr, .int (xi 2), .ref (sa 0), .ref xm, .ref xg, .ref (tr 0), .ref xs, .ref xp, .ref xq, .ref xe, .ref xt]))] : va_W), ([((sa 0), .inr (4, [.ref (xa 0), .ref (ca 0), .ref (na 0), .int (si 3), .int (si 4)]))] : va_W), rmW k xa rm, rmW k tr tm] [0, 1, 2, 3] [3, 2] [0, 1] (by decide +kernel))
        refine fw_Vv (As := [.ref (xa 0)]) (rest := []) (n := 1) (wp := fun b : OB => rmW k tr b ++ (rmW k xa rm)) h hx hb hml hown hts hG hA hP hD hS hl.1 _ _ (fun q hq9 => c_X3_copyFrom l D k _  tr xa F  tm rm  hq9) (ci := 2) (q0 := 0) rfl rfl gX8_ease_X3_copyFrom rfl ⟨rfl, rfl, Nat.le_of_ble_eq_true rfl, Nat.le_of_ble_eq_true rfl⟩ (by decide +kernel) (q_l _ _) (q_r _ _) (q_nd _ _) ⟨rfl, rfl, Nat.le_of_ble_eq_true rfl, Nat.le_of_ble_eq_true rfl, Nat.le_of_ble_eq_true rfl⟩ dX8_ease_42 (fun q13 H locs h hP hD hS => ?_)
        obtain ⟨hP, hD⟩ := qm (w2 := ([((xo 0), .inr (6, [.ref (ta 0), .ref xr, .int (xi 2), .ref (sa 0), .ref xm, .ref xg, .ref (tr 0), .ref xs, .ref xp, .ref xq, .ref xe, .ref xt]))] : va_W) ++ (([((sa 0), .inr (4, [.ref (xa 0), .ref (ca 0), .ref (na 0), .int (si 3), .int (si 4)]))] : va_W) ++ (rmW k xa rm ++ (rmW k tr q13)))) hP hD (q_from [([((xo 0), .inr (6, [.ref (ta 0), .ref xr, .int (xi 2), .ref (sa 0), .ref xm, .ref xg, .ref (tr 0), .ref xs, .ref xp, .ref xq, .ref xe, .ref xt]))] : va_W), ([((sa 0), .inr (4, [.ref (xa 0), .ref (ca 0), .ref (na 0), .int (si 3), .int (si 4)]))] : va_W), rmW k xa rm, rmW k tr q13] [0, 1] [3, 2] [0, 1, 2, 3] (by decide +kernel))
        refine lv_iconst (v := 1) hx hb dX8_ease_45 (by decide) ?_
        refine lv_istore (lv' := [(6, .int 1), (5, .int 0), (4, .int 0), (3, .int q12), (2, .ref (xa 0)), (0, .ref (xo 0)), (1, .int x1)]) hx hb dX8_ease_46 hl (by decide) rfl (fun ls hl => ?_)
        exact C48 _ _ _ _ _ _ h _ _ _ hP hD hS (lv_sub hl [5, 6, 4, 3, 2, 1, 0] rfl)
      · have h := fw_f c11 h
        exact B24 _ _ _ _ h hP hD hS (lv_sub hl [] rfl)
noncomputable def b_X8_firstToRise_43 (F : Nat)  (xi : Nat → Int32) (xsr : Nat → Int32) (k2 : (Int32 × Int32) → Option (Int32)) (v1 : Int32) (v2 : Int32) : Option (Int32) :=
  k2 (v1, (v2 + 1))
noncomputable def b_X8_firstToRise_2 (F : Nat)  (xi : Nat → Int32) (xsr : Nat → Int32)  (k2 : (Int32 × Int32) → Option (Int32)) (a2 : (Int32 × Int32)) : Option (Int32) :=
  if 8 ≤ a2.2 then (some (-1)) else (if (a2.1 &&& ((1 <<< (a2.2 &&& 31)) ^^^ (-1))) = a2.1 then (b_X8_firstToRise_43 F xi xsr k2 a2.1 a2.2) else (if (a2.1 &&& ((1 <<< (a2.2 &&& 31)) ^^^ (-1))) < 0 then (b_X8_firstToRise_43 F xi xsr k2 a2.1 a2.2) else (if (256 : Int32) ≤ (a2.1 &&& ((1 <<< (a2.2 &&& 31)) ^^^ (-1))) then (b_X8_firstToRise_43 F xi xsr k2 a2.1 a2.2) else (if ib (a2.1 &&& ((1 <<< (a2.2 &&& 31)) ^^^ (-1))) 256 then (if (xsr (Int32.toNatClampNeg (a2.1 &&& ((1 <<< (a2.2 &&& 31)) ^^^ (-1))))) = 0 then (b_X8_firstToRise_43 F xi xsr k2 a2.1 a2.2) else (some a2.2)) else none))))
noncomputable def f_X8_firstToRise (F : Nat)  (x1 : Int32) (xi : Nat → Int32) (xsr : Nat → Int32) : Option (Int32) :=
  lp (b_X8_firstToRise_2 F xi xsr) F (x1, 0)
set_option maxRecDepth 20000 in
theorem bq_wsX8_firstToRise : subq wsX8_firstToRise [[.fieldLink RX8 48 "ChairCane" "safe" "[Z"]] := ⟨(fun _ h => (List.mem_cons_of_mem _ (List.mem_append_left _ h))), trivial⟩
set_option maxHeartbeats 4000000 in
set_option maxRecDepth 100000 in
theorem c_X8_firstToRise (l : Launch) (D : va_G) (k : Nat → ClassId) (sz : Nat)  (xo : Nat → Nat) (ta : Nat → Nat) (xr : Nat) (sa : Nat → Nat) (xm : Nat) (xg : Nat) (tr : Nat → Nat) (xs : Nat) (xp : Nat) (xq : Nat) (xe : Nat) (xt : Nat) (F : Nat)  (x1 : Int32) (xi : Nat → Int32) (xsr : Nat → Int32)  {res : Int32} (h : f_X8_firstToRise F x1 xi xsr = some res) : CtI l yX8_firstToRise wsX8_firstToRise (rmK 1 0 0) [.ref (xo 0), .int x1] D k sz (([((xo 0), .inr (6, [.ref (ta 0), .ref xr, .int (xi 2), .ref (sa 0), .ref xm, .ref xg, .ref (tr 0), .ref xs, .ref xp, .ref xq, .ref xe, .ref xt]))] : va_W) ++ (([(xs, hcZ k 256 xsr)] : va_W))) (fun r (_ : Unit) => r = res) (fun _ : Unit => ([((xo 0), .inr (6, [.ref (ta 0), .ref xr, .int (xi 2), .ref (sa 0), .ref xm, .ref xg, .ref (tr 0), .ref xs, .ref xp, .ref xq, .ref xe, .ref xt]))] : va_W) ++ (([(xs, hcZ k 256 xsr)] : va_W))) 0 0 := by
  refine CtI.mk (cc := cX8_firstToRise) (maxL := 4) (ret := (some .int)) (by decide) rfl (Nat.le_of_ble_eq_true rfl) ?_
  intro p e s m below meth c A ls E hP hD hS hl
  obtain ⟨hx, hb, hr, hml, hown, hts, hlocks, hin, hG, hA⟩ := E
  have hown : s.vm.findClass RX8 = some m.cls := hown
  have in8 : ∀ w ∈ u_ws RX8 TX8 12, w ∈ wsX8_firstToRise := fun _ h => List.mem_cons_of_mem _ (List.mem_append_right _ h)
  have hl : lv_has ls 4 [(0, .ref (xo 0)), (1, .int x1)] := hl
  have B2 : ∀ a2 : (Int32 × Int32), lp (b_X8_firstToRise_2 F xi xsr) F a2 = some res → ∀ (H : Heap) (locs : List Loc) (ls : Array Slot), va_P D vwCl (([((xo 0), .inr (6, [.ref (ta 0), .ref xr, .int (xi 2), .ref (sa 0), .ref xm, .ref xg, .ref (tr 0), .ref xs, .ref xp, .ref xq, .ref xe, .ref xt]))] : va_W) ++ (([(xs, hcZ k 256 xsr)] : va_W))) H → va_D A (([((xo 0), .inr (6, [.ref (ta 0), .ref xr, .int (xi 2), .ref (sa 0), .ref xm, .ref xg, .ref (tr 0), .ref xs, .ref xp, .ref xq, .ref xe, .ref xt]))] : va_W) ++ (([(xs, hcZ k 256 xsr)] : va_W))) → va_S A s.heap H locs → lv_has ls 4 [(0, .ref (xo 0)), (1, .int a2.1), (2, .int a2.2)] → W p l e (rmK 1 0 0) s m (List.toArray [.ref (xo 0), .int x1]) below meth c H locs 0 0 (MQ below (va_Qi (fun r (_ : Unit) => r = res) (hcB D (fun _ : Unit => ([((xo 0), .inr (6, [.ref (ta 0), .ref xr, .int (xi 2), .ref (sa 0), .ref xm, .ref xg, .ref (tr 0), .ref xs, .ref xp, .ref xq, .ref xe, .ref xt]))] : va_W) ++ (([(xs, hcZ k 256 xsr)] : va_W))) A) A) (List.toArray [.ref (xo 0), .int x1]) s 0 0 A) (F0 m 2 ls []) := by
    refine lp_W ?_ F
    intro k2 hk2 a2 h H locs ls hP hD hS hl
    have hc2 : ∀ (v1 : Int32) (v2 : Int32), k2 (v1, v2) = some res → ∀ (H : Heap) (locs : List Loc) (ls : Array Slot), va_P D vwCl (([((xo 0), .inr (6, [.ref (ta 0), .ref xr, .int (xi 2), .ref (sa 0), .ref xm, .ref xg, .ref (tr 0), .ref xs, .ref xp, .ref xq, .ref xe, .ref xt]))] : va_W) ++ (([(xs, hcZ k 256 xsr)] : va_W))) H → va_D A (([((xo 0), .inr (6, [.ref (ta 0), .ref xr, .int (xi 2), .ref (sa 0), .ref xm, .ref xg, .ref (tr 0), .ref xs, .ref xp, .ref xq, .ref xe, .ref xt]))] : va_W) ++ (([(xs, hcZ k 256 xsr)] : va_W))) → va_S A s.heap H locs → lv_has ls 4 [(0, .ref (xo 0)), (1, .int v1), (2, .int v2)] → W p l e (rmK 1 0 0) s m (List.toArray [.ref (xo 0), .int x1]) below meth c H locs 0 0 (MQ below (va_Qi (fun r (_ : Unit) => r = res) (hcB D (fun _ : Unit => ([((xo 0), .inr (6, [.ref (ta 0), .ref xr, .int (xi 2), .ref (sa 0), .ref xm, .ref xg, .ref (tr 0), .ref xs, .ref xp, .ref xq, .ref xe, .ref xt]))] : va_W) ++ (([(xs, hcZ k 256 xsr)] : va_W))) A) A) (List.toArray [.ref (xo 0), .int x1]) s 0 0 A) (F0 m 2 ls []) := fun v1 v2 => hk2 (v1, v2)
    have B43 : ∀ (v1 : Int32) (v2 : Int32) (H : Heap) (locs : List Loc) (ls : Array Slot), b_X8_firstToRise_43 F xi xsr k2 v1 v2 = some res → va_P D vwCl (([((xo 0), .inr (6, [.ref (ta 0), .ref xr, .int (xi 2), .ref (sa 0), .ref xm, .ref xg, .ref (tr 0), .ref xs, .ref xp, .ref xq, .ref xe, .ref xt]))] : va_W) ++ (([(xs, hcZ k 256 xsr)] : va_W))) H → va_D A (([((xo 0), .inr (6, [.ref (ta 0), .ref xr, .int (xi 2), .ref (sa 0), .ref xm, .ref xg, .ref (tr 0), .ref xs, .ref xp, .ref xq, .ref xe, .ref xt]))] : va_W) ++ (([(xs, hcZ k 256 xsr)] : va_W))) → va_S A s.heap H locs → lv_has ls 4 [(0, .ref (xo 0)), (1, .int v1), (2, .int v2)] → W p l e (rmK 1 0 0) s m (List.toArray [.ref (xo 0), .int x1]) below meth c H locs 0 0 (MQ below (va_Qi (fun r (_ : Unit) => r = res) (hcB D (fun _ : Unit => ([((xo 0), .inr (6, [.ref (ta 0), .ref xr, .int (xi 2), .ref (sa 0), .ref xm, .ref xg, .ref (tr 0), .ref xs, .ref xp, .ref xq, .ref xe, .ref xt]))] : va_W) ++ (([(xs, hcZ k 256 xsr)] : va_W))) A) A) (List.toArray [.ref (xo 0), .int x1]) s 0 0 A) (F0 m 43 ls []) := by
      intro v1 v2 H locs ls h hP hD hS hl
      refine lv_iinc (v := (v2 + 1)) (lv' := [(2, .int (v2 + 1)), (0, .ref (xo 0)), (1, .int v1)]) hx hb dX8_firstToRise_43 hl (k := 2) rfl rfl (by decide) rfl (fun ls hl => ?_)
      refine lv_goto (tgt := 2) hx hb dX8_firstToRise_46 (by decide) ?_
      exact hc2 _ _ h _ _ _ hP hD hS (lv_sub hl [1, 2, 0] rfl)
    refine lv_iload_n hx hb dX8_firstToRise_2 rfl (lv_at hl 2 rfl) ?_
    refine lv_bipush (v := 8) hx hb dX8_firstToRise_3 (by decide) ?_
    refine lv_icmp_ge (tgt := 49) hx hb dX8_firstToRise_5 (by decide) (fun c1 => ?_) (fun c1 => ?_)
    · have h := fw_t c1 h
      refine lv_iconst (v := (-1)) hx hb dX8_firstToRise_49 (by decide) ?_
      exact fw_endI (rv := fun b : Int32 => b) (wp := fun b : Int32 => ([((xo 0), .inr (6, [.ref (ta 0), .ref xr, .int (xi 2), .ref (sa 0), .ref xm, .ref xg, .ref (tr 0), .ref xs, .ref xp, .ref xq, .ref xe, .ref xt]))] : va_W) ++ (([(xs, hcZ k 256 xsr)] : va_W))) hx hb hr hlocks h rfl hP hD hS dX8_firstToRise_50
    · have h := fw_f c1 h
      refine lv_iload_n hx hb dX8_firstToRise_8 rfl (lv_at hl 1 rfl) ?_
      refine lv_iconst (v := 1) hx hb dX8_firstToRise_9 (by decide) ?_
      refine lv_iload_n hx hb dX8_firstToRise_10 rfl (lv_at hl 2 rfl) ?_
      refine lv_ishl hx hb dX8_firstToRise_11 ?_
      refine lv_iconst (v := (-1)) hx hb dX8_firstToRise_12 (by decide) ?_
      refine lv_ixor hx hb dX8_firstToRise_13 ?_
      refine lv_iand hx hb dX8_firstToRise_14 ?_
      refine lv_istore_n (lv' := [(3, .int (a2.1 &&& ((1 <<< (a2.2 &&& 31)) ^^^ (-1)))), (0, .ref (xo 0)), (1, .int a2.1), (2, .int a2.2)]) hx hb dX8_firstToRise_15 rfl hl (by decide) rfl (fun ls hl => ?_)
      refine lv_iload_n hx hb dX8_firstToRise_16 rfl (lv_at hl 0 rfl) ?_
      refine lv_iload_n hx hb dX8_firstToRise_17 rfl (lv_at hl 2 rfl) ?_
      refine lv_icmp_eq (tgt := 43) hx hb dX8_firstToRise_18 (by decide) (fun c2 => ?_) (fun c2 => ?_)
      · have h := fw_t c2 h
        exact B43 _ _ _ _ _ h hP hD hS (lv_sub hl [1, 2, 3] rfl)
      · have h := fw_f c2 h
        refine lv_iload_n hx hb dX8_firstToRise_21 rfl (lv_at hl 0 rfl) ?_
        refine lv_if_lt (tgt := 43) hx hb dX8_firstToRise_22 (by decide) (fun c3 => ?_) (fun c3 => ?_)
        · have h := fw_t c3 h
          exact B43 _ _ _ _ _ h hP hD hS (lv_sub hl [1, 2, 3] rfl)
        · have h := fw_f c3 h
          refine lv_iload_n hx hb dX8_firstToRise_25 rfl (lv_at hl 0 rfl) ?_
          refine lv_sipush (v := 256) hx hb dX8_firstToRise_26 (by decide) ?_
          refine lv_icmp_ge (tgt := 43) hx hb dX8_firstToRise_29 (by decide) (fun c4 => ?_) (fun c4 => ?_)
          · have h := fw_t c4 h
            exact B43 _ _ _ _ _ h hP hD hS (lv_sub hl [1, 2, 3] rfl)
          · have h := fw_f c4 h
            refine lv_aload_n hx hb dX8_firstToRise_32 rfl (lv_at hl 1 rfl) ?_
            refine va_get (D := D) (ci := 6) (v := .ref xs) (C := RX8) (T := TX8) (N := 12) hx hb hts in8 hown hG.1 hP 0 rfl rfl 7 (by decide) (hts (.fieldLink RX8 48 "ChairCane" "safe" "[Z") (mem_b bq_wsX8_firstToRise 0 0 rfl)) (fun _ h9 => h9) rfl dX8_firstToRise_33 ?_
            refine lv_iload_n hx hb dX8_firstToRise_36 rfl (lv_at hl 0 rfl) ?_
            obtain ⟨g5, h⟩ := fw_g h
            refine va_zald hx hb hG.1 hP 1 2 rfl rfl (ib_vp g5) dX8_firstToRise_37 ?_
            refine lv_if_eq (tgt := 43) hx hb dX8_firstToRise_38 (by decide) (fun c6 => ?_) (fun c6 => ?_)
            · have h := fw_t c6 h
              exact B43 _ _ _ _ _ h hP hD hS (lv_sub hl [1, 2, 3] rfl)
            · have h := fw_f c6 h
              refine lv_iload_n hx hb dX8_firstToRise_41 rfl (lv_at hl 3 rfl) ?_
              exact fw_endI (rv := fun b : Int32 => b) (wp := fun b : Int32 => ([((xo 0), .inr (6, [.ref (ta 0), .ref xr, .int (xi 2), .ref (sa 0), .ref xm, .ref xg, .ref (tr 0), .ref xs, .ref xp, .ref xq, .ref xe, .ref xt]))] : va_W) ++ (([(xs, hcZ k 256 xsr)] : va_W))) hx hb hr hlocks h rfl hP hD hS dX8_firstToRise_42
  have C2 : ∀ (v1 : Int32) (v2 : Int32), lp (b_X8_firstToRise_2 F xi xsr) F (v1, v2) = some res → ∀ (H : Heap) (locs : List Loc) (ls : Array Slot), va_P D vwCl (([((xo 0), .inr (6, [.ref (ta 0), .ref xr, .int (xi 2), .ref (sa 0), .ref xm, .ref xg, .ref (tr 0), .ref xs, .ref xp, .ref xq, .ref xe, .ref xt]))] : va_W) ++ (([(xs, hcZ k 256 xsr)] : va_W))) H → va_D A (([((xo 0), .inr (6, [.ref (ta 0), .ref xr, .int (xi 2), .ref (sa 0), .ref xm, .ref xg, .ref (tr 0), .ref xs, .ref xp, .ref xq, .ref xe, .ref xt]))] : va_W) ++ (([(xs, hcZ k 256 xsr)] : va_W))) → va_S A s.heap H locs → lv_has ls 4 [(0, .ref (xo 0)), (1, .int v1), (2, .int v2)] → W p l e (rmK 1 0 0) s m (List.toArray [.ref (xo 0), .int x1]) below meth c H locs 0 0 (MQ below (va_Qi (fun r (_ : Unit) => r = res) (hcB D (fun _ : Unit => ([((xo 0), .inr (6, [.ref (ta 0), .ref xr, .int (xi 2), .ref (sa 0), .ref xm, .ref xg, .ref (tr 0), .ref xs, .ref xp, .ref xq, .ref xe, .ref xt]))] : va_W) ++ (([(xs, hcZ k 256 xsr)] : va_W))) A) A) (List.toArray [.ref (xo 0), .int x1]) s 0 0 A) (F0 m 2 ls []) := fun v1 v2 => B2 (v1, v2)
  refine lv_iconst (v := 0) hx hb dX8_firstToRise_0 (by decide) ?_
  refine lv_istore_n (lv' := [(2, .int 0), (0, .ref (xo 0)), (1, .int x1)]) hx hb dX8_firstToRise_1 rfl hl (by decide) rfl (fun ls hl => ?_)
  exact C2 _ _ h _ _ _ hP hD hS (lv_sub hl [1, 2, 0] rfl)
noncomputable def b_X8_findSafeSets_79 (F : Nat)  (xi : Nat → Int32) (si : Nat → Int32) (rm : OB) (k34 : (Int32 × Int32 × OB × (Nat → Int32)) → Option (OB × (Nat → Int32))) (v1 : Int32) (v2 : Int32) (y0 : Int32) (y1 : Int32) (tm : OB) (xsr : Nat → Int32) : Option (OB × (Nat → Int32)) :=
  if ib y1 256 then (k34 (v1, (v2 + 1), tm, (upd xsr (Int32.toNatClampNeg y1) (vp_nar .boolean y0)))) else none
noncomputable def b_X8_findSafeSets_78 (F : Nat)  (xi : Nat → Int32) (si : Nat → Int32) (rm : OB) (k34 : (Int32 × Int32 × OB × (Nat → Int32)) → Option (OB × (Nat → Int32))) (v1 : Int32) (v2 : Int32) (y0 : Int32) (tm : OB) (xsr : Nat → Int32) : Option (OB × (Nat → Int32)) :=
  b_X8_findSafeSets_79 F xi si rm k34 v1 v2 0 y0 tm xsr
noncomputable def b_X8_findSafeSets_34 (F : Nat)  (xi : Nat → Int32) (si : Nat → Int32) (rm : OB)  (k34 : (Int32 × Int32 × OB × (Nat → Int32)) → Option (OB × (Nat → Int32))) (a34 : (Int32 × Int32 × OB × (Nat → Int32))) : Option (OB × (Nat → Int32)) :=
  if 256 ≤ a34.2.1 then (some (a34.2.2.1, a34.2.2.2)) else (if (a34.2.1 &&& (a34.1 ^^^ (-1))) = 0 then (Option.bind (f_X8_firstToRise F a34.2.1 xi a34.2.2.2) (fun q4 => (if q4 = (-1) then (b_X8_findSafeSets_78 F xi si rm k34 a34.1 a34.2.1 a34.2.1 a34.2.2.1 a34.2.2.2) else (Option.bind (f_X3_bears F a34.2.1 a34.2.2.1) (fun q6 => (if q6.1 = 0 then (b_X8_findSafeSets_78 F xi si rm k34 a34.1 a34.2.1 a34.2.1 q6.2 a34.2.2.2) else (b_X8_findSafeSets_79 F xi si rm k34 a34.1 a34.2.1 1 a34.2.1 q6.2 a34.2.2.2))))))) else (b_X8_findSafeSets_78 F xi si rm k34 a34.1 a34.2.1 a34.2.1 a34.2.2.1 a34.2.2.2))
noncomputable def f_X8_findSafeSets (F : Nat)   (xi : Nat → Int32) (si : Nat → Int32) (rm : OB) (tm : OB) (xsr : Nat → Int32) : Option (OB × (Nat → Int32)) :=
  Option.bind (f_X3_copyFrom F tm rm) (fun q8 => (lp (b_X8_findSafeSets_34 F xi si rm) F ((rm.1 10), 1, q8, (upd xsr (Int32.toNatClampNeg 0) (vp_nar .boolean 1)))))
set_option maxHeartbeats 4000000 in
set_option maxRecDepth 100000 in
theorem c_X8_findSafeSets (l : Launch) (D : va_G) (k : Nat → ClassId) (sz : Nat)  (xo : Nat → Nat) (ta : Nat → Nat) (xr : Nat) (sa : Nat → Nat) (xm : Nat) (xg : Nat) (tr : Nat → Nat) (xs : Nat) (xp : Nat) (xq : Nat) (xe : Nat) (xt : Nat) (xa : Nat → Nat) (ca : Nat → Nat) (na : Nat → Nat) (F : Nat)   (xi : Nat → Int32) (si : Nat → Int32) (rm : OB) (tm : OB) (xsr : Nat → Int32)  {res : OB × (Nat → Int32)} (h : f_X8_findSafeSets F xi si rm tm xsr = some res) : CtV l yX8_findSafeSets wsX8_findSafeSets (rmK 4 0 0) [.ref (xo 0)] D k sz (([((xo 0), .inr (6, [.ref (ta 0), .ref xr, .int (xi 2), .ref (sa 0), .ref xm, .ref xg, .ref (tr 0), .ref xs, .ref xp, .ref xq, .ref xe, .ref xt]))] : va_W) ++ (([((sa 0), .inr (4, [.ref (xa 0), .ref (ca 0), .ref (na 0), .int (si 3), .int (si 4)]))] : va_W) ++ (rmW k xa rm ++ (rmW k tr tm ++ (([(xs, hcZ k 256 xsr)] : va_W)))))) (fun (_ : Unit) => True) (fun _ : Unit => ([((xo 0), .inr (6, [.ref (ta 0), .ref xr, .int (xi 2), .ref (sa 0), .ref xm, .ref xg, .ref (tr 0), .ref xs, .ref xp, .ref xq, .ref xe, .ref xt]))] : va_W) ++ (([((sa 0), .inr (4, [.ref (xa 0), .ref (ca 0), .ref (na 0), .int (si 3), .int (si 4)]))] : va_W) ++ (rmW k xa rm ++ (rmW k tr res.1 ++ (([(xs, hcZ k 256 res.2)] : va_W)))))) 0 0 := by
  refine CtV.mk (cc := cX8_findSafeSets) (maxL := 3) (ret := none) (by decide) rfl (Nat.le_of_ble_eq_true rfl) ?_
  intro p e s m below meth c A ls E hP hD hS hl
  obtain ⟨hx, hb, hr, hml, hown, hts, hlocks, hin, hG, hA⟩ := E
  have hown : s.vm.findClass RX8 = some m.cls := hown
  have in3 : ∀ w ∈ u_ws RX3 TX3 17, w ∈ wsX8_findSafeSets := fun _ h => List.mem_cons_of_mem _ (List.mem_append_right _ h)
  have in6 : ∀ w ∈ u_ws RX6 TX6 5, w ∈ wsX8_findSafeSets := fun _ h => List.mem_cons_of_mem _ (List.mem_append_left _ (List.mem_append_right _ h))
  have in8 : ∀ w ∈ u_ws RX8 TX8 12, w ∈ wsX8_findSafeSets := fun _ h => List.mem_cons_of_mem _ (List.mem_append_left _ (List.mem_append_left _ (List.mem_append_right _ h)))
  have hl : lv_has ls 3 [(0, .ref (xo 0))] := hl
  have B34 : ∀ a34 : (Int32 × Int32 × OB × (Nat → Int32)), lp (b_X8_findSafeSets_34 F xi si rm) F a34 = some res → ∀ (H : Heap) (locs : List Loc) (ls : Array Slot), va_P D vwCl (([((xo 0), .inr (6, [.ref (ta 0), .ref xr, .int (xi 2), .ref (sa 0), .ref xm, .ref xg, .ref (tr 0), .ref xs, .ref xp, .ref xq, .ref xe, .ref xt]))] : va_W) ++ (([((sa 0), .inr (4, [.ref (xa 0), .ref (ca 0), .ref (na 0), .int (si 3), .int (si 4)]))] : va_W) ++ (rmW k xa rm ++ (rmW k tr a34.2.2.1 ++ (([(xs, hcZ k 256 a34.2.2.2)] : va_W)))))) H → va_D A (([((xo 0), .inr (6, [.ref (ta 0), .ref xr, .int (xi 2), .ref (sa 0), .ref xm, .ref xg, .ref (tr 0), .ref xs, .ref xp, .ref xq, .ref xe, .ref xt]))] : va_W) ++ (([((sa 0), .inr (4, [.ref (xa 0), .ref (ca 0), .ref (na 0), .int (si 3), .int (si 4)]))] : va_W) ++ (rmW k xa rm ++ (rmW k tr a34.2.2.1 ++ (([(xs, hcZ k 256 a34.2.2.2)] : va_W)))))) → va_S A s.heap H locs → lv_has ls 3 [(0, .ref (xo 0)), (1, .int a34.1), (2, .int a34.2.1)] → W p l e (rmK 4 0 0) s m (List.toArray [.ref (xo 0)]) below meth c H locs 0 0 (MQ below (va_Qv (fun (_ : Unit) => True) (hcB D (fun _ : Unit => ([((xo 0), .inr (6, [.ref (ta 0), .ref xr, .int (xi 2), .ref (sa 0), .ref xm, .ref xg, .ref (tr 0), .ref xs, .ref xp, .ref xq, .ref xe, .ref xt]))] : va_W) ++ (([((sa 0), .inr (4, [.ref (xa 0), .ref (ca 0), .ref (na 0), .int (si 3), .int (si 4)]))] : va_W) ++ (rmW k xa rm ++ (rmW k tr res.1 ++ (([(xs, hcZ k 256 res.2)] : va_W)))))) A) A) (List.toArray [.ref (xo 0)]) s 0 0 A) (F0 m 34 ls []) := by
    refine lp_W ?_ F
    intro k34 hk34 a34 h H locs ls hP hD hS hl
    have hc34 : ∀ (v1 : Int32) (v2 : Int32) (tm : OB) (xsr : Nat → Int32), k34 (v1, v2, tm, xsr) = some res → ∀ (H : Heap) (locs : List Loc) (ls : Array Slot), va_P D vwCl (([((xo 0), .inr (6, [.ref (ta 0), .ref xr, .int (xi 2), .ref (sa 0), .ref xm, .ref xg, .ref (tr 0), .ref xs, .ref xp, .ref xq, .ref xe, .ref xt]))] : va_W) ++ (([((sa 0), .inr (4, [.ref (xa 0), .ref (ca 0), .ref (na 0), .int (si 3), .int (si 4)]))] : va_W) ++ (rmW k xa rm ++ (rmW k tr tm ++ (([(xs, hcZ k 256 xsr)] : va_W)))))) H → va_D A (([((xo 0), .inr (6, [.ref (ta 0), .ref xr, .int (xi 2), .ref (sa 0), .ref xm, .ref xg, .ref (tr 0), .ref xs, .ref xp, .ref xq, .ref xe, .ref xt]))] : va_W) ++ (([((sa 0), .inr (4, [.ref (xa 0), .ref (ca 0), .ref (na 0), .int (si 3), .int (si 4)]))] : va_W) ++ (rmW k xa rm ++ (rmW k tr tm ++ (([(xs, hcZ k 256 xsr)] : va_W)))))) → va_S A s.heap H locs → lv_has ls 3 [(0, .ref (xo 0)), (1, .int v1), (2, .int v2)] → W p l e (rmK 4 0 0) s m (List.toArray [.ref (xo 0)]) below meth c H locs 0 0 (MQ below (va_Qv (fun (_ : Unit) => True) (hcB D (fun _ : Unit => ([((xo 0), .inr (6, [.ref (ta 0), .ref xr, .int (xi 2), .ref (sa 0), .ref xm, .ref xg, .ref (tr 0), .ref xs, .ref xp, .ref xq, .ref xe, .ref xt]))] : va_W) ++ (([((sa 0), .inr (4, [.ref (xa 0), .ref (ca 0), .ref (na 0), .int (si 3), .int (si 4)]))] : va_W) ++ (rmW k xa rm ++ (rmW k tr res.1 ++ (([(xs, hcZ k 256 res.2)] : va_W)))))) A) A) (List.toArray [.ref (xo 0)]) s 0 0 A) (F0 m 34 ls []) := fun v1 v2 tm xsr => hk34 (v1, v2, tm, xsr)
    have B79 : ∀ (v1 : Int32) (v2 : Int32) (y0 : Int32) (y1 : Int32) (tm : OB) (xsr : Nat → Int32) (H : Heap) (locs : List Loc) (ls : Array Slot), b_X8_findSafeSets_79 F xi si rm k34 v1 v2 y0 y1 tm xsr = some res → va_P D vwCl (([((xo 0), .inr (6, [.ref (ta 0), .ref xr, .int (xi 2), .ref (sa 0), .ref xm, .ref xg, .ref (tr 0), .ref xs, .ref xp, .ref xq, .ref xe, .ref xt]))] : va_W) ++ (([((sa 0), .inr (4, [.ref (xa 0), .ref (ca 0), .ref (na 0), .int (si 3), .int (si 4)]))] : va_W) ++ (rmW k xa rm ++ (rmW k tr tm ++ (([(xs, hcZ k 256 xsr)] : va_W)))))) H → va_D A (([((xo 0), .inr (6, [.ref (ta 0), .ref xr, .int (xi 2), .ref (sa 0), .ref xm, .ref xg, .ref (tr 0), .ref xs, .ref xp, .ref xq, .ref xe, .ref xt]))] : va_W) ++ (([((sa 0), .inr (4, [.ref (xa 0), .ref (ca 0), .ref (na 0), .int (si 3), .int (si 4)]))] : va_W) ++ (rmW k xa rm ++ (rmW k tr tm ++ (([(xs, hcZ k 256 xsr)] : va_W)))))) → va_S A s.heap H locs → lv_has ls 3 [(0, .ref (xo 0)), (1, .int v1), (2, .int v2)] → W p l e (rmK 4 0 0) s m (List.toArray [.ref (xo 0)]) below meth c H locs 0 0 (MQ below (va_Qv (fun (_ : Unit) => True) (hcB D (fun _ : Unit => ([((xo 0), .inr (6, [.ref (ta 0), .ref xr, .int (xi 2), .ref (sa 0), .ref xm, .ref xg, .ref (tr 0), .ref xs, .ref xp, .ref xq, .ref xe, .ref xt]))] : va_W) ++ (([((sa 0), .inr (4, [.ref (xa 0), .ref (ca 0), .ref (na 0), .int (si 3), .int (si 4)]))] : va_W) ++ (rmW k xa rm ++ (rmW k tr res.1 ++ (([(xs, hcZ k 256 res.2)] : va_W)))))) A) A) (List.toArray [.ref (xo 0)]) s 0 0 A) (F0 m 79 ls [.int y0, .int y1, .ref xs]) := by
      intro v1 v2 y0 y1 tm xsr H locs ls h hP hD hS hl
      obtain ⟨g1, h⟩ := fw_g h
      refine va_zast hx hb hG.1 hP hD hS 20 2 rfl rfl (ib_vp g1) dX8_findSafeSets_79 (fun H locs hP hD hS => ?_)
      refine lv_iinc (v := (v2 + 1)) (lv' := [(2, .int (v2 + 1)), (0, .ref (xo 0)), (1, .int v1)]) hx hb dX8_findSafeSets_80 hl (k := 2) rfl rfl (by decide) rfl (fun ls hl => ?_)
      refine lv_goto (tgt := 34) hx hb dX8_findSafeSets_83 (by decide) ?_
      exact hc34 _ _ _ _ h _ _ _ hP hD hS (lv_sub hl [1, 2, 0] rfl)
    have B78 : ∀ (v1 : Int32) (v2 : Int32) (y0 : Int32) (tm : OB) (xsr : Nat → Int32) (H : Heap) (locs : List Loc) (ls : Array Slot), b_X8_findSafeSets_78 F xi si rm k34 v1 v2 y0 tm xsr = some res → va_P D vwCl (([((xo 0), .inr (6, [.ref (ta 0), .ref xr, .int (xi 2), .ref (sa 0), .ref xm, .ref xg, .ref (tr 0), .ref xs, .ref xp, .ref xq, .ref xe, .ref xt]))] : va_W) ++ (([((sa 0), .inr (4, [.ref (xa 0), .ref (ca 0), .ref (na 0), .int (si 3), .int (si 4)]))] : va_W) ++ (rmW k xa rm ++ (rmW k tr tm ++ (([(xs, hcZ k 256 xsr)] : va_W)))))) H → va_D A (([((xo 0), .inr (6, [.ref (ta 0), .ref xr, .int (xi 2), .ref (sa 0), .ref xm, .ref xg, .ref (tr 0), .ref xs, .ref xp, .ref xq, .ref xe, .ref xt]))] : va_W) ++ (([((sa 0), .inr (4, [.ref (xa 0), .ref (ca 0), .ref (na 0), .int (si 3), .int (si 4)]))] : va_W) ++ (rmW k xa rm ++ (rmW k tr tm ++ (([(xs, hcZ k 256 xsr)] : va_W)))))) → va_S A s.heap H locs → lv_has ls 3 [(0, .ref (xo 0)), (1, .int v1), (2, .int v2)] → W p l e (rmK 4 0 0) s m (List.toArray [.ref (xo 0)]) below meth c H locs 0 0 (MQ below (va_Qv (fun (_ : Unit) => True) (hcB D (fun _ : Unit => ([((xo 0), .inr (6, [.ref (ta 0), .ref xr, .int (xi 2), .ref (sa 0), .ref xm, .ref xg, .ref (tr 0), .ref xs, .ref xp, .ref xq, .ref xe, .ref xt]))] : va_W) ++ (([((sa 0), .inr (4, [.ref (xa 0), .ref (ca 0), .ref (na 0), .int (si 3), .int (si 4)]))] : va_W) ++ (rmW k xa rm ++ (rmW k tr res.1 ++ (([(xs, hcZ k 256 res.2)] : va_W)))))) A) A) (List.toArray [.ref (xo 0)]) s 0 0 A) (F0 m 78 ls [.int y0, .ref xs]) := by
      intro v1 v2 y0 tm xsr H locs ls h hP hD hS hl
      refine lv_iconst (v := 0) hx hb dX8_findSafeSets_78 (by decide) ?_
      exact B79 _ _ _ _ _ _ _ _ _ h hP hD hS hl
    refine lv_iload_n hx hb dX8_findSafeSets_34 rfl (lv_at hl 2 rfl) ?_
    refine lv_sipush (v := 256) hx hb dX8_findSafeSets_35 (by decide) ?_
    refine lv_icmp_ge (tgt := 86) hx hb dX8_findSafeSets_38 (by decide) (fun c2 => ?_) (fun c2 => ?_)
    · have h := fw_t c2 h
      exact fw_endV (wp := fun b : OB × (Nat → Int32) => ([((xo 0), .inr (6, [.ref (ta 0), .ref xr, .int (xi 2), .ref (sa 0), .ref xm, .ref xg, .ref (tr 0), .ref xs, .ref xp, .ref xq, .ref xe, .ref xt]))] : va_W) ++ (([((sa 0), .inr (4, [.ref (xa 0), .ref (ca 0), .ref (na 0), .int (si 3), .int (si 4)]))] : va_W) ++ (rmW k xa rm ++ (rmW k tr b.1 ++ (([(xs, hcZ k 256 b.2)] : va_W)))))) hx hb hr hlocks h hP hD hS dX8_findSafeSets_86
    · have h := fw_f c2 h
      refine lv_aload_n hx hb dX8_findSafeSets_41 rfl (lv_at hl 0 rfl) ?_
      refine va_get (D := D) (ci := 6) (v := .ref xs) (C := RX8) (T := TX8) (N := 12) hx hb hts in8 hown hG.1 hP 0 rfl rfl 7 (by decide) (hts (.fieldLink RX8 48 "ChairCane" "safe" "[Z") (mem_b bq_wsX8_findSafeSets 0 4 rfl)) (fun _ h9 => h9) rfl dX8_findSafeSets_42 ?_
      refine lv_iload_n hx hb dX8_findSafeSets_45 rfl (lv_at hl 2 rfl) ?_
      refine lv_iload_n hx hb dX8_findSafeSets_46 rfl (lv_at hl 2 rfl) ?_
      refine lv_iload_n hx hb dX8_findSafeSets_47 rfl (lv_at hl 1 rfl) ?_
      refine lv_iconst (v := (-1)) hx hb dX8_findSafeSets_48 (by decide) ?_
      refine lv_ixor hx hb dX8_findSafeSets_49 ?_
      refine lv_iand hx hb dX8_findSafeSets_50 ?_
      refine lv_if_ne (tgt := 78) hx hb dX8_findSafeSets_51 (by decide) (fun c3 => ?_) (fun c3 => ?_)
      · have h := fw_f c3 h
        exact B78 _ _ _ _ _ _ _ _ h hP hD hS hl
      · have h := fw_t c3 h
        refine lv_aload_n hx hb dX8_findSafeSets_54 rfl (lv_at hl 0 rfl) ?_
        refine lv_iload_n hx hb dX8_findSafeSets_55 rfl (lv_at hl 2 rfl) ?_
        obtain ⟨hP, hD⟩ := qm hP hD (q_to [([((xo 0), .inr (6, [.ref (ta 0), .ref xr, .int (xi 2), .ref (sa 0), .ref xm, .ref xg, .ref (tr 0), .ref xs, .ref xp, .ref xq, .ref xe, .ref xt]))] : va_W), ([((sa 0), .inr (4, [.ref (xa 0), .ref (ca 0), .ref (na 0), .int (si 3), .int (si 4)]))] : va_W), rmW k xa rm, rmW k tr a34.2.2.1, ([(xs, hcZ k 256 a34.2.2.2)] : va_W)] [0, 1, 2, 3, 4] [0, 4] [1, 2, 3] (by decide +kernel))
        refine fw_Vi (As := [.int a34.2.1]) (rest := [.int a34.2.1, .ref xs]) (n := 1) (rv := fun b : Int32 => b) (wp := fun b : Int32 => ([((xo 0), .inr (6, [.ref (ta 0), .ref xr, .int (xi 2), .ref (sa 0), .ref xm, .ref xg, .ref (tr 0), .ref xs, .ref xp, .ref xq, .ref xe, .ref xt]))] : va_W) ++ (([(xs, hcZ k 256 a34.2.2.2)] : va_W))) h hx hb hml hown hts hG hA hP hD hS hl.1 _ _ (fun q hq9 => c_X8_firstToRise l D k _  xo ta xr sa xm xg tr xs xp xq xe xt F a34.2.1 xi a34.2.2.2  hq9) (ci := 6) (q0 := 0) rfl rfl gX8_findSafeSets_X8_firstToRise rfl ⟨rfl, rfl, Nat.le_of_ble_eq_true rfl, Nat.le_of_ble_eq_true rfl⟩ (by decide +kernel) (q_l _ _) (q_r _ _) (q_nd _ _) ⟨rfl, rfl, Nat.le_of_ble_eq_true rfl, Nat.le_of_ble_eq_true rfl, Nat.le_of_ble_eq_true rfl⟩ dX8_findSafeSets_56 (fun q4 H locs h hP hD hS => ?_)
        obtain ⟨hP, hD⟩ := qm (w2 := ([((xo 0), .inr (6, [.ref (ta 0), .ref xr, .int (xi 2), .ref (sa 0), .ref xm, .ref xg, .ref (tr 0), .ref xs, .ref xp, .ref xq, .ref xe, .ref xt]))] : va_W) ++ (([((sa 0), .inr (4, [.ref (xa 0), .ref (ca 0), .ref (na 0), .int (si 3), .int (si 4)]))] : va_W) ++ (rmW k xa rm ++ (rmW k tr a34.2.2.1 ++ (([(xs, hcZ k 256 a34.2.2.2)] : va_W)))))) hP hD (q_from [([((xo 0), .inr (6, [.ref (ta 0), .ref xr, .int (xi 2), .ref (sa 0), .ref xm, .ref xg, .ref (tr 0), .ref xs, .ref xp, .ref xq, .ref xe, .ref xt]))] : va_W), ([((sa 0), .inr (4, [.ref (xa 0), .ref (ca 0), .ref (na 0), .int (si 3), .int (si 4)]))] : va_W), rmW k xa rm, rmW k tr a34.2.2.1, ([(xs, hcZ k 256 a34.2.2.2)] : va_W)] [1, 2, 3] [0, 4] [0, 1, 2, 3, 4] (by decide +kernel))
        refine hc_is (z := q4) rfl ?_
        refine lv_iconst (v := (-1)) hx hb dX8_findSafeSets_59 (by decide) ?_
        refine lv_icmp_eq (tgt := 78) hx hb dX8_findSafeSets_60 (by decide) (fun c5 => ?_) (fun c5 => ?_)
        · have h := fw_t c5 h
          exact B78 _ _ _ _ _ _ _ _ h hP hD hS hl
        · have h := fw_f c5 h
          refine lv_aload_n hx hb dX8_findSafeSets_63 rfl (lv_at hl 0 rfl) ?_
          refine va_get (D := D) (ci := 6) (v := .ref (tr 0)) (C := RX8) (T := TX8) (N := 12) hx hb hts in8 hown hG.1 hP 0 rfl rfl 6 (by decide) (hts (.fieldLink RX8 44 "ChairCane" "trial" "LChairCane$Room;") (mem_b bq_wsX8_findSafeSets 0 3 rfl)) (fun _ h9 => h9) rfl dX8_findSafeSets_64 ?_
          refine lv_iload_n hx hb dX8_findSafeSets_67 rfl (lv_at hl 2 rfl) ?_
          obtain ⟨hP, hD⟩ := qm hP hD (q_to [([((xo 0), .inr (6, [.ref (ta 0), .ref xr, .int (xi 2), .ref (sa 0), .ref xm, .ref xg, .ref (tr 0), .ref xs, .ref xp, .ref xq, .ref xe, .ref xt]))] : va_W), ([((sa 0), .inr (4, [.ref (xa 0), .ref (ca 0), .ref (na 0), .int (si 3), .int (si 4)]))] : va_W), rmW k xa rm, rmW k tr a34.2.2.1, ([(xs, hcZ k 256 a34.2.2.2)] : va_W)] [0, 1, 2, 3, 4] [3] [0, 1, 2, 4] (by decide +kernel))
          refine fw_Vi (As := [.int a34.2.1]) (rest := [.int a34.2.1, .ref xs]) (n := 1) (rv := fun b : Int32 × OB => b.1) (wp := fun b : Int32 × OB => rmW k tr b.2) h hx hb hml hown hts hG hA hP hD hS hl.1 _ _ (fun q hq9 => c_X3_bears l D k _  tr F a34.2.1 a34.2.2.1  hq9) (ci := 2) (q0 := 0) rfl rfl gX8_findSafeSets_X3_bears rfl ⟨rfl, rfl, Nat.le_of_ble_eq_true rfl, Nat.le_of_ble_eq_true rfl⟩ (by decide +kernel) (q_l _ _) (q_r _ _) (q_nd _ _) ⟨rfl, rfl, Nat.le_of_ble_eq_true rfl, Nat.le_of_ble_eq_true rfl, Nat.le_of_ble_eq_true rfl⟩ dX8_findSafeSets_68 (fun q6 H locs h hP hD hS => ?_)
          obtain ⟨hP, hD⟩ := qm (w2 := ([((xo 0), .inr (6, [.ref (ta 0), .ref xr, .int (xi 2), .ref (sa 0), .ref xm, .ref xg, .ref (tr 0), .ref xs, .ref xp, .ref xq, .ref xe, .ref xt]))] : va_W) ++ (([((sa 0), .inr (4, [.ref (xa 0), .ref (ca 0), .ref (na 0), .int (si 3), .int (si 4)]))] : va_W) ++ (rmW k xa rm ++ (rmW k tr q6.2 ++ (([(xs, hcZ k 256 a34.2.2.2)] : va_W)))))) hP hD (q_from [([((xo 0), .inr (6, [.ref (ta 0), .ref xr, .int (xi 2), .ref (sa 0), .ref xm, .ref xg, .ref (tr 0), .ref xs, .ref xp, .ref xq, .ref xe, .ref xt]))] : va_W), ([((sa 0), .inr (4, [.ref (xa 0), .ref (ca 0), .ref (na 0), .int (si 3), .int (si 4)]))] : va_W), rmW k xa rm, rmW k tr q6.2, ([(xs, hcZ k 256 a34.2.2.2)] : va_W)] [0, 1, 2, 4] [3] [0, 1, 2, 3, 4] (by decide +kernel))
          refine hc_is (z := q6.1) rfl ?_
          refine lv_if_eq (tgt := 78) hx hb dX8_findSafeSets_71 (by decide) (fun c7 => ?_) (fun c7 => ?_)
          · have h := fw_t c7 h
            exact B78 _ _ _ _ _ _ _ _ h hP hD hS hl
          · have h := fw_f c7 h
            refine lv_iconst (v := 1) hx hb dX8_findSafeSets_74 (by decide) ?_
            refine lv_goto (tgt := 79) hx hb dX8_findSafeSets_75 (by decide) ?_
            exact B79 _ _ _ _ _ _ _ _ _ h hP hD hS hl
  have C34 : ∀ (v1 : Int32) (v2 : Int32) (tm : OB) (xsr : Nat → Int32), lp (b_X8_findSafeSets_34 F xi si rm) F (v1, v2, tm, xsr) = some res → ∀ (H : Heap) (locs : List Loc) (ls : Array Slot), va_P D vwCl (([((xo 0), .inr (6, [.ref (ta 0), .ref xr, .int (xi 2), .ref (sa 0), .ref xm, .ref xg, .ref (tr 0), .ref xs, .ref xp, .ref xq, .ref xe, .ref xt]))] : va_W) ++ (([((sa 0), .inr (4, [.ref (xa 0), .ref (ca 0), .ref (na 0), .int (si 3), .int (si 4)]))] : va_W) ++ (rmW k xa rm ++ (rmW k tr tm ++ (([(xs, hcZ k 256 xsr)] : va_W)))))) H → va_D A (([((xo 0), .inr (6, [.ref (ta 0), .ref xr, .int (xi 2), .ref (sa 0), .ref xm, .ref xg, .ref (tr 0), .ref xs, .ref xp, .ref xq, .ref xe, .ref xt]))] : va_W) ++ (([((sa 0), .inr (4, [.ref (xa 0), .ref (ca 0), .ref (na 0), .int (si 3), .int (si 4)]))] : va_W) ++ (rmW k xa rm ++ (rmW k tr tm ++ (([(xs, hcZ k 256 xsr)] : va_W)))))) → va_S A s.heap H locs → lv_has ls 3 [(0, .ref (xo 0)), (1, .int v1), (2, .int v2)] → W p l e (rmK 4 0 0) s m (List.toArray [.ref (xo 0)]) below meth c H locs 0 0 (MQ below (va_Qv (fun (_ : Unit) => True) (hcB D (fun _ : Unit => ([((xo 0), .inr (6, [.ref (ta 0), .ref xr, .int (xi 2), .ref (sa 0), .ref xm, .ref xg, .ref (tr 0), .ref xs, .ref xp, .ref xq, .ref xe, .ref xt]))] : va_W) ++ (([((sa 0), .inr (4, [.ref (xa 0), .ref (ca 0), .ref (na 0), .int (si 3), .int (si 4)]))] : va_W) ++ (rmW k xa rm ++ (rmW k tr res.1 ++ (([(xs, hcZ k 256 res.2)] : va_W)))))) A) A) (List.toArray [.ref (xo 0)]) s 0 0 A) (F0 m 34 ls []) := fun v1 v2 tm xsr => B34 (v1, v2, tm, xsr)
  refine lv_aload_n hx hb dX8_findSafeSets_0 rfl (lv_at hl 0 rfl) ?_
  refine va_get (D := D) (ci := 6) (v := .ref (sa 0)) (C := RX8) (T := TX8) (N := 12) hx hb hts in8 hown hG.1 hP 0 rfl rfl 3 (by decide) (hts (.fieldLink RX8 29 "ChairCane" "now" "LChairCane$Standing;") (mem_b bq_wsX8_findSafeSets 0 0 rfl)) (fun _ h9 => h9) rfl dX8_findSafeSets_1 ?_
  refine va_get (D := D) (ci := 4) (v := .ref (xa 0)) (C := RX6) (T := TX6) (N := 5) hx hb hts in6 hown hG.1 hP 1 rfl rfl 0 (by decide) (hts (.fieldLink RX8 81 "ChairCane$Standing" "room" "LChairCane$Room;") (mem_b bq_wsX8_findSafeSets 0 1 rfl)) (fun _ h9 => h9) rfl dX8_findSafeSets_4 ?_
  refine va_get (D := D) (ci := 2) (v := .int (rm.1 10)) (C := RX3) (T := TX3) (N := 17) hx hb hts in3 hown hG.1 hP 2 rfl rfl 10 (by decide) (hts (.fieldLink RX8 200 "ChairCane$Room" "sits" "I") (mem_b bq_wsX8_findSafeSets 0 2 rfl)) (fun _ h9 => h9) rfl dX8_findSafeSets_7 ?_
  refine lv_istore_n (lv' := [(1, .int (rm.1 10)), (0, .ref (xo 0))]) hx hb dX8_findSafeSets_10 rfl hl (by decide) rfl (fun ls hl => ?_)
  refine lv_aload_n hx hb dX8_findSafeSets_11 rfl (lv_at hl 1 rfl) ?_
  refine va_get (D := D) (ci := 6) (v := .ref (tr 0)) (C := RX8) (T := TX8) (N := 12) hx hb hts in8 hown hG.1 hP 0 rfl rfl 6 (by decide) (hts (.fieldLink RX8 44 "ChairCane" "trial" "LChairCane$Room;") (mem_b bq_wsX8_findSafeSets 0 3 rfl)) (fun _ h9 => h9) rfl dX8_findSafeSets_12 ?_
  refine lv_aload_n hx hb dX8_findSafeSets_15 rfl (lv_at hl 1 rfl) ?_
  refine va_get (D := D) (ci := 6) (v := .ref (sa 0)) (C := RX8) (T := TX8) (N := 12) hx hb hts in8 hown hG.1 hP 0 rfl rfl 3 (by decide) (hts (.fieldLink RX8 29 "ChairCane" "now" "LChairCane$Standing;") (mem_b bq_wsX8_findSafeSets 0 0 rfl)) (fun _ h9 => h9) rfl dX8_findSafeSets_16 ?_
  refine va_get (D := D) (ci := 4) (v := .ref (xa 0)) (C := RX6) (T := TX6) (N := 5) hx hb hts in6 hown hG.1 hP 1 rfl rfl 0 (by decide) (hts (.fieldLink RX8 81 "ChairCane$Standing" "room" "LChairCane$Room;") (mem_b bq_wsX8_findSafeSets 0 1 rfl)) (fun _ h9 => h9) rfl dX8_findSafeSets_19 ?_
  obtain ⟨hP, hD⟩ := qm hP hD (q_to [([((xo 0), .inr (6, [.ref (ta 0), .ref xr, .int (xi 2), .ref (sa 0), .ref xm, .ref xg, .ref (tr 0), .ref xs, .ref xp, .ref xq, .ref xe, .ref xt]))] : va_W), ([((sa 0), .inr (4, [.ref (xa 0), .ref (ca 0), .ref (na 0), .int (si 3), .int (si 4)]))] : va_W), rmW k xa rm, rmW k tr tm, ([(xs, hcZ k 256 xsr)] : va_W)] [0, 1, 2, 3, 4] [3, 2] [0, 1, 4] (by decide +kernel))
  refine fw_Vv (As := [.ref (xa 0)]) (rest := []) (n := 1) (wp := fun b : OB => rmW k tr b ++ (rmW k xa rm)) h hx hb hml hown hts hG hA hP hD hS hl.1 _ _ (fun q hq9 => c_X3_copyFrom l D k _  tr xa F  tm rm  hq9) (ci := 2) (q0 := 0) rfl rfl gX8_findSafeSets_X3_copyFrom rfl ⟨rfl, rfl, Nat.le_of_ble_eq_true rfl, Nat.le_of_ble_eq_true rfl⟩ (by decide +kernel) (q_l _ _) (q_r _ _) (q_nd _ _) ⟨rfl, rfl, Nat.le_of_ble_eq_true rfl, Nat.le_of_ble_eq_true rfl, Nat.le_of_ble_eq_true rfl⟩ dX8_findSafeSets_22 (fun q8 H locs h hP hD hS => ?_)
  obtain ⟨hP, hD⟩ := qm (w2 := ([((xo 0), .inr (6, [.ref (ta 0), .ref xr, .int (xi 2), .ref (sa 0), .ref xm, .ref xg, .ref (tr 0), .ref xs, .ref xp, .ref xq, .ref xe, .ref xt]))] : va_W) ++ (([((sa 0), .inr (4, [.ref (xa 0), .ref (ca 0), .ref (na 0), .int (si 3), .int (si 4)]))] : va_W) ++ (rmW k xa rm ++ (rmW k tr q8 ++ (([(xs, hcZ k 256 xsr)] : va_W)))))) hP hD (q_from [([((xo 0), .inr (6, [.ref (ta 0), .ref xr, .int (xi 2), .ref (sa 0), .ref xm, .ref xg, .ref (tr 0), .ref xs, .ref xp, .ref xq, .ref xe, .ref xt]))] : va_W), ([((sa 0), .inr (4, [.ref (xa 0), .ref (ca 0), .ref (na 0), .int (si 3), .int (si 4)]))] : va_W), rmW k xa rm, rmW k tr q8, ([(xs, hcZ k 256 xsr)] : va_W)] [0, 1, 4] [3, 2] [0, 1, 2, 3, 4] (by decide +kernel))
  refine lv_aload_n hx hb dX8_findSafeSets_25 rfl (lv_at hl 1 rfl) ?_
  refine va_get (D := D) (ci := 6) (v := .ref xs) (C := RX8) (T := TX8) (N := 12) hx hb hts in8 hown hG.1 hP 0 rfl rfl 7 (by decide) (hts (.fieldLink RX8 48 "ChairCane" "safe" "[Z") (mem_b bq_wsX8_findSafeSets 0 4 rfl)) (fun _ h9 => h9) rfl dX8_findSafeSets_26 ?_
  refine lv_iconst (v := 0) hx hb dX8_findSafeSets_29 (by decide) ?_
  refine lv_iconst (v := 1) hx hb dX8_findSafeSets_30 (by decide) ?_
  refine va_zast hx hb hG.1 hP hD hS 20 2 rfl rfl (by unfold vp_in; decide) dX8_findSafeSets_31 (fun H locs hP hD hS => ?_)
  refine lv_iconst (v := 1) hx hb dX8_findSafeSets_32 (by decide) ?_
  refine lv_istore_n (lv' := [(2, .int 1), (1, .int (rm.1 10)), (0, .ref (xo 0))]) hx hb dX8_findSafeSets_33 rfl hl (by decide) rfl (fun ls hl => ?_)
  exact C34 _ _ _ _ h _ _ _ hP hD hS (lv_sub hl [2, 1, 0] rfl)
noncomputable def b_X8_way_25 (F : Nat)  (xi : Nat → Int32) (si : Nat → Int32) (rm : OB)  (tm : OB) (xsr : Nat → Int32) : Option (Int32 × OB × (Nat → Int32)) :=
  some ((-3), tm, xsr)
noncomputable def b_X8_way_107 (F : Nat)  (xi : Nat → Int32) (si : Nat → Int32) (rm : OB)  (y0 : Int32) (tm : OB) (xsr : Nat → Int32) : Option (Int32 × OB × (Nat → Int32)) :=
  some (y0, tm, xsr)
noncomputable def b_X8_way_94 (F : Nat)  (xi : Nat → Int32) (si : Nat → Int32) (rm : OB)  (v4 : Int32) (tm : OB) (xsr : Nat → Int32) : Option (Int32 × OB × (Nat → Int32)) :=
  if v4 = (-1) then (b_X8_way_107 F xi si rm (-2) tm xsr) else (b_X8_way_107 F xi si rm v4 tm xsr)
noncomputable def b_X8_way_60 (F : Nat)  (xi : Nat → Int32) (si : Nat → Int32) (rm : OB)  (k60 : (Int32 × Int32 × Int32 × Int32 × OB × (Nat → Int32)) → Option (Int32 × OB × (Nat → Int32))) (a60 : (Int32 × Int32 × Int32 × Int32 × OB × (Nat → Int32))) : Option (Int32 × OB × (Nat → Int32)) :=
  if a60.1 ≤ a60.2.2.2.1 then (b_X8_way_94 F xi si rm a60.2.2.1 a60.2.2.2.2.1 a60.2.2.2.2.2) else (if a60.2.2.1 = (-1) then (b_X8_way_94 F xi si rm a60.2.2.1 a60.2.2.2.2.1 a60.2.2.2.2.2) else (Option.bind (f_X8_firstToRise F (a60.2.1 &&& ((1 <<< (a60.2.2.1 &&& 31)) ^^^ (-1))) xi a60.2.2.2.2.2) (fun q4 => (k60 (a60.1, (a60.2.1 &&& ((1 <<< (a60.2.2.1 &&& 31)) ^^^ (-1))), q4, (a60.2.2.2.1 + 1), a60.2.2.2.2.1, a60.2.2.2.2.2)))))
noncomputable def f_X8_way (F : Nat)  (x1 : Int32) (xi : Nat → Int32) (si : Nat → Int32) (rm : OB) (tm : OB) (xsr : Nat → Int32) : Option (Int32 × OB × (Nat → Int32)) :=
  if (rm.1 0) = 0 then (b_X8_way_25 F xi si rm tm xsr) else (if x1 < 0 then (b_X8_way_25 F xi si rm tm xsr) else (if x1 < 8 then (Option.bind (f_J6_bitCount_0f7a4 F (rm.1 10)) (fun q8 => (if x1 < q8 then (Option.bind (f_X8_findSafeSets F xi si rm tm xsr) (fun q10 => (Option.bind (f_X8_firstToRise F (rm.1 10) xi q10.2) (fun q11 => (lp (b_X8_way_60 F xi si rm) F (x1, (rm.1 10), q11, 0, q10.1, q10.2)))))) else (some ((-1), tm, xsr))))) else (b_X8_way_25 F xi si rm tm xsr)))
set_option maxHeartbeats 4000000 in
set_option maxRecDepth 100000 in
theorem c_X8_way (l : Launch) (D : va_G) (k : Nat → ClassId) (sz : Nat)  (xo : Nat → Nat) (ta : Nat → Nat) (xr : Nat) (sa : Nat → Nat) (xm : Nat) (xg : Nat) (tr : Nat → Nat) (xs : Nat) (xp : Nat) (xq : Nat) (xe : Nat) (xt : Nat) (xa : Nat → Nat) (ca : Nat → Nat) (na : Nat → Nat) (F : Nat)  (x1 : Int32) (xi : Nat → Int32) (si : Nat → Int32) (rm : OB) (tm : OB) (xsr : Nat → Int32)  {res : Int32 × OB × (Nat → Int32)} (h : f_X8_way F x1 xi si rm tm xsr = some res) : CtI l yX8_way wsX8_way (rmK 5 0 0) [.ref (xo 0), .int x1] D k sz (([((xo 0), .inr (6, [.ref (ta 0), .ref xr, .int (xi 2), .ref (sa 0), .ref xm, .ref xg, .ref (tr 0), .ref xs, .ref xp, .ref xq, .ref xe, .ref xt]))] : va_W) ++ (([((sa 0), .inr (4, [.ref (xa 0), .ref (ca 0), .ref (na 0), .int (si 3), .int (si 4)]))] : va_W) ++ (rmW k xa rm ++ (rmW k tr tm ++ (([(xs, hcZ k 256 xsr)] : va_W)))))) (fun r (_ : Unit) => r = res.1) (fun _ : Unit => ([((xo 0), .inr (6, [.ref (ta 0), .ref xr, .int (xi 2), .ref (sa 0), .ref xm, .ref xg, .ref (tr 0), .ref xs, .ref xp, .ref xq, .ref xe, .ref xt]))] : va_W) ++ (([((sa 0), .inr (4, [.ref (xa 0), .ref (ca 0), .ref (na 0), .int (si 3), .int (si 4)]))] : va_W) ++ (rmW k xa rm ++ (rmW k tr res.2.1 ++ (([(xs, hcZ k 256 res.2.2)] : va_W)))))) 0 0 := by
  refine CtI.mk (cc := cX8_way) (maxL := 6) (ret := (some .int)) (by decide) rfl (Nat.le_of_ble_eq_true rfl) ?_
  intro p e s m below meth c A ls E hP hD hS hl
  obtain ⟨hx, hb, hr, hml, hown, hts, hlocks, hin, hG, hA⟩ := E
  have hown : s.vm.findClass RX8 = some m.cls := hown
  have in3 : ∀ w ∈ u_ws RX3 TX3 17, w ∈ wsX8_way := fun _ h => List.mem_cons_of_mem _ (List.mem_append_right _ h)
  have in6 : ∀ w ∈ u_ws RX6 TX6 5, w ∈ wsX8_way := fun _ h => List.mem_cons_of_mem _ (List.mem_append_left _ (List.mem_append_right _ h))
  have in8 : ∀ w ∈ u_ws RX8 TX8 12, w ∈ wsX8_way := fun _ h => List.mem_cons_of_mem _ (List.mem_append_left _ (List.mem_append_left _ (List.mem_append_right _ h)))
  have hl : lv_has ls 6 [(0, .ref (xo 0)), (1, .int x1)] := hl
  have B25 : ∀ (tm : OB) (xsr : Nat → Int32) (H : Heap) (locs : List Loc) (ls : Array Slot), b_X8_way_25 F xi si rm tm xsr = some res → va_P D vwCl (([((xo 0), .inr (6, [.ref (ta 0), .ref xr, .int (xi 2), .ref (sa 0), .ref xm, .ref xg, .ref (tr 0), .ref xs, .ref xp, .ref xq, .ref xe, .ref xt]))] : va_W) ++ (([((sa 0), .inr (4, [.ref (xa 0), .ref (ca 0), .ref (na 0), .int (si 3), .int (si 4)]))] : va_W) ++ (rmW k xa rm ++ (rmW k tr tm ++ (([(xs, hcZ k 256 xsr)] : va_W)))))) H → va_D A (([((xo 0), .inr (6, [.ref (ta 0), .ref xr, .int (xi 2), .ref (sa 0), .ref xm, .ref xg, .ref (tr 0), .ref xs, .ref xp, .ref xq, .ref xe, .ref xt]))] : va_W) ++ (([((sa 0), .inr (4, [.ref (xa 0), .ref (ca 0), .ref (na 0), .int (si 3), .int (si 4)]))] : va_W) ++ (rmW k xa rm ++ (rmW k tr tm ++ (([(xs, hcZ k 256 xsr)] : va_W)))))) → va_S A s.heap H locs → lv_has ls 6 [] → W p l e (rmK 5 0 0) s m (List.toArray [.ref (xo 0), .int x1]) below meth c H locs 0 0 (MQ below (va_Qi (fun r (_ : Unit) => r = res.1) (hcB D (fun _ : Unit => ([((xo 0), .inr (6, [.ref (ta 0), .ref xr, .int (xi 2), .ref (sa 0), .ref xm, .ref xg, .ref (tr 0), .ref xs, .ref xp, .ref xq, .ref xe, .ref xt]))] : va_W) ++ (([((sa 0), .inr (4, [.ref (xa 0), .ref (ca 0), .ref (na 0), .int (si 3), .int (si 4)]))] : va_W) ++ (rmW k xa rm ++ (rmW k tr res.2.1 ++ (([(xs, hcZ k 256 res.2.2)] : va_W)))))) A) A) (List.toArray [.ref (xo 0), .int x1]) s 0 0 A) (F0 m 25 ls []) := by
    intro tm xsr H locs ls h hP hD hS hl
    refine lv_bipush (v := (-3)) hx hb dX8_way_25 (by decide) ?_
    exact fw_endI (rv := fun b : Int32 × OB × (Nat → Int32) => b.1) (wp := fun b : Int32 × OB × (Nat → Int32) => ([((xo 0), .inr (6, [.ref (ta 0), .ref xr, .int (xi 2), .ref (sa 0), .ref xm, .ref xg, .ref (tr 0), .ref xs, .ref xp, .ref xq, .ref xe, .ref xt]))] : va_W) ++ (([((sa 0), .inr (4, [.ref (xa 0), .ref (ca 0), .ref (na 0), .int (si 3), .int (si 4)]))] : va_W) ++ (rmW k xa rm ++ (rmW k tr b.2.1 ++ (([(xs, hcZ k 256 b.2.2)] : va_W)))))) hx hb hr hlocks h rfl hP hD hS dX8_way_27
  have B107 : ∀ (y0 : Int32) (tm : OB) (xsr : Nat → Int32) (H : Heap) (locs : List Loc) (ls : Array Slot), b_X8_way_107 F xi si rm y0 tm xsr = some res → va_P D vwCl (([((xo 0), .inr (6, [.ref (ta 0), .ref xr, .int (xi 2), .ref (sa 0), .ref xm, .ref xg, .ref (tr 0), .ref xs, .ref xp, .ref xq, .ref xe, .ref xt]))] : va_W) ++ (([((sa 0), .inr (4, [.ref (xa 0), .ref (ca 0), .ref (na 0), .int (si 3), .int (si 4)]))] : va_W) ++ (rmW k xa rm ++ (rmW k tr tm ++ (([(xs, hcZ k 256 xsr)] : va_W)))))) H → va_D A (([((xo 0), .inr (6, [.ref (ta 0), .ref xr, .int (xi 2), .ref (sa 0), .ref xm, .ref xg, .ref (tr 0), .ref xs, .ref xp, .ref xq, .ref xe, .ref xt]))] : va_W) ++ (([((sa 0), .inr (4, [.ref (xa 0), .ref (ca 0), .ref (na 0), .int (si 3), .int (si 4)]))] : va_W) ++ (rmW k xa rm ++ (rmW k tr tm ++ (([(xs, hcZ k 256 xsr)] : va_W)))))) → va_S A s.heap H locs → lv_has ls 6 [] → W p l e (rmK 5 0 0) s m (List.toArray [.ref (xo 0), .int x1]) below meth c H locs 0 0 (MQ below (va_Qi (fun r (_ : Unit) => r = res.1) (hcB D (fun _ : Unit => ([((xo 0), .inr (6, [.ref (ta 0), .ref xr, .int (xi 2), .ref (sa 0), .ref xm, .ref xg, .ref (tr 0), .ref xs, .ref xp, .ref xq, .ref xe, .ref xt]))] : va_W) ++ (([((sa 0), .inr (4, [.ref (xa 0), .ref (ca 0), .ref (na 0), .int (si 3), .int (si 4)]))] : va_W) ++ (rmW k xa rm ++ (rmW k tr res.2.1 ++ (([(xs, hcZ k 256 res.2.2)] : va_W)))))) A) A) (List.toArray [.ref (xo 0), .int x1]) s 0 0 A) (F0 m 107 ls [.int y0]) := by
    intro y0 tm xsr H locs ls h hP hD hS hl
    exact fw_endI (rv := fun b : Int32 × OB × (Nat → Int32) => b.1) (wp := fun b : Int32 × OB × (Nat → Int32) => ([((xo 0), .inr (6, [.ref (ta 0), .ref xr, .int (xi 2), .ref (sa 0), .ref xm, .ref xg, .ref (tr 0), .ref xs, .ref xp, .ref xq, .ref xe, .ref xt]))] : va_W) ++ (([((sa 0), .inr (4, [.ref (xa 0), .ref (ca 0), .ref (na 0), .int (si 3), .int (si 4)]))] : va_W) ++ (rmW k xa rm ++ (rmW k tr b.2.1 ++ (([(xs, hcZ k 256 b.2.2)] : va_W)))))) hx hb hr hlocks h rfl hP hD hS dX8_way_107
  have B94 : ∀ (v4 : Int32) (tm : OB) (xsr : Nat → Int32) (H : Heap) (locs : List Loc) (ls : Array Slot), b_X8_way_94 F xi si rm v4 tm xsr = some res → va_P D vwCl (([((xo 0), .inr (6, [.ref (ta 0), .ref xr, .int (xi 2), .ref (sa 0), .ref xm, .ref xg, .ref (tr 0), .ref xs, .ref xp, .ref xq, .ref xe, .ref xt]))] : va_W) ++ (([((sa 0), .inr (4, [.ref (xa 0), .ref (ca 0), .ref (na 0), .int (si 3), .int (si 4)]))] : va_W) ++ (rmW k xa rm ++ (rmW k tr tm ++ (([(xs, hcZ k 256 xsr)] : va_W)))))) H → va_D A (([((xo 0), .inr (6, [.ref (ta 0), .ref xr, .int (xi 2), .ref (sa 0), .ref xm, .ref xg, .ref (tr 0), .ref xs, .ref xp, .ref xq, .ref xe, .ref xt]))] : va_W) ++ (([((sa 0), .inr (4, [.ref (xa 0), .ref (ca 0), .ref (na 0), .int (si 3), .int (si 4)]))] : va_W) ++ (rmW k xa rm ++ (rmW k tr tm ++ (([(xs, hcZ k 256 xsr)] : va_W)))))) → va_S A s.heap H locs → lv_has ls 6 [(4, .int v4)] → W p l e (rmK 5 0 0) s m (List.toArray [.ref (xo 0), .int x1]) below meth c H locs 0 0 (MQ below (va_Qi (fun r (_ : Unit) => r = res.1) (hcB D (fun _ : Unit => ([((xo 0), .inr (6, [.ref (ta 0), .ref xr, .int (xi 2), .ref (sa 0), .ref xm, .ref xg, .ref (tr 0), .ref xs, .ref xp, .ref xq, .ref xe, .ref xt]))] : va_W) ++ (([((sa 0), .inr (4, [.ref (xa 0), .ref (ca 0), .ref (na 0), .int (si 3), .int (si 4)]))] : va_W) ++ (rmW k xa rm ++ (rmW k tr res.2.1 ++ (([(xs, hcZ k 256 res.2.2)] : va_W)))))) A) A) (List.toArray [.ref (xo 0), .int x1]) s 0 0 A) (F0 m 94 ls []) := by
    intro v4 tm xsr H locs ls h hP hD hS hl
    refine lv_iload hx hb dX8_way_94 (lv_at hl 0 rfl) ?_
    refine lv_iconst (v := (-1)) hx hb dX8_way_96 (by decide) ?_
    refine lv_icmp_ne (tgt := 105) hx hb dX8_way_97 (by decide) (fun c1 => ?_) (fun c1 => ?_)
    · have h := fw_f c1 h
      refine lv_iload hx hb dX8_way_105 (lv_at hl 0 rfl) ?_
      exact B107 _ _ _ _ _ _ h hP hD hS (lv_sub hl [] rfl)
    · have h := fw_t c1 h
      refine lv_bipush (v := (-2)) hx hb dX8_way_100 (by decide) ?_
      refine lv_goto (tgt := 107) hx hb dX8_way_102 (by decide) ?_
      exact B107 _ _ _ _ _ _ h hP hD hS (lv_sub hl [] rfl)
  have B60 : ∀ a60 : (Int32 × Int32 × Int32 × Int32 × OB × (Nat → Int32)), lp (b_X8_way_60 F xi si rm) F a60 = some res → ∀ (H : Heap) (locs : List Loc) (ls : Array Slot), va_P D vwCl (([((xo 0), .inr (6, [.ref (ta 0), .ref xr, .int (xi 2), .ref (sa 0), .ref xm, .ref xg, .ref (tr 0), .ref xs, .ref xp, .ref xq, .ref xe, .ref xt]))] : va_W) ++ (([((sa 0), .inr (4, [.ref (xa 0), .ref (ca 0), .ref (na 0), .int (si 3), .int (si 4)]))] : va_W) ++ (rmW k xa rm ++ (rmW k tr a60.2.2.2.2.1 ++ (([(xs, hcZ k 256 a60.2.2.2.2.2)] : va_W)))))) H → va_D A (([((xo 0), .inr (6, [.ref (ta 0), .ref xr, .int (xi 2), .ref (sa 0), .ref xm, .ref xg, .ref (tr 0), .ref xs, .ref xp, .ref xq, .ref xe, .ref xt]))] : va_W) ++ (([((sa 0), .inr (4, [.ref (xa 0), .ref (ca 0), .ref (na 0), .int (si 3), .int (si 4)]))] : va_W) ++ (rmW k xa rm ++ (rmW k tr a60.2.2.2.2.1 ++ (([(xs, hcZ k 256 a60.2.2.2.2.2)] : va_W)))))) → va_S A s.heap H locs → lv_has ls 6 [(0, .ref (xo 0)), (1, .int a60.1), (3, .int a60.2.1), (4, .int a60.2.2.1), (5, .int a60.2.2.2.1)] → W p l e (rmK 5 0 0) s m (List.toArray [.ref (xo 0), .int x1]) below meth c H locs 0 0 (MQ below (va_Qi (fun r (_ : Unit) => r = res.1) (hcB D (fun _ : Unit => ([((xo 0), .inr (6, [.ref (ta 0), .ref xr, .int (xi 2), .ref (sa 0), .ref xm, .ref xg, .ref (tr 0), .ref xs, .ref xp, .ref xq, .ref xe, .ref xt]))] : va_W) ++ (([((sa 0), .inr (4, [.ref (xa 0), .ref (ca 0), .ref (na 0), .int (si 3), .int (si 4)]))] : va_W) ++ (rmW k xa rm ++ (rmW k tr res.2.1 ++ (([(xs, hcZ k 256 res.2.2)] : va_W)))))) A) A) (List.toArray [.ref (xo 0), .int x1]) s 0 0 A) (F0 m 60 ls []) := by
    refine lp_W ?_ F
    intro k60 hk60 a60 h H locs ls hP hD hS hl
    have hc60 : ∀ (v1 : Int32) (v3 : Int32) (v4 : Int32) (v5 : Int32) (tm : OB) (xsr : Nat → Int32), k60 (v1, v3, v4, v5, tm, xsr) = some res → ∀ (H : Heap) (locs : List Loc) (ls : Array Slot), va_P D vwCl (([((xo 0), .inr (6, [.ref (ta 0), .ref xr, .int (xi 2), .ref (sa 0), .ref xm, .ref xg, .ref (tr 0), .ref xs, .ref xp, .ref xq, .ref xe, .ref xt]))] : va_W) ++ (([((sa 0), .inr (4, [.ref (xa 0), .ref (ca 0), .ref (na 0), .int (si 3), .int (si 4)]))] : va_W) ++ (rmW k xa rm ++ (rmW k tr tm ++ (([(xs, hcZ k 256 xsr)] : va_W)))))) H → va_D A (([((xo 0), .inr (6, [.ref (ta 0), .ref xr, .int (xi 2), .ref (sa 0), .ref xm, .ref xg, .ref (tr 0), .ref xs, .ref xp, .ref xq, .ref xe, .ref xt]))] : va_W) ++ (([((sa 0), .inr (4, [.ref (xa 0), .ref (ca 0), .ref (na 0), .int (si 3), .int (si 4)]))] : va_W) ++ (rmW k xa rm ++ (rmW k tr tm ++ (([(xs, hcZ k 256 xsr)] : va_W)))))) → va_S A s.heap H locs → lv_has ls 6 [(0, .ref (xo 0)), (1, .int v1), (3, .int v3), (4, .int v4), (5, .int v5)] → W p l e (rmK 5 0 0) s m (List.toArray [.ref (xo 0), .int x1]) below meth c H locs 0 0 (MQ below (va_Qi (fun r (_ : Unit) => r = res.1) (hcB D (fun _ : Unit => ([((xo 0), .inr (6, [.ref (ta 0), .ref xr, .int (xi 2), .ref (sa 0), .ref xm, .ref xg, .ref (tr 0), .ref xs, .ref xp, .ref xq, .ref xe, .ref xt]))] : va_W) ++ (([((sa 0), .inr (4, [.ref (xa 0), .ref (ca 0), .ref (na 0), .int (si 3), .int (si 4)]))] : va_W) ++ (rmW k xa rm ++ (rmW k tr res.2.1 ++ (([(xs, hcZ k 256 res.2.2)] : va_W)))))) A) A) (List.toArray [.ref (xo 0), .int x1]) s 0 0 A) (F0 m 60 ls []) := fun v1 v3 v4 v5 tm xsr => hk60 (v1, v3, v4, v5, tm, xsr)
    refine lv_iload hx hb dX8_way_60 (lv_at hl 4 rfl) ?_
    refine lv_iload_n hx hb dX8_way_62 rfl (lv_at hl 1 rfl) ?_
    refine lv_icmp_ge (tgt := 94) hx hb dX8_way_63 (by decide) (fun c2 => ?_) (fun c2 => ?_)
    · have h := fw_t c2 h
      exact B94 _ _ _ _ _ _ h hP hD hS (lv_sub hl [3] rfl)
    · have h := fw_f c2 h
      refine lv_iload hx hb dX8_way_66 (lv_at hl 3 rfl) ?_
      refine lv_iconst (v := (-1)) hx hb dX8_way_68 (by decide) ?_
      refine lv_icmp_eq (tgt := 94) hx hb dX8_way_69 (by decide) (fun c3 => ?_) (fun c3 => ?_)
      · have h := fw_t c3 h
        exact B94 _ _ _ _ _ _ h hP hD hS (lv_sub hl [3] rfl)
      · have h := fw_f c3 h
        refine lv_iload_n hx hb dX8_way_72 rfl (lv_at hl 2 rfl) ?_
        refine lv_iconst (v := 1) hx hb dX8_way_73 (by decide) ?_
        refine lv_iload hx hb dX8_way_74 (lv_at hl 3 rfl) ?_
        refine lv_ishl hx hb dX8_way_76 ?_
        refine lv_iconst (v := (-1)) hx hb dX8_way_77 (by decide) ?_
        refine lv_ixor hx hb dX8_way_78 ?_
        refine lv_iand hx hb dX8_way_79 ?_
        refine lv_istore_n (lv' := [(3, .int (a60.2.1 &&& ((1 <<< (a60.2.2.1 &&& 31)) ^^^ (-1)))), (0, .ref (xo 0)), (1, .int a60.1), (4, .int a60.2.2.1), (5, .int a60.2.2.2.1)]) hx hb dX8_way_80 rfl hl (by decide) rfl (fun ls hl => ?_)
        refine lv_aload_n hx hb dX8_way_81 rfl (lv_at hl 1 rfl) ?_
        refine lv_iload_n hx hb dX8_way_82 rfl (lv_at hl 0 rfl) ?_
        obtain ⟨hP, hD⟩ := qm hP hD (q_to [([((xo 0), .inr (6, [.ref (ta 0), .ref xr, .int (xi 2), .ref (sa 0), .ref xm, .ref xg, .ref (tr 0), .ref xs, .ref xp, .ref xq, .ref xe, .ref xt]))] : va_W), ([((sa 0), .inr (4, [.ref (xa 0), .ref (ca 0), .ref (na 0), .int (si 3), .int (si 4)]))] : va_W), rmW k xa rm, rmW k tr a60.2.2.2.2.1, ([(xs, hcZ k 256 a60.2.2.2.2.2)] : va_W)] [0, 1, 2, 3, 4] [0, 4] [1, 2, 3] (by decide +kernel))
        refine fw_Vi (As := [.int (a60.2.1 &&& ((1 <<< (a60.2.2.1 &&& 31)) ^^^ (-1)))]) (rest := []) (n := 1) (rv := fun b : Int32 => b) (wp := fun b : Int32 => ([((xo 0), .inr (6, [.ref (ta 0), .ref xr, .int (xi 2), .ref (sa 0), .ref xm, .ref xg, .ref (tr 0), .ref xs, .ref xp, .ref xq, .ref xe, .ref xt]))] : va_W) ++ (([(xs, hcZ k 256 a60.2.2.2.2.2)] : va_W))) h hx hb hml hown hts hG hA hP hD hS hl.1 _ _ (fun q hq9 => c_X8_firstToRise l D k _  xo ta xr sa xm xg tr xs xp xq xe xt F (a60.2.1 &&& ((1 <<< (a60.2.2.1 &&& 31)) ^^^ (-1))) xi a60.2.2.2.2.2  hq9) (ci := 6) (q0 := 0) rfl rfl gX8_way_X8_firstToRise rfl ⟨rfl, rfl, Nat.le_of_ble_eq_true rfl, Nat.le_of_ble_eq_true rfl⟩ (by decide +kernel) (q_l _ _) (q_r _ _) (q_nd _ _) ⟨rfl, rfl, Nat.le_of_ble_eq_true rfl, Nat.le_of_ble_eq_true rfl, Nat.le_of_ble_eq_true rfl⟩ dX8_way_83 (fun q4 H locs h hP hD hS => ?_)
        obtain ⟨hP, hD⟩ := qm (w2 := ([((xo 0), .inr (6, [.ref (ta 0), .ref xr, .int (xi 2), .ref (sa 0), .ref xm, .ref xg, .ref (tr 0), .ref xs, .ref xp, .ref xq, .ref xe, .ref xt]))] : va_W) ++ (([((sa 0), .inr (4, [.ref (xa 0), .ref (ca 0), .ref (na 0), .int (si 3), .int (si 4)]))] : va_W) ++ (rmW k xa rm ++ (rmW k tr a60.2.2.2.2.1 ++ (([(xs, hcZ k 256 a60.2.2.2.2.2)] : va_W)))))) hP hD (q_from [([((xo 0), .inr (6, [.ref (ta 0), .ref xr, .int (xi 2), .ref (sa 0), .ref xm, .ref xg, .ref (tr 0), .ref xs, .ref xp, .ref xq, .ref xe, .ref xt]))] : va_W), ([((sa 0), .inr (4, [.ref (xa 0), .ref (ca 0), .ref (na 0), .int (si 3), .int (si 4)]))] : va_W), rmW k xa rm, rmW k tr a60.2.2.2.2.1, ([(xs, hcZ k 256 a60.2.2.2.2.2)] : va_W)] [1, 2, 3] [0, 4] [0, 1, 2, 3, 4] (by decide +kernel))
        refine hc_is (z := q4) rfl ?_
        refine lv_istore (lv' := [(4, .int q4), (3, .int (a60.2.1 &&& ((1 <<< (a60.2.2.1 &&& 31)) ^^^ (-1)))), (0, .ref (xo 0)), (1, .int a60.1), (5, .int a60.2.2.2.1)]) hx hb dX8_way_86 hl (by decide) rfl (fun ls hl => ?_)
        refine lv_iinc (v := (a60.2.2.2.1 + 1)) (lv' := [(5, .int (a60.2.2.2.1 + 1)), (4, .int q4), (3, .int (a60.2.1 &&& ((1 <<< (a60.2.2.1 &&& 31)) ^^^ (-1)))), (0, .ref (xo 0)), (1, .int a60.1)]) hx hb dX8_way_88 hl (k := 4) rfl rfl (by decide) rfl (fun ls hl => ?_)
        refine lv_goto (tgt := 60) hx hb dX8_way_91 (by decide) ?_
        exact hc60 _ _ _ _ _ _ h _ _ _ hP hD hS (lv_sub hl [3, 4, 2, 1, 0] rfl)
  have C60 : ∀ (v1 : Int32) (v3 : Int32) (v4 : Int32) (v5 : Int32) (tm : OB) (xsr : Nat → Int32), lp (b_X8_way_60 F xi si rm) F (v1, v3, v4, v5, tm, xsr) = some res → ∀ (H : Heap) (locs : List Loc) (ls : Array Slot), va_P D vwCl (([((xo 0), .inr (6, [.ref (ta 0), .ref xr, .int (xi 2), .ref (sa 0), .ref xm, .ref xg, .ref (tr 0), .ref xs, .ref xp, .ref xq, .ref xe, .ref xt]))] : va_W) ++ (([((sa 0), .inr (4, [.ref (xa 0), .ref (ca 0), .ref (na 0), .int (si 3), .int (si 4)]))] : va_W) ++ (rmW k xa rm ++ (rmW k tr tm ++ (([(xs, hcZ k 256 xsr)] : va_W)))))) H → va_D A (([((xo 0), .inr (6, [.ref (ta 0), .ref xr, .int (xi 2), .ref (sa 0), .ref xm, .ref xg, .ref (tr 0), .ref xs, .ref xp, .ref xq, .ref xe, .ref xt]))] : va_W) ++ (([((sa 0), .inr (4, [.ref (xa 0), .ref (ca 0), .ref (na 0), .int (si 3), .int (si 4)]))] : va_W) ++ (rmW k xa rm ++ (rmW k tr tm ++ (([(xs, hcZ k 256 xsr)] : va_W)))))) → va_S A s.heap H locs → lv_has ls 6 [(0, .ref (xo 0)), (1, .int v1), (3, .int v3), (4, .int v4), (5, .int v5)] → W p l e (rmK 5 0 0) s m (List.toArray [.ref (xo 0), .int x1]) below meth c H locs 0 0 (MQ below (va_Qi (fun r (_ : Unit) => r = res.1) (hcB D (fun _ : Unit => ([((xo 0), .inr (6, [.ref (ta 0), .ref xr, .int (xi 2), .ref (sa 0), .ref xm, .ref xg, .ref (tr 0), .ref xs, .ref xp, .ref xq, .ref xe, .ref xt]))] : va_W) ++ (([((sa 0), .inr (4, [.ref (xa 0), .ref (ca 0), .ref (na 0), .int (si 3), .int (si 4)]))] : va_W) ++ (rmW k xa rm ++ (rmW k tr res.2.1 ++ (([(xs, hcZ k 256 res.2.2)] : va_W)))))) A) A) (List.toArray [.ref (xo 0), .int x1]) s 0 0 A) (F0 m 60 ls []) := fun v1 v3 v4 v5 tm xsr => B60 (v1, v3, v4, v5, tm, xsr)
  refine lv_aload_n hx hb dX8_way_0 rfl (lv_at hl 0 rfl) ?_
  refine va_get (D := D) (ci := 6) (v := .ref (sa 0)) (C := RX8) (T := TX8) (N := 12) hx hb hts in8 hown hG.1 hP 0 rfl rfl 3 (by decide) (hts (.fieldLink RX8 29 "ChairCane" "now" "LChairCane$Standing;") (mem_b bq_wsX8_way 0 0 rfl)) (fun _ h9 => h9) rfl dX8_way_1 ?_
  refine va_get (D := D) (ci := 4) (v := .ref (xa 0)) (C := RX6) (T := TX6) (N := 5) hx hb hts in6 hown hG.1 hP 1 rfl rfl 0 (by decide) (hts (.fieldLink RX8 81 "ChairCane$Standing" "room" "LChairCane$Room;") (mem_b bq_wsX8_way 0 1 rfl)) (fun _ h9 => h9) rfl dX8_way_4 ?_
  refine lv_astore_n (lv' := [(2, .ref (xa 0)), (0, .ref (xo 0)), (1, .int x1)]) hx hb dX8_way_7 rfl hl (by decide) rfl (fun ls hl => ?_)
  refine lv_aload_n hx hb dX8_way_8 rfl (lv_at hl 0 rfl) ?_
  refine va_get (D := D) (ci := 2) (v := .int (rm.1 0)) (C := RX3) (T := TX3) (N := 17) hx hb hts in3 hown hG.1 hP 2 rfl rfl 0 (by decide) (hts (.fieldLink RX8 150 "ChairCane$Room" "told" "Z") (mem_b bq_wsX8_way 0 2 rfl)) (fun _ h9 => h9) rfl dX8_way_9 ?_
  refine lv_if_eq (tgt := 25) hx hb dX8_way_12 (by decide) (fun c5 => ?_) (fun c5 => ?_)
  · have h := fw_t c5 h
    exact B25 _ _ _ _ _ h hP hD hS (lv_sub hl [] rfl)
  · have h := fw_f c5 h
    refine lv_iload_n hx hb dX8_way_15 rfl (lv_at hl 2 rfl) ?_
    refine lv_if_lt (tgt := 25) hx hb dX8_way_16 (by decide) (fun c6 => ?_) (fun c6 => ?_)
    · have h := fw_t c6 h
      exact B25 _ _ _ _ _ h hP hD hS (lv_sub hl [] rfl)
    · have h := fw_f c6 h
      refine lv_iload_n hx hb dX8_way_19 rfl (lv_at hl 2 rfl) ?_
      refine lv_bipush (v := 8) hx hb dX8_way_20 (by decide) ?_
      refine lv_icmp_lt (tgt := 28) hx hb dX8_way_22 (by decide) (fun c7 => ?_) (fun c7 => ?_)
      · have h := fw_t c7 h
        refine lv_iload_n hx hb dX8_way_28 rfl (lv_at hl 2 rfl) ?_
        refine lv_aload_n hx hb dX8_way_29 rfl (lv_at hl 0 rfl) ?_
        refine va_get (D := D) (ci := 2) (v := .int (rm.1 10)) (C := RX3) (T := TX3) (N := 17) hx hb hts in3 hown hG.1 hP 2 rfl rfl 10 (by decide) (hts (.fieldLink RX8 200 "ChairCane$Room" "sits" "I") (mem_b bq_wsX8_way 0 3 rfl)) (fun _ h9 => h9) rfl dX8_way_30 ?_
        refine fw_Si (As := [.int (rm.1 10)]) (rest := [.int x1]) (n := 1) (wr := ([((xo 0), .inr (6, [.ref (ta 0), .ref xr, .int (xi 2), .ref (sa 0), .ref xm, .ref xg, .ref (tr 0), .ref xs, .ref xp, .ref xq, .ref xe, .ref xt]))] : va_W) ++ (([((sa 0), .inr (4, [.ref (xa 0), .ref (ca 0), .ref (na 0), .int (si 3), .int (si 4)]))] : va_W) ++ (rmW k xa rm ++ (rmW k tr tm ++ (([(xs, hcZ k 256 xsr)] : va_W)))))) (rv := fun b : Int32 => b) (wp := fun b : Int32 => []) h hx hb hml hown hts hG hA hP hD hS hl.1 [] (List.range (([((xo 0), .inr (6, [.ref (ta 0), .ref xr, .int (xi 2), .ref (sa 0), .ref xm, .ref xg, .ref (tr 0), .ref xs, .ref xp, .ref xq, .ref xe, .ref xt]))] : va_W) ++ (([((sa 0), .inr (4, [.ref (xa 0), .ref (ca 0), .ref (na 0), .int (si 3), .int (si 4)]))] : va_W) ++ (rmW k xa rm ++ (rmW k tr tm ++ (([(xs, hcZ k 256 xsr)] : va_W))))) : va_W).length) (fun q hq9 => c_J6_bitCount_0f7a4 l D k _   F (rm.1 10)   hq9) gX8_way_J6_bitCount_0f7a4 rfl ⟨rfl, rfl, Nat.le_of_ble_eq_true rfl, Nat.le_of_ble_eq_true rfl⟩ (by decide +kernel) rfl (al_C _) (al_m _) ⟨rfl, rfl, Nat.le_of_ble_eq_true rfl, Nat.le_of_ble_eq_true rfl, Nat.le_of_ble_eq_true rfl⟩ dX8_way_33 (fun q8 H locs h hP hD hS => ?_)
        obtain ⟨hP, hD⟩ := cv (w' := (([((xo 0), .inr (6, [.ref (ta 0), .ref xr, .int (xi 2), .ref (sa 0), .ref xm, .ref xg, .ref (tr 0), .ref xs, .ref xp, .ref xq, .ref xe, .ref xt]))] : va_W) ++ (([((sa 0), .inr (4, [.ref (xa 0), .ref (ca 0), .ref (na 0), .int (si 3), .int (si 4)]))] : va_W) ++ (rmW k xa rm ++ (rmW k tr tm ++ (([(xs, hcZ k 256 xsr)] : va_W)))))) ++ []) hP hD rfl
        rw [List.append_nil] at hP hD
        refine hc_is (z := q8) rfl ?_
        refine lv_icmp_lt (tgt := 41) hx hb dX8_way_36 (by decide) (fun c9 => ?_) (fun c9 => ?_)
        · have h := fw_t c9 h
          refine lv_aload_n hx hb dX8_way_41 rfl (lv_at hl 1 rfl) ?_
          refine fw_Vv (As := []) (rest := []) (n := 0) (wr := []) (wp := fun b : OB × (Nat → Int32) => ([((xo 0), .inr (6, [.ref (ta 0), .ref xr, .int (xi 2), .ref (sa 0), .ref xm, .ref xg, .ref (tr 0), .ref xs, .ref xp, .ref xq, .ref xe, .ref xt]))] : va_W) ++ (([((sa 0), .inr (4, [.ref (xa 0), .ref (ca 0), .ref (na 0), .int (si 3), .int (si 4)]))] : va_W) ++ (rmW k xa rm ++ (rmW k tr b.1 ++ (([(xs, hcZ k 256 b.2)] : va_W)))))) h hx hb hml hown hts hG hA hP hD hS hl.1 (List.range (([((xo 0), .inr (6, [.ref (ta 0), .ref xr, .int (xi 2), .ref (sa 0), .ref xm, .ref xg, .ref (tr 0), .ref xs, .ref xp, .ref xq, .ref xe, .ref xt]))] : va_W) ++ (([((sa 0), .inr (4, [.ref (xa 0), .ref (ca 0), .ref (na 0), .int (si 3), .int (si 4)]))] : va_W) ++ (rmW k xa rm ++ (rmW k tr tm ++ (([(xs, hcZ k 256 xsr)] : va_W))))) : va_W).length) [] (fun q hq9 => c_X8_findSafeSets l D k _  xo ta xr sa xm xg tr xs xp xq xe xt xa ca na F  xi si rm tm xsr  hq9) (ci := 6) (q0 := 0) rfl rfl gX8_way_X8_findSafeSets rfl ⟨rfl, rfl, Nat.le_of_ble_eq_true rfl, Nat.le_of_ble_eq_true rfl⟩ (by decide +kernel) (al_C _) rfl (al_n _) ⟨rfl, rfl, Nat.le_of_ble_eq_true rfl, Nat.le_of_ble_eq_true rfl, Nat.le_of_ble_eq_true rfl⟩ dX8_way_42 (fun q10 H locs h hP hD hS => ?_)
          obtain ⟨hP, hD⟩ := cv (w' := ([((xo 0), .inr (6, [.ref (ta 0), .ref xr, .int (xi 2), .ref (sa 0), .ref xm, .ref xg, .ref (tr 0), .ref xs, .ref xp, .ref xq, .ref xe, .ref xt]))] : va_W) ++ (([((sa 0), .inr (4, [.ref (xa 0), .ref (ca 0), .ref (na 0), .int (si 3), .int (si 4)]))] : va_W) ++ (rmW k xa rm ++ (rmW k tr q10.1 ++ (([(xs, hcZ k 256 q10.2)] : va_W)))))) hP hD rfl
          refine lv_aload_n hx hb dX8_way_45 rfl (lv_at hl 0 rfl) ?_
          refine va_get (D := D) (ci := 2) (v := .int (rm.1 10)) (C := RX3) (T := TX3) (N := 17) hx hb hts in3 hown hG.1 hP 2 rfl rfl 10 (by decide) (hts (.fieldLink RX8 200 "ChairCane$Room" "sits" "I") (mem_b bq_wsX8_way 0 3 rfl)) (fun _ h9 => h9) rfl dX8_way_46 ?_
          refine lv_istore_n (lv' := [(3, .int (rm.1 10)), (2, .ref (xa 0)), (0, .ref (xo 0)), (1, .int x1)]) hx hb dX8_way_49 rfl hl (by decide) rfl (fun ls hl => ?_)
          refine lv_aload_n hx hb dX8_way_50 rfl (lv_at hl 2 rfl) ?_
          refine lv_iload_n hx hb dX8_way_51 rfl (lv_at hl 0 rfl) ?_
          obtain ⟨hP, hD⟩ := qm hP hD (q_to [([((xo 0), .inr (6, [.ref (ta 0), .ref xr, .int (xi 2), .ref (sa 0), .ref xm, .ref xg, .ref (tr 0), .ref xs, .ref xp, .ref xq, .ref xe, .ref xt]))] : va_W), ([((sa 0), .inr (4, [.ref (xa 0), .ref (ca 0), .ref (na 0), .int (si 3), .int (si 4)]))] : va_W), rmW k xa rm, rmW k tr q10.1, ([(xs, hcZ k 256 q10.2)] : va_W)] [0, 1, 2, 3, 4] [0, 4] [1, 2, 3] (by decide +kernel))
          refine fw_Vi (As := [.int (rm.1 10)]) (rest := []) (n := 1) (rv := fun b : Int32 => b) (wp := fun b : Int32 => ([((xo 0), .inr (6, [.ref (ta 0), .ref xr, .int (xi 2), .ref (sa 0), .ref xm, .ref xg, .ref (tr 0), .ref xs, .ref xp, .ref xq, .ref xe, .ref xt]))] : va_W) ++ (([(xs, hcZ k 256 q10.2)] : va_W))) h hx hb hml hown hts hG hA hP hD hS hl.1 _ _ (fun q hq9 => c_X8_firstToRise l D k _  xo ta xr sa xm xg tr xs xp xq xe xt F (rm.1 10) xi q10.2  hq9) (ci := 6) (q0 := 0) rfl rfl gX8_way_X8_firstToRise rfl ⟨rfl, rfl, Nat.le_of_ble_eq_true rfl, Nat.le_of_ble_eq_true rfl⟩ (by decide +kernel) (q_l _ _) (q_r _ _) (q_nd _ _) ⟨rfl, rfl, Nat.le_of_ble_eq_true rfl, Nat.le_of_ble_eq_true rfl, Nat.le_of_ble_eq_true rfl⟩ dX8_way_52 (fun q11 H locs h hP hD hS => ?_)
          obtain ⟨hP, hD⟩ := qm (w2 := ([((xo 0), .inr (6, [.ref (ta 0), .ref xr, .int (xi 2), .ref (sa 0), .ref xm, .ref xg, .ref (tr 0), .ref xs, .ref xp, .ref xq, .ref xe, .ref xt]))] : va_W) ++ (([((sa 0), .inr (4, [.ref (xa 0), .ref (ca 0), .ref (na 0), .int (si 3), .int (si 4)]))] : va_W) ++ (rmW k xa rm ++ (rmW k tr q10.1 ++ (([(xs, hcZ k 256 q10.2)] : va_W)))))) hP hD (q_from [([((xo 0), .inr (6, [.ref (ta 0), .ref xr, .int (xi 2), .ref (sa 0), .ref xm, .ref xg, .ref (tr 0), .ref xs, .ref xp, .ref xq, .ref xe, .ref xt]))] : va_W), ([((sa 0), .inr (4, [.ref (xa 0), .ref (ca 0), .ref (na 0), .int (si 3), .int (si 4)]))] : va_W), rmW k xa rm, rmW k tr q10.1, ([(xs, hcZ k 256 q10.2)] : va_W)] [1, 2, 3] [0, 4] [0, 1, 2, 3, 4] (by decide +kernel))
          refine hc_is (z := q11) rfl ?_
          refine lv_istore (lv' := [(4, .int q11), (3, .int (rm.1 10)), (2, .ref (xa 0)), (0, .ref (xo 0)), (1, .int x1)]) hx hb dX8_way_55 hl (by decide) rfl (fun ls hl => ?_)
          refine lv_iconst (v := 0) hx hb dX8_way_57 (by decide) ?_
          refine lv_istore (lv' := [(5, .int 0), (4, .int q11), (3, .int (rm.1 10)), (2, .ref (xa 0)), (0, .ref (xo 0)), (1, .int x1)]) hx hb dX8_way_58 hl (by decide) rfl (fun ls hl => ?_)
          exact C60 _ _ _ _ _ _ h _ _ _ hP hD hS (lv_sub hl [4, 5, 2, 1, 0] rfl)
        · have h := fw_f c9 h
          refine lv_iconst (v := (-1)) hx hb dX8_way_39 (by decide) ?_
          exact fw_endI (rv := fun b : Int32 × OB × (Nat → Int32) => b.1) (wp := fun b : Int32 × OB × (Nat → Int32) => ([((xo 0), .inr (6, [.ref (ta 0), .ref xr, .int (xi 2), .ref (sa 0), .ref xm, .ref xg, .ref (tr 0), .ref xs, .ref xp, .ref xq, .ref xe, .ref xt]))] : va_W) ++ (([((sa 0), .inr (4, [.ref (xa 0), .ref (ca 0), .ref (na 0), .int (si 3), .int (si 4)]))] : va_W) ++ (rmW k xa rm ++ (rmW k tr b.2.1 ++ (([(xs, hcZ k 256 b.2.2)] : va_W)))))) hx hb hr hlocks h rfl hP hD hS dX8_way_40
      · have h := fw_f c7 h
        exact B25 _ _ _ _ _ h hP hD hS (lv_sub hl [] rfl)
noncomputable def b_X8_most_33 (F : Nat)  (xi : Nat → Int32) (si : Nat → Int32) (rm : OB)  (k33 : (Int32 × Int32 × OB) → Option (Int32 × OB)) (a33 : (Int32 × Int32 × OB)) : Option (Int32 × OB) :=
  if a33.2.1 < 0 then (some ((-2), a33.2.2)) else (if ib a33.1 4 then (Option.bind (f_X3_givenOut F (a33.2.2.1, (uF a33.2.2.2.1 9 (upd (a33.2.2.2.1 9) (Int32.toNatClampNeg a33.1) a33.2.1)), a33.2.2.2.2)) (fun q3 => (if q3 = 0 then (some (a33.2.1, (a33.2.2.1, (uF a33.2.2.2.1 9 (upd (a33.2.2.2.1 9) (Int32.toNatClampNeg a33.1) a33.2.1)), a33.2.2.2.2))) else (k33 (a33.1, (a33.2.1 + (-1)), (a33.2.2.1, (uF a33.2.2.2.1 9 (upd (a33.2.2.2.1 9) (Int32.toNatClampNeg a33.1) a33.2.1)), a33.2.2.2.2)))))) else none)
noncomputable def f_X8_most (F : Nat)  (x1 : Int32) (xi : Nat → Int32) (si : Nat → Int32) (rm : OB) (tm : OB) : Option (Int32 × OB) :=
  Option.bind (f_X3_hasStrand F x1 rm) (fun q5 => (if q5 = 0 then (some ((-1), tm)) else (Option.bind (f_X3_copyFrom F tm rm) (fun q7 => (lp (b_X8_most_33 F xi si rm) F (x1, 99, q7))))))
set_option maxHeartbeats 4000000 in
set_option maxRecDepth 100000 in
theorem c_X8_most (l : Launch) (D : va_G) (k : Nat → ClassId) (sz : Nat)  (xo : Nat → Nat) (ta : Nat → Nat) (xr : Nat) (sa : Nat → Nat) (xm : Nat) (xg : Nat) (tr : Nat → Nat) (xs : Nat) (xp : Nat) (xq : Nat) (xe : Nat) (xt : Nat) (xa : Nat → Nat) (ca : Nat → Nat) (na : Nat → Nat) (F : Nat)  (x1 : Int32) (xi : Nat → Int32) (si : Nat → Int32) (rm : OB) (tm : OB)  {res : Int32 × OB} (h : f_X8_most F x1 xi si rm tm = some res) : CtI l yX8_most wsX8_most (rmK 3 0 0) [.ref (xo 0), .int x1] D k sz (([((xo 0), .inr (6, [.ref (ta 0), .ref xr, .int (xi 2), .ref (sa 0), .ref xm, .ref xg, .ref (tr 0), .ref xs, .ref xp, .ref xq, .ref xe, .ref xt]))] : va_W) ++ (([((sa 0), .inr (4, [.ref (xa 0), .ref (ca 0), .ref (na 0), .int (si 3), .int (si 4)]))] : va_W) ++ (rmW k xa rm ++ (rmW k tr tm)))) (fun r (_ : Unit) => r = res.1) (fun _ : Unit => ([((xo 0), .inr (6, [.ref (ta 0), .ref xr, .int (xi 2), .ref (sa 0), .ref xm, .ref xg, .ref (tr 0), .ref xs, .ref xp, .ref xq, .ref xe, .ref xt]))] : va_W) ++ (([((sa 0), .inr (4, [.ref (xa 0), .ref (ca 0), .ref (na 0), .int (si 3), .int (si 4)]))] : va_W) ++ (rmW k xa rm ++ (rmW k tr res.2)))) 0 0 := by
  refine CtI.mk (cc := cX8_most) (maxL := 3) (ret := (some .int)) (by decide) rfl (Nat.le_of_ble_eq_true rfl) ?_
  intro p e s m below meth c A ls E hP hD hS hl
  obtain ⟨hx, hb, hr, hml, hown, hts, hlocks, hin, hG, hA⟩ := E
  have hown : s.vm.findClass RX8 = some m.cls := hown
  have in3 : ∀ w ∈ u_ws RX3 TX3 17, w ∈ wsX8_most := fun _ h => List.mem_cons_of_mem _ (List.mem_append_right _ h)
  have in6 : ∀ w ∈ u_ws RX6 TX6 5, w ∈ wsX8_most := fun _ h => List.mem_cons_of_mem _ (List.mem_append_left _ (List.mem_append_right _ h))
  have in8 : ∀ w ∈ u_ws RX8 TX8 12, w ∈ wsX8_most := fun _ h => List.mem_cons_of_mem _ (List.mem_append_left _ (List.mem_append_left _ (List.mem_append_right _ h)))
  have hl : lv_has ls 3 [(0, .ref (xo 0)), (1, .int x1)] := hl
  have B33 : ∀ a33 : (Int32 × Int32 × OB), lp (b_X8_most_33 F xi si rm) F a33 = some res → ∀ (H : Heap) (locs : List Loc) (ls : Array Slot), va_P D vwCl (([((xo 0), .inr (6, [.ref (ta 0), .ref xr, .int (xi 2), .ref (sa 0), .ref xm, .ref xg, .ref (tr 0), .ref xs, .ref xp, .ref xq, .ref xe, .ref xt]))] : va_W) ++ (([((sa 0), .inr (4, [.ref (xa 0), .ref (ca 0), .ref (na 0), .int (si 3), .int (si 4)]))] : va_W) ++ (rmW k xa rm ++ (rmW k tr a33.2.2)))) H → va_D A (([((xo 0), .inr (6, [.ref (ta 0), .ref xr, .int (xi 2), .ref (sa 0), .ref xm, .ref xg, .ref (tr 0), .ref xs, .ref xp, .ref xq, .ref xe, .ref xt]))] : va_W) ++ (([((sa 0), .inr (4, [.ref (xa 0), .ref (ca 0), .ref (na 0), .int (si 3), .int (si 4)]))] : va_W) ++ (rmW k xa rm ++ (rmW k tr a33.2.2)))) → va_S A s.heap H locs → lv_has ls 3 [(0, .ref (xo 0)), (1, .int a33.1), (2, .int a33.2.1)] → W p l e (rmK 3 0 0) s m (List.toArray [.ref (xo 0), .int x1]) below meth c H locs 0 0 (MQ below (va_Qi (fun r (_ : Unit) => r = res.1) (hcB D (fun _ : Unit => ([((xo 0), .inr (6, [.ref (ta 0), .ref xr, .int (xi 2), .ref (sa 0), .ref xm, .ref xg, .ref (tr 0), .ref xs, .ref xp, .ref xq, .ref xe, .ref xt]))] : va_W) ++ (([((sa 0), .inr (4, [.ref (xa 0), .ref (ca 0), .ref (na 0), .int (si 3), .int (si 4)]))] : va_W) ++ (rmW k xa rm ++ (rmW k tr res.2)))) A) A) (List.toArray [.ref (xo 0), .int x1]) s 0 0 A) (F0 m 33 ls []) := by
    refine lp_W ?_ F
    intro k33 hk33 a33 h H locs ls hP hD hS hl
    have hc33 : ∀ (v1 : Int32) (v2 : Int32) (tm : OB), k33 (v1, v2, tm) = some res → ∀ (H : Heap) (locs : List Loc) (ls : Array Slot), va_P D vwCl (([((xo 0), .inr (6, [.ref (ta 0), .ref xr, .int (xi 2), .ref (sa 0), .ref xm, .ref xg, .ref (tr 0), .ref xs, .ref xp, .ref xq, .ref xe, .ref xt]))] : va_W) ++ (([((sa 0), .inr (4, [.ref (xa 0), .ref (ca 0), .ref (na 0), .int (si 3), .int (si 4)]))] : va_W) ++ (rmW k xa rm ++ (rmW k tr tm)))) H → va_D A (([((xo 0), .inr (6, [.ref (ta 0), .ref xr, .int (xi 2), .ref (sa 0), .ref xm, .ref xg, .ref (tr 0), .ref xs, .ref xp, .ref xq, .ref xe, .ref xt]))] : va_W) ++ (([((sa 0), .inr (4, [.ref (xa 0), .ref (ca 0), .ref (na 0), .int (si 3), .int (si 4)]))] : va_W) ++ (rmW k xa rm ++ (rmW k tr tm)))) → va_S A s.heap H locs → lv_has ls 3 [(0, .ref (xo 0)), (1, .int v1), (2, .int v2)] → W p l e (rmK 3 0 0) s m (List.toArray [.ref (xo 0), .int x1]) below meth c H locs 0 0 (MQ below (va_Qi (fun r (_ : Unit) => r = res.1) (hcB D (fun _ : Unit => ([((xo 0), .inr (6, [.ref (ta 0), .ref xr, .int (xi 2), .ref (sa 0), .ref xm, .ref xg, .ref (tr 0), .ref xs, .ref xp, .ref xq, .ref xe, .ref xt]))] : va_W) ++ (([((sa 0), .inr (4, [.ref (xa 0), .ref (ca 0), .ref (na 0), .int (si 3), .int (si 4)]))] : va_W) ++ (rmW k xa rm ++ (rmW k tr res.2)))) A) A) (List.toArray [.ref (xo 0), .int x1]) s 0 0 A) (F0 m 33 ls []) := fun v1 v2 tm => hk33 (v1, v2, tm)
    refine lv_iload_n hx hb dX8_most_33 rfl (lv_at hl 2 rfl) ?_
    refine lv_if_lt (tgt := 65) hx hb dX8_most_34 (by decide) (fun c1 => ?_) (fun c1 => ?_)
    · have h := fw_t c1 h
      refine lv_bipush (v := (-2)) hx hb dX8_most_65 (by decide) ?_
      exact fw_endI (rv := fun b : Int32 × OB => b.1) (wp := fun b : Int32 × OB => ([((xo 0), .inr (6, [.ref (ta 0), .ref xr, .int (xi 2), .ref (sa 0), .ref xm, .ref xg, .ref (tr 0), .ref xs, .ref xp, .ref xq, .ref xe, .ref xt]))] : va_W) ++ (([((sa 0), .inr (4, [.ref (xa 0), .ref (ca 0), .ref (na 0), .int (si 3), .int (si 4)]))] : va_W) ++ (rmW k xa rm ++ (rmW k tr b.2)))) hx hb hr hlocks h rfl hP hD hS dX8_most_67
    · have h := fw_f c1 h
      refine lv_aload_n hx hb dX8_most_37 rfl (lv_at hl 0 rfl) ?_
      refine va_get (D := D) (ci := 6) (v := .ref (tr 0)) (C := RX8) (T := TX8) (N := 12) hx hb hts in8 hown hG.1 hP 0 rfl rfl 6 (by decide) (hts (.fieldLink RX8 44 "ChairCane" "trial" "LChairCane$Room;") (mem_b bq_wsX8_most 0 2 rfl)) (fun _ h9 => h9) rfl dX8_most_38 ?_
      refine va_get (D := D) (ci := 2) (v := .ref (tr 6)) (C := RX3) (T := TX3) (N := 17) hx hb hts in3 hown hG.1 hP 11 rfl rfl 9 (by decide) (hts (.fieldLink RX8 119 "ChairCane$Room" "cane" "[I") (mem_b bq_wsX8_most 0 3 rfl)) (fun _ h9 => h9) rfl dX8_most_41 ?_
      refine lv_iload_n hx hb dX8_most_44 rfl (lv_at hl 1 rfl) ?_
      refine lv_iload_n hx hb dX8_most_45 rfl (lv_at hl 2 rfl) ?_
      obtain ⟨g2, h⟩ := fw_g h
      refine va_iast hx hb hG.1 hP hD hS 17 0 rfl rfl (ib_vp g2) dX8_most_46 (fun H locs hP hD hS => ?_)
      refine lv_aload_n hx hb dX8_most_47 rfl (lv_at hl 0 rfl) ?_
      refine va_get (D := D) (ci := 6) (v := .ref (tr 0)) (C := RX8) (T := TX8) (N := 12) hx hb hts in8 hown hG.1 hP 0 rfl rfl 6 (by decide) (hts (.fieldLink RX8 44 "ChairCane" "trial" "LChairCane$Room;") (mem_b bq_wsX8_most 0 2 rfl)) (fun _ h9 => h9) rfl dX8_most_48 ?_
      obtain ⟨hP, hD⟩ := cv (w' := ([((xo 0), .inr (6, [.ref (ta 0), .ref xr, .int (xi 2), .ref (sa 0), .ref xm, .ref xg, .ref (tr 0), .ref xs, .ref xp, .ref xq, .ref xe, .ref xt]))] : va_W) ++ (([((sa 0), .inr (4, [.ref (xa 0), .ref (ca 0), .ref (na 0), .int (si 3), .int (si 4)]))] : va_W) ++ (rmW k xa rm ++ (rmW k tr (a33.2.2.1, (uF a33.2.2.2.1 9 (upd (a33.2.2.2.1 9) (Int32.toNatClampNeg a33.1) a33.2.1)), a33.2.2.2.2))))) hP hD rfl
      obtain ⟨hP, hD⟩ := qm hP hD (q_to [([((xo 0), .inr (6, [.ref (ta 0), .ref xr, .int (xi 2), .ref (sa 0), .ref xm, .ref xg, .ref (tr 0), .ref xs, .ref xp, .ref xq, .ref xe, .ref xt]))] : va_W), ([((sa 0), .inr (4, [.ref (xa 0), .ref (ca 0), .ref (na 0), .int (si 3), .int (si 4)]))] : va_W), rmW k xa rm, rmW k tr (a33.2.2.1, (uF a33.2.2.2.1 9 (upd (a33.2.2.2.1 9) (Int32.toNatClampNeg a33.1) a33.2.1)), a33.2.2.2.2)] [0, 1, 2, 3] [3] [0, 1, 2] (by decide +kernel))
      refine fw_Vi (As := []) (rest := []) (n := 0) (rv := fun b : Int32 => b) (wp := fun b : Int32 => rmW k tr (a33.2.2.1, (uF a33.2.2.2.1 9 (upd (a33.2.2.2.1 9) (Int32.toNatClampNeg a33.1) a33.2.1)), a33.2.2.2.2)) h hx hb hml hown hts hG hA hP hD hS hl.1 _ _ (fun q hq9 => c_X3_givenOut l D k _  tr F  (a33.2.2.1, (uF a33.2.2.2.1 9 (upd (a33.2.2.2.1 9) (Int32.toNatClampNeg a33.1) a33.2.1)), a33.2.2.2.2)  hq9) (ci := 2) (q0 := 0) rfl rfl gX8_most_X3_givenOut rfl ⟨rfl, rfl, Nat.le_of_ble_eq_true rfl, Nat.le_of_ble_eq_true rfl⟩ (by decide +kernel) (q_l _ _) (q_r _ _) (q_nd _ _) ⟨rfl, rfl, Nat.le_of_ble_eq_true rfl, Nat.le_of_ble_eq_true rfl, Nat.le_of_ble_eq_true rfl⟩ dX8_most_51 (fun q3 H locs h hP hD hS => ?_)
      obtain ⟨hP, hD⟩ := qm (w2 := ([((xo 0), .inr (6, [.ref (ta 0), .ref xr, .int (xi 2), .ref (sa 0), .ref xm, .ref xg, .ref (tr 0), .ref xs, .ref xp, .ref xq, .ref xe, .ref xt]))] : va_W) ++ (([((sa 0), .inr (4, [.ref (xa 0), .ref (ca 0), .ref (na 0), .int (si 3), .int (si 4)]))] : va_W) ++ (rmW k xa rm ++ (rmW k tr (a33.2.2.1, (uF a33.2.2.2.1 9 (upd (a33.2.2.2.1 9) (Int32.toNatClampNeg a33.1) a33.2.1)), a33.2.2.2.2))))) hP hD (q_from [([((xo 0), .inr (6, [.ref (ta 0), .ref xr, .int (xi 2), .ref (sa 0), .ref xm, .ref xg, .ref (tr 0), .ref xs, .ref xp, .ref xq, .ref xe, .ref xt]))] : va_W), ([((sa 0), .inr (4, [.ref (xa 0), .ref (ca 0), .ref (na 0), .int (si 3), .int (si 4)]))] : va_W), rmW k xa rm, rmW k tr (a33.2.2.1, (uF a33.2.2.2.1 9 (upd (a33.2.2.2.1 9) (Int32.toNatClampNeg a33.1) a33.2.1)), a33.2.2.2.2)] [0, 1, 2] [3] [0, 1, 2, 3] (by decide +kernel))
      refine hc_is (z := q3) rfl ?_
      refine lv_if_ne (tgt := 59) hx hb dX8_most_54 (by decide) (fun c4 => ?_) (fun c4 => ?_)
      · have h := fw_f c4 h
        refine lv_iinc (v := (a33.2.1 + (-1))) (lv' := [(2, .int (a33.2.1 + (-1))), (0, .ref (xo 0)), (1, .int a33.1)]) hx hb dX8_most_59 hl (k := 2) rfl rfl (by decide) rfl (fun ls hl => ?_)
        refine lv_goto (tgt := 33) hx hb dX8_most_62 (by decide) ?_
        exact hc33 _ _ _ h _ _ _ hP hD hS (lv_sub hl [1, 2, 0] rfl)
      · have h := fw_t c4 h
        refine lv_iload_n hx hb dX8_most_57 rfl (lv_at hl 2 rfl) ?_
        exact fw_endI (rv := fun b : Int32 × OB => b.1) (wp := fun b : Int32 × OB => ([((xo 0), .inr (6, [.ref (ta 0), .ref xr, .int (xi 2), .ref (sa 0), .ref xm, .ref xg, .ref (tr 0), .ref xs, .ref xp, .ref xq, .ref xe, .ref xt]))] : va_W) ++ (([((sa 0), .inr (4, [.ref (xa 0), .ref (ca 0), .ref (na 0), .int (si 3), .int (si 4)]))] : va_W) ++ (rmW k xa rm ++ (rmW k tr b.2)))) hx hb hr hlocks h rfl hP hD hS dX8_most_58
  have C33 : ∀ (v1 : Int32) (v2 : Int32) (tm : OB), lp (b_X8_most_33 F xi si rm) F (v1, v2, tm) = some res → ∀ (H : Heap) (locs : List Loc) (ls : Array Slot), va_P D vwCl (([((xo 0), .inr (6, [.ref (ta 0), .ref xr, .int (xi 2), .ref (sa 0), .ref xm, .ref xg, .ref (tr 0), .ref xs, .ref xp, .ref xq, .ref xe, .ref xt]))] : va_W) ++ (([((sa 0), .inr (4, [.ref (xa 0), .ref (ca 0), .ref (na 0), .int (si 3), .int (si 4)]))] : va_W) ++ (rmW k xa rm ++ (rmW k tr tm)))) H → va_D A (([((xo 0), .inr (6, [.ref (ta 0), .ref xr, .int (xi 2), .ref (sa 0), .ref xm, .ref xg, .ref (tr 0), .ref xs, .ref xp, .ref xq, .ref xe, .ref xt]))] : va_W) ++ (([((sa 0), .inr (4, [.ref (xa 0), .ref (ca 0), .ref (na 0), .int (si 3), .int (si 4)]))] : va_W) ++ (rmW k xa rm ++ (rmW k tr tm)))) → va_S A s.heap H locs → lv_has ls 3 [(0, .ref (xo 0)), (1, .int v1), (2, .int v2)] → W p l e (rmK 3 0 0) s m (List.toArray [.ref (xo 0), .int x1]) below meth c H locs 0 0 (MQ below (va_Qi (fun r (_ : Unit) => r = res.1) (hcB D (fun _ : Unit => ([((xo 0), .inr (6, [.ref (ta 0), .ref xr, .int (xi 2), .ref (sa 0), .ref xm, .ref xg, .ref (tr 0), .ref xs, .ref xp, .ref xq, .ref xe, .ref xt]))] : va_W) ++ (([((sa 0), .inr (4, [.ref (xa 0), .ref (ca 0), .ref (na 0), .int (si 3), .int (si 4)]))] : va_W) ++ (rmW k xa rm ++ (rmW k tr res.2)))) A) A) (List.toArray [.ref (xo 0), .int x1]) s 0 0 A) (F0 m 33 ls []) := fun v1 v2 tm => B33 (v1, v2, tm)
  refine lv_aload_n hx hb dX8_most_0 rfl (lv_at hl 0 rfl) ?_
  refine va_get (D := D) (ci := 6) (v := .ref (sa 0)) (C := RX8) (T := TX8) (N := 12) hx hb hts in8 hown hG.1 hP 0 rfl rfl 3 (by decide) (hts (.fieldLink RX8 29 "ChairCane" "now" "LChairCane$Standing;") (mem_b bq_wsX8_most 0 0 rfl)) (fun _ h9 => h9) rfl dX8_most_1 ?_
  refine va_get (D := D) (ci := 4) (v := .ref (xa 0)) (C := RX6) (T := TX6) (N := 5) hx hb hts in6 hown hG.1 hP 1 rfl rfl 0 (by decide) (hts (.fieldLink RX8 81 "ChairCane$Standing" "room" "LChairCane$Room;") (mem_b bq_wsX8_most 0 1 rfl)) (fun _ h9 => h9) rfl dX8_most_4 ?_
  refine lv_iload_n hx hb dX8_most_7 rfl (lv_at hl 1 rfl) ?_
  obtain ⟨hP, hD⟩ := qm hP hD (q_to [([((xo 0), .inr (6, [.ref (ta 0), .ref xr, .int (xi 2), .ref (sa 0), .ref xm, .ref xg, .ref (tr 0), .ref xs, .ref xp, .ref xq, .ref xe, .ref xt]))] : va_W), ([((sa 0), .inr (4, [.ref (xa 0), .ref (ca 0), .ref (na 0), .int (si 3), .int (si 4)]))] : va_W), rmW k xa rm, rmW k tr tm] [0, 1, 2, 3] [2] [0, 1, 3] (by decide +kernel))
  refine fw_Vi (As := [.int x1]) (rest := []) (n := 1) (rv := fun b : Int32 => b) (wp := fun b : Int32 => rmW k xa rm) h hx hb hml hown hts hG hA hP hD hS hl.1 _ _ (fun q hq9 => c_X3_hasStrand l D k _  xa F x1 rm  hq9) (ci := 2) (q0 := 0) rfl rfl gX8_most_X3_hasStrand rfl ⟨rfl, rfl, Nat.le_of_ble_eq_true rfl, Nat.le_of_ble_eq_true rfl⟩ (by decide +kernel) (q_l _ _) (q_r _ _) (q_nd _ _) ⟨rfl, rfl, Nat.le_of_ble_eq_true rfl, Nat.le_of_ble_eq_true rfl, Nat.le_of_ble_eq_true rfl⟩ dX8_most_8 (fun q5 H locs h hP hD hS => ?_)
  obtain ⟨hP, hD⟩ := qm (w2 := ([((xo 0), .inr (6, [.ref (ta 0), .ref xr, .int (xi 2), .ref (sa 0), .ref xm, .ref xg, .ref (tr 0), .ref xs, .ref xp, .ref xq, .ref xe, .ref xt]))] : va_W) ++ (([((sa 0), .inr (4, [.ref (xa 0), .ref (ca 0), .ref (na 0), .int (si 3), .int (si 4)]))] : va_W) ++ (rmW k xa rm ++ (rmW k tr tm)))) hP hD (q_from [([((xo 0), .inr (6, [.ref (ta 0), .ref xr, .int (xi 2), .ref (sa 0), .ref xm, .ref xg, .ref (tr 0), .ref xs, .ref xp, .ref xq, .ref xe, .ref xt]))] : va_W), ([((sa 0), .inr (4, [.ref (xa 0), .ref (ca 0), .ref (na 0), .int (si 3), .int (si 4)]))] : va_W), rmW k xa rm, rmW k tr tm] [0, 1, 3] [2] [0, 1, 2, 3] (by decide +kernel))
  refine hc_is (z := q5) rfl ?_
  refine lv_if_ne (tgt := 16) hx hb dX8_most_11 (by decide) (fun c6 => ?_) (fun c6 => ?_)
  · have h := fw_f c6 h
    refine lv_aload_n hx hb dX8_most_16 rfl (lv_at hl 0 rfl) ?_
    refine va_get (D := D) (ci := 6) (v := .ref (tr 0)) (C := RX8) (T := TX8) (N := 12) hx hb hts in8 hown hG.1 hP 0 rfl rfl 6 (by decide) (hts (.fieldLink RX8 44 "ChairCane" "trial" "LChairCane$Room;") (mem_b bq_wsX8_most 0 2 rfl)) (fun _ h9 => h9) rfl dX8_most_17 ?_
    refine lv_aload_n hx hb dX8_most_20 rfl (lv_at hl 0 rfl) ?_
    refine va_get (D := D) (ci := 6) (v := .ref (sa 0)) (C := RX8) (T := TX8) (N := 12) hx hb hts in8 hown hG.1 hP 0 rfl rfl 3 (by decide) (hts (.fieldLink RX8 29 "ChairCane" "now" "LChairCane$Standing;") (mem_b bq_wsX8_most 0 0 rfl)) (fun _ h9 => h9) rfl dX8_most_21 ?_
    refine va_get (D := D) (ci := 4) (v := .ref (xa 0)) (C := RX6) (T := TX6) (N := 5) hx hb hts in6 hown hG.1 hP 1 rfl rfl 0 (by decide) (hts (.fieldLink RX8 81 "ChairCane$Standing" "room" "LChairCane$Room;") (mem_b bq_wsX8_most 0 1 rfl)) (fun _ h9 => h9) rfl dX8_most_24 ?_
    obtain ⟨hP, hD⟩ := qm hP hD (q_to [([((xo 0), .inr (6, [.ref (ta 0), .ref xr, .int (xi 2), .ref (sa 0), .ref xm, .ref xg, .ref (tr 0), .ref xs, .ref xp, .ref xq, .ref xe, .ref xt]))] : va_W), ([((sa 0), .inr (4, [.ref (xa 0), .ref (ca 0), .ref (na 0), .int (si 3), .int (si 4)]))] : va_W), rmW k xa rm, rmW k tr tm] [0, 1, 2, 3] [3, 2] [0, 1] (by decide +kernel))
    refine fw_Vv (As := [.ref (xa 0)]) (rest := []) (n := 1) (wp := fun b : OB => rmW k tr b ++ (rmW k xa rm)) h hx hb hml hown hts hG hA hP hD hS hl.1 _ _ (fun q hq9 => c_X3_copyFrom l D k _  tr xa F  tm rm  hq9) (ci := 2) (q0 := 0) rfl rfl gX8_most_X3_copyFrom rfl ⟨rfl, rfl, Nat.le_of_ble_eq_true rfl, Nat.le_of_ble_eq_true rfl⟩ (by decide +kernel) (q_l _ _) (q_r _ _) (q_nd _ _) ⟨rfl, rfl, Nat.le_of_ble_eq_true rfl, Nat.le_of_ble_eq_true rfl, Nat.le_of_ble_eq_true rfl⟩ dX8_most_27 (fun q7 H locs h hP hD hS => ?_)
    obtain ⟨hP, hD⟩ := qm (w2 := ([((xo 0), .inr (6, [.ref (ta 0), .ref xr, .int (xi 2), .ref (sa 0), .ref xm, .ref xg, .ref (tr 0), .ref xs, .ref xp, .ref xq, .ref xe, .ref xt]))] : va_W) ++ (([((sa 0), .inr (4, [.ref (xa 0), .ref (ca 0), .ref (na 0), .int (si 3), .int (si 4)]))] : va_W) ++ (rmW k xa rm ++ (rmW k tr q7)))) hP hD (q_from [([((xo 0), .inr (6, [.ref (ta 0), .ref xr, .int (xi 2), .ref (sa 0), .ref xm, .ref xg, .ref (tr 0), .ref xs, .ref xp, .ref xq, .ref xe, .ref xt]))] : va_W), ([((sa 0), .inr (4, [.ref (xa 0), .ref (ca 0), .ref (na 0), .int (si 3), .int (si 4)]))] : va_W), rmW k xa rm, rmW k tr q7] [0, 1] [3, 2] [0, 1, 2, 3] (by decide +kernel))
    refine lv_bipush (v := 99) hx hb dX8_most_30 (by decide) ?_
    refine lv_istore_n (lv' := [(2, .int 99), (0, .ref (xo 0)), (1, .int x1)]) hx hb dX8_most_32 rfl hl (by decide) rfl (fun ls hl => ?_)
    exact C33 _ _ _ h _ _ _ hP hD hS (lv_sub hl [1, 2, 0] rfl)
  · have h := fw_t c6 h
    refine lv_iconst (v := (-1)) hx hb dX8_most_14 (by decide) ?_
    exact fw_endI (rv := fun b : Int32 × OB => b.1) (wp := fun b : Int32 × OB => ([((xo 0), .inr (6, [.ref (ta 0), .ref xr, .int (xi 2), .ref (sa 0), .ref xm, .ref xg, .ref (tr 0), .ref xs, .ref xp, .ref xq, .ref xe, .ref xt]))] : va_W) ++ (([((sa 0), .inr (4, [.ref (xa 0), .ref (ca 0), .ref (na 0), .int (si 3), .int (si 4)]))] : va_W) ++ (rmW k xa rm ++ (rmW k tr b.2)))) hx hb hr hlocks h rfl hP hD hS dX8_most_15
noncomputable def b_X8_heavy_25 (F : Nat)  (xi : Nat → Int32) (si : Nat → Int32) (rm : OB)  (tm : OB) : Option (Int32 × OB) :=
  some ((-1), tm)
noncomputable def b_X8_heavy_105 (F : Nat)  (xi : Nat → Int32) (si : Nat → Int32) (rm : OB)  (y0 : Int32) (tm : OB) : Option (Int32 × OB) :=
  some (y0, tm)
noncomputable def b_X8_heavy_88 (F : Nat)  (xi : Nat → Int32) (si : Nat → Int32) (rm : OB) (k46 : (Int32 × Int32 × Int32 × Int32 × Int32 × OB) → Option (Int32 × OB)) (v1 : Int32) (v2 : Int32) (v4 : Int32) (v5 : Int32) (v6 : Int32) (tm : OB) : Option (Int32 × OB) :=
  k46 (v1, v2, v4, v5, (v6 + (-1)), tm)
noncomputable def b_X8_heavy_46 (F : Nat)  (xi : Nat → Int32) (si : Nat → Int32) (rm : OB)  (k46 : (Int32 × Int32 × Int32 × Int32 × Int32 × OB) → Option (Int32 × OB)) (a46 : (Int32 × Int32 × Int32 × Int32 × Int32 × OB)) : Option (Int32 × OB) :=
  if a46.2.2.2.2.1 < 1 then (if a46.2.1 = 0 then (b_X8_heavy_105 F xi si rm a46.2.2.1 a46.2.2.2.2.2) else (b_X8_heavy_105 F xi si rm a46.2.2.2.1 a46.2.2.2.2.2)) else (if ib a46.1 8 then (Option.bind (f_X3_bears F ((rm.1 10) ||| (1 <<< (a46.1 &&& 31))) (a46.2.2.2.2.2.1, (uF a46.2.2.2.2.2.2.1 8 (upd (a46.2.2.2.2.2.2.1 8) (Int32.toNatClampNeg a46.1) a46.2.2.2.2.1)), a46.2.2.2.2.2.2.2)) (fun q4 => (if q4.1 = 0 then (b_X8_heavy_88 F xi si rm k46 a46.1 a46.2.1 a46.2.2.1 a46.2.2.2.1 a46.2.2.2.2.1 q4.2) else (b_X8_heavy_88 F xi si rm k46 a46.1 a46.2.1 (a46.2.2.1 + 1) a46.2.2.2.2.1 a46.2.2.2.2.1 q4.2)))) else none)
noncomputable def f_X8_heavy (F : Nat)  (x1 : Int32) (x2 : Int32) (xi : Nat → Int32) (si : Nat → Int32) (rm : OB) (tm : OB) : Option (Int32 × OB) :=
  Option.bind (f_X3_isUp F x1 rm) (fun q6 => (if q6 = 0 then (b_X8_heavy_25 F xi si rm tm) else (if x2 < 0 then (b_X8_heavy_25 F xi si rm tm) else (if x2 ≤ 1 then (Option.bind (f_X3_copyFrom F tm rm) (fun q10 => (lp (b_X8_heavy_46 F xi si rm) F (x1, x2, 0, (-2), 20, q10)))) else (b_X8_heavy_25 F xi si rm tm)))))
set_option maxHeartbeats 4000000 in
set_option maxRecDepth 100000 in
theorem c_X8_heavy (l : Launch) (D : va_G) (k : Nat → ClassId) (sz : Nat)  (xo : Nat → Nat) (ta : Nat → Nat) (xr : Nat) (sa : Nat → Nat) (xm : Nat) (xg : Nat) (tr : Nat → Nat) (xs : Nat) (xp : Nat) (xq : Nat) (xe : Nat) (xt : Nat) (xa : Nat → Nat) (ca : Nat → Nat) (na : Nat → Nat) (F : Nat)  (x1 : Int32) (x2 : Int32) (xi : Nat → Int32) (si : Nat → Int32) (rm : OB) (tm : OB)  {res : Int32 × OB} (h : f_X8_heavy F x1 x2 xi si rm tm = some res) : CtI l yX8_heavy wsX8_heavy (rmK 4 0 0) [.ref (xo 0), .int x1, .int x2] D k sz (([((xo 0), .inr (6, [.ref (ta 0), .ref xr, .int (xi 2), .ref (sa 0), .ref xm, .ref xg, .ref (tr 0), .ref xs, .ref xp, .ref xq, .ref xe, .ref xt]))] : va_W) ++ (([((sa 0), .inr (4, [.ref (xa 0), .ref (ca 0), .ref (na 0), .int (si 3), .int (si 4)]))] : va_W) ++ (rmW k xa rm ++ (rmW k tr tm)))) (fun r (_ : Unit) => r = res.1) (fun _ : Unit => ([((xo 0), .inr (6, [.ref (ta 0), .ref xr, .int (xi 2), .ref (sa 0), .ref xm, .ref xg, .ref (tr 0), .ref xs, .ref xp, .ref xq, .ref xe, .ref xt]))] : va_W) ++ (([((sa 0), .inr (4, [.ref (xa 0), .ref (ca 0), .ref (na 0), .int (si 3), .int (si 4)]))] : va_W) ++ (rmW k xa rm ++ (rmW k tr res.2)))) 0 0 := by
  refine CtI.mk (cc := cX8_heavy) (maxL := 7) (ret := (some .int)) (by decide) rfl (Nat.le_of_ble_eq_true rfl) ?_
  intro p e s m below meth c A ls E hP hD hS hl
  obtain ⟨hx, hb, hr, hml, hown, hts, hlocks, hin, hG, hA⟩ := E
  have hown : s.vm.findClass RX8 = some m.cls := hown
  have in3 : ∀ w ∈ u_ws RX3 TX3 17, w ∈ wsX8_heavy := fun _ h => List.mem_cons_of_mem _ (List.mem_append_right _ h)
  have in6 : ∀ w ∈ u_ws RX6 TX6 5, w ∈ wsX8_heavy := fun _ h => List.mem_cons_of_mem _ (List.mem_append_left _ (List.mem_append_right _ h))
  have in8 : ∀ w ∈ u_ws RX8 TX8 12, w ∈ wsX8_heavy := fun _ h => List.mem_cons_of_mem _ (List.mem_append_left _ (List.mem_append_left _ (List.mem_append_right _ h)))
  have hl : lv_has ls 7 [(0, .ref (xo 0)), (1, .int x1), (2, .int x2)] := hl
  have B25 : ∀ (tm : OB) (H : Heap) (locs : List Loc) (ls : Array Slot), b_X8_heavy_25 F xi si rm tm = some res → va_P D vwCl (([((xo 0), .inr (6, [.ref (ta 0), .ref xr, .int (xi 2), .ref (sa 0), .ref xm, .ref xg, .ref (tr 0), .ref xs, .ref xp, .ref xq, .ref xe, .ref xt]))] : va_W) ++ (([((sa 0), .inr (4, [.ref (xa 0), .ref (ca 0), .ref (na 0), .int (si 3), .int (si 4)]))] : va_W) ++ (rmW k xa rm ++ (rmW k tr tm)))) H → va_D A (([((xo 0), .inr (6, [.ref (ta 0), .ref xr, .int (xi 2), .ref (sa 0), .ref xm, .ref xg, .ref (tr 0), .ref xs, .ref xp, .ref xq, .ref xe, .ref xt]))] : va_W) ++ (([((sa 0), .inr (4, [.ref (xa 0), .ref (ca 0), .ref (na 0), .int (si 3), .int (si 4)]))] : va_W) ++ (rmW k xa rm ++ (rmW k tr tm)))) → va_S A s.heap H locs → lv_has ls 7 [] → W p l e (rmK 4 0 0) s m (List.toArray [.ref (xo 0), .int x1, .int x2]) below meth c H locs 0 0 (MQ below (va_Qi (fun r (_ : Unit) => r = res.1) (hcB D (fun _ : Unit => ([((xo 0), .inr (6, [.ref (ta 0), .ref xr, .int (xi 2), .ref (sa 0), .ref xm, .ref xg, .ref (tr 0), .ref xs, .ref xp, .ref xq, .ref xe, .ref xt]))] : va_W) ++ (([((sa 0), .inr (4, [.ref (xa 0), .ref (ca 0), .ref (na 0), .int (si 3), .int (si 4)]))] : va_W) ++ (rmW k xa rm ++ (rmW k tr res.2)))) A) A) (List.toArray [.ref (xo 0), .int x1, .int x2]) s 0 0 A) (F0 m 25 ls []) := by
    intro tm H locs ls h hP hD hS hl
    refine lv_iconst (v := (-1)) hx hb dX8_heavy_25 (by decide) ?_
    exact fw_endI (rv := fun b : Int32 × OB => b.1) (wp := fun b : Int32 × OB => ([((xo 0), .inr (6, [.ref (ta 0), .ref xr, .int (xi 2), .ref (sa 0), .ref xm, .ref xg, .ref (tr 0), .ref xs, .ref xp, .ref xq, .ref xe, .ref xt]))] : va_W) ++ (([((sa 0), .inr (4, [.ref (xa 0), .ref (ca 0), .ref (na 0), .int (si 3), .int (si 4)]))] : va_W) ++ (rmW k xa rm ++ (rmW k tr b.2)))) hx hb hr hlocks h rfl hP hD hS dX8_heavy_26
  have B105 : ∀ (y0 : Int32) (tm : OB) (H : Heap) (locs : List Loc) (ls : Array Slot), b_X8_heavy_105 F xi si rm y0 tm = some res → va_P D vwCl (([((xo 0), .inr (6, [.ref (ta 0), .ref xr, .int (xi 2), .ref (sa 0), .ref xm, .ref xg, .ref (tr 0), .ref xs, .ref xp, .ref xq, .ref xe, .ref xt]))] : va_W) ++ (([((sa 0), .inr (4, [.ref (xa 0), .ref (ca 0), .ref (na 0), .int (si 3), .int (si 4)]))] : va_W) ++ (rmW k xa rm ++ (rmW k tr tm)))) H → va_D A (([((xo 0), .inr (6, [.ref (ta 0), .ref xr, .int (xi 2), .ref (sa 0), .ref xm, .ref xg, .ref (tr 0), .ref xs, .ref xp, .ref xq, .ref xe, .ref xt]))] : va_W) ++ (([((sa 0), .inr (4, [.ref (xa 0), .ref (ca 0), .ref (na 0), .int (si 3), .int (si 4)]))] : va_W) ++ (rmW k xa rm ++ (rmW k tr tm)))) → va_S A s.heap H locs → lv_has ls 7 [] → W p l e (rmK 4 0 0) s m (List.toArray [.ref (xo 0), .int x1, .int x2]) below meth c H locs 0 0 (MQ below (va_Qi (fun r (_ : Unit) => r = res.1) (hcB D (fun _ : Unit => ([((xo 0), .inr (6, [.ref (ta 0), .ref xr, .int (xi 2), .ref (sa 0), .ref xm, .ref xg, .ref (tr 0), .ref xs, .ref xp, .ref xq, .ref xe, .ref xt]))] : va_W) ++ (([((sa 0), .inr (4, [.ref (xa 0), .ref (ca 0), .ref (na 0), .int (si 3), .int (si 4)]))] : va_W) ++ (rmW k xa rm ++ (rmW k tr res.2)))) A) A) (List.toArray [.ref (xo 0), .int x1, .int x2]) s 0 0 A) (F0 m 105 ls [.int y0]) := by
    intro y0 tm H locs ls h hP hD hS hl
    exact fw_endI (rv := fun b : Int32 × OB => b.1) (wp := fun b : Int32 × OB => ([((xo 0), .inr (6, [.ref (ta 0), .ref xr, .int (xi 2), .ref (sa 0), .ref xm, .ref xg, .ref (tr 0), .ref xs, .ref xp, .ref xq, .ref xe, .ref xt]))] : va_W) ++ (([((sa 0), .inr (4, [.ref (xa 0), .ref (ca 0), .ref (na 0), .int (si 3), .int (si 4)]))] : va_W) ++ (rmW k xa rm ++ (rmW k tr b.2)))) hx hb hr hlocks h rfl hP hD hS dX8_heavy_105
  have B46 : ∀ a46 : (Int32 × Int32 × Int32 × Int32 × Int32 × OB), lp (b_X8_heavy_46 F xi si rm) F a46 = some res → ∀ (H : Heap) (locs : List Loc) (ls : Array Slot), va_P D vwCl (([((xo 0), .inr (6, [.ref (ta 0), .ref xr, .int (xi 2), .ref (sa 0), .ref xm, .ref xg, .ref (tr 0), .ref xs, .ref xp, .ref xq, .ref xe, .ref xt]))] : va_W) ++ (([((sa 0), .inr (4, [.ref (xa 0), .ref (ca 0), .ref (na 0), .int (si 3), .int (si 4)]))] : va_W) ++ (rmW k xa rm ++ (rmW k tr a46.2.2.2.2.2)))) H → va_D A (([((xo 0), .inr (6, [.ref (ta 0), .ref xr, .int (xi 2), .ref (sa 0), .ref xm, .ref xg, .ref (tr 0), .ref xs, .ref xp, .ref xq, .ref xe, .ref xt]))] : va_W) ++ (([((sa 0), .inr (4, [.ref (xa 0), .ref (ca 0), .ref (na 0), .int (si 3), .int (si 4)]))] : va_W) ++ (rmW k xa rm ++ (rmW k tr a46.2.2.2.2.2)))) → va_S A s.heap H locs → lv_has ls 7 [(0, .ref (xo 0)), (1, .int a46.1), (2, .int a46.2.1), (3, .ref (xa 0)), (4, .int a46.2.2.1), (5, .int a46.2.2.2.1), (6, .int a46.2.2.2.2.1)] → W p l e (rmK 4 0 0) s m (List.toArray [.ref (xo 0), .int x1, .int x2]) below meth c H locs 0 0 (MQ below (va_Qi (fun r (_ : Unit) => r = res.1) (hcB D (fun _ : Unit => ([((xo 0), .inr (6, [.ref (ta 0), .ref xr, .int (xi 2), .ref (sa 0), .ref xm, .ref xg, .ref (tr 0), .ref xs, .ref xp, .ref xq, .ref xe, .ref xt]))] : va_W) ++ (([((sa 0), .inr (4, [.ref (xa 0), .ref (ca 0), .ref (na 0), .int (si 3), .int (si 4)]))] : va_W) ++ (rmW k xa rm ++ (rmW k tr res.2)))) A) A) (List.toArray [.ref (xo 0), .int x1, .int x2]) s 0 0 A) (F0 m 46 ls []) := by
    refine lp_W ?_ F
    intro k46 hk46 a46 h H locs ls hP hD hS hl
    have hc46 : ∀ (v1 : Int32) (v2 : Int32) (v4 : Int32) (v5 : Int32) (v6 : Int32) (tm : OB), k46 (v1, v2, v4, v5, v6, tm) = some res → ∀ (H : Heap) (locs : List Loc) (ls : Array Slot), va_P D vwCl (([((xo 0), .inr (6, [.ref (ta 0), .ref xr, .int (xi 2), .ref (sa 0), .ref xm, .ref xg, .ref (tr 0), .ref xs, .ref xp, .ref xq, .ref xe, .ref xt]))] : va_W) ++ (([((sa 0), .inr (4, [.ref (xa 0), .ref (ca 0), .ref (na 0), .int (si 3), .int (si 4)]))] : va_W) ++ (rmW k xa rm ++ (rmW k tr tm)))) H → va_D A (([((xo 0), .inr (6, [.ref (ta 0), .ref xr, .int (xi 2), .ref (sa 0), .ref xm, .ref xg, .ref (tr 0), .ref xs, .ref xp, .ref xq, .ref xe, .ref xt]))] : va_W) ++ (([((sa 0), .inr (4, [.ref (xa 0), .ref (ca 0), .ref (na 0), .int (si 3), .int (si 4)]))] : va_W) ++ (rmW k xa rm ++ (rmW k tr tm)))) → va_S A s.heap H locs → lv_has ls 7 [(0, .ref (xo 0)), (1, .int v1), (2, .int v2), (3, .ref (xa 0)), (4, .int v4), (5, .int v5), (6, .int v6)] → W p l e (rmK 4 0 0) s m (List.toArray [.ref (xo 0), .int x1, .int x2]) below meth c H locs 0 0 (MQ below (va_Qi (fun r (_ : Unit) => r = res.1) (hcB D (fun _ : Unit => ([((xo 0), .inr (6, [.ref (ta 0), .ref xr, .int (xi 2), .ref (sa 0), .ref xm, .ref xg, .ref (tr 0), .ref xs, .ref xp, .ref xq, .ref xe, .ref xt]))] : va_W) ++ (([((sa 0), .inr (4, [.ref (xa 0), .ref (ca 0), .ref (na 0), .int (si 3), .int (si 4)]))] : va_W) ++ (rmW k xa rm ++ (rmW k tr res.2)))) A) A) (List.toArray [.ref (xo 0), .int x1, .int x2]) s 0 0 A) (F0 m 46 ls []) := fun v1 v2 v4 v5 v6 tm => hk46 (v1, v2, v4, v5, v6, tm)
    have B88 : ∀ (v1 : Int32) (v2 : Int32) (v4 : Int32) (v5 : Int32) (v6 : Int32) (tm : OB) (H : Heap) (locs : List Loc) (ls : Array Slot), b_X8_heavy_88 F xi si rm k46 v1 v2 v4 v5 v6 tm = some res → va_P D vwCl (([((xo 0), .inr (6, [.ref (ta 0), .ref xr, .int (xi 2), .ref (sa 0), .ref xm, .ref xg, .ref (tr 0), .ref xs, .ref xp, .ref xq, .ref xe, .ref xt]))] : va_W) ++ (([((sa 0), .inr (4, [.ref (xa 0), .ref (ca 0), .ref (na 0), .int (si 3), .int (si 4)]))] : va_W) ++ (rmW k xa rm ++ (rmW k tr tm)))) H → va_D A (([((xo 0), .inr (6, [.ref (ta 0), .ref xr, .int (xi 2), .ref (sa 0), .ref xm, .ref xg, .ref (tr 0), .ref xs, .ref xp, .ref xq, .ref xe, .ref xt]))] : va_W) ++ (([((sa 0), .inr (4, [.ref (xa 0), .ref (ca 0), .ref (na 0), .int (si 3), .int (si 4)]))] : va_W) ++ (rmW k xa rm ++ (rmW k tr tm)))) → va_S A s.heap H locs → lv_has ls 7 [(0, .ref (xo 0)), (1, .int v1), (2, .int v2), (3, .ref (xa 0)), (4, .int v4), (5, .int v5), (6, .int v6)] → W p l e (rmK 4 0 0) s m (List.toArray [.ref (xo 0), .int x1, .int x2]) below meth c H locs 0 0 (MQ below (va_Qi (fun r (_ : Unit) => r = res.1) (hcB D (fun _ : Unit => ([((xo 0), .inr (6, [.ref (ta 0), .ref xr, .int (xi 2), .ref (sa 0), .ref xm, .ref xg, .ref (tr 0), .ref xs, .ref xp, .ref xq, .ref xe, .ref xt]))] : va_W) ++ (([((sa 0), .inr (4, [.ref (xa 0), .ref (ca 0), .ref (na 0), .int (si 3), .int (si 4)]))] : va_W) ++ (rmW k xa rm ++ (rmW k tr res.2)))) A) A) (List.toArray [.ref (xo 0), .int x1, .int x2]) s 0 0 A) (F0 m 88 ls []) := by
      intro v1 v2 v4 v5 v6 tm H locs ls h hP hD hS hl
      refine lv_iinc (v := (v6 + (-1))) (lv' := [(6, .int (v6 + (-1))), (0, .ref (xo 0)), (1, .int v1), (2, .int v2), (3, .ref (xa 0)), (4, .int v4), (5, .int v5)]) hx hb dX8_heavy_88 hl (k := 6) rfl rfl (by decide) rfl (fun ls hl => ?_)
      refine lv_goto (tgt := 46) hx hb dX8_heavy_91 (by decide) ?_
      exact hc46 _ _ _ _ _ _ h _ _ _ hP hD hS (lv_sub hl [1, 2, 3, 4, 5, 6, 0] rfl)
    refine lv_iload hx hb dX8_heavy_46 (lv_at hl 6 rfl) ?_
    refine lv_iconst (v := 1) hx hb dX8_heavy_48 (by decide) ?_
    refine lv_icmp_lt (tgt := 94) hx hb dX8_heavy_49 (by decide) (fun c1 => ?_) (fun c1 => ?_)
    · have h := fw_t c1 h
      refine lv_iload_n hx hb dX8_heavy_94 rfl (lv_at hl 2 rfl) ?_
      refine lv_if_ne (tgt := 103) hx hb dX8_heavy_95 (by decide) (fun c2 => ?_) (fun c2 => ?_)
      · have h := fw_f c2 h
        refine lv_iload hx hb dX8_heavy_103 (lv_at hl 5 rfl) ?_
        exact B105 _ _ _ _ _ h hP hD hS (lv_sub hl [] rfl)
      · have h := fw_t c2 h
        refine lv_iload hx hb dX8_heavy_98 (lv_at hl 4 rfl) ?_
        refine lv_goto (tgt := 105) hx hb dX8_heavy_100 (by decide) ?_
        exact B105 _ _ _ _ _ h hP hD hS (lv_sub hl [] rfl)
    · have h := fw_f c1 h
      refine lv_aload_n hx hb dX8_heavy_52 rfl (lv_at hl 0 rfl) ?_
      refine va_get (D := D) (ci := 6) (v := .ref (tr 0)) (C := RX8) (T := TX8) (N := 12) hx hb hts in8 hown hG.1 hP 0 rfl rfl 6 (by decide) (hts (.fieldLink RX8 44 "ChairCane" "trial" "LChairCane$Room;") (mem_b bq_wsX8_heavy 0 2 rfl)) (fun _ h9 => h9) rfl dX8_heavy_53 ?_
      refine va_get (D := D) (ci := 2) (v := .ref (tr 5)) (C := RX3) (T := TX3) (N := 17) hx hb hts in3 hown hG.1 hP 11 rfl rfl 8 (by decide) (hts (.fieldLink RX8 144 "ChairCane$Room" "weight" "[I") (mem_b bq_wsX8_heavy 0 3 rfl)) (fun _ h9 => h9) rfl dX8_heavy_56 ?_
      refine lv_iload_n hx hb dX8_heavy_59 rfl (lv_at hl 1 rfl) ?_
      refine lv_iload hx hb dX8_heavy_60 (lv_at hl 6 rfl) ?_
      obtain ⟨g3, h⟩ := fw_g h
      refine va_iast hx hb hG.1 hP hD hS 16 0 rfl rfl (ib_vp g3) dX8_heavy_62 (fun H locs hP hD hS => ?_)
      refine lv_aload_n hx hb dX8_heavy_63 rfl (lv_at hl 0 rfl) ?_
      refine va_get (D := D) (ci := 6) (v := .ref (tr 0)) (C := RX8) (T := TX8) (N := 12) hx hb hts in8 hown hG.1 hP 0 rfl rfl 6 (by decide) (hts (.fieldLink RX8 44 "ChairCane" "trial" "LChairCane$Room;") (mem_b bq_wsX8_heavy 0 2 rfl)) (fun _ h9 => h9) rfl dX8_heavy_64 ?_
      refine lv_aload_n hx hb dX8_heavy_67 rfl (lv_at hl 3 rfl) ?_
      refine va_get (D := D) (ci := 2) (v := .int (rm.1 10)) (C := RX3) (T := TX3) (N := 17) hx hb hts in3 hown hG.1 hP 2 rfl rfl 10 (by decide) (hts (.fieldLink RX8 200 "ChairCane$Room" "sits" "I") (mem_b bq_wsX8_heavy 0 4 rfl)) (fun _ h9 => h9) rfl dX8_heavy_68 ?_
      refine lv_iconst (v := 1) hx hb dX8_heavy_71 (by decide) ?_
      refine lv_iload_n hx hb dX8_heavy_72 rfl (lv_at hl 1 rfl) ?_
      refine lv_ishl hx hb dX8_heavy_73 ?_
      refine lv_ior hx hb dX8_heavy_74 ?_
      obtain ⟨hP, hD⟩ := cv (w' := ([((xo 0), .inr (6, [.ref (ta 0), .ref xr, .int (xi 2), .ref (sa 0), .ref xm, .ref xg, .ref (tr 0), .ref xs, .ref xp, .ref xq, .ref xe, .ref xt]))] : va_W) ++ (([((sa 0), .inr (4, [.ref (xa 0), .ref (ca 0), .ref (na 0), .int (si 3), .int (si 4)]))] : va_W) ++ (rmW k xa rm ++ (rmW k tr (a46.2.2.2.2.2.1, (uF a46.2.2.2.2.2.2.1 8 (upd (a46.2.2.2.2.2.2.1 8) (Int32.toNatClampNeg a46.1) a46.2.2.2.2.1)), a46.2.2.2.2.2.2.2))))) hP hD rfl
      obtain ⟨hP, hD⟩ := qm hP hD (q_to [([((xo 0), .inr (6, [.ref (ta 0), .ref xr, .int (xi 2), .ref (sa 0), .ref xm, .ref xg, .ref (tr 0), .ref xs, .ref xp, .ref xq, .ref xe, .ref xt]))] : va_W), ([((sa 0), .inr (4, [.ref (xa 0), .ref (ca 0), .ref (na 0), .int (si 3), .int (si 4)]))] : va_W), rmW k xa rm, rmW k tr (a46.2.2.2.2.2.1, (uF a46.2.2.2.2.2.2.1 8 (upd (a46.2.2.2.2.2.2.1 8) (Int32.toNatClampNeg a46.1) a46.2.2.2.2.1)), a46.2.2.2.2.2.2.2)] [0, 1, 2, 3] [3] [0, 1, 2] (by decide +kernel))
      refine fw_Vi (As := [.int ((rm.1 10) ||| (1 <<< (a46.1 &&& 31)))]) (rest := []) (n := 1) (rv := fun b : Int32 × OB => b.1) (wp := fun b : Int32 × OB => rmW k tr b.2) h hx hb hml hown hts hG hA hP hD hS hl.1 _ _ (fun q hq9 => c_X3_bears l D k _  tr F ((rm.1 10) ||| (1 <<< (a46.1 &&& 31))) (a46.2.2.2.2.2.1, (uF a46.2.2.2.2.2.2.1 8 (upd (a46.2.2.2.2.2.2.1 8) (Int32.toNatClampNeg a46.1) a46.2.2.2.2.1)), a46.2.2.2.2.2.2.2)  hq9) (ci := 2) (q0 := 0) rfl rfl gX8_heavy_X3_bears rfl ⟨rfl, rfl, Nat.le_of_ble_eq_true rfl, Nat.le_of_ble_eq_true rfl⟩ (by decide +kernel) (q_l _ _) (q_r _ _) (q_nd _ _) ⟨rfl, rfl, Nat.le_of_ble_eq_true rfl, Nat.le_of_ble_eq_true rfl, Nat.le_of_ble_eq_true rfl⟩ dX8_heavy_75 (fun q4 H locs h hP hD hS => ?_)
      obtain ⟨hP, hD⟩ := qm (w2 := ([((xo 0), .inr (6, [.ref (ta 0), .ref xr, .int (xi 2), .ref (sa 0), .ref xm, .ref xg, .ref (tr 0), .ref xs, .ref xp, .ref xq, .ref xe, .ref xt]))] : va_W) ++ (([((sa 0), .inr (4, [.ref (xa 0), .ref (ca 0), .ref (na 0), .int (si 3), .int (si 4)]))] : va_W) ++ (rmW k xa rm ++ (rmW k tr q4.2)))) hP hD (q_from [([((xo 0), .inr (6, [.ref (ta 0), .ref xr, .int (xi 2), .ref (sa 0), .ref xm, .ref xg, .ref (tr 0), .ref xs, .ref xp, .ref xq, .ref xe, .ref xt]))] : va_W), ([((sa 0), .inr (4, [.ref (xa 0), .ref (ca 0), .ref (na 0), .int (si 3), .int (si 4)]))] : va_W), rmW k xa rm, rmW k tr q4.2] [0, 1, 2] [3] [0, 1, 2, 3] (by decide +kernel))
      refine hc_is (z := q4.1) rfl ?_
      refine lv_if_eq (tgt := 88) hx hb dX8_heavy_78 (by decide) (fun c5 => ?_) (fun c5 => ?_)
      · have h := fw_t c5 h
        exact B88 _ _ _ _ _ _ _ _ _ h hP hD hS hl
      · have h := fw_f c5 h
        refine lv_iinc (v := (a46.2.2.1 + 1)) (lv' := [(4, .int (a46.2.2.1 + 1)), (0, .ref (xo 0)), (1, .int a46.1), (2, .int a46.2.1), (3, .ref (xa 0)), (5, .int a46.2.2.2.1), (6, .int a46.2.2.2.2.1)]) hx hb dX8_heavy_81 hl (k := 4) rfl rfl (by decide) rfl (fun ls hl => ?_)
        refine lv_iload hx hb dX8_heavy_84 (lv_at hl 6 rfl) ?_
        refine lv_istore (lv' := [(5, .int a46.2.2.2.2.1), (4, .int (a46.2.2.1 + 1)), (0, .ref (xo 0)), (1, .int a46.1), (2, .int a46.2.1), (3, .ref (xa 0)), (6, .int a46.2.2.2.2.1)]) hx hb dX8_heavy_86 hl (by decide) rfl (fun ls hl => ?_)
        exact B88 _ _ _ _ _ _ _ _ _ h hP hD hS (lv_sub hl [2, 3, 4, 5, 1, 0, 6] rfl)
  have C46 : ∀ (v1 : Int32) (v2 : Int32) (v4 : Int32) (v5 : Int32) (v6 : Int32) (tm : OB), lp (b_X8_heavy_46 F xi si rm) F (v1, v2, v4, v5, v6, tm) = some res → ∀ (H : Heap) (locs : List Loc) (ls : Array Slot), va_P D vwCl (([((xo 0), .inr (6, [.ref (ta 0), .ref xr, .int (xi 2), .ref (sa 0), .ref xm, .ref xg, .ref (tr 0), .ref xs, .ref xp, .ref xq, .ref xe, .ref xt]))] : va_W) ++ (([((sa 0), .inr (4, [.ref (xa 0), .ref (ca 0), .ref (na 0), .int (si 3), .int (si 4)]))] : va_W) ++ (rmW k xa rm ++ (rmW k tr tm)))) H → va_D A (([((xo 0), .inr (6, [.ref (ta 0), .ref xr, .int (xi 2), .ref (sa 0), .ref xm, .ref xg, .ref (tr 0), .ref xs, .ref xp, .ref xq, .ref xe, .ref xt]))] : va_W) ++ (([((sa 0), .inr (4, [.ref (xa 0), .ref (ca 0), .ref (na 0), .int (si 3), .int (si 4)]))] : va_W) ++ (rmW k xa rm ++ (rmW k tr tm)))) → va_S A s.heap H locs → lv_has ls 7 [(0, .ref (xo 0)), (1, .int v1), (2, .int v2), (3, .ref (xa 0)), (4, .int v4), (5, .int v5), (6, .int v6)] → W p l e (rmK 4 0 0) s m (List.toArray [.ref (xo 0), .int x1, .int x2]) below meth c H locs 0 0 (MQ below (va_Qi (fun r (_ : Unit) => r = res.1) (hcB D (fun _ : Unit => ([((xo 0), .inr (6, [.ref (ta 0), .ref xr, .int (xi 2), .ref (sa 0), .ref xm, .ref xg, .ref (tr 0), .ref xs, .ref xp, .ref xq, .ref xe, .ref xt]))] : va_W) ++ (([((sa 0), .inr (4, [.ref (xa 0), .ref (ca 0), .ref (na 0), .int (si 3), .int (si 4)]))] : va_W) ++ (rmW k xa rm ++ (rmW k tr res.2)))) A) A) (List.toArray [.ref (xo 0), .int x1, .int x2]) s 0 0 A) (F0 m 46 ls []) := fun v1 v2 v4 v5 v6 tm => B46 (v1, v2, v4, v5, v6, tm)
  refine lv_aload_n hx hb dX8_heavy_0 rfl (lv_at hl 0 rfl) ?_
  refine va_get (D := D) (ci := 6) (v := .ref (sa 0)) (C := RX8) (T := TX8) (N := 12) hx hb hts in8 hown hG.1 hP 0 rfl rfl 3 (by decide) (hts (.fieldLink RX8 29 "ChairCane" "now" "LChairCane$Standing;") (mem_b bq_wsX8_heavy 0 0 rfl)) (fun _ h9 => h9) rfl dX8_heavy_1 ?_
  refine va_get (D := D) (ci := 4) (v := .ref (xa 0)) (C := RX6) (T := TX6) (N := 5) hx hb hts in6 hown hG.1 hP 1 rfl rfl 0 (by decide) (hts (.fieldLink RX8 81 "ChairCane$Standing" "room" "LChairCane$Room;") (mem_b bq_wsX8_heavy 0 1 rfl)) (fun _ h9 => h9) rfl dX8_heavy_4 ?_
  refine lv_astore_n (lv' := [(3, .ref (xa 0)), (0, .ref (xo 0)), (1, .int x1), (2, .int x2)]) hx hb dX8_heavy_7 rfl hl (by decide) rfl (fun ls hl => ?_)
  refine lv_aload_n hx hb dX8_heavy_8 rfl (lv_at hl 0 rfl) ?_
  refine lv_iload_n hx hb dX8_heavy_9 rfl (lv_at hl 2 rfl) ?_
  obtain ⟨hP, hD⟩ := qm hP hD (q_to [([((xo 0), .inr (6, [.ref (ta 0), .ref xr, .int (xi 2), .ref (sa 0), .ref xm, .ref xg, .ref (tr 0), .ref xs, .ref xp, .ref xq, .ref xe, .ref xt]))] : va_W), ([((sa 0), .inr (4, [.ref (xa 0), .ref (ca 0), .ref (na 0), .int (si 3), .int (si 4)]))] : va_W), rmW k xa rm, rmW k tr tm] [0, 1, 2, 3] [2] [0, 1, 3] (by decide +kernel))
  refine fw_Vi (As := [.int x1]) (rest := []) (n := 1) (rv := fun b : Int32 => b) (wp := fun b : Int32 => rmW k xa rm) h hx hb hml hown hts hG hA hP hD hS hl.1 _ _ (fun q hq9 => c_X3_isUp l D k _  xa F x1 rm  hq9) (ci := 2) (q0 := 0) rfl rfl gX8_heavy_X3_isUp rfl ⟨rfl, rfl, Nat.le_of_ble_eq_true rfl, Nat.le_of_ble_eq_true rfl⟩ (by decide +kernel) (q_l _ _) (q_r _ _) (q_nd _ _) ⟨rfl, rfl, Nat.le_of_ble_eq_true rfl, Nat.le_of_ble_eq_true rfl, Nat.le_of_ble_eq_true rfl⟩ dX8_heavy_10 (fun q6 H locs h hP hD hS => ?_)
  obtain ⟨hP, hD⟩ := qm (w2 := ([((xo 0), .inr (6, [.ref (ta 0), .ref xr, .int (xi 2), .ref (sa 0), .ref xm, .ref xg, .ref (tr 0), .ref xs, .ref xp, .ref xq, .ref xe, .ref xt]))] : va_W) ++ (([((sa 0), .inr (4, [.ref (xa 0), .ref (ca 0), .ref (na 0), .int (si 3), .int (si 4)]))] : va_W) ++ (rmW k xa rm ++ (rmW k tr tm)))) hP hD (q_from [([((xo 0), .inr (6, [.ref (ta 0), .ref xr, .int (xi 2), .ref (sa 0), .ref xm, .ref xg, .ref (tr 0), .ref xs, .ref xp, .ref xq, .ref xe, .ref xt]))] : va_W), ([((sa 0), .inr (4, [.ref (xa 0), .ref (ca 0), .ref (na 0), .int (si 3), .int (si 4)]))] : va_W), rmW k xa rm, rmW k tr tm] [0, 1, 3] [2] [0, 1, 2, 3] (by decide +kernel))
  refine hc_is (z := q6) rfl ?_
  refine lv_if_eq (tgt := 25) hx hb dX8_heavy_13 (by decide) (fun c7 => ?_) (fun c7 => ?_)
  · have h := fw_t c7 h
    exact B25 _ _ _ _ h hP hD hS (lv_sub hl [] rfl)
  · have h := fw_f c7 h
    refine lv_iload_n hx hb dX8_heavy_16 rfl (lv_at hl 3 rfl) ?_
    refine lv_if_lt (tgt := 25) hx hb dX8_heavy_17 (by decide) (fun c8 => ?_) (fun c8 => ?_)
    · have h := fw_t c8 h
      exact B25 _ _ _ _ h hP hD hS (lv_sub hl [] rfl)
    · have h := fw_f c8 h
      refine lv_iload_n hx hb dX8_heavy_20 rfl (lv_at hl 3 rfl) ?_
      refine lv_iconst (v := 1) hx hb dX8_heavy_21 (by decide) ?_
      refine lv_icmp_le (tgt := 27) hx hb dX8_heavy_22 (by decide) (fun c9 => ?_) (fun c9 => ?_)
      · have h := fw_t c9 h
        refine lv_iconst (v := 0) hx hb dX8_heavy_27 (by decide) ?_
        refine lv_istore (lv' := [(4, .int 0), (3, .ref (xa 0)), (0, .ref (xo 0)), (1, .int x1), (2, .int x2)]) hx hb dX8_heavy_28 hl (by decide) rfl (fun ls hl => ?_)
        refine lv_bipush (v := (-2)) hx hb dX8_heavy_30 (by decide) ?_
        refine lv_istore (lv' := [(5, .int (-2)), (4, .int 0), (3, .ref (xa 0)), (0, .ref (xo 0)), (1, .int x1), (2, .int x2)]) hx hb dX8_heavy_32 hl (by decide) rfl (fun ls hl => ?_)
        refine lv_aload_n hx hb dX8_heavy_34 rfl (lv_at hl 3 rfl) ?_
        refine va_get (D := D) (ci := 6) (v := .ref (tr 0)) (C := RX8) (T := TX8) (N := 12) hx hb hts in8 hown hG.1 hP 0 rfl rfl 6 (by decide) (hts (.fieldLink RX8 44 "ChairCane" "trial" "LChairCane$Room;") (mem_b bq_wsX8_heavy 0 2 rfl)) (fun _ h9 => h9) rfl dX8_heavy_35 ?_
        refine lv_aload_n hx hb dX8_heavy_38 rfl (lv_at hl 2 rfl) ?_
        obtain ⟨hP, hD⟩ := qm hP hD (q_to [([((xo 0), .inr (6, [.ref (ta 0), .ref xr, .int (xi 2), .ref (sa 0), .ref xm, .ref xg, .ref (tr 0), .ref xs, .ref xp, .ref xq, .ref xe, .ref xt]))] : va_W), ([((sa 0), .inr (4, [.ref (xa 0), .ref (ca 0), .ref (na 0), .int (si 3), .int (si 4)]))] : va_W), rmW k xa rm, rmW k tr tm] [0, 1, 2, 3] [3, 2] [0, 1] (by decide +kernel))
        refine fw_Vv (As := [.ref (xa 0)]) (rest := []) (n := 1) (wp := fun b : OB => rmW k tr b ++ (rmW k xa rm)) h hx hb hml hown hts hG hA hP hD hS hl.1 _ _ (fun q hq9 => c_X3_copyFrom l D k _  tr xa F  tm rm  hq9) (ci := 2) (q0 := 0) rfl rfl gX8_heavy_X3_copyFrom rfl ⟨rfl, rfl, Nat.le_of_ble_eq_true rfl, Nat.le_of_ble_eq_true rfl⟩ (by decide +kernel) (q_l _ _) (q_r _ _) (q_nd _ _) ⟨rfl, rfl, Nat.le_of_ble_eq_true rfl, Nat.le_of_ble_eq_true rfl, Nat.le_of_ble_eq_true rfl⟩ dX8_heavy_39 (fun q10 H locs h hP hD hS => ?_)
        obtain ⟨hP, hD⟩ := qm (w2 := ([((xo 0), .inr (6, [.ref (ta 0), .ref xr, .int (xi 2), .ref (sa 0), .ref xm, .ref xg, .ref (tr 0), .ref xs, .ref xp, .ref xq, .ref xe, .ref xt]))] : va_W) ++ (([((sa 0), .inr (4, [.ref (xa 0), .ref (ca 0), .ref (na 0), .int (si 3), .int (si 4)]))] : va_W) ++ (rmW k xa rm ++ (rmW k tr q10)))) hP hD (q_from [([((xo 0), .inr (6, [.ref (ta 0), .ref xr, .int (xi 2), .ref (sa 0), .ref xm, .ref xg, .ref (tr 0), .ref xs, .ref xp, .ref xq, .ref xe, .ref xt]))] : va_W), ([((sa 0), .inr (4, [.ref (xa 0), .ref (ca 0), .ref (na 0), .int (si 3), .int (si 4)]))] : va_W), rmW k xa rm, rmW k tr q10] [0, 1] [3, 2] [0, 1, 2, 3] (by decide +kernel))
        refine lv_bipush (v := 20) hx hb dX8_heavy_42 (by decide) ?_
        refine lv_istore (lv' := [(6, .int 20), (5, .int (-2)), (4, .int 0), (3, .ref (xa 0)), (0, .ref (xo 0)), (1, .int x1), (2, .int x2)]) hx hb dX8_heavy_44 hl (by decide) rfl (fun ls hl => ?_)
        exact C46 _ _ _ _ _ _ h _ _ _ hP hD hS (lv_sub hl [4, 5, 6, 3, 2, 1, 0] rfl)
      · have h := fw_f c9 h
        exact B25 _ _ _ _ h hP hD hS (lv_sub hl [] rfl)
noncomputable def b_X8_pence_27 (F : Nat)  (xi : Nat → Int32) (si : Nat → Int32) (rm : OB)   : Option (Int32) :=
  some (-1)
noncomputable def b_X8_pence_147 (F : Nat)  (xi : Nat → Int32) (si : Nat → Int32) (rm : OB)  (y0 : Int32) (y1 : Int32) : Option (Int32) :=
  some (y1 + y0)
noncomputable def b_X8_pence_124 (F : Nat)  (xi : Nat → Int32) (si : Nat → Int32) (rm : OB) (k60 : (Int32 × Int32 × Int32 × Int32 × Int32 × Int32 × Int32) → Option (Int32)) (v1 : Int32) (v2 : Int32) (v4 : Int32) (v5 : Int32) (v6 : Int32) (v7 : Int32) (v8 : Int32) : Option (Int32) :=
  k60 (v1, v2, v4, v5, v6, v7, (v8 + 1))
noncomputable def b_X8_pence_121 (F : Nat)  (xi : Nat → Int32) (si : Nat → Int32) (rm : OB) (k60 : (Int32 × Int32 × Int32 × Int32 × Int32 × Int32 × Int32) → Option (Int32)) (v1 : Int32) (v2 : Int32) (v4 : Int32) (v5 : Int32) (v6 : Int32) (v7 : Int32) (v8 : Int32) : Option (Int32) :=
  b_X8_pence_124 F xi si rm k60 v1 v2 v4 v5 v6 (v7 + 1) v8
noncomputable def b_X8_pence_60 (F : Nat)  (xi : Nat → Int32) (si : Nat → Int32) (rm : OB)  (k60 : (Int32 × Int32 × Int32 × Int32 × Int32 × Int32 × Int32) → Option (Int32)) (a60 : (Int32 × Int32 × Int32 × Int32 × Int32 × Int32 × Int32)) : Option (Int32) :=
  if (rm.1 3) ≤ a60.2.2.2.2.2.2 then (if ¬ a60.2.2.1 = 0 then (if a60.2.2.2.2.1 ≤ a60.2.2.2.2.2.1 then (b_X8_pence_147 F xi si rm 0 (a60.2.2.2.1 / a60.2.2.1)) else (b_X8_pence_147 F xi si rm 1 (a60.2.2.2.1 / a60.2.2.1))) else none) else (Option.bind (f_X3_givesUnder F a60.2.2.2.2.2.2 rm) (fun q4 => (if ¬ a60.2.2.1 = 0 then (if (a60.2.2.2.1 - a60.2.2.2.1 / a60.2.2.1 * a60.2.2.1) < ((a60.1 * q4) - (a60.1 * q4) / a60.2.2.1 * a60.2.2.1) then (b_X8_pence_121 F xi si rm k60 a60.1 a60.2.1 a60.2.2.1 a60.2.2.2.1 (a60.2.2.2.2.1 - ((a60.1 * q4) / a60.2.2.1)) a60.2.2.2.2.2.1 a60.2.2.2.2.2.2) else (if ((a60.1 * q4) - (a60.1 * q4) / a60.2.2.1 * a60.2.2.1) = (a60.2.2.2.1 - a60.2.2.2.1 / a60.2.2.1 * a60.2.2.1) then (if a60.2.1 ≤ a60.2.2.2.2.2.2 then (b_X8_pence_124 F xi si rm k60 a60.1 a60.2.1 a60.2.2.1 a60.2.2.2.1 (a60.2.2.2.2.1 - ((a60.1 * q4) / a60.2.2.1)) a60.2.2.2.2.2.1 a60.2.2.2.2.2.2) else (b_X8_pence_121 F xi si rm k60 a60.1 a60.2.1 a60.2.2.1 a60.2.2.2.1 (a60.2.2.2.2.1 - ((a60.1 * q4) / a60.2.2.1)) a60.2.2.2.2.2.1 a60.2.2.2.2.2.2)) else (b_X8_pence_124 F xi si rm k60 a60.1 a60.2.1 a60.2.2.1 a60.2.2.2.1 (a60.2.2.2.2.1 - ((a60.1 * q4) / a60.2.2.1)) a60.2.2.2.2.2.1 a60.2.2.2.2.2.2))) else none)))
noncomputable def f_X8_pence (F : Nat)  (x1 : Int32) (x2 : Int32) (xi : Nat → Int32) (si : Nat → Int32) (rm : OB) : Option (Int32) :=
  if x1 < 0 then (b_X8_pence_27 F xi si rm ) else (if 9999 < x1 then (b_X8_pence_27 F xi si rm ) else (Option.bind (f_X3_hasSitter F x2 rm) (fun q11 => (if q11 = 0 then (b_X8_pence_27 F xi si rm ) else (Option.bind (f_X3_givesInAll F rm) (fun q13 => (if 0 < q13 then (Option.bind (f_X3_givesUnder F x2 rm) (fun q15 => (lp (b_X8_pence_60 F xi si rm) F (x1, x2, q13, (x1 * q15), x1, 0, 0)))) else (some 0))))))))
set_option maxHeartbeats 4000000 in
set_option maxRecDepth 100000 in
theorem c_X8_pence (l : Launch) (D : va_G) (k : Nat → ClassId) (sz : Nat)  (xo : Nat → Nat) (ta : Nat → Nat) (xr : Nat) (sa : Nat → Nat) (xm : Nat) (xg : Nat) (tr : Nat → Nat) (xs : Nat) (xp : Nat) (xq : Nat) (xe : Nat) (xt : Nat) (xa : Nat → Nat) (ca : Nat → Nat) (na : Nat → Nat) (F : Nat)  (x1 : Int32) (x2 : Int32) (xi : Nat → Int32) (si : Nat → Int32) (rm : OB)  {res : Int32} (h : f_X8_pence F x1 x2 xi si rm = some res) : CtI l yX8_pence wsX8_pence (rmK 3 0 0) [.ref (xo 0), .int x1, .int x2] D k sz (([((xo 0), .inr (6, [.ref (ta 0), .ref xr, .int (xi 2), .ref (sa 0), .ref xm, .ref xg, .ref (tr 0), .ref xs, .ref xp, .ref xq, .ref xe, .ref xt]))] : va_W) ++ (([((sa 0), .inr (4, [.ref (xa 0), .ref (ca 0), .ref (na 0), .int (si 3), .int (si 4)]))] : va_W) ++ (rmW k xa rm))) (fun r (_ : Unit) => r = res) (fun _ : Unit => ([((xo 0), .inr (6, [.ref (ta 0), .ref xr, .int (xi 2), .ref (sa 0), .ref xm, .ref xg, .ref (tr 0), .ref xs, .ref xp, .ref xq, .ref xe, .ref xt]))] : va_W) ++ (([((sa 0), .inr (4, [.ref (xa 0), .ref (ca 0), .ref (na 0), .int (si 3), .int (si 4)]))] : va_W) ++ (rmW k xa rm))) 0 0 := by
  refine CtI.mk (cc := cX8_pence) (maxL := 10) (ret := (some .int)) (by decide) rfl (Nat.le_of_ble_eq_true rfl) ?_
  intro p e s m below meth c A ls E hP hD hS hl
  obtain ⟨hx, hb, hr, hml, hown, hts, hlocks, hin, hG, hA⟩ := E
  have hown : s.vm.findClass RX8 = some m.cls := hown
  have in3 : ∀ w ∈ u_ws RX3 TX3 17, w ∈ wsX8_pence := fun _ h => List.mem_cons_of_mem _ (List.mem_append_right _ h)
  have in6 : ∀ w ∈ u_ws RX6 TX6 5, w ∈ wsX8_pence := fun _ h => List.mem_cons_of_mem _ (List.mem_append_left _ (List.mem_append_right _ h))
  have in8 : ∀ w ∈ u_ws RX8 TX8 12, w ∈ wsX8_pence := fun _ h => List.mem_cons_of_mem _ (List.mem_append_left _ (List.mem_append_left _ (List.mem_append_right _ h)))
  have hl : lv_has ls 10 [(0, .ref (xo 0)), (1, .int x1), (2, .int x2)] := hl
  have B27 : ∀ (H : Heap) (locs : List Loc) (ls : Array Slot), b_X8_pence_27 F xi si rm  = some res → va_P D vwCl (([((xo 0), .inr (6, [.ref (ta 0), .ref xr, .int (xi 2), .ref (sa 0), .ref xm, .ref xg, .ref (tr 0), .ref xs, .ref xp, .ref xq, .ref xe, .ref xt]))] : va_W) ++ (([((sa 0), .inr (4, [.ref (xa 0), .ref (ca 0), .ref (na 0), .int (si 3), .int (si 4)]))] : va_W) ++ (rmW k xa rm))) H → va_D A (([((xo 0), .inr (6, [.ref (ta 0), .ref xr, .int (xi 2), .ref (sa 0), .ref xm, .ref xg, .ref (tr 0), .ref xs, .ref xp, .ref xq, .ref xe, .ref xt]))] : va_W) ++ (([((sa 0), .inr (4, [.ref (xa 0), .ref (ca 0), .ref (na 0), .int (si 3), .int (si 4)]))] : va_W) ++ (rmW k xa rm))) → va_S A s.heap H locs → lv_has ls 10 [] → W p l e (rmK 3 0 0) s m (List.toArray [.ref (xo 0), .int x1, .int x2]) below meth c H locs 0 0 (MQ below (va_Qi (fun r (_ : Unit) => r = res) (hcB D (fun _ : Unit => ([((xo 0), .inr (6, [.ref (ta 0), .ref xr, .int (xi 2), .ref (sa 0), .ref xm, .ref xg, .ref (tr 0), .ref xs, .ref xp, .ref xq, .ref xe, .ref xt]))] : va_W) ++ (([((sa 0), .inr (4, [.ref (xa 0), .ref (ca 0), .ref (na 0), .int (si 3), .int (si 4)]))] : va_W) ++ (rmW k xa rm))) A) A) (List.toArray [.ref (xo 0), .int x1, .int x2]) s 0 0 A) (F0 m 27 ls []) := by
    intro  H locs ls h hP hD hS hl
    refine lv_iconst (v := (-1)) hx hb dX8_pence_27 (by decide) ?_
    exact fw_endI (rv := fun b : Int32 => b) (wp := fun b : Int32 => ([((xo 0), .inr (6, [.ref (ta 0), .ref xr, .int (xi 2), .ref (sa 0), .ref xm, .ref xg, .ref (tr 0), .ref xs, .ref xp, .ref xq, .ref xe, .ref xt]))] : va_W) ++ (([((sa 0), .inr (4, [.ref (xa 0), .ref (ca 0), .ref (na 0), .int (si 3), .int (si 4)]))] : va_W) ++ (rmW k xa rm))) hx hb hr hlocks h rfl hP hD hS dX8_pence_28
  have B147 : ∀ (y0 : Int32) (y1 : Int32) (H : Heap) (locs : List Loc) (ls : Array Slot), b_X8_pence_147 F xi si rm y0 y1 = some res → va_P D vwCl (([((xo 0), .inr (6, [.ref (ta 0), .ref xr, .int (xi 2), .ref (sa 0), .ref xm, .ref xg, .ref (tr 0), .ref xs, .ref xp, .ref xq, .ref xe, .ref xt]))] : va_W) ++ (([((sa 0), .inr (4, [.ref (xa 0), .ref (ca 0), .ref (na 0), .int (si 3), .int (si 4)]))] : va_W) ++ (rmW k xa rm))) H → va_D A (([((xo 0), .inr (6, [.ref (ta 0), .ref xr, .int (xi 2), .ref (sa 0), .ref xm, .ref xg, .ref (tr 0), .ref xs, .ref xp, .ref xq, .ref xe, .ref xt]))] : va_W) ++ (([((sa 0), .inr (4, [.ref (xa 0), .ref (ca 0), .ref (na 0), .int (si 3), .int (si 4)]))] : va_W) ++ (rmW k xa rm))) → va_S A s.heap H locs → lv_has ls 10 [] → W p l e (rmK 3 0 0) s m (List.toArray [.ref (xo 0), .int x1, .int x2]) below meth c H locs 0 0 (MQ below (va_Qi (fun r (_ : Unit) => r = res) (hcB D (fun _ : Unit => ([((xo 0), .inr (6, [.ref (ta 0), .ref xr, .int (xi 2), .ref (sa 0), .ref xm, .ref xg, .ref (tr 0), .ref xs, .ref xp, .ref xq, .ref xe, .ref xt]))] : va_W) ++ (([((sa 0), .inr (4, [.ref (xa 0), .ref (ca 0), .ref (na 0), .int (si 3), .int (si 4)]))] : va_W) ++ (rmW k xa rm))) A) A) (List.toArray [.ref (xo 0), .int x1, .int x2]) s 0 0 A) (F0 m 147 ls [.int y0, .int y1]) := by
    intro y0 y1 H locs ls h hP hD hS hl
    refine lv_iadd hx hb dX8_pence_147 ?_
    exact fw_endI (rv := fun b : Int32 => b) (wp := fun b : Int32 => ([((xo 0), .inr (6, [.ref (ta 0), .ref xr, .int (xi 2), .ref (sa 0), .ref xm, .ref xg, .ref (tr 0), .ref xs, .ref xp, .ref xq, .ref xe, .ref xt]))] : va_W) ++ (([((sa 0), .inr (4, [.ref (xa 0), .ref (ca 0), .ref (na 0), .int (si 3), .int (si 4)]))] : va_W) ++ (rmW k xa rm))) hx hb hr hlocks h rfl hP hD hS dX8_pence_148
  have B60 : ∀ a60 : (Int32 × Int32 × Int32 × Int32 × Int32 × Int32 × Int32), lp (b_X8_pence_60 F xi si rm) F a60 = some res → ∀ (H : Heap) (locs : List Loc) (ls : Array Slot), va_P D vwCl (([((xo 0), .inr (6, [.ref (ta 0), .ref xr, .int (xi 2), .ref (sa 0), .ref xm, .ref xg, .ref (tr 0), .ref xs, .ref xp, .ref xq, .ref xe, .ref xt]))] : va_W) ++ (([((sa 0), .inr (4, [.ref (xa 0), .ref (ca 0), .ref (na 0), .int (si 3), .int (si 4)]))] : va_W) ++ (rmW k xa rm))) H → va_D A (([((xo 0), .inr (6, [.ref (ta 0), .ref xr, .int (xi 2), .ref (sa 0), .ref xm, .ref xg, .ref (tr 0), .ref xs, .ref xp, .ref xq, .ref xe, .ref xt]))] : va_W) ++ (([((sa 0), .inr (4, [.ref (xa 0), .ref (ca 0), .ref (na 0), .int (si 3), .int (si 4)]))] : va_W) ++ (rmW k xa rm))) → va_S A s.heap H locs → lv_has ls 10 [(1, .int a60.1), (2, .int a60.2.1), (3, .ref (xa 0)), (4, .int a60.2.2.1), (5, .int a60.2.2.2.1), (6, .int a60.2.2.2.2.1), (7, .int a60.2.2.2.2.2.1), (8, .int a60.2.2.2.2.2.2)] → W p l e (rmK 3 0 0) s m (List.toArray [.ref (xo 0), .int x1, .int x2]) below meth c H locs 0 0 (MQ below (va_Qi (fun r (_ : Unit) => r = res) (hcB D (fun _ : Unit => ([((xo 0), .inr (6, [.ref (ta 0), .ref xr, .int (xi 2), .ref (sa 0), .ref xm, .ref xg, .ref (tr 0), .ref xs, .ref xp, .ref xq, .ref xe, .ref xt]))] : va_W) ++ (([((sa 0), .inr (4, [.ref (xa 0), .ref (ca 0), .ref (na 0), .int (si 3), .int (si 4)]))] : va_W) ++ (rmW k xa rm))) A) A) (List.toArray [.ref (xo 0), .int x1, .int x2]) s 0 0 A) (F0 m 60 ls []) := by
    refine lp_W ?_ F
    intro k60 hk60 a60 h H locs ls hP hD hS hl
    have hc60 : ∀ (v1 : Int32) (v2 : Int32) (v4 : Int32) (v5 : Int32) (v6 : Int32) (v7 : Int32) (v8 : Int32), k60 (v1, v2, v4, v5, v6, v7, v8) = some res → ∀ (H : Heap) (locs : List Loc) (ls : Array Slot), va_P D vwCl (([((xo 0), .inr (6, [.ref (ta 0), .ref xr, .int (xi 2), .ref (sa 0), .ref xm, .ref xg, .ref (tr 0), .ref xs, .ref xp, .ref xq, .ref xe, .ref xt]))] : va_W) ++ (([((sa 0), .inr (4, [.ref (xa 0), .ref (ca 0), .ref (na 0), .int (si 3), .int (si 4)]))] : va_W) ++ (rmW k xa rm))) H → va_D A (([((xo 0), .inr (6, [.ref (ta 0), .ref xr, .int (xi 2), .ref (sa 0), .ref xm, .ref xg, .ref (tr 0), .ref xs, .ref xp, .ref xq, .ref xe, .ref xt]))] : va_W) ++ (([((sa 0), .inr (4, [.ref (xa 0), .ref (ca 0), .ref (na 0), .int (si 3), .int (si 4)]))] : va_W) ++ (rmW k xa rm))) → va_S A s.heap H locs → lv_has ls 10 [(1, .int v1), (2, .int v2), (3, .ref (xa 0)), (4, .int v4), (5, .int v5), (6, .int v6), (7, .int v7), (8, .int v8)] → W p l e (rmK 3 0 0) s m (List.toArray [.ref (xo 0), .int x1, .int x2]) below meth c H locs 0 0 (MQ below (va_Qi (fun r (_ : Unit) => r = res) (hcB D (fun _ : Unit => ([((xo 0), .inr (6, [.ref (ta 0), .ref xr, .int (xi 2), .ref (sa 0), .ref xm, .ref xg, .ref (tr 0), .ref xs, .ref xp, .ref xq, .ref xe, .ref xt]))] : va_W) ++ (([((sa 0), .inr (4, [.ref (xa 0), .ref (ca 0), .ref (na 0), .int (si 3), .int (si 4)]))] : va_W) ++ (rmW k xa rm))) A) A) (List.toArray [.ref (xo 0), .int x1, .int x2]) s 0 0 A) (F0 m 60 ls []) := fun v1 v2 v4 v5 v6 v7 v8 => hk60 (v1, v2, v4, v5, v6, v7, v8)
    have B124 : ∀ (v1 : Int32) (v2 : Int32) (v4 : Int32) (v5 : Int32) (v6 : Int32) (v7 : Int32) (v8 : Int32) (H : Heap) (locs : List Loc) (ls : Array Slot), b_X8_pence_124 F xi si rm k60 v1 v2 v4 v5 v6 v7 v8 = some res → va_P D vwCl (([((xo 0), .inr (6, [.ref (ta 0), .ref xr, .int (xi 2), .ref (sa 0), .ref xm, .ref xg, .ref (tr 0), .ref xs, .ref xp, .ref xq, .ref xe, .ref xt]))] : va_W) ++ (([((sa 0), .inr (4, [.ref (xa 0), .ref (ca 0), .ref (na 0), .int (si 3), .int (si 4)]))] : va_W) ++ (rmW k xa rm))) H → va_D A (([((xo 0), .inr (6, [.ref (ta 0), .ref xr, .int (xi 2), .ref (sa 0), .ref xm, .ref xg, .ref (tr 0), .ref xs, .ref xp, .ref xq, .ref xe, .ref xt]))] : va_W) ++ (([((sa 0), .inr (4, [.ref (xa 0), .ref (ca 0), .ref (na 0), .int (si 3), .int (si 4)]))] : va_W) ++ (rmW k xa rm))) → va_S A s.heap H locs → lv_has ls 10 [(1, .int v1), (2, .int v2), (3, .ref (xa 0)), (4, .int v4), (5, .int v5), (6, .int v6), (7, .int v7), (8, .int v8)] → W p l e (rmK 3 0 0) s m (List.toArray [.ref (xo 0), .int x1, .int x2]) below meth c H locs 0 0 (MQ below (va_Qi (fun r (_ : Unit) => r = res) (hcB D (fun _ : Unit => ([((xo 0), .inr (6, [.ref (ta 0), .ref xr, .int (xi 2), .ref (sa 0), .ref xm, .ref xg, .ref (tr 0), .ref xs, .ref xp, .ref xq, .ref xe, .ref xt]))] : va_W) ++ (([((sa 0), .inr (4, [.ref (xa 0), .ref (ca 0), .ref (na 0), .int (si 3), .int (si 4)]))] : va_W) ++ (rmW k xa rm))) A) A) (List.toArray [.ref (xo 0), .int x1, .int x2]) s 0 0 A) (F0 m 124 ls []) := by
      intro v1 v2 v4 v5 v6 v7 v8 H locs ls h hP hD hS hl
      refine lv_iinc (v := (v8 + 1)) (lv' := [(8, .int (v8 + 1)), (1, .int v1), (2, .int v2), (3, .ref (xa 0)), (4, .int v4), (5, .int v5), (6, .int v6), (7, .int v7)]) hx hb dX8_pence_124 hl (k := 7) rfl rfl (by decide) rfl (fun ls hl => ?_)
      refine lv_goto (tgt := 60) hx hb dX8_pence_127 (by decide) ?_
      exact hc60 _ _ _ _ _ _ _ h _ _ _ hP hD hS (lv_sub hl [1, 2, 3, 4, 5, 6, 7, 0] rfl)
    have B121 : ∀ (v1 : Int32) (v2 : Int32) (v4 : Int32) (v5 : Int32) (v6 : Int32) (v7 : Int32) (v8 : Int32) (H : Heap) (locs : List Loc) (ls : Array Slot), b_X8_pence_121 F xi si rm k60 v1 v2 v4 v5 v6 v7 v8 = some res → va_P D vwCl (([((xo 0), .inr (6, [.ref (ta 0), .ref xr, .int (xi 2), .ref (sa 0), .ref xm, .ref xg, .ref (tr 0), .ref xs, .ref xp, .ref xq, .ref xe, .ref xt]))] : va_W) ++ (([((sa 0), .inr (4, [.ref (xa 0), .ref (ca 0), .ref (na 0), .int (si 3), .int (si 4)]))] : va_W) ++ (rmW k xa rm))) H → va_D A (([((xo 0), .inr (6, [.ref (ta 0), .ref xr, .int (xi 2), .ref (sa 0), .ref xm, .ref xg, .ref (tr 0), .ref xs, .ref xp, .ref xq, .ref xe, .ref xt]))] : va_W) ++ (([((sa 0), .inr (4, [.ref (xa 0), .ref (ca 0), .ref (na 0), .int (si 3), .int (si 4)]))] : va_W) ++ (rmW k xa rm))) → va_S A s.heap H locs → lv_has ls 10 [(1, .int v1), (2, .int v2), (3, .ref (xa 0)), (4, .int v4), (5, .int v5), (6, .int v6), (7, .int v7), (8, .int v8)] → W p l e (rmK 3 0 0) s m (List.toArray [.ref (xo 0), .int x1, .int x2]) below meth c H locs 0 0 (MQ below (va_Qi (fun r (_ : Unit) => r = res) (hcB D (fun _ : Unit => ([((xo 0), .inr (6, [.ref (ta 0), .ref xr, .int (xi 2), .ref (sa 0), .ref xm, .ref xg, .ref (tr 0), .ref xs, .ref xp, .ref xq, .ref xe, .ref xt]))] : va_W) ++ (([((sa 0), .inr (4, [.ref (xa 0), .ref (ca 0), .ref (na 0), .int (si 3), .int (si 4)]))] : va_W) ++ (rmW k xa rm))) A) A) (List.toArray [.ref (xo 0), .int x1, .int x2]) s 0 0 A) (F0 m 121 ls []) := by
      intro v1 v2 v4 v5 v6 v7 v8 H locs ls h hP hD hS hl
      refine lv_iinc (v := (v7 + 1)) (lv' := [(7, .int (v7 + 1)), (1, .int v1), (2, .int v2), (3, .ref (xa 0)), (4, .int v4), (5, .int v5), (6, .int v6), (8, .int v8)]) hx hb dX8_pence_121 hl (k := 6) rfl rfl (by decide) rfl (fun ls hl => ?_)
      exact B124 _ _ _ _ _ _ _ _ _ _ h hP hD hS (lv_sub hl [1, 2, 3, 4, 5, 6, 0, 7] rfl)
    refine lv_iload hx hb dX8_pence_60 (lv_at hl 7 rfl) ?_
    refine lv_aload_n hx hb dX8_pence_62 rfl (lv_at hl 2 rfl) ?_
    refine va_get (D := D) (ci := 2) (v := .int (rm.1 3)) (C := RX3) (T := TX3) (N := 17) hx hb hts in3 hown hG.1 hP 2 rfl rfl 3 (by decide) (hts (.fieldLink RX8 104 "ChairCane$Room" "sitters" "I") (mem_b bq_wsX8_pence 0 2 rfl)) (fun _ h9 => h9) rfl dX8_pence_63 ?_
    refine lv_icmp_ge (tgt := 130) hx hb dX8_pence_66 (by decide) (fun c1 => ?_) (fun c1 => ?_)
    · have h := fw_t c1 h
      refine lv_iload hx hb dX8_pence_130 (lv_at hl 4 rfl) ?_
      refine lv_iload hx hb dX8_pence_132 (lv_at hl 3 rfl) ?_
      obtain ⟨g2, h⟩ := fw_g h
      refine lv_idiv hx hb dX8_pence_134 g2 ?_
      refine lv_iload hx hb dX8_pence_135 (lv_at hl 6 rfl) ?_
      refine lv_iload hx hb dX8_pence_137 (lv_at hl 5 rfl) ?_
      refine lv_icmp_ge (tgt := 146) hx hb dX8_pence_139 (by decide) (fun c3 => ?_) (fun c3 => ?_)
      · have h := fw_t c3 h
        refine lv_iconst (v := 0) hx hb dX8_pence_146 (by decide) ?_
        exact B147 _ _ _ _ _ h hP hD hS (lv_sub hl [] rfl)
      · have h := fw_f c3 h
        refine lv_iconst (v := 1) hx hb dX8_pence_142 (by decide) ?_
        refine lv_goto (tgt := 147) hx hb dX8_pence_143 (by decide) ?_
        exact B147 _ _ _ _ _ h hP hD hS (lv_sub hl [] rfl)
    · have h := fw_f c1 h
      refine lv_iload_n hx hb dX8_pence_69 rfl (lv_at hl 0 rfl) ?_
      refine lv_aload_n hx hb dX8_pence_70 rfl (lv_at hl 2 rfl) ?_
      refine lv_iload hx hb dX8_pence_71 (lv_at hl 7 rfl) ?_
      obtain ⟨hP, hD⟩ := qm hP hD (q_to [([((xo 0), .inr (6, [.ref (ta 0), .ref xr, .int (xi 2), .ref (sa 0), .ref xm, .ref xg, .ref (tr 0), .ref xs, .ref xp, .ref xq, .ref xe, .ref xt]))] : va_W), ([((sa 0), .inr (4, [.ref (xa 0), .ref (ca 0), .ref (na 0), .int (si 3), .int (si 4)]))] : va_W), rmW k xa rm] [0, 1, 2] [2] [0, 1] (by decide +kernel))
      refine fw_Vi (As := [.int a60.2.2.2.2.2.2]) (rest := [.int a60.1]) (n := 1) (rv := fun b : Int32 => b) (wp := fun b : Int32 => rmW k xa rm) h hx hb hml hown hts hG hA hP hD hS hl.1 _ _ (fun q hq9 => c_X3_givesUnder l D k _  xa F a60.2.2.2.2.2.2 rm  hq9) (ci := 2) (q0 := 0) rfl rfl gX8_pence_X3_givesUnder rfl ⟨rfl, rfl, Nat.le_of_ble_eq_true rfl, Nat.le_of_ble_eq_true rfl⟩ (by decide +kernel) (q_l _ _) (q_r _ _) (q_nd _ _) ⟨rfl, rfl, Nat.le_of_ble_eq_true rfl, Nat.le_of_ble_eq_true rfl, Nat.le_of_ble_eq_true rfl⟩ dX8_pence_73 (fun q4 H locs h hP hD hS => ?_)
      obtain ⟨hP, hD⟩ := qm (w2 := ([((xo 0), .inr (6, [.ref (ta 0), .ref xr, .int (xi 2), .ref (sa 0), .ref xm, .ref xg, .ref (tr 0), .ref xs, .ref xp, .ref xq, .ref xe, .ref xt]))] : va_W) ++ (([((sa 0), .inr (4, [.ref (xa 0), .ref (ca 0), .ref (na 0), .int (si 3), .int (si 4)]))] : va_W) ++ (rmW k xa rm))) hP hD (q_from [([((xo 0), .inr (6, [.ref (ta 0), .ref xr, .int (xi 2), .ref (sa 0), .ref xm, .ref xg, .ref (tr 0), .ref xs, .ref xp, .ref xq, .ref xe, .ref xt]))] : va_W), ([((sa 0), .inr (4, [.ref (xa 0), .ref (ca 0), .ref (na 0), .int (si 3), .int (si 4)]))] : va_W), rmW k xa rm] [0, 1] [2] [0, 1, 2] (by decide +kernel))
      refine hc_is (z := q4) rfl ?_
      refine lv_imul hx hb dX8_pence_76 ?_
      refine lv_istore (lv' := [(9, .int (a60.1 * q4)), (1, .int a60.1), (2, .int a60.2.1), (3, .ref (xa 0)), (4, .int a60.2.2.1), (5, .int a60.2.2.2.1), (6, .int a60.2.2.2.2.1), (7, .int a60.2.2.2.2.2.1), (8, .int a60.2.2.2.2.2.2)]) hx hb dX8_pence_77 hl (by decide) rfl (fun ls hl => ?_)
      refine lv_iload hx hb dX8_pence_79 (lv_at hl 6 rfl) ?_
      refine lv_iload hx hb dX8_pence_81 (lv_at hl 0 rfl) ?_
      refine lv_iload hx hb dX8_pence_83 (lv_at hl 4 rfl) ?_
      obtain ⟨g5, h⟩ := fw_g h
      refine lv_idiv hx hb dX8_pence_85 g5 ?_
      refine lv_isub hx hb dX8_pence_86 ?_
      refine lv_istore (lv' := [(6, .int (a60.2.2.2.2.1 - ((a60.1 * q4) / a60.2.2.1))), (9, .int (a60.1 * q4)), (1, .int a60.1), (2, .int a60.2.1), (3, .ref (xa 0)), (4, .int a60.2.2.1), (5, .int a60.2.2.2.1), (7, .int a60.2.2.2.2.2.1), (8, .int a60.2.2.2.2.2.2)]) hx hb dX8_pence_87 hl (by decide) rfl (fun ls hl => ?_)
      refine lv_iload hx hb dX8_pence_89 (lv_at hl 1 rfl) ?_
      refine lv_iload hx hb dX8_pence_91 (lv_at hl 5 rfl) ?_
      refine lv_irem hx hb dX8_pence_93 g5 ?_
      refine lv_iload hx hb dX8_pence_94 (lv_at hl 6 rfl) ?_
      refine lv_iload hx hb dX8_pence_96 (lv_at hl 5 rfl) ?_
      refine lv_irem hx hb dX8_pence_98 g5 ?_
      refine lv_icmp_gt (tgt := 121) hx hb dX8_pence_99 (by decide) (fun c6 => ?_) (fun c6 => ?_)
      · have h := fw_t c6 h
        exact B121 _ _ _ _ _ _ _ _ _ _ h hP hD hS (lv_sub hl [2, 3, 4, 5, 6, 0, 7, 8] rfl)
      · have h := fw_f c6 h
        refine lv_iload hx hb dX8_pence_102 (lv_at hl 1 rfl) ?_
        refine lv_iload hx hb dX8_pence_104 (lv_at hl 5 rfl) ?_
        refine lv_irem hx hb dX8_pence_106 g5 ?_
        refine lv_iload hx hb dX8_pence_107 (lv_at hl 6 rfl) ?_
        refine lv_iload hx hb dX8_pence_109 (lv_at hl 5 rfl) ?_
        refine lv_irem hx hb dX8_pence_111 g5 ?_
        refine lv_icmp_ne (tgt := 124) hx hb dX8_pence_112 (by decide) (fun c7 => ?_) (fun c7 => ?_)
        · have h := fw_f c7 h
          exact B124 _ _ _ _ _ _ _ _ _ _ h hP hD hS (lv_sub hl [2, 3, 4, 5, 6, 0, 7, 8] rfl)
        · have h := fw_t c7 h
          refine lv_iload hx hb dX8_pence_115 (lv_at hl 8 rfl) ?_
          refine lv_iload_n hx hb dX8_pence_117 rfl (lv_at hl 3 rfl) ?_
          refine lv_icmp_ge (tgt := 124) hx hb dX8_pence_118 (by decide) (fun c8 => ?_) (fun c8 => ?_)
          · have h := fw_t c8 h
            exact B124 _ _ _ _ _ _ _ _ _ _ h hP hD hS (lv_sub hl [2, 3, 4, 5, 6, 0, 7, 8] rfl)
          · have h := fw_f c8 h
            exact B121 _ _ _ _ _ _ _ _ _ _ h hP hD hS (lv_sub hl [2, 3, 4, 5, 6, 0, 7, 8] rfl)
  have C60 : ∀ (v1 : Int32) (v2 : Int32) (v4 : Int32) (v5 : Int32) (v6 : Int32) (v7 : Int32) (v8 : Int32), lp (b_X8_pence_60 F xi si rm) F (v1, v2, v4, v5, v6, v7, v8) = some res → ∀ (H : Heap) (locs : List Loc) (ls : Array Slot), va_P D vwCl (([((xo 0), .inr (6, [.ref (ta 0), .ref xr, .int (xi 2), .ref (sa 0), .ref xm, .ref xg, .ref (tr 0), .ref xs, .ref xp, .ref xq, .ref xe, .ref xt]))] : va_W) ++ (([((sa 0), .inr (4, [.ref (xa 0), .ref (ca 0), .ref (na 0), .int (si 3), .int (si 4)]))] : va_W) ++ (rmW k xa rm))) H → va_D A (([((xo 0), .inr (6, [.ref (ta 0), .ref xr, .int (xi 2), .ref (sa 0), .ref xm, .ref xg, .ref (tr 0), .ref xs, .ref xp, .ref xq, .ref xe, .ref xt]))] : va_W) ++ (([((sa 0), .inr (4, [.ref (xa 0), .ref (ca 0), .ref (na 0), .int (si 3), .int (si 4)]))] : va_W) ++ (rmW k xa rm))) → va_S A s.heap H locs → lv_has ls 10 [(1, .int v1), (2, .int v2), (3, .ref (xa 0)), (4, .int v4), (5, .int v5), (6, .int v6), (7, .int v7), (8, .int v8)] → W p l e (rmK 3 0 0) s m (List.toArray [.ref (xo 0), .int x1, .int x2]) below meth c H locs 0 0 (MQ below (va_Qi (fun r (_ : Unit) => r = res) (hcB D (fun _ : Unit => ([((xo 0), .inr (6, [.ref (ta 0), .ref xr, .int (xi 2), .ref (sa 0), .ref xm, .ref xg, .ref (tr 0), .ref xs, .ref xp, .ref xq, .ref xe, .ref xt]))] : va_W) ++ (([((sa 0), .inr (4, [.ref (xa 0), .ref (ca 0), .ref (na 0), .int (si 3), .int (si 4)]))] : va_W) ++ (rmW k xa rm))) A) A) (List.toArray [.ref (xo 0), .int x1, .int x2]) s 0 0 A) (F0 m 60 ls []) := fun v1 v2 v4 v5 v6 v7 v8 => B60 (v1, v2, v4, v5, v6, v7, v8)
  refine lv_aload_n hx hb dX8_pence_0 rfl (lv_at hl 0 rfl) ?_
  refine va_get (D := D) (ci := 6) (v := .ref (sa 0)) (C := RX8) (T := TX8) (N := 12) hx hb hts in8 hown hG.1 hP 0 rfl rfl 3 (by decide) (hts (.fieldLink RX8 29 "ChairCane" "now" "LChairCane$Standing;") (mem_b bq_wsX8_pence 0 0 rfl)) (fun _ h9 => h9) rfl dX8_pence_1 ?_
  refine va_get (D := D) (ci := 4) (v := .ref (xa 0)) (C := RX6) (T := TX6) (N := 5) hx hb hts in6 hown hG.1 hP 1 rfl rfl 0 (by decide) (hts (.fieldLink RX8 81 "ChairCane$Standing" "room" "LChairCane$Room;") (mem_b bq_wsX8_pence 0 1 rfl)) (fun _ h9 => h9) rfl dX8_pence_4 ?_
  refine lv_astore_n (lv' := [(3, .ref (xa 0)), (0, .ref (xo 0)), (1, .int x1), (2, .int x2)]) hx hb dX8_pence_7 rfl hl (by decide) rfl (fun ls hl => ?_)
  refine lv_iload_n hx hb dX8_pence_8 rfl (lv_at hl 2 rfl) ?_
  refine lv_if_lt (tgt := 27) hx hb dX8_pence_9 (by decide) (fun c9 => ?_) (fun c9 => ?_)
  · have h := fw_t c9 h
    exact B27 _ _ _ h hP hD hS (lv_sub hl [] rfl)
  · have h := fw_f c9 h
    refine lv_iload_n hx hb dX8_pence_12 rfl (lv_at hl 2 rfl) ?_
    refine lv_sipush (v := 9999) hx hb dX8_pence_13 (by decide) ?_
    refine lv_icmp_gt (tgt := 27) hx hb dX8_pence_16 (by decide) (fun c10 => ?_) (fun c10 => ?_)
    · have h := fw_t c10 h
      exact B27 _ _ _ h hP hD hS (lv_sub hl [] rfl)
    · have h := fw_f c10 h
      refine lv_aload_n hx hb dX8_pence_19 rfl (lv_at hl 0 rfl) ?_
      refine lv_iload_n hx hb dX8_pence_20 rfl (lv_at hl 3 rfl) ?_
      obtain ⟨hP, hD⟩ := qm hP hD (q_to [([((xo 0), .inr (6, [.ref (ta 0), .ref xr, .int (xi 2), .ref (sa 0), .ref xm, .ref xg, .ref (tr 0), .ref xs, .ref xp, .ref xq, .ref xe, .ref xt]))] : va_W), ([((sa 0), .inr (4, [.ref (xa 0), .ref (ca 0), .ref (na 0), .int (si 3), .int (si 4)]))] : va_W), rmW k xa rm] [0, 1, 2] [2] [0, 1] (by decide +kernel))
      refine fw_Vi (As := [.int x2]) (rest := []) (n := 1) (rv := fun b : Int32 => b) (wp := fun b : Int32 => rmW k xa rm) h hx hb hml hown hts hG hA hP hD hS hl.1 _ _ (fun q hq9 => c_X3_hasSitter l D k _  xa F x2 rm  hq9) (ci := 2) (q0 := 0) rfl rfl gX8_pence_X3_hasSitter rfl ⟨rfl, rfl, Nat.le_of_ble_eq_true rfl, Nat.le_of_ble_eq_true rfl⟩ (by decide +kernel) (q_l _ _) (q_r _ _) (q_nd _ _) ⟨rfl, rfl, Nat.le_of_ble_eq_true rfl, Nat.le_of_ble_eq_true rfl, Nat.le_of_ble_eq_true rfl⟩ dX8_pence_21 (fun q11 H locs h hP hD hS => ?_)
      obtain ⟨hP, hD⟩ := qm (w2 := ([((xo 0), .inr (6, [.ref (ta 0), .ref xr, .int (xi 2), .ref (sa 0), .ref xm, .ref xg, .ref (tr 0), .ref xs, .ref xp, .ref xq, .ref xe, .ref xt]))] : va_W) ++ (([((sa 0), .inr (4, [.ref (xa 0), .ref (ca 0), .ref (na 0), .int (si 3), .int (si 4)]))] : va_W) ++ (rmW k xa rm))) hP hD (q_from [([((xo 0), .inr (6, [.ref (ta 0), .ref xr, .int (xi 2), .ref (sa 0), .ref xm, .ref xg, .ref (tr 0), .ref xs, .ref xp, .ref xq, .ref xe, .ref xt]))] : va_W), ([((sa 0), .inr (4, [.ref (xa 0), .ref (ca 0), .ref (na 0), .int (si 3), .int (si 4)]))] : va_W), rmW k xa rm] [0, 1] [2] [0, 1, 2] (by decide +kernel))
      refine hc_is (z := q11) rfl ?_
      refine lv_if_ne (tgt := 29) hx hb dX8_pence_24 (by decide) (fun c12 => ?_) (fun c12 => ?_)
      · have h := fw_f c12 h
        refine lv_aload_n hx hb dX8_pence_29 rfl (lv_at hl 0 rfl) ?_
        obtain ⟨hP, hD⟩ := qm hP hD (q_to [([((xo 0), .inr (6, [.ref (ta 0), .ref xr, .int (xi 2), .ref (sa 0), .ref xm, .ref xg, .ref (tr 0), .ref xs, .ref xp, .ref xq, .ref xe, .ref xt]))] : va_W), ([((sa 0), .inr (4, [.ref (xa 0), .ref (ca 0), .ref (na 0), .int (si 3), .int (si 4)]))] : va_W), rmW k xa rm] [0, 1, 2] [2] [0, 1] (by decide +kernel))
        refine fw_Vi (As := []) (rest := []) (n := 0) (rv := fun b : Int32 => b) (wp := fun b : Int32 => rmW k xa rm) h hx hb hml hown hts hG hA hP hD hS hl.1 _ _ (fun q hq9 => c_X3_givesInAll l D k _  xa F  rm  hq9) (ci := 2) (q0 := 0) rfl rfl gX8_pence_X3_givesInAll rfl ⟨rfl, rfl, Nat.le_of_ble_eq_true rfl, Nat.le_of_ble_eq_true rfl⟩ (by decide +kernel) (q_l _ _) (q_r _ _) (q_nd _ _) ⟨rfl, rfl, Nat.le_of_ble_eq_true rfl, Nat.le_of_ble_eq_true rfl, Nat.le_of_ble_eq_true rfl⟩ dX8_pence_30 (fun q13 H locs h hP hD hS => ?_)
        obtain ⟨hP, hD⟩ := qm (w2 := ([((xo 0), .inr (6, [.ref (ta 0), .ref xr, .int (xi 2), .ref (sa 0), .ref xm, .ref xg, .ref (tr 0), .ref xs, .ref xp, .ref xq, .ref xe, .ref xt]))] : va_W) ++ (([((sa 0), .inr (4, [.ref (xa 0), .ref (ca 0), .ref (na 0), .int (si 3), .int (si 4)]))] : va_W) ++ (rmW k xa rm))) hP hD (q_from [([((xo 0), .inr (6, [.ref (ta 0), .ref xr, .int (xi 2), .ref (sa 0), .ref xm, .ref xg, .ref (tr 0), .ref xs, .ref xp, .ref xq, .ref xe, .ref xt]))] : va_W), ([((sa 0), .inr (4, [.ref (xa 0), .ref (ca 0), .ref (na 0), .int (si 3), .int (si 4)]))] : va_W), rmW k xa rm] [0, 1] [2] [0, 1, 2] (by decide +kernel))
        refine hc_is (z := q13) rfl ?_
        refine lv_istore (lv' := [(4, .int q13), (3, .ref (xa 0)), (0, .ref (xo 0)), (1, .int x1), (2, .int x2)]) hx hb dX8_pence_33 hl (by decide) rfl (fun ls hl => ?_)
        refine lv_iload hx hb dX8_pence_35 (lv_at hl 0 rfl) ?_
        refine lv_if_gt (tgt := 42) hx hb dX8_pence_37 (by decide) (fun c14 => ?_) (fun c14 => ?_)
        · have h := fw_t c14 h
          refine lv_iload_n hx hb dX8_pence_42 rfl (lv_at hl 3 rfl) ?_
          refine lv_aload_n hx hb dX8_pence_43 rfl (lv_at hl 1 rfl) ?_
          refine lv_iload_n hx hb dX8_pence_44 rfl (lv_at hl 4 rfl) ?_
          obtain ⟨hP, hD⟩ := qm hP hD (q_to [([((xo 0), .inr (6, [.ref (ta 0), .ref xr, .int (xi 2), .ref (sa 0), .ref xm, .ref xg, .ref (tr 0), .ref xs, .ref xp, .ref xq, .ref xe, .ref xt]))] : va_W), ([((sa 0), .inr (4, [.ref (xa 0), .ref (ca 0), .ref (na 0), .int (si 3), .int (si 4)]))] : va_W), rmW k xa rm] [0, 1, 2] [2] [0, 1] (by decide +kernel))
          refine fw_Vi (As := [.int x2]) (rest := [.int x1]) (n := 1) (rv := fun b : Int32 => b) (wp := fun b : Int32 => rmW k xa rm) h hx hb hml hown hts hG hA hP hD hS hl.1 _ _ (fun q hq9 => c_X3_givesUnder l D k _  xa F x2 rm  hq9) (ci := 2) (q0 := 0) rfl rfl gX8_pence_X3_givesUnder rfl ⟨rfl, rfl, Nat.le_of_ble_eq_true rfl, Nat.le_of_ble_eq_true rfl⟩ (by decide +kernel) (q_l _ _) (q_r _ _) (q_nd _ _) ⟨rfl, rfl, Nat.le_of_ble_eq_true rfl, Nat.le_of_ble_eq_true rfl, Nat.le_of_ble_eq_true rfl⟩ dX8_pence_45 (fun q15 H locs h hP hD hS => ?_)
          obtain ⟨hP, hD⟩ := qm (w2 := ([((xo 0), .inr (6, [.ref (ta 0), .ref xr, .int (xi 2), .ref (sa 0), .ref xm, .ref xg, .ref (tr 0), .ref xs, .ref xp, .ref xq, .ref xe, .ref xt]))] : va_W) ++ (([((sa 0), .inr (4, [.ref (xa 0), .ref (ca 0), .ref (na 0), .int (si 3), .int (si 4)]))] : va_W) ++ (rmW k xa rm))) hP hD (q_from [([((xo 0), .inr (6, [.ref (ta 0), .ref xr, .int (xi 2), .ref (sa 0), .ref xm, .ref xg, .ref (tr 0), .ref xs, .ref xp, .ref xq, .ref xe, .ref xt]))] : va_W), ([((sa 0), .inr (4, [.ref (xa 0), .ref (ca 0), .ref (na 0), .int (si 3), .int (si 4)]))] : va_W), rmW k xa rm] [0, 1] [2] [0, 1, 2] (by decide +kernel))
          refine hc_is (z := q15) rfl ?_
          refine lv_imul hx hb dX8_pence_48 ?_
          refine lv_istore (lv' := [(5, .int (x1 * q15)), (4, .int q13), (3, .ref (xa 0)), (0, .ref (xo 0)), (1, .int x1), (2, .int x2)]) hx hb dX8_pence_49 hl (by decide) rfl (fun ls hl => ?_)
          refine lv_iload_n hx hb dX8_pence_51 rfl (lv_at hl 4 rfl) ?_
          refine lv_istore (lv' := [(6, .int x1), (5, .int (x1 * q15)), (4, .int q13), (3, .ref (xa 0)), (0, .ref (xo 0)), (1, .int x1), (2, .int x2)]) hx hb dX8_pence_52 hl (by decide) rfl (fun ls hl => ?_)
          refine lv_iconst (v := 0) hx hb dX8_pence_54 (by decide) ?_
          refine lv_istore (lv' := [(7, .int 0), (6, .int x1), (5, .int (x1 * q15)), (4, .int q13), (3, .ref (xa 0)), (0, .ref (xo 0)), (1, .int x1), (2, .int x2)]) hx hb dX8_pence_55 hl (by decide) rfl (fun ls hl => ?_)
          refine lv_iconst (v := 0) hx hb dX8_pence_57 (by decide) ?_
          refine lv_istore (lv' := [(8, .int 0), (7, .int 0), (6, .int x1), (5, .int (x1 * q15)), (4, .int q13), (3, .ref (xa 0)), (0, .ref (xo 0)), (1, .int x1), (2, .int x2)]) hx hb dX8_pence_58 hl (by decide) rfl (fun ls hl => ?_)
          exact C60 _ _ _ _ _ _ _ h _ _ _ hP hD hS (lv_sub hl [7, 8, 5, 4, 3, 2, 1, 0] rfl)
        · have h := fw_f c14 h
          refine lv_iconst (v := 0) hx hb dX8_pence_40 (by decide) ?_
          exact fw_endI (rv := fun b : Int32 => b) (wp := fun b : Int32 => ([((xo 0), .inr (6, [.ref (ta 0), .ref xr, .int (xi 2), .ref (sa 0), .ref xm, .ref xg, .ref (tr 0), .ref xs, .ref xp, .ref xq, .ref xe, .ref xt]))] : va_W) ++ (([((sa 0), .inr (4, [.ref (xa 0), .ref (ca 0), .ref (na 0), .int (si 3), .int (si 4)]))] : va_W) ++ (rmW k xa rm))) hx hb hr hlocks h rfl hP hD hS dX8_pence_41
      · have h := fw_t c12 h
        exact B27 _ _ _ h hP hD hS (lv_sub hl [] rfl)
