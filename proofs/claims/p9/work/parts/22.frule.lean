/-! acts, notes, rules, a minute, as functions -/
theorem dX0_copyFrom_0 : decode cX0_copyFrom 0 = .ok (.aload_n 1, 1) := of_0 ok_aload_n_1 (by decide +kernel)
theorem dX0_copyFrom_1 : decode cX0_copyFrom 1 = .ok (.getfield 9, 3) := of_u2 ok_getfield 0 9 (by decide +kernel)
theorem dX0_copyFrom_4 : decode cX0_copyFrom 4 = .ok (.iconst 0, 1) := of_0 ok_iconst_0 (by decide +kernel)
theorem dX0_copyFrom_5 : decode cX0_copyFrom 5 = .ok (.aload_n 0, 1) := of_0 ok_aload_n_0 (by decide +kernel)
theorem dX0_copyFrom_6 : decode cX0_copyFrom 6 = .ok (.getfield 9, 3) := of_u2 ok_getfield 0 9 (by decide +kernel)
theorem dX0_copyFrom_9 : decode cX0_copyFrom 9 = .ok (.iconst 0, 1) := of_0 ok_iconst_0 (by decide +kernel)
theorem dX0_copyFrom_10 : decode cX0_copyFrom 10 = .ok (.bipush 20, 2) := of_s1 ok_bipush 20 (by decide +kernel)
theorem dX0_copyFrom_12 : decode cX0_copyFrom 12 = .ok (.invokestatic 28, 3) := of_u2 ok_invokestatic 0 28 (by decide +kernel)
theorem dX0_copyFrom_15 : decode cX0_copyFrom 15 = .ok (.aload_n 1, 1) := of_0 ok_aload_n_1 (by decide +kernel)
theorem dX0_copyFrom_16 : decode cX0_copyFrom 16 = .ok (.getfield 15, 3) := of_u2 ok_getfield 0 15 (by decide +kernel)
theorem dX0_copyFrom_19 : decode cX0_copyFrom 19 = .ok (.iconst 0, 1) := of_0 ok_iconst_0 (by decide +kernel)
theorem dX0_copyFrom_20 : decode cX0_copyFrom 20 = .ok (.aload_n 0, 1) := of_0 ok_aload_n_0 (by decide +kernel)
theorem dX0_copyFrom_21 : decode cX0_copyFrom 21 = .ok (.getfield 15, 3) := of_u2 ok_getfield 0 15 (by decide +kernel)
theorem dX0_copyFrom_24 : decode cX0_copyFrom 24 = .ok (.iconst 0, 1) := of_0 ok_iconst_0 (by decide +kernel)
theorem dX0_copyFrom_25 : decode cX0_copyFrom 25 = .ok (.bipush 20, 2) := of_s1 ok_bipush 20 (by decide +kernel)
theorem dX0_copyFrom_27 : decode cX0_copyFrom 27 = .ok (.invokestatic 28, 3) := of_u2 ok_invokestatic 0 28 (by decide +kernel)
theorem dX0_copyFrom_30 : decode cX0_copyFrom 30 = .ok (.aload_n 1, 1) := of_0 ok_aload_n_1 (by decide +kernel)
theorem dX0_copyFrom_31 : decode cX0_copyFrom 31 = .ok (.getfield 18, 3) := of_u2 ok_getfield 0 18 (by decide +kernel)
theorem dX0_copyFrom_34 : decode cX0_copyFrom 34 = .ok (.iconst 0, 1) := of_0 ok_iconst_0 (by decide +kernel)
theorem dX0_copyFrom_35 : decode cX0_copyFrom 35 = .ok (.aload_n 0, 1) := of_0 ok_aload_n_0 (by decide +kernel)
theorem dX0_copyFrom_36 : decode cX0_copyFrom 36 = .ok (.getfield 18, 3) := of_u2 ok_getfield 0 18 (by decide +kernel)
theorem dX0_copyFrom_39 : decode cX0_copyFrom 39 = .ok (.iconst 0, 1) := of_0 ok_iconst_0 (by decide +kernel)
theorem dX0_copyFrom_40 : decode cX0_copyFrom 40 = .ok (.bipush 20, 2) := of_s1 ok_bipush 20 (by decide +kernel)
theorem dX0_copyFrom_42 : decode cX0_copyFrom 42 = .ok (.invokestatic 28, 3) := of_u2 ok_invokestatic 0 28 (by decide +kernel)
theorem dX0_copyFrom_45 : decode cX0_copyFrom 45 = .ok (.aload_n 0, 1) := of_0 ok_aload_n_0 (by decide +kernel)
theorem dX0_copyFrom_46 : decode cX0_copyFrom 46 = .ok (.aload_n 1, 1) := of_0 ok_aload_n_1 (by decide +kernel)
theorem dX0_copyFrom_47 : decode cX0_copyFrom 47 = .ok (.getfield 21, 3) := of_u2 ok_getfield 0 21 (by decide +kernel)
theorem dX0_copyFrom_50 : decode cX0_copyFrom 50 = .ok (.putfield 21, 3) := of_u2 ok_putfield 0 21 (by decide +kernel)
theorem dX0_copyFrom_53 : decode cX0_copyFrom 53 = .ok (.aload_n 0, 1) := of_0 ok_aload_n_0 (by decide +kernel)
theorem dX0_copyFrom_54 : decode cX0_copyFrom 54 = .ok (.aload_n 1, 1) := of_0 ok_aload_n_1 (by decide +kernel)
theorem dX0_copyFrom_55 : decode cX0_copyFrom 55 = .ok (.getfield 25, 3) := of_u2 ok_getfield 0 25 (by decide +kernel)
theorem dX0_copyFrom_58 : decode cX0_copyFrom 58 = .ok (.putfield 25, 3) := of_u2 ok_putfield 0 25 (by decide +kernel)
theorem dX0_copyFrom_61 : decode cX0_copyFrom 61 = .ok (.return_, 1) := of_0 ok_return_ (by decide +kernel)
theorem dX0_forget_0 : decode cX0_forget 0 = .ok (.aload_n 0, 1) := of_0 ok_aload_n_0 (by decide +kernel)
theorem dX0_forget_1 : decode cX0_forget 1 = .ok (.iconst 0, 1) := of_0 ok_iconst_0 (by decide +kernel)
theorem dX0_forget_2 : decode cX0_forget 2 = .ok (.putfield 25, 3) := of_u2 ok_putfield 0 25 (by decide +kernel)
theorem dX0_forget_5 : decode cX0_forget 5 = .ok (.return_, 1) := of_0 ok_return_ (by decide +kernel)
theorem dX0_keep_0 : decode cX0_keep 0 = .ok (.aload_n 0, 1) := of_0 ok_aload_n_0 (by decide +kernel)
theorem dX0_keep_1 : decode cX0_keep 1 = .ok (.getfield 9, 3) := of_u2 ok_getfield 0 9 (by decide +kernel)
theorem dX0_keep_4 : decode cX0_keep 4 = .ok (.aload_n 0, 1) := of_0 ok_aload_n_0 (by decide +kernel)
theorem dX0_keep_5 : decode cX0_keep 5 = .ok (.getfield 21, 3) := of_u2 ok_getfield 0 21 (by decide +kernel)
theorem dX0_keep_8 : decode cX0_keep 8 = .ok (.aload_n 1, 1) := of_0 ok_aload_n_1 (by decide +kernel)
theorem dX0_keep_9 : decode cX0_keep 9 = .ok (.getfield 34, 3) := of_u2 ok_getfield 0 34 (by decide +kernel)
theorem dX0_keep_12 : decode cX0_keep 12 = .ok (.aload_n 1, 1) := of_0 ok_aload_n_1 (by decide +kernel)
theorem dX0_keep_13 : decode cX0_keep 13 = .ok (.getfield 39, 3) := of_u2 ok_getfield 0 39 (by decide +kernel)
theorem dX0_keep_16 : decode cX0_keep 16 = .ok (.bipush 8, 2) := of_s1 ok_bipush 8 (by decide +kernel)
theorem dX0_keep_18 : decode cX0_keep 18 = .ok (.ishl, 1) := of_0 ok_ishl (by decide +kernel)
theorem dX0_keep_19 : decode cX0_keep 19 = .ok (.ior, 1) := of_0 ok_ior (by decide +kernel)
theorem dX0_keep_20 : decode cX0_keep 20 = .ok (.iastore, 1) := of_0 ok_iastore (by decide +kernel)
theorem dX0_keep_21 : decode cX0_keep 21 = .ok (.aload_n 0, 1) := of_0 ok_aload_n_0 (by decide +kernel)
theorem dX0_keep_22 : decode cX0_keep 22 = .ok (.getfield 15, 3) := of_u2 ok_getfield 0 15 (by decide +kernel)
theorem dX0_keep_25 : decode cX0_keep 25 = .ok (.aload_n 0, 1) := of_0 ok_aload_n_0 (by decide +kernel)
theorem dX0_keep_26 : decode cX0_keep 26 = .ok (.getfield 21, 3) := of_u2 ok_getfield 0 21 (by decide +kernel)
theorem dX0_keep_29 : decode cX0_keep 29 = .ok (.aload_n 1, 1) := of_0 ok_aload_n_1 (by decide +kernel)
theorem dX0_keep_30 : decode cX0_keep 30 = .ok (.getfield 42, 3) := of_u2 ok_getfield 0 42 (by decide +kernel)
theorem dX0_keep_33 : decode cX0_keep 33 = .ok (.iastore, 1) := of_0 ok_iastore (by decide +kernel)
theorem dX0_keep_34 : decode cX0_keep 34 = .ok (.iconst 0, 1) := of_0 ok_iconst_0 (by decide +kernel)
theorem dX0_keep_35 : decode cX0_keep 35 = .ok (.istore_n 2, 1) := of_0 ok_istore_n_2 (by decide +kernel)
theorem dX0_keep_36 : decode cX0_keep 36 = .ok (.iconst 3, 1) := of_0 ok_iconst_3 (by decide +kernel)
theorem dX0_keep_37 : decode cX0_keep 37 = .ok (.istore_n 3, 1) := of_0 ok_istore_n_3 (by decide +kernel)
theorem dX0_keep_38 : decode cX0_keep 38 = .ok (.iload_n 3, 1) := of_0 ok_iload_n_3 (by decide +kernel)
theorem dX0_keep_39 : decode cX0_keep 39 = .ok (.ifCond .lt 21, 3) := of_s2 ok_ifCond_lt 0 21 (by decide +kernel)
theorem dX0_keep_42 : decode cX0_keep 42 = .ok (.iload_n 2, 1) := of_0 ok_iload_n_2 (by decide +kernel)
theorem dX0_keep_43 : decode cX0_keep 43 = .ok (.bipush 7, 2) := of_s1 ok_bipush 7 (by decide +kernel)
theorem dX0_keep_45 : decode cX0_keep 45 = .ok (.ishl, 1) := of_0 ok_ishl (by decide +kernel)
theorem dX0_keep_46 : decode cX0_keep 46 = .ok (.aload_n 1, 1) := of_0 ok_aload_n_1 (by decide +kernel)
theorem dX0_keep_47 : decode cX0_keep 47 = .ok (.getfield 45, 3) := of_u2 ok_getfield 0 45 (by decide +kernel)
theorem dX0_keep_50 : decode cX0_keep 50 = .ok (.iload_n 3, 1) := of_0 ok_iload_n_3 (by decide +kernel)
theorem dX0_keep_51 : decode cX0_keep 51 = .ok (.iaload, 1) := of_0 ok_iaload (by decide +kernel)
theorem dX0_keep_52 : decode cX0_keep 52 = .ok (.ior, 1) := of_0 ok_ior (by decide +kernel)
theorem dX0_keep_53 : decode cX0_keep 53 = .ok (.istore_n 2, 1) := of_0 ok_istore_n_2 (by decide +kernel)
theorem dX0_keep_54 : decode cX0_keep 54 = .ok (.iinc 3 (-1), 3) := of_ii ok_iinc 255 (by decide +kernel)
theorem dX0_keep_57 : decode cX0_keep 57 = .ok (.goto (-19), 3) := of_s2 ok_goto 255 237 (by decide +kernel)
theorem dX0_keep_60 : decode cX0_keep 60 = .ok (.aload_n 0, 1) := of_0 ok_aload_n_0 (by decide +kernel)
theorem dX0_keep_61 : decode cX0_keep 61 = .ok (.getfield 18, 3) := of_u2 ok_getfield 0 18 (by decide +kernel)
theorem dX0_keep_64 : decode cX0_keep 64 = .ok (.aload_n 0, 1) := of_0 ok_aload_n_0 (by decide +kernel)
theorem dX0_keep_65 : decode cX0_keep 65 = .ok (.getfield 21, 3) := of_u2 ok_getfield 0 21 (by decide +kernel)
theorem dX0_keep_68 : decode cX0_keep 68 = .ok (.iload_n 2, 1) := of_0 ok_iload_n_2 (by decide +kernel)
theorem dX0_keep_69 : decode cX0_keep 69 = .ok (.iastore, 1) := of_0 ok_iastore (by decide +kernel)
theorem dX0_keep_70 : decode cX0_keep 70 = .ok (.aload_n 0, 1) := of_0 ok_aload_n_0 (by decide +kernel)
theorem dX0_keep_71 : decode cX0_keep 71 = .ok (.aload_n 0, 1) := of_0 ok_aload_n_0 (by decide +kernel)
theorem dX0_keep_72 : decode cX0_keep 72 = .ok (.getfield 21, 3) := of_u2 ok_getfield 0 21 (by decide +kernel)
theorem dX0_keep_75 : decode cX0_keep 75 = .ok (.iconst 1, 1) := of_0 ok_iconst_1 (by decide +kernel)
theorem dX0_keep_76 : decode cX0_keep 76 = .ok (.iadd, 1) := of_0 ok_iadd (by decide +kernel)
theorem dX0_keep_77 : decode cX0_keep 77 = .ok (.bipush 20, 2) := of_s1 ok_bipush 20 (by decide +kernel)
theorem dX0_keep_79 : decode cX0_keep 79 = .ok (.irem, 1) := of_0 ok_irem (by decide +kernel)
theorem dX0_keep_80 : decode cX0_keep 80 = .ok (.putfield 21, 3) := of_u2 ok_putfield 0 21 (by decide +kernel)
theorem dX0_keep_83 : decode cX0_keep 83 = .ok (.aload_n 0, 1) := of_0 ok_aload_n_0 (by decide +kernel)
theorem dX0_keep_84 : decode cX0_keep 84 = .ok (.aload_n 0, 1) := of_0 ok_aload_n_0 (by decide +kernel)
theorem dX0_keep_85 : decode cX0_keep 85 = .ok (.getfield 25, 3) := of_u2 ok_getfield 0 25 (by decide +kernel)
theorem dX0_keep_88 : decode cX0_keep 88 = .ok (.iconst 1, 1) := of_0 ok_iconst_1 (by decide +kernel)
theorem dX0_keep_89 : decode cX0_keep 89 = .ok (.iadd, 1) := of_0 ok_iadd (by decide +kernel)
theorem dX0_keep_90 : decode cX0_keep 90 = .ok (.bipush 20, 2) := of_s1 ok_bipush 20 (by decide +kernel)
theorem dX0_keep_92 : decode cX0_keep 92 = .ok (.invokestatic 48, 3) := of_u2 ok_invokestatic 0 48 (by decide +kernel)
theorem dX0_keep_95 : decode cX0_keep 95 = .ok (.putfield 25, 3) := of_u2 ok_putfield 0 25 (by decide +kernel)
theorem dX0_keep_98 : decode cX0_keep 98 = .ok (.return_, 1) := of_0 ok_return_ (by decide +kernel)
theorem dX0_takeBack_0 : decode cX0_takeBack 0 = .ok (.aload_n 0, 1) := of_0 ok_aload_n_0 (by decide +kernel)
theorem dX0_takeBack_1 : decode cX0_takeBack 1 = .ok (.getfield 25, 3) := of_u2 ok_getfield 0 25 (by decide +kernel)
theorem dX0_takeBack_4 : decode cX0_takeBack 4 = .ok (.ifCond .gt 4, 3) := of_s2 ok_ifCond_gt 0 4 (by decide +kernel)
theorem dX0_takeBack_7 : decode cX0_takeBack 7 = .ok (.return_, 1) := of_0 ok_return_ (by decide +kernel)
theorem dX0_takeBack_8 : decode cX0_takeBack 8 = .ok (.aload_n 0, 1) := of_0 ok_aload_n_0 (by decide +kernel)
theorem dX0_takeBack_9 : decode cX0_takeBack 9 = .ok (.dup, 1) := of_0 ok_dup (by decide +kernel)
theorem dX0_takeBack_10 : decode cX0_takeBack 10 = .ok (.getfield 25, 3) := of_u2 ok_getfield 0 25 (by decide +kernel)
theorem dX0_takeBack_13 : decode cX0_takeBack 13 = .ok (.iconst 1, 1) := of_0 ok_iconst_1 (by decide +kernel)
theorem dX0_takeBack_14 : decode cX0_takeBack 14 = .ok (.isub, 1) := of_0 ok_isub (by decide +kernel)
theorem dX0_takeBack_15 : decode cX0_takeBack 15 = .ok (.putfield 25, 3) := of_u2 ok_putfield 0 25 (by decide +kernel)
theorem dX0_takeBack_18 : decode cX0_takeBack 18 = .ok (.aload_n 0, 1) := of_0 ok_aload_n_0 (by decide +kernel)
theorem dX0_takeBack_19 : decode cX0_takeBack 19 = .ok (.aload_n 0, 1) := of_0 ok_aload_n_0 (by decide +kernel)
theorem dX0_takeBack_20 : decode cX0_takeBack 20 = .ok (.getfield 21, 3) := of_u2 ok_getfield 0 21 (by decide +kernel)
theorem dX0_takeBack_23 : decode cX0_takeBack 23 = .ok (.bipush 20, 2) := of_s1 ok_bipush 20 (by decide +kernel)
theorem dX0_takeBack_25 : decode cX0_takeBack 25 = .ok (.iadd, 1) := of_0 ok_iadd (by decide +kernel)
theorem dX0_takeBack_26 : decode cX0_takeBack 26 = .ok (.iconst 1, 1) := of_0 ok_iconst_1 (by decide +kernel)
theorem dX0_takeBack_27 : decode cX0_takeBack 27 = .ok (.isub, 1) := of_0 ok_isub (by decide +kernel)
theorem dX0_takeBack_28 : decode cX0_takeBack 28 = .ok (.bipush 20, 2) := of_s1 ok_bipush 20 (by decide +kernel)
theorem dX0_takeBack_30 : decode cX0_takeBack 30 = .ok (.irem, 1) := of_0 ok_irem (by decide +kernel)
theorem dX0_takeBack_31 : decode cX0_takeBack 31 = .ok (.putfield 21, 3) := of_u2 ok_putfield 0 21 (by decide +kernel)
theorem dX0_takeBack_34 : decode cX0_takeBack 34 = .ok (.aload_n 1, 1) := of_0 ok_aload_n_1 (by decide +kernel)
theorem dX0_takeBack_35 : decode cX0_takeBack 35 = .ok (.aload_n 0, 1) := of_0 ok_aload_n_0 (by decide +kernel)
theorem dX0_takeBack_36 : decode cX0_takeBack 36 = .ok (.getfield 9, 3) := of_u2 ok_getfield 0 9 (by decide +kernel)
theorem dX0_takeBack_39 : decode cX0_takeBack 39 = .ok (.aload_n 0, 1) := of_0 ok_aload_n_0 (by decide +kernel)
theorem dX0_takeBack_40 : decode cX0_takeBack 40 = .ok (.getfield 21, 3) := of_u2 ok_getfield 0 21 (by decide +kernel)
theorem dX0_takeBack_43 : decode cX0_takeBack 43 = .ok (.iaload, 1) := of_0 ok_iaload (by decide +kernel)
theorem dX0_takeBack_44 : decode cX0_takeBack 44 = .ok (.sipush 255, 3) := of_s2 ok_sipush 0 255 (by decide +kernel)
theorem dX0_takeBack_47 : decode cX0_takeBack 47 = .ok (.iand, 1) := of_0 ok_iand (by decide +kernel)
theorem dX0_takeBack_48 : decode cX0_takeBack 48 = .ok (.putfield 34, 3) := of_u2 ok_putfield 0 34 (by decide +kernel)
theorem dX0_takeBack_51 : decode cX0_takeBack 51 = .ok (.aload_n 1, 1) := of_0 ok_aload_n_1 (by decide +kernel)
theorem dX0_takeBack_52 : decode cX0_takeBack 52 = .ok (.aload_n 0, 1) := of_0 ok_aload_n_0 (by decide +kernel)
theorem dX0_takeBack_53 : decode cX0_takeBack 53 = .ok (.getfield 9, 3) := of_u2 ok_getfield 0 9 (by decide +kernel)
theorem dX0_takeBack_56 : decode cX0_takeBack 56 = .ok (.aload_n 0, 1) := of_0 ok_aload_n_0 (by decide +kernel)
theorem dX0_takeBack_57 : decode cX0_takeBack 57 = .ok (.getfield 21, 3) := of_u2 ok_getfield 0 21 (by decide +kernel)
theorem dX0_takeBack_60 : decode cX0_takeBack 60 = .ok (.iaload, 1) := of_0 ok_iaload (by decide +kernel)
theorem dX0_takeBack_61 : decode cX0_takeBack 61 = .ok (.bipush 8, 2) := of_s1 ok_bipush 8 (by decide +kernel)
theorem dX0_takeBack_63 : decode cX0_takeBack 63 = .ok (.ishr, 1) := of_0 ok_ishr (by decide +kernel)
theorem dX0_takeBack_64 : decode cX0_takeBack 64 = .ok (.putfield 39, 3) := of_u2 ok_putfield 0 39 (by decide +kernel)
theorem dX0_takeBack_67 : decode cX0_takeBack 67 = .ok (.aload_n 1, 1) := of_0 ok_aload_n_1 (by decide +kernel)
theorem dX0_takeBack_68 : decode cX0_takeBack 68 = .ok (.aload_n 0, 1) := of_0 ok_aload_n_0 (by decide +kernel)
theorem dX0_takeBack_69 : decode cX0_takeBack 69 = .ok (.getfield 15, 3) := of_u2 ok_getfield 0 15 (by decide +kernel)
theorem dX0_takeBack_72 : decode cX0_takeBack 72 = .ok (.aload_n 0, 1) := of_0 ok_aload_n_0 (by decide +kernel)
theorem dX0_takeBack_73 : decode cX0_takeBack 73 = .ok (.getfield 21, 3) := of_u2 ok_getfield 0 21 (by decide +kernel)
theorem dX0_takeBack_76 : decode cX0_takeBack 76 = .ok (.iaload, 1) := of_0 ok_iaload (by decide +kernel)
theorem dX0_takeBack_77 : decode cX0_takeBack 77 = .ok (.putfield 42, 3) := of_u2 ok_putfield 0 42 (by decide +kernel)
theorem dX0_takeBack_80 : decode cX0_takeBack 80 = .ok (.iconst 0, 1) := of_0 ok_iconst_0 (by decide +kernel)
theorem dX0_takeBack_81 : decode cX0_takeBack 81 = .ok (.istore_n 2, 1) := of_0 ok_istore_n_2 (by decide +kernel)
theorem dX0_takeBack_82 : decode cX0_takeBack 82 = .ok (.iload_n 2, 1) := of_0 ok_iload_n_2 (by decide +kernel)
theorem dX0_takeBack_83 : decode cX0_takeBack 83 = .ok (.iconst 4, 1) := of_0 ok_iconst_4 (by decide +kernel)
theorem dX0_takeBack_84 : decode cX0_takeBack 84 = .ok (.if_icmp .ge 32, 3) := of_s2 ok_if_icmp_ge 0 32 (by decide +kernel)
theorem dX0_takeBack_87 : decode cX0_takeBack 87 = .ok (.aload_n 1, 1) := of_0 ok_aload_n_1 (by decide +kernel)
theorem dX0_takeBack_88 : decode cX0_takeBack 88 = .ok (.getfield 45, 3) := of_u2 ok_getfield 0 45 (by decide +kernel)
theorem dX0_takeBack_91 : decode cX0_takeBack 91 = .ok (.iload_n 2, 1) := of_0 ok_iload_n_2 (by decide +kernel)
theorem dX0_takeBack_92 : decode cX0_takeBack 92 = .ok (.aload_n 0, 1) := of_0 ok_aload_n_0 (by decide +kernel)
theorem dX0_takeBack_93 : decode cX0_takeBack 93 = .ok (.getfield 18, 3) := of_u2 ok_getfield 0 18 (by decide +kernel)
theorem dX0_takeBack_96 : decode cX0_takeBack 96 = .ok (.aload_n 0, 1) := of_0 ok_aload_n_0 (by decide +kernel)
theorem dX0_takeBack_97 : decode cX0_takeBack 97 = .ok (.getfield 21, 3) := of_u2 ok_getfield 0 21 (by decide +kernel)
theorem dX0_takeBack_100 : decode cX0_takeBack 100 = .ok (.iaload, 1) := of_0 ok_iaload (by decide +kernel)
theorem dX0_takeBack_101 : decode cX0_takeBack 101 = .ok (.bipush 7, 2) := of_s1 ok_bipush 7 (by decide +kernel)
theorem dX0_takeBack_103 : decode cX0_takeBack 103 = .ok (.iload_n 2, 1) := of_0 ok_iload_n_2 (by decide +kernel)
theorem dX0_takeBack_104 : decode cX0_takeBack 104 = .ok (.imul, 1) := of_0 ok_imul (by decide +kernel)
theorem dX0_takeBack_105 : decode cX0_takeBack 105 = .ok (.ishr, 1) := of_0 ok_ishr (by decide +kernel)
theorem dX0_takeBack_106 : decode cX0_takeBack 106 = .ok (.bipush 127, 2) := of_s1 ok_bipush 127 (by decide +kernel)
theorem dX0_takeBack_108 : decode cX0_takeBack 108 = .ok (.iand, 1) := of_0 ok_iand (by decide +kernel)
theorem dX0_takeBack_109 : decode cX0_takeBack 109 = .ok (.iastore, 1) := of_0 ok_iastore (by decide +kernel)
theorem dX0_takeBack_110 : decode cX0_takeBack 110 = .ok (.iinc 2 1, 3) := of_ii ok_iinc 1 (by decide +kernel)
theorem dX0_takeBack_113 : decode cX0_takeBack 113 = .ok (.goto (-31), 3) := of_s2 ok_goto 255 225 (by decide +kernel)
theorem dX0_takeBack_116 : decode cX0_takeBack 116 = .ok (.aload_n 1, 1) := of_0 ok_aload_n_1 (by decide +kernel)
theorem dX0_takeBack_117 : decode cX0_takeBack 117 = .ok (.invokevirtual 54, 3) := of_u2 ok_invokevirtual 0 54 (by decide +kernel)
theorem dX0_takeBack_120 : decode cX0_takeBack 120 = .ok (.return_, 1) := of_0 ok_return_ (by decide +kernel)
theorem dX2_add_0 : decode cX2_add 0 = .ok (.aload_n 0, 1) := of_0 ok_aload_n_0 (by decide +kernel)
theorem dX2_add_1 : decode cX2_add 1 = .ok (.getfield 21, 3) := of_u2 ok_getfield 0 21 (by decide +kernel)
theorem dX2_add_4 : decode cX2_add 4 = .ok (.bipush 10, 2) := of_s1 ok_bipush 10 (by decide +kernel)
theorem dX2_add_6 : decode cX2_add 6 = .ok (.if_icmp .lt 5, 3) := of_s2 ok_if_icmp_lt 0 5 (by decide +kernel)
theorem dX2_add_9 : decode cX2_add 9 = .ok (.iconst 0, 1) := of_0 ok_iconst_0 (by decide +kernel)
theorem dX2_add_10 : decode cX2_add 10 = .ok (.ireturn, 1) := of_0 ok_ireturn (by decide +kernel)
theorem dX2_add_11 : decode cX2_add 11 = .ok (.aload_n 0, 1) := of_0 ok_aload_n_0 (by decide +kernel)
theorem dX2_add_12 : decode cX2_add 12 = .ok (.getfield 9, 3) := of_u2 ok_getfield 0 9 (by decide +kernel)
theorem dX2_add_15 : decode cX2_add 15 = .ok (.aload_n 0, 1) := of_0 ok_aload_n_0 (by decide +kernel)
theorem dX2_add_16 : decode cX2_add 16 = .ok (.getfield 21, 3) := of_u2 ok_getfield 0 21 (by decide +kernel)
theorem dX2_add_19 : decode cX2_add 19 = .ok (.iload_n 1, 1) := of_0 ok_iload_n_1 (by decide +kernel)
theorem dX2_add_20 : decode cX2_add 20 = .ok (.iastore, 1) := of_0 ok_iastore (by decide +kernel)
theorem dX2_add_21 : decode cX2_add 21 = .ok (.aload_n 0, 1) := of_0 ok_aload_n_0 (by decide +kernel)
theorem dX2_add_22 : decode cX2_add 22 = .ok (.getfield 15, 3) := of_u2 ok_getfield 0 15 (by decide +kernel)
theorem dX2_add_25 : decode cX2_add 25 = .ok (.aload_n 0, 1) := of_0 ok_aload_n_0 (by decide +kernel)
theorem dX2_add_26 : decode cX2_add 26 = .ok (.getfield 21, 3) := of_u2 ok_getfield 0 21 (by decide +kernel)
theorem dX2_add_29 : decode cX2_add 29 = .ok (.iload_n 2, 1) := of_0 ok_iload_n_2 (by decide +kernel)
theorem dX2_add_30 : decode cX2_add 30 = .ok (.iastore, 1) := of_0 ok_iastore (by decide +kernel)
theorem dX2_add_31 : decode cX2_add 31 = .ok (.aload_n 0, 1) := of_0 ok_aload_n_0 (by decide +kernel)
theorem dX2_add_32 : decode cX2_add 32 = .ok (.getfield 18, 3) := of_u2 ok_getfield 0 18 (by decide +kernel)
theorem dX2_add_35 : decode cX2_add 35 = .ok (.aload_n 0, 1) := of_0 ok_aload_n_0 (by decide +kernel)
theorem dX2_add_36 : decode cX2_add 36 = .ok (.getfield 21, 3) := of_u2 ok_getfield 0 21 (by decide +kernel)
theorem dX2_add_39 : decode cX2_add 39 = .ok (.iload_n 3, 1) := of_0 ok_iload_n_3 (by decide +kernel)
theorem dX2_add_40 : decode cX2_add 40 = .ok (.iastore, 1) := of_0 ok_iastore (by decide +kernel)
theorem dX2_add_41 : decode cX2_add 41 = .ok (.aload_n 0, 1) := of_0 ok_aload_n_0 (by decide +kernel)
theorem dX2_add_42 : decode cX2_add 42 = .ok (.dup, 1) := of_0 ok_dup (by decide +kernel)
theorem dX2_add_43 : decode cX2_add 43 = .ok (.getfield 21, 3) := of_u2 ok_getfield 0 21 (by decide +kernel)
theorem dX2_add_46 : decode cX2_add 46 = .ok (.iconst 1, 1) := of_0 ok_iconst_1 (by decide +kernel)
theorem dX2_add_47 : decode cX2_add 47 = .ok (.iadd, 1) := of_0 ok_iadd (by decide +kernel)
theorem dX2_add_48 : decode cX2_add 48 = .ok (.putfield 21, 3) := of_u2 ok_putfield 0 21 (by decide +kernel)
theorem dX2_add_51 : decode cX2_add 51 = .ok (.iconst 1, 1) := of_0 ok_iconst_1 (by decide +kernel)
theorem dX2_add_52 : decode cX2_add 52 = .ok (.ireturn, 1) := of_0 ok_ireturn (by decide +kernel)
theorem dX2_agree_0 : decode cX2_agree 0 = .ok (.iconst 0, 1) := of_0 ok_iconst_0 (by decide +kernel)
theorem dX2_agree_1 : decode cX2_agree 1 = .ok (.istore_n 3, 1) := of_0 ok_istore_n_3 (by decide +kernel)
theorem dX2_agree_2 : decode cX2_agree 2 = .ok (.iload_n 3, 1) := of_0 ok_iload_n_3 (by decide +kernel)
theorem dX2_agree_3 : decode cX2_agree 3 = .ok (.aload_n 0, 1) := of_0 ok_aload_n_0 (by decide +kernel)
theorem dX2_agree_4 : decode cX2_agree 4 = .ok (.getfield 21, 3) := of_u2 ok_getfield 0 21 (by decide +kernel)
theorem dX2_agree_7 : decode cX2_agree 7 = .ok (.if_icmp .ge 40, 3) := of_s2 ok_if_icmp_ge 0 40 (by decide +kernel)
theorem dX2_agree_10 : decode cX2_agree 10 = .ok (.aload_n 0, 1) := of_0 ok_aload_n_0 (by decide +kernel)
theorem dX2_agree_11 : decode cX2_agree 11 = .ok (.getfield 9, 3) := of_u2 ok_getfield 0 9 (by decide +kernel)
theorem dX2_agree_14 : decode cX2_agree 14 = .ok (.iload_n 3, 1) := of_0 ok_iload_n_3 (by decide +kernel)
theorem dX2_agree_15 : decode cX2_agree 15 = .ok (.iaload, 1) := of_0 ok_iaload (by decide +kernel)
theorem dX2_agree_16 : decode cX2_agree 16 = .ok (.iload_n 1, 1) := of_0 ok_iload_n_1 (by decide +kernel)
theorem dX2_agree_17 : decode cX2_agree 17 = .ok (.if_icmp .ne 24, 3) := of_s2 ok_if_icmp_ne 0 24 (by decide +kernel)
theorem dX2_agree_20 : decode cX2_agree 20 = .ok (.aload_n 2, 1) := of_0 ok_aload_n_2 (by decide +kernel)
theorem dX2_agree_21 : decode cX2_agree 21 = .ok (.aload_n 0, 1) := of_0 ok_aload_n_0 (by decide +kernel)
theorem dX2_agree_22 : decode cX2_agree 22 = .ok (.getfield 15, 3) := of_u2 ok_getfield 0 15 (by decide +kernel)
theorem dX2_agree_25 : decode cX2_agree 25 = .ok (.iload_n 3, 1) := of_0 ok_iload_n_3 (by decide +kernel)
theorem dX2_agree_26 : decode cX2_agree 26 = .ok (.iaload, 1) := of_0 ok_iaload (by decide +kernel)
theorem dX2_agree_27 : decode cX2_agree 27 = .ok (.invokevirtual 37, 3) := of_u2 ok_invokevirtual 0 37 (by decide +kernel)
theorem dX2_agree_30 : decode cX2_agree 30 = .ok (.aload_n 0, 1) := of_0 ok_aload_n_0 (by decide +kernel)
theorem dX2_agree_31 : decode cX2_agree 31 = .ok (.getfield 18, 3) := of_u2 ok_getfield 0 18 (by decide +kernel)
theorem dX2_agree_34 : decode cX2_agree 34 = .ok (.iload_n 3, 1) := of_0 ok_iload_n_3 (by decide +kernel)
theorem dX2_agree_35 : decode cX2_agree 35 = .ok (.iaload, 1) := of_0 ok_iaload (by decide +kernel)
theorem dX2_agree_36 : decode cX2_agree 36 = .ok (.if_icmp .eq 5, 3) := of_s2 ok_if_icmp_eq 0 5 (by decide +kernel)
theorem dX2_agree_39 : decode cX2_agree 39 = .ok (.iconst 0, 1) := of_0 ok_iconst_0 (by decide +kernel)
theorem dX2_agree_40 : decode cX2_agree 40 = .ok (.ireturn, 1) := of_0 ok_ireturn (by decide +kernel)
theorem dX2_agree_41 : decode cX2_agree 41 = .ok (.iinc 3 1, 3) := of_ii ok_iinc 1 (by decide +kernel)
theorem dX2_agree_44 : decode cX2_agree 44 = .ok (.goto (-42), 3) := of_s2 ok_goto 255 214 (by decide +kernel)
theorem dX2_agree_47 : decode cX2_agree 47 = .ok (.iconst 1, 1) := of_0 ok_iconst_1 (by decide +kernel)
theorem dX2_agree_48 : decode cX2_agree 48 = .ok (.ireturn, 1) := of_0 ok_ireturn (by decide +kernel)
theorem dX2_copyFrom_0 : decode cX2_copyFrom 0 = .ok (.aload_n 1, 1) := of_0 ok_aload_n_1 (by decide +kernel)
theorem dX2_copyFrom_1 : decode cX2_copyFrom 1 = .ok (.getfield 9, 3) := of_u2 ok_getfield 0 9 (by decide +kernel)
theorem dX2_copyFrom_4 : decode cX2_copyFrom 4 = .ok (.iconst 0, 1) := of_0 ok_iconst_0 (by decide +kernel)
theorem dX2_copyFrom_5 : decode cX2_copyFrom 5 = .ok (.aload_n 0, 1) := of_0 ok_aload_n_0 (by decide +kernel)
theorem dX2_copyFrom_6 : decode cX2_copyFrom 6 = .ok (.getfield 9, 3) := of_u2 ok_getfield 0 9 (by decide +kernel)
theorem dX2_copyFrom_9 : decode cX2_copyFrom 9 = .ok (.iconst 0, 1) := of_0 ok_iconst_0 (by decide +kernel)
theorem dX2_copyFrom_10 : decode cX2_copyFrom 10 = .ok (.bipush 10, 2) := of_s1 ok_bipush 10 (by decide +kernel)
theorem dX2_copyFrom_12 : decode cX2_copyFrom 12 = .ok (.invokestatic 25, 3) := of_u2 ok_invokestatic 0 25 (by decide +kernel)
theorem dX2_copyFrom_15 : decode cX2_copyFrom 15 = .ok (.aload_n 1, 1) := of_0 ok_aload_n_1 (by decide +kernel)
theorem dX2_copyFrom_16 : decode cX2_copyFrom 16 = .ok (.getfield 15, 3) := of_u2 ok_getfield 0 15 (by decide +kernel)
theorem dX2_copyFrom_19 : decode cX2_copyFrom 19 = .ok (.iconst 0, 1) := of_0 ok_iconst_0 (by decide +kernel)
theorem dX2_copyFrom_20 : decode cX2_copyFrom 20 = .ok (.aload_n 0, 1) := of_0 ok_aload_n_0 (by decide +kernel)
theorem dX2_copyFrom_21 : decode cX2_copyFrom 21 = .ok (.getfield 15, 3) := of_u2 ok_getfield 0 15 (by decide +kernel)
theorem dX2_copyFrom_24 : decode cX2_copyFrom 24 = .ok (.iconst 0, 1) := of_0 ok_iconst_0 (by decide +kernel)
theorem dX2_copyFrom_25 : decode cX2_copyFrom 25 = .ok (.bipush 10, 2) := of_s1 ok_bipush 10 (by decide +kernel)
theorem dX2_copyFrom_27 : decode cX2_copyFrom 27 = .ok (.invokestatic 25, 3) := of_u2 ok_invokestatic 0 25 (by decide +kernel)
theorem dX2_copyFrom_30 : decode cX2_copyFrom 30 = .ok (.aload_n 1, 1) := of_0 ok_aload_n_1 (by decide +kernel)
theorem dX2_copyFrom_31 : decode cX2_copyFrom 31 = .ok (.getfield 18, 3) := of_u2 ok_getfield 0 18 (by decide +kernel)
theorem dX2_copyFrom_34 : decode cX2_copyFrom 34 = .ok (.iconst 0, 1) := of_0 ok_iconst_0 (by decide +kernel)
theorem dX2_copyFrom_35 : decode cX2_copyFrom 35 = .ok (.aload_n 0, 1) := of_0 ok_aload_n_0 (by decide +kernel)
theorem dX2_copyFrom_36 : decode cX2_copyFrom 36 = .ok (.getfield 18, 3) := of_u2 ok_getfield 0 18 (by decide +kernel)
theorem dX2_copyFrom_39 : decode cX2_copyFrom 39 = .ok (.iconst 0, 1) := of_0 ok_iconst_0 (by decide +kernel)
theorem dX2_copyFrom_40 : decode cX2_copyFrom 40 = .ok (.bipush 10, 2) := of_s1 ok_bipush 10 (by decide +kernel)
theorem dX2_copyFrom_42 : decode cX2_copyFrom 42 = .ok (.invokestatic 25, 3) := of_u2 ok_invokestatic 0 25 (by decide +kernel)
theorem dX2_copyFrom_45 : decode cX2_copyFrom 45 = .ok (.aload_n 0, 1) := of_0 ok_aload_n_0 (by decide +kernel)
theorem dX2_copyFrom_46 : decode cX2_copyFrom 46 = .ok (.aload_n 1, 1) := of_0 ok_aload_n_1 (by decide +kernel)
theorem dX2_copyFrom_47 : decode cX2_copyFrom 47 = .ok (.getfield 21, 3) := of_u2 ok_getfield 0 21 (by decide +kernel)
theorem dX2_copyFrom_50 : decode cX2_copyFrom 50 = .ok (.putfield 21, 3) := of_u2 ok_putfield 0 21 (by decide +kernel)
theorem dX2_copyFrom_53 : decode cX2_copyFrom 53 = .ok (.return_, 1) := of_0 ok_return_ (by decide +kernel)
theorem dX2_forget_0 : decode cX2_forget 0 = .ok (.aload_n 0, 1) := of_0 ok_aload_n_0 (by decide +kernel)
theorem dX2_forget_1 : decode cX2_forget 1 = .ok (.iconst 0, 1) := of_0 ok_iconst_0 (by decide +kernel)
theorem dX2_forget_2 : decode cX2_forget 2 = .ok (.putfield 21, 3) := of_u2 ok_putfield 0 21 (by decide +kernel)
theorem dX2_forget_5 : decode cX2_forget 5 = .ok (.return_, 1) := of_0 ok_return_ (by decide +kernel)
theorem dX2_lastMinute_0 : decode cX2_lastMinute 0 = .ok (.iconst (-1), 1) := of_0 ok_iconst_m1 (by decide +kernel)
theorem dX2_lastMinute_1 : decode cX2_lastMinute 1 = .ok (.istore_n 1, 1) := of_0 ok_istore_n_1 (by decide +kernel)
theorem dX2_lastMinute_2 : decode cX2_lastMinute 2 = .ok (.iconst 0, 1) := of_0 ok_iconst_0 (by decide +kernel)
theorem dX2_lastMinute_3 : decode cX2_lastMinute 3 = .ok (.istore_n 2, 1) := of_0 ok_istore_n_2 (by decide +kernel)
theorem dX2_lastMinute_4 : decode cX2_lastMinute 4 = .ok (.iload_n 2, 1) := of_0 ok_iload_n_2 (by decide +kernel)
theorem dX2_lastMinute_5 : decode cX2_lastMinute 5 = .ok (.aload_n 0, 1) := of_0 ok_aload_n_0 (by decide +kernel)
theorem dX2_lastMinute_6 : decode cX2_lastMinute 6 = .ok (.getfield 21, 3) := of_u2 ok_getfield 0 21 (by decide +kernel)
theorem dX2_lastMinute_9 : decode cX2_lastMinute 9 = .ok (.if_icmp .ge 20, 3) := of_s2 ok_if_icmp_ge 0 20 (by decide +kernel)
theorem dX2_lastMinute_12 : decode cX2_lastMinute 12 = .ok (.iload_n 1, 1) := of_0 ok_iload_n_1 (by decide +kernel)
theorem dX2_lastMinute_13 : decode cX2_lastMinute 13 = .ok (.aload_n 0, 1) := of_0 ok_aload_n_0 (by decide +kernel)
theorem dX2_lastMinute_14 : decode cX2_lastMinute 14 = .ok (.getfield 9, 3) := of_u2 ok_getfield 0 9 (by decide +kernel)
theorem dX2_lastMinute_17 : decode cX2_lastMinute 17 = .ok (.iload_n 2, 1) := of_0 ok_iload_n_2 (by decide +kernel)
theorem dX2_lastMinute_18 : decode cX2_lastMinute 18 = .ok (.iaload, 1) := of_0 ok_iaload (by decide +kernel)
theorem dX2_lastMinute_19 : decode cX2_lastMinute 19 = .ok (.invokestatic 31, 3) := of_u2 ok_invokestatic 0 31 (by decide +kernel)
theorem dX2_lastMinute_22 : decode cX2_lastMinute 22 = .ok (.istore_n 1, 1) := of_0 ok_istore_n_1 (by decide +kernel)
theorem dX2_lastMinute_23 : decode cX2_lastMinute 23 = .ok (.iinc 2 1, 3) := of_ii ok_iinc 1 (by decide +kernel)
theorem dX2_lastMinute_26 : decode cX2_lastMinute 26 = .ok (.goto (-22), 3) := of_s2 ok_goto 255 234 (by decide +kernel)
theorem dX2_lastMinute_29 : decode cX2_lastMinute 29 = .ok (.iload_n 1, 1) := of_0 ok_iload_n_1 (by decide +kernel)
theorem dX2_lastMinute_30 : decode cX2_lastMinute 30 = .ok (.ireturn, 1) := of_0 ok_ireturn (by decide +kernel)
theorem dX3_passMinute_0 : decode cX3_passMinute 0 = .ok (.iconst 0, 1) := of_0 ok_iconst_0 (by decide +kernel)
theorem dX3_passMinute_1 : decode cX3_passMinute 1 = .ok (.istore_n 2, 1) := of_0 ok_istore_n_2 (by decide +kernel)
theorem dX3_passMinute_2 : decode cX3_passMinute 2 = .ok (.iload_n 2, 1) := of_0 ok_iload_n_2 (by decide +kernel)
theorem dX3_passMinute_3 : decode cX3_passMinute 3 = .ok (.aload_n 0, 1) := of_0 ok_aload_n_0 (by decide +kernel)
theorem dX3_passMinute_4 : decode cX3_passMinute 4 = .ok (.getfield 22, 3) := of_u2 ok_getfield 0 22 (by decide +kernel)
theorem dX3_passMinute_7 : decode cX3_passMinute 7 = .ok (.if_icmp .ge 67, 3) := of_s2 ok_if_icmp_ge 0 67 (by decide +kernel)
theorem dX3_passMinute_10 : decode cX3_passMinute 10 = .ok (.aload_n 0, 1) := of_0 ok_aload_n_0 (by decide +kernel)
theorem dX3_passMinute_11 : decode cX3_passMinute 11 = .ok (.getfield 59, 3) := of_u2 ok_getfield 0 59 (by decide +kernel)
theorem dX3_passMinute_14 : decode cX3_passMinute 14 = .ok (.iload_n 2, 1) := of_0 ok_iload_n_2 (by decide +kernel)
theorem dX3_passMinute_15 : decode cX3_passMinute 15 = .ok (.ishr, 1) := of_0 ok_ishr (by decide +kernel)
theorem dX3_passMinute_16 : decode cX3_passMinute 16 = .ok (.iconst 1, 1) := of_0 ok_iconst_1 (by decide +kernel)
theorem dX3_passMinute_17 : decode cX3_passMinute 17 = .ok (.iand, 1) := of_0 ok_iand (by decide +kernel)
theorem dX3_passMinute_18 : decode cX3_passMinute 18 = .ok (.ifCond .eq 27, 3) := of_s2 ok_ifCond_eq 0 27 (by decide +kernel)
theorem dX3_passMinute_21 : decode cX3_passMinute 21 = .ok (.aload_n 0, 1) := of_0 ok_aload_n_0 (by decide +kernel)
theorem dX3_passMinute_22 : decode cX3_passMinute 22 = .ok (.iload_n 2, 1) := of_0 ok_iload_n_2 (by decide +kernel)
theorem dX3_passMinute_23 : decode cX3_passMinute 23 = .ok (.aload_n 0, 1) := of_0 ok_aload_n_0 (by decide +kernel)
theorem dX3_passMinute_24 : decode cX3_passMinute 24 = .ok (.getfield 62, 3) := of_u2 ok_getfield 0 62 (by decide +kernel)
theorem dX3_passMinute_27 : decode cX3_passMinute 27 = .ok (.iload_n 2, 1) := of_0 ok_iload_n_2 (by decide +kernel)
theorem dX3_passMinute_28 : decode cX3_passMinute 28 = .ok (.ishr, 1) := of_0 ok_ishr (by decide +kernel)
theorem dX3_passMinute_29 : decode cX3_passMinute 29 = .ok (.iconst 1, 1) := of_0 ok_iconst_1 (by decide +kernel)
theorem dX3_passMinute_30 : decode cX3_passMinute 30 = .ok (.iand, 1) := of_0 ok_iand (by decide +kernel)
theorem dX3_passMinute_31 : decode cX3_passMinute 31 = .ok (.ifCond .eq 7, 3) := of_s2 ok_ifCond_eq 0 7 (by decide +kernel)
theorem dX3_passMinute_34 : decode cX3_passMinute 34 = .ok (.iconst 1, 1) := of_0 ok_iconst_1 (by decide +kernel)
theorem dX3_passMinute_35 : decode cX3_passMinute 35 = .ok (.goto 4, 3) := of_s2 ok_goto 0 4 (by decide +kernel)
theorem dX3_passMinute_38 : decode cX3_passMinute 38 = .ok (.iconst 0, 1) := of_0 ok_iconst_0 (by decide +kernel)
theorem dX3_passMinute_39 : decode cX3_passMinute 39 = .ok (.invokevirtual 98, 3) := of_u2 ok_invokevirtual 0 98 (by decide +kernel)
theorem dX3_passMinute_42 : decode cX3_passMinute 42 = .ok (.goto 26, 3) := of_s2 ok_goto 0 26 (by decide +kernel)
theorem dX3_passMinute_45 : decode cX3_passMinute 45 = .ok (.aload_n 1, 1) := of_0 ok_aload_n_1 (by decide +kernel)
theorem dX3_passMinute_46 : decode cX3_passMinute 46 = .ok (.ifnull 22, 3) := of_s2 ok_ifnull 0 22 (by decide +kernel)
theorem dX3_passMinute_49 : decode cX3_passMinute 49 = .ok (.aload_n 0, 1) := of_0 ok_aload_n_0 (by decide +kernel)
theorem dX3_passMinute_50 : decode cX3_passMinute 50 = .ok (.iload_n 2, 1) := of_0 ok_iload_n_2 (by decide +kernel)
theorem dX3_passMinute_51 : decode cX3_passMinute 51 = .ok (.invokevirtual 85, 3) := of_u2 ok_invokevirtual 0 85 (by decide +kernel)
theorem dX3_passMinute_54 : decode cX3_passMinute 54 = .ok (.ifCond .eq 14, 3) := of_s2 ok_ifCond_eq 0 14 (by decide +kernel)
theorem dX3_passMinute_57 : decode cX3_passMinute 57 = .ok (.aload_n 0, 1) := of_0 ok_aload_n_0 (by decide +kernel)
theorem dX3_passMinute_58 : decode cX3_passMinute 58 = .ok (.iload_n 2, 1) := of_0 ok_iload_n_2 (by decide +kernel)
theorem dX3_passMinute_59 : decode cX3_passMinute 59 = .ok (.aload_n 1, 1) := of_0 ok_aload_n_1 (by decide +kernel)
theorem dX3_passMinute_60 : decode cX3_passMinute 60 = .ok (.iload_n 2, 1) := of_0 ok_iload_n_2 (by decide +kernel)
theorem dX3_passMinute_61 : decode cX3_passMinute 61 = .ok (.aload_n 0, 1) := of_0 ok_aload_n_0 (by decide +kernel)
theorem dX3_passMinute_62 : decode cX3_passMinute 62 = .ok (.invokevirtual 102, 3) := of_u2 ok_invokevirtual 0 102 (by decide +kernel)
theorem dX3_passMinute_65 : decode cX3_passMinute 65 = .ok (.invokevirtual 98, 3) := of_u2 ok_invokevirtual 0 98 (by decide +kernel)
theorem dX3_passMinute_68 : decode cX3_passMinute 68 = .ok (.iinc 2 1, 3) := of_ii ok_iinc 1 (by decide +kernel)
theorem dX3_passMinute_71 : decode cX3_passMinute 71 = .ok (.goto (-69), 3) := of_s2 ok_goto 255 187 (by decide +kernel)
theorem dX3_passMinute_74 : decode cX3_passMinute 74 = .ok (.aload_n 0, 1) := of_0 ok_aload_n_0 (by decide +kernel)
theorem dX3_passMinute_75 : decode cX3_passMinute 75 = .ok (.invokevirtual 108, 3) := of_u2 ok_invokevirtual 0 108 (by decide +kernel)
theorem dX3_passMinute_78 : decode cX3_passMinute 78 = .ok (.istore_n 2, 1) := of_0 ok_istore_n_2 (by decide +kernel)
theorem dX3_passMinute_79 : decode cX3_passMinute 79 = .ok (.aload_n 0, 1) := of_0 ok_aload_n_0 (by decide +kernel)
theorem dX3_passMinute_80 : decode cX3_passMinute 80 = .ok (.dup, 1) := of_0 ok_dup (by decide +kernel)
theorem dX3_passMinute_81 : decode cX3_passMinute 81 = .ok (.getfield 50, 3) := of_u2 ok_getfield 0 50 (by decide +kernel)
theorem dX3_passMinute_84 : decode cX3_passMinute 84 = .ok (.iconst 1, 1) := of_0 ok_iconst_1 (by decide +kernel)
theorem dX3_passMinute_85 : decode cX3_passMinute 85 = .ok (.iadd, 1) := of_0 ok_iadd (by decide +kernel)
theorem dX3_passMinute_86 : decode cX3_passMinute 86 = .ok (.putfield 50, 3) := of_u2 ok_putfield 0 50 (by decide +kernel)
theorem dX3_passMinute_89 : decode cX3_passMinute 89 = .ok (.iload_n 2, 1) := of_0 ok_iload_n_2 (by decide +kernel)
theorem dX3_passMinute_90 : decode cX3_passMinute 90 = .ok (.ireturn, 1) := of_0 ok_ireturn (by decide +kernel)
theorem dX4_add_0 : decode cX4_add 0 = .ok (.aload_n 0, 1) := of_0 ok_aload_n_0 (by decide +kernel)
theorem dX4_add_1 : decode cX4_add 1 = .ok (.getfield 28, 3) := of_u2 ok_getfield 0 28 (by decide +kernel)
theorem dX4_add_4 : decode cX4_add 4 = .ok (.sipush 400, 3) := of_s2 ok_sipush 1 144 (by decide +kernel)
theorem dX4_add_7 : decode cX4_add 7 = .ok (.if_icmp .ge 23, 3) := of_s2 ok_if_icmp_ge 0 23 (by decide +kernel)
theorem dX4_add_10 : decode cX4_add 10 = .ok (.aload_n 0, 1) := of_0 ok_aload_n_0 (by decide +kernel)
theorem dX4_add_11 : decode cX4_add 11 = .ok (.getfield 9, 3) := of_u2 ok_getfield 0 9 (by decide +kernel)
theorem dX4_add_14 : decode cX4_add 14 = .ok (.aload_n 0, 1) := of_0 ok_aload_n_0 (by decide +kernel)
theorem dX4_add_15 : decode cX4_add 15 = .ok (.getfield 28, 3) := of_u2 ok_getfield 0 28 (by decide +kernel)
theorem dX4_add_18 : decode cX4_add 18 = .ok (.iload_n 1, 1) := of_0 ok_iload_n_1 (by decide +kernel)
theorem dX4_add_19 : decode cX4_add 19 = .ok (.iastore, 1) := of_0 ok_iastore (by decide +kernel)
theorem dX4_add_20 : decode cX4_add 20 = .ok (.aload_n 0, 1) := of_0 ok_aload_n_0 (by decide +kernel)
theorem dX4_add_21 : decode cX4_add 21 = .ok (.dup, 1) := of_0 ok_dup (by decide +kernel)
theorem dX4_add_22 : decode cX4_add 22 = .ok (.getfield 28, 3) := of_u2 ok_getfield 0 28 (by decide +kernel)
theorem dX4_add_25 : decode cX4_add 25 = .ok (.iconst 1, 1) := of_0 ok_iconst_1 (by decide +kernel)
theorem dX4_add_26 : decode cX4_add 26 = .ok (.iadd, 1) := of_0 ok_iadd (by decide +kernel)
theorem dX4_add_27 : decode cX4_add 27 = .ok (.putfield 28, 3) := of_u2 ok_putfield 0 28 (by decide +kernel)
theorem dX4_add_30 : decode cX4_add 30 = .ok (.return_, 1) := of_0 ok_return_ (by decide +kernel)
theorem dX4_clear_0 : decode cX4_clear 0 = .ok (.aload_n 0, 1) := of_0 ok_aload_n_0 (by decide +kernel)
theorem dX4_clear_1 : decode cX4_clear 1 = .ok (.iconst 0, 1) := of_0 ok_iconst_0 (by decide +kernel)
theorem dX4_clear_2 : decode cX4_clear 2 = .ok (.putfield 28, 3) := of_u2 ok_putfield 0 28 (by decide +kernel)
theorem dX4_clear_5 : decode cX4_clear 5 = .ok (.aload_n 0, 1) := of_0 ok_aload_n_0 (by decide +kernel)
theorem dX4_clear_6 : decode cX4_clear 6 = .ok (.iconst 0, 1) := of_0 ok_iconst_0 (by decide +kernel)
theorem dX4_clear_7 : decode cX4_clear 7 = .ok (.putfield 32, 3) := of_u2 ok_putfield 0 32 (by decide +kernel)
theorem dX4_clear_10 : decode cX4_clear 10 = .ok (.aload_n 0, 1) := of_0 ok_aload_n_0 (by decide +kernel)
theorem dX4_clear_11 : decode cX4_clear 11 = .ok (.iconst 0, 1) := of_0 ok_iconst_0 (by decide +kernel)
theorem dX4_clear_12 : decode cX4_clear 12 = .ok (.putfield 35, 3) := of_u2 ok_putfield 0 35 (by decide +kernel)
theorem dX4_clear_15 : decode cX4_clear 15 = .ok (.return_, 1) := of_0 ok_return_ (by decide +kernel)
theorem dX4_closeClause_0 : decode cX4_closeClause 0 = .ok (.aload_n 0, 1) := of_0 ok_aload_n_0 (by decide +kernel)
theorem dX4_closeClause_1 : decode cX4_closeClause 1 = .ok (.getfield 32, 3) := of_u2 ok_getfield 0 32 (by decide +kernel)
theorem dX4_closeClause_4 : decode cX4_closeClause 4 = .ok (.bipush 12, 2) := of_s1 ok_bipush 12 (by decide +kernel)
theorem dX4_closeClause_6 : decode cX4_closeClause 6 = .ok (.if_icmp .ge 46, 3) := of_s2 ok_if_icmp_ge 0 46 (by decide +kernel)
theorem dX4_closeClause_9 : decode cX4_closeClause 9 = .ok (.aload_n 0, 1) := of_0 ok_aload_n_0 (by decide +kernel)
theorem dX4_closeClause_10 : decode cX4_closeClause 10 = .ok (.getfield 15, 3) := of_u2 ok_getfield 0 15 (by decide +kernel)
theorem dX4_closeClause_13 : decode cX4_closeClause 13 = .ok (.aload_n 0, 1) := of_0 ok_aload_n_0 (by decide +kernel)
theorem dX4_closeClause_14 : decode cX4_closeClause 14 = .ok (.getfield 32, 3) := of_u2 ok_getfield 0 32 (by decide +kernel)
theorem dX4_closeClause_17 : decode cX4_closeClause 17 = .ok (.iload_n 1, 1) := of_0 ok_iload_n_1 (by decide +kernel)
theorem dX4_closeClause_18 : decode cX4_closeClause 18 = .ok (.iastore, 1) := of_0 ok_iastore (by decide +kernel)
theorem dX4_closeClause_19 : decode cX4_closeClause 19 = .ok (.aload_n 0, 1) := of_0 ok_aload_n_0 (by decide +kernel)
theorem dX4_closeClause_20 : decode cX4_closeClause 20 = .ok (.getfield 18, 3) := of_u2 ok_getfield 0 18 (by decide +kernel)
theorem dX4_closeClause_23 : decode cX4_closeClause 23 = .ok (.aload_n 0, 1) := of_0 ok_aload_n_0 (by decide +kernel)
theorem dX4_closeClause_24 : decode cX4_closeClause 24 = .ok (.getfield 32, 3) := of_u2 ok_getfield 0 32 (by decide +kernel)
theorem dX4_closeClause_27 : decode cX4_closeClause 27 = .ok (.iload_n 2, 1) := of_0 ok_iload_n_2 (by decide +kernel)
theorem dX4_closeClause_28 : decode cX4_closeClause 28 = .ok (.iastore, 1) := of_0 ok_iastore (by decide +kernel)
theorem dX4_closeClause_29 : decode cX4_closeClause 29 = .ok (.aload_n 0, 1) := of_0 ok_aload_n_0 (by decide +kernel)
theorem dX4_closeClause_30 : decode cX4_closeClause 30 = .ok (.getfield 21, 3) := of_u2 ok_getfield 0 21 (by decide +kernel)
theorem dX4_closeClause_33 : decode cX4_closeClause 33 = .ok (.aload_n 0, 1) := of_0 ok_aload_n_0 (by decide +kernel)
theorem dX4_closeClause_34 : decode cX4_closeClause 34 = .ok (.getfield 32, 3) := of_u2 ok_getfield 0 32 (by decide +kernel)
theorem dX4_closeClause_37 : decode cX4_closeClause 37 = .ok (.aload_n 0, 1) := of_0 ok_aload_n_0 (by decide +kernel)
theorem dX4_closeClause_38 : decode cX4_closeClause 38 = .ok (.getfield 28, 3) := of_u2 ok_getfield 0 28 (by decide +kernel)
theorem dX4_closeClause_41 : decode cX4_closeClause 41 = .ok (.iastore, 1) := of_0 ok_iastore (by decide +kernel)
theorem dX4_closeClause_42 : decode cX4_closeClause 42 = .ok (.aload_n 0, 1) := of_0 ok_aload_n_0 (by decide +kernel)
theorem dX4_closeClause_43 : decode cX4_closeClause 43 = .ok (.dup, 1) := of_0 ok_dup (by decide +kernel)
theorem dX4_closeClause_44 : decode cX4_closeClause 44 = .ok (.getfield 32, 3) := of_u2 ok_getfield 0 32 (by decide +kernel)
theorem dX4_closeClause_47 : decode cX4_closeClause 47 = .ok (.iconst 1, 1) := of_0 ok_iconst_1 (by decide +kernel)
theorem dX4_closeClause_48 : decode cX4_closeClause 48 = .ok (.iadd, 1) := of_0 ok_iadd (by decide +kernel)
theorem dX4_closeClause_49 : decode cX4_closeClause 49 = .ok (.putfield 32, 3) := of_u2 ok_putfield 0 32 (by decide +kernel)
theorem dX4_closeClause_52 : decode cX4_closeClause 52 = .ok (.return_, 1) := of_0 ok_return_ (by decide +kernel)
theorem dX4_combine_0 : decode cX4_combine 0 = .ok (.iload_n 0, 1) := of_0 ok_iload_n_0 (by decide +kernel)
theorem dX4_combine_1 : decode cX4_combine 1 = .ok (.lookupswitch 215 #[(37, 133), (42, 115), (43, 107), (45, 111), (47, 119), (60, 147), (61, 171), (62, 195), (256, 159), (257, 183), (275, 211), (276, 207)], 107) := by decide +kernel
theorem dX4_combine_108 : decode cX4_combine 108 = .ok (.lload_n 1, 1) := of_0 ok_lload_n_1 (by decide +kernel)
theorem dX4_combine_109 : decode cX4_combine 109 = .ok (.lload_n 3, 1) := of_0 ok_lload_n_3 (by decide +kernel)
theorem dX4_combine_110 : decode cX4_combine 110 = .ok (.ladd, 1) := of_0 ok_ladd (by decide +kernel)
theorem dX4_combine_111 : decode cX4_combine 111 = .ok (.lreturn, 1) := of_0 ok_lreturn (by decide +kernel)
theorem dX4_combine_112 : decode cX4_combine 112 = .ok (.lload_n 1, 1) := of_0 ok_lload_n_1 (by decide +kernel)
theorem dX4_combine_113 : decode cX4_combine 113 = .ok (.lload_n 3, 1) := of_0 ok_lload_n_3 (by decide +kernel)
theorem dX4_combine_114 : decode cX4_combine 114 = .ok (.lsub, 1) := of_0 ok_lsub (by decide +kernel)
theorem dX4_combine_115 : decode cX4_combine 115 = .ok (.lreturn, 1) := of_0 ok_lreturn (by decide +kernel)
theorem dX4_combine_116 : decode cX4_combine 116 = .ok (.lload_n 1, 1) := of_0 ok_lload_n_1 (by decide +kernel)
theorem dX4_combine_117 : decode cX4_combine 117 = .ok (.lload_n 3, 1) := of_0 ok_lload_n_3 (by decide +kernel)
theorem dX4_combine_118 : decode cX4_combine 118 = .ok (.lmul, 1) := of_0 ok_lmul (by decide +kernel)
theorem dX4_combine_119 : decode cX4_combine 119 = .ok (.lreturn, 1) := of_0 ok_lreturn (by decide +kernel)
theorem dX4_combine_120 : decode cX4_combine 120 = .ok (.lload_n 3, 1) := of_0 ok_lload_n_3 (by decide +kernel)
theorem dX4_combine_121 : decode cX4_combine 121 = .ok (.lconst 0, 1) := of_0 ok_lconst_0 (by decide +kernel)
theorem dX4_combine_122 : decode cX4_combine 122 = .ok (.lcmp, 1) := of_0 ok_lcmp (by decide +kernel)
theorem dX4_combine_123 : decode cX4_combine 123 = .ok (.ifCond .ne 7, 3) := of_s2 ok_ifCond_ne 0 7 (by decide +kernel)
theorem dX4_combine_126 : decode cX4_combine 126 = .ok (.lconst 0, 1) := of_0 ok_lconst_0 (by decide +kernel)
theorem dX4_combine_127 : decode cX4_combine 127 = .ok (.goto 6, 3) := of_s2 ok_goto 0 6 (by decide +kernel)
theorem dX4_combine_130 : decode cX4_combine 130 = .ok (.lload_n 1, 1) := of_0 ok_lload_n_1 (by decide +kernel)
theorem dX4_combine_131 : decode cX4_combine 131 = .ok (.lload_n 3, 1) := of_0 ok_lload_n_3 (by decide +kernel)
theorem dX4_combine_132 : decode cX4_combine 132 = .ok (.ldiv, 1) := of_0 ok_ldiv (by decide +kernel)
theorem dX4_combine_133 : decode cX4_combine 133 = .ok (.lreturn, 1) := of_0 ok_lreturn (by decide +kernel)
theorem dX4_combine_134 : decode cX4_combine 134 = .ok (.lload_n 3, 1) := of_0 ok_lload_n_3 (by decide +kernel)
theorem dX4_combine_135 : decode cX4_combine 135 = .ok (.lconst 0, 1) := of_0 ok_lconst_0 (by decide +kernel)
theorem dX4_combine_136 : decode cX4_combine 136 = .ok (.lcmp, 1) := of_0 ok_lcmp (by decide +kernel)
theorem dX4_combine_137 : decode cX4_combine 137 = .ok (.ifCond .ne 7, 3) := of_s2 ok_ifCond_ne 0 7 (by decide +kernel)
theorem dX4_combine_140 : decode cX4_combine 140 = .ok (.lconst 0, 1) := of_0 ok_lconst_0 (by decide +kernel)
theorem dX4_combine_141 : decode cX4_combine 141 = .ok (.goto 6, 3) := of_s2 ok_goto 0 6 (by decide +kernel)
theorem dX4_combine_144 : decode cX4_combine 144 = .ok (.lload_n 1, 1) := of_0 ok_lload_n_1 (by decide +kernel)
theorem dX4_combine_145 : decode cX4_combine 145 = .ok (.lload_n 3, 1) := of_0 ok_lload_n_3 (by decide +kernel)
theorem dX4_combine_146 : decode cX4_combine 146 = .ok (.lrem, 1) := of_0 ok_lrem (by decide +kernel)
theorem dX4_combine_147 : decode cX4_combine 147 = .ok (.lreturn, 1) := of_0 ok_lreturn (by decide +kernel)
theorem dX4_combine_148 : decode cX4_combine 148 = .ok (.lload_n 1, 1) := of_0 ok_lload_n_1 (by decide +kernel)
theorem dX4_combine_149 : decode cX4_combine 149 = .ok (.lload_n 3, 1) := of_0 ok_lload_n_3 (by decide +kernel)
theorem dX4_combine_150 : decode cX4_combine 150 = .ok (.lcmp, 1) := of_0 ok_lcmp (by decide +kernel)
theorem dX4_combine_151 : decode cX4_combine 151 = .ok (.ifCond .ge 7, 3) := of_s2 ok_ifCond_ge 0 7 (by decide +kernel)
theorem dX4_combine_154 : decode cX4_combine 154 = .ok (.lconst 1, 1) := of_0 ok_lconst_1 (by decide +kernel)
theorem dX4_combine_155 : decode cX4_combine 155 = .ok (.goto 4, 3) := of_s2 ok_goto 0 4 (by decide +kernel)
theorem dX4_combine_158 : decode cX4_combine 158 = .ok (.lconst 0, 1) := of_0 ok_lconst_0 (by decide +kernel)
theorem dX4_combine_159 : decode cX4_combine 159 = .ok (.lreturn, 1) := of_0 ok_lreturn (by decide +kernel)
theorem dX4_combine_160 : decode cX4_combine 160 = .ok (.lload_n 1, 1) := of_0 ok_lload_n_1 (by decide +kernel)
theorem dX4_combine_161 : decode cX4_combine 161 = .ok (.lload_n 3, 1) := of_0 ok_lload_n_3 (by decide +kernel)
theorem dX4_combine_162 : decode cX4_combine 162 = .ok (.lcmp, 1) := of_0 ok_lcmp (by decide +kernel)
theorem dX4_combine_163 : decode cX4_combine 163 = .ok (.ifCond .gt 7, 3) := of_s2 ok_ifCond_gt 0 7 (by decide +kernel)
theorem dX4_combine_166 : decode cX4_combine 166 = .ok (.lconst 1, 1) := of_0 ok_lconst_1 (by decide +kernel)
theorem dX4_combine_167 : decode cX4_combine 167 = .ok (.goto 4, 3) := of_s2 ok_goto 0 4 (by decide +kernel)
theorem dX4_combine_170 : decode cX4_combine 170 = .ok (.lconst 0, 1) := of_0 ok_lconst_0 (by decide +kernel)
theorem dX4_combine_171 : decode cX4_combine 171 = .ok (.lreturn, 1) := of_0 ok_lreturn (by decide +kernel)
theorem dX4_combine_172 : decode cX4_combine 172 = .ok (.lload_n 1, 1) := of_0 ok_lload_n_1 (by decide +kernel)
theorem dX4_combine_173 : decode cX4_combine 173 = .ok (.lload_n 3, 1) := of_0 ok_lload_n_3 (by decide +kernel)
theorem dX4_combine_174 : decode cX4_combine 174 = .ok (.lcmp, 1) := of_0 ok_lcmp (by decide +kernel)
theorem dX4_combine_175 : decode cX4_combine 175 = .ok (.ifCond .ne 7, 3) := of_s2 ok_ifCond_ne 0 7 (by decide +kernel)
theorem dX4_combine_178 : decode cX4_combine 178 = .ok (.lconst 1, 1) := of_0 ok_lconst_1 (by decide +kernel)
theorem dX4_combine_179 : decode cX4_combine 179 = .ok (.goto 4, 3) := of_s2 ok_goto 0 4 (by decide +kernel)
theorem dX4_combine_182 : decode cX4_combine 182 = .ok (.lconst 0, 1) := of_0 ok_lconst_0 (by decide +kernel)
theorem dX4_combine_183 : decode cX4_combine 183 = .ok (.lreturn, 1) := of_0 ok_lreturn (by decide +kernel)
theorem dX4_combine_184 : decode cX4_combine 184 = .ok (.lload_n 1, 1) := of_0 ok_lload_n_1 (by decide +kernel)
theorem dX4_combine_185 : decode cX4_combine 185 = .ok (.lload_n 3, 1) := of_0 ok_lload_n_3 (by decide +kernel)
theorem dX4_combine_186 : decode cX4_combine 186 = .ok (.lcmp, 1) := of_0 ok_lcmp (by decide +kernel)
theorem dX4_combine_187 : decode cX4_combine 187 = .ok (.ifCond .lt 7, 3) := of_s2 ok_ifCond_lt 0 7 (by decide +kernel)
theorem dX4_combine_190 : decode cX4_combine 190 = .ok (.lconst 1, 1) := of_0 ok_lconst_1 (by decide +kernel)
theorem dX4_combine_191 : decode cX4_combine 191 = .ok (.goto 4, 3) := of_s2 ok_goto 0 4 (by decide +kernel)
theorem dX4_combine_194 : decode cX4_combine 194 = .ok (.lconst 0, 1) := of_0 ok_lconst_0 (by decide +kernel)
theorem dX4_combine_195 : decode cX4_combine 195 = .ok (.lreturn, 1) := of_0 ok_lreturn (by decide +kernel)
theorem dX4_combine_196 : decode cX4_combine 196 = .ok (.lload_n 1, 1) := of_0 ok_lload_n_1 (by decide +kernel)
theorem dX4_combine_197 : decode cX4_combine 197 = .ok (.lload_n 3, 1) := of_0 ok_lload_n_3 (by decide +kernel)
theorem dX4_combine_198 : decode cX4_combine 198 = .ok (.lcmp, 1) := of_0 ok_lcmp (by decide +kernel)
theorem dX4_combine_199 : decode cX4_combine 199 = .ok (.ifCond .le 7, 3) := of_s2 ok_ifCond_le 0 7 (by decide +kernel)
theorem dX4_combine_202 : decode cX4_combine 202 = .ok (.lconst 1, 1) := of_0 ok_lconst_1 (by decide +kernel)
theorem dX4_combine_203 : decode cX4_combine 203 = .ok (.goto 4, 3) := of_s2 ok_goto 0 4 (by decide +kernel)
theorem dX4_combine_206 : decode cX4_combine 206 = .ok (.lconst 0, 1) := of_0 ok_lconst_0 (by decide +kernel)
theorem dX4_combine_207 : decode cX4_combine 207 = .ok (.lreturn, 1) := of_0 ok_lreturn (by decide +kernel)
theorem dX4_combine_208 : decode cX4_combine 208 = .ok (.lload_n 1, 1) := of_0 ok_lload_n_1 (by decide +kernel)
theorem dX4_combine_209 : decode cX4_combine 209 = .ok (.lload_n 3, 1) := of_0 ok_lload_n_3 (by decide +kernel)
theorem dX4_combine_210 : decode cX4_combine 210 = .ok (.land, 1) := of_0 ok_land (by decide +kernel)
theorem dX4_combine_211 : decode cX4_combine 211 = .ok (.lreturn, 1) := of_0 ok_lreturn (by decide +kernel)
theorem dX4_combine_212 : decode cX4_combine 212 = .ok (.lload_n 1, 1) := of_0 ok_lload_n_1 (by decide +kernel)
theorem dX4_combine_213 : decode cX4_combine 213 = .ok (.lload_n 3, 1) := of_0 ok_lload_n_3 (by decide +kernel)
theorem dX4_combine_214 : decode cX4_combine 214 = .ok (.lor, 1) := of_0 ok_lor (by decide +kernel)
theorem dX4_combine_215 : decode cX4_combine 215 = .ok (.lreturn, 1) := of_0 ok_lreturn (by decide +kernel)
theorem dX4_combine_216 : decode cX4_combine 216 = .ok (.lconst 0, 1) := of_0 ok_lconst_0 (by decide +kernel)
theorem dX4_combine_217 : decode cX4_combine 217 = .ok (.lreturn, 1) := of_0 ok_lreturn (by decide +kernel)
theorem dX4_reckon_0 : decode cX4_reckon 0 = .ok (.iconst 0, 1) := of_0 ok_iconst_0 (by decide +kernel)
theorem dX4_reckon_1 : decode cX4_reckon 1 = .ok (.istore 5, 2) := of_u1 ok_istore (by decide +kernel)
theorem dX4_reckon_3 : decode cX4_reckon 3 = .ok (.iload_n 1, 1) := of_0 ok_iload_n_1 (by decide +kernel)
theorem dX4_reckon_4 : decode cX4_reckon 4 = .ok (.istore 6, 2) := of_u1 ok_istore (by decide +kernel)
theorem dX4_reckon_6 : decode cX4_reckon 6 = .ok (.iload 6, 2) := of_u1 ok_iload (by decide +kernel)
theorem dX4_reckon_8 : decode cX4_reckon 8 = .ok (.iload_n 2, 1) := of_0 ok_iload_n_2 (by decide +kernel)
theorem dX4_reckon_9 : decode cX4_reckon 9 = .ok (.if_icmp .ge 182, 3) := of_s2 ok_if_icmp_ge 0 182 (by decide +kernel)
theorem dX4_reckon_12 : decode cX4_reckon 12 = .ok (.iload 6, 2) := of_u1 ok_iload (by decide +kernel)
theorem dX4_reckon_14 : decode cX4_reckon 14 = .ok (.aload_n 0, 1) := of_0 ok_aload_n_0 (by decide +kernel)
theorem dX4_reckon_15 : decode cX4_reckon 15 = .ok (.getfield 28, 3) := of_u2 ok_getfield 0 28 (by decide +kernel)
theorem dX4_reckon_18 : decode cX4_reckon 18 = .ok (.if_icmp .ge 173, 3) := of_s2 ok_if_icmp_ge 0 173 (by decide +kernel)
theorem dX4_reckon_21 : decode cX4_reckon 21 = .ok (.aload_n 0, 1) := of_0 ok_aload_n_0 (by decide +kernel)
theorem dX4_reckon_22 : decode cX4_reckon 22 = .ok (.getfield 9, 3) := of_u2 ok_getfield 0 9 (by decide +kernel)
theorem dX4_reckon_25 : decode cX4_reckon 25 = .ok (.iload 6, 2) := of_u1 ok_iload (by decide +kernel)
theorem dX4_reckon_27 : decode cX4_reckon 27 = .ok (.iaload, 1) := of_0 ok_iaload (by decide +kernel)
theorem dX4_reckon_28 : decode cX4_reckon 28 = .ok (.istore 7, 2) := of_u1 ok_istore (by decide +kernel)
theorem dX4_reckon_30 : decode cX4_reckon 30 = .ok (.iload 7, 2) := of_u1 ok_iload (by decide +kernel)
theorem dX4_reckon_32 : decode cX4_reckon 32 = .ok (.sipush 1000, 3) := of_s2 ok_sipush 3 232 (by decide +kernel)
theorem dX4_reckon_35 : decode cX4_reckon 35 = .ok (.if_icmp .lt 7, 3) := of_s2 ok_if_icmp_lt 0 7 (by decide +kernel)
theorem dX4_reckon_38 : decode cX4_reckon 38 = .ok (.iconst 1, 1) := of_0 ok_iconst_1 (by decide +kernel)
theorem dX4_reckon_39 : decode cX4_reckon 39 = .ok (.goto 4, 3) := of_s2 ok_goto 0 4 (by decide +kernel)
theorem dX4_reckon_42 : decode cX4_reckon 42 = .ok (.iconst 0, 1) := of_0 ok_iconst_0 (by decide +kernel)
theorem dX4_reckon_43 : decode cX4_reckon 43 = .ok (.istore 8, 2) := of_u1 ok_istore (by decide +kernel)
theorem dX4_reckon_45 : decode cX4_reckon 45 = .ok (.iload 8, 2) := of_u1 ok_iload (by decide +kernel)
theorem dX4_reckon_47 : decode cX4_reckon 47 = .ok (.ifCond .ne 19, 3) := of_s2 ok_ifCond_ne 0 19 (by decide +kernel)
theorem dX4_reckon_50 : decode cX4_reckon 50 = .ok (.iload 7, 2) := of_u1 ok_iload (by decide +kernel)
theorem dX4_reckon_52 : decode cX4_reckon 52 = .ok (.sipush 260, 3) := of_s2 ok_sipush 1 4 (by decide +kernel)
theorem dX4_reckon_55 : decode cX4_reckon 55 = .ok (.if_icmp .lt 55, 3) := of_s2 ok_if_icmp_lt 0 55 (by decide +kernel)
theorem dX4_reckon_58 : decode cX4_reckon 58 = .ok (.iload 7, 2) := of_u1 ok_iload (by decide +kernel)
theorem dX4_reckon_60 : decode cX4_reckon 60 = .ok (.sipush 270, 3) := of_s2 ok_sipush 1 14 (by decide +kernel)
theorem dX4_reckon_63 : decode cX4_reckon 63 = .ok (.if_icmp .gt 47, 3) := of_s2 ok_if_icmp_gt 0 47 (by decide +kernel)
theorem dX4_reckon_66 : decode cX4_reckon 66 = .ok (.iload 5, 2) := of_u1 ok_iload (by decide +kernel)
theorem dX4_reckon_68 : decode cX4_reckon 68 = .ok (.bipush 60, 2) := of_s1 ok_bipush 60 (by decide +kernel)
theorem dX4_reckon_70 : decode cX4_reckon 70 = .ok (.if_icmp .ge 115, 3) := of_s2 ok_if_icmp_ge 0 115 (by decide +kernel)
theorem dX4_reckon_73 : decode cX4_reckon 73 = .ok (.aload_n 0, 1) := of_0 ok_aload_n_0 (by decide +kernel)
theorem dX4_reckon_74 : decode cX4_reckon 74 = .ok (.getfield 24, 3) := of_u2 ok_getfield 0 24 (by decide +kernel)
theorem dX4_reckon_77 : decode cX4_reckon 77 = .ok (.iload 5, 2) := of_u1 ok_iload (by decide +kernel)
theorem dX4_reckon_79 : decode cX4_reckon 79 = .ok (.iload 8, 2) := of_u1 ok_iload (by decide +kernel)
theorem dX4_reckon_81 : decode cX4_reckon 81 = .ok (.ifCond .eq 13, 3) := of_s2 ok_ifCond_eq 0 13 (by decide +kernel)
theorem dX4_reckon_84 : decode cX4_reckon 84 = .ok (.iload 7, 2) := of_u1 ok_iload (by decide +kernel)
theorem dX4_reckon_86 : decode cX4_reckon 86 = .ok (.sipush 1000, 3) := of_s2 ok_sipush 3 232 (by decide +kernel)
theorem dX4_reckon_89 : decode cX4_reckon 89 = .ok (.isub, 1) := of_0 ok_isub (by decide +kernel)
theorem dX4_reckon_90 : decode cX4_reckon 90 = .ok (.i2l, 1) := of_0 ok_i2l (by decide +kernel)
theorem dX4_reckon_91 : decode cX4_reckon 91 = .ok (.goto 12, 3) := of_s2 ok_goto 0 12 (by decide +kernel)
theorem dX4_reckon_94 : decode cX4_reckon 94 = .ok (.aload 4, 2) := of_u1 ok_aload (by decide +kernel)
theorem dX4_reckon_96 : decode cX4_reckon 96 = .ok (.iload 7, 2) := of_u1 ok_iload (by decide +kernel)
theorem dX4_reckon_98 : decode cX4_reckon 98 = .ok (.iload_n 3, 1) := of_0 ok_iload_n_3 (by decide +kernel)
theorem dX4_reckon_99 : decode cX4_reckon 99 = .ok (.invokevirtual 42, 3) := of_u2 ok_invokevirtual 0 42 (by decide +kernel)
theorem dX4_reckon_102 : decode cX4_reckon 102 = .ok (.i2l, 1) := of_0 ok_i2l (by decide +kernel)
theorem dX4_reckon_103 : decode cX4_reckon 103 = .ok (.lastore, 1) := of_0 ok_lastore (by decide +kernel)
theorem dX4_reckon_104 : decode cX4_reckon 104 = .ok (.iinc 5 1, 3) := of_ii ok_iinc 1 (by decide +kernel)
theorem dX4_reckon_107 : decode cX4_reckon 107 = .ok (.goto 78, 3) := of_s2 ok_goto 0 78 (by decide +kernel)
theorem dX4_reckon_110 : decode cX4_reckon 110 = .ok (.iload 7, 2) := of_u1 ok_iload (by decide +kernel)
theorem dX4_reckon_112 : decode cX4_reckon 112 = .ok (.sipush 277, 3) := of_s2 ok_sipush 1 21 (by decide +kernel)
theorem dX4_reckon_115 : decode cX4_reckon 115 = .ok (.if_icmp .ne 31, 3) := of_s2 ok_if_icmp_ne 0 31 (by decide +kernel)
theorem dX4_reckon_118 : decode cX4_reckon 118 = .ok (.iload 5, 2) := of_u1 ok_iload (by decide +kernel)
theorem dX4_reckon_120 : decode cX4_reckon 120 = .ok (.ifCond .le 65, 3) := of_s2 ok_ifCond_le 0 65 (by decide +kernel)
theorem dX4_reckon_123 : decode cX4_reckon 123 = .ok (.aload_n 0, 1) := of_0 ok_aload_n_0 (by decide +kernel)
theorem dX4_reckon_124 : decode cX4_reckon 124 = .ok (.getfield 24, 3) := of_u2 ok_getfield 0 24 (by decide +kernel)
theorem dX4_reckon_127 : decode cX4_reckon 127 = .ok (.iload 5, 2) := of_u1 ok_iload (by decide +kernel)
theorem dX4_reckon_129 : decode cX4_reckon 129 = .ok (.iconst 1, 1) := of_0 ok_iconst_1 (by decide +kernel)
theorem dX4_reckon_130 : decode cX4_reckon 130 = .ok (.isub, 1) := of_0 ok_isub (by decide +kernel)
theorem dX4_reckon_131 : decode cX4_reckon 131 = .ok (.lconst 1, 1) := of_0 ok_lconst_1 (by decide +kernel)
theorem dX4_reckon_132 : decode cX4_reckon 132 = .ok (.aload_n 0, 1) := of_0 ok_aload_n_0 (by decide +kernel)
theorem dX4_reckon_133 : decode cX4_reckon 133 = .ok (.getfield 24, 3) := of_u2 ok_getfield 0 24 (by decide +kernel)
theorem dX4_reckon_136 : decode cX4_reckon 136 = .ok (.iload 5, 2) := of_u1 ok_iload (by decide +kernel)
theorem dX4_reckon_138 : decode cX4_reckon 138 = .ok (.iconst 1, 1) := of_0 ok_iconst_1 (by decide +kernel)
theorem dX4_reckon_139 : decode cX4_reckon 139 = .ok (.isub, 1) := of_0 ok_isub (by decide +kernel)
theorem dX4_reckon_140 : decode cX4_reckon 140 = .ok (.laload, 1) := of_0 ok_laload (by decide +kernel)
theorem dX4_reckon_141 : decode cX4_reckon 141 = .ok (.lsub, 1) := of_0 ok_lsub (by decide +kernel)
theorem dX4_reckon_142 : decode cX4_reckon 142 = .ok (.lastore, 1) := of_0 ok_lastore (by decide +kernel)
theorem dX4_reckon_143 : decode cX4_reckon 143 = .ok (.goto 42, 3) := of_s2 ok_goto 0 42 (by decide +kernel)
theorem dX4_reckon_146 : decode cX4_reckon 146 = .ok (.iload 5, 2) := of_u1 ok_iload (by decide +kernel)
theorem dX4_reckon_148 : decode cX4_reckon 148 = .ok (.iconst 1, 1) := of_0 ok_iconst_1 (by decide +kernel)
theorem dX4_reckon_149 : decode cX4_reckon 149 = .ok (.if_icmp .le 36, 3) := of_s2 ok_if_icmp_le 0 36 (by decide +kernel)
theorem dX4_reckon_152 : decode cX4_reckon 152 = .ok (.iinc 5 (-1), 3) := of_ii ok_iinc 255 (by decide +kernel)
theorem dX4_reckon_155 : decode cX4_reckon 155 = .ok (.aload_n 0, 1) := of_0 ok_aload_n_0 (by decide +kernel)
theorem dX4_reckon_156 : decode cX4_reckon 156 = .ok (.getfield 24, 3) := of_u2 ok_getfield 0 24 (by decide +kernel)
theorem dX4_reckon_159 : decode cX4_reckon 159 = .ok (.iload 5, 2) := of_u1 ok_iload (by decide +kernel)
theorem dX4_reckon_161 : decode cX4_reckon 161 = .ok (.iconst 1, 1) := of_0 ok_iconst_1 (by decide +kernel)
theorem dX4_reckon_162 : decode cX4_reckon 162 = .ok (.isub, 1) := of_0 ok_isub (by decide +kernel)
theorem dX4_reckon_163 : decode cX4_reckon 163 = .ok (.iload 7, 2) := of_u1 ok_iload (by decide +kernel)
theorem dX4_reckon_165 : decode cX4_reckon 165 = .ok (.aload_n 0, 1) := of_0 ok_aload_n_0 (by decide +kernel)
theorem dX4_reckon_166 : decode cX4_reckon 166 = .ok (.getfield 24, 3) := of_u2 ok_getfield 0 24 (by decide +kernel)
theorem dX4_reckon_169 : decode cX4_reckon 169 = .ok (.iload 5, 2) := of_u1 ok_iload (by decide +kernel)
theorem dX4_reckon_171 : decode cX4_reckon 171 = .ok (.iconst 1, 1) := of_0 ok_iconst_1 (by decide +kernel)
theorem dX4_reckon_172 : decode cX4_reckon 172 = .ok (.isub, 1) := of_0 ok_isub (by decide +kernel)
theorem dX4_reckon_173 : decode cX4_reckon 173 = .ok (.laload, 1) := of_0 ok_laload (by decide +kernel)
theorem dX4_reckon_174 : decode cX4_reckon 174 = .ok (.aload_n 0, 1) := of_0 ok_aload_n_0 (by decide +kernel)
theorem dX4_reckon_175 : decode cX4_reckon 175 = .ok (.getfield 24, 3) := of_u2 ok_getfield 0 24 (by decide +kernel)
theorem dX4_reckon_178 : decode cX4_reckon 178 = .ok (.iload 5, 2) := of_u1 ok_iload (by decide +kernel)
theorem dX4_reckon_180 : decode cX4_reckon 180 = .ok (.laload, 1) := of_0 ok_laload (by decide +kernel)
theorem dX4_reckon_181 : decode cX4_reckon 181 = .ok (.invokestatic 48, 3) := of_u2 ok_invokestatic 0 48 (by decide +kernel)
theorem dX4_reckon_184 : decode cX4_reckon 184 = .ok (.lastore, 1) := of_0 ok_lastore (by decide +kernel)
theorem dX4_reckon_185 : decode cX4_reckon 185 = .ok (.iinc 6 1, 3) := of_ii ok_iinc 1 (by decide +kernel)
theorem dX4_reckon_188 : decode cX4_reckon 188 = .ok (.goto (-182), 3) := of_s2 ok_goto 255 74 (by decide +kernel)
theorem dX4_reckon_191 : decode cX4_reckon 191 = .ok (.iload 5, 2) := of_u1 ok_iload (by decide +kernel)
theorem dX4_reckon_193 : decode cX4_reckon 193 = .ok (.ifCond .le 15, 3) := of_s2 ok_ifCond_le 0 15 (by decide +kernel)
theorem dX4_reckon_196 : decode cX4_reckon 196 = .ok (.aload_n 0, 1) := of_0 ok_aload_n_0 (by decide +kernel)
theorem dX4_reckon_197 : decode cX4_reckon 197 = .ok (.getfield 24, 3) := of_u2 ok_getfield 0 24 (by decide +kernel)
theorem dX4_reckon_200 : decode cX4_reckon 200 = .ok (.iload 5, 2) := of_u1 ok_iload (by decide +kernel)
theorem dX4_reckon_202 : decode cX4_reckon 202 = .ok (.iconst 1, 1) := of_0 ok_iconst_1 (by decide +kernel)
theorem dX4_reckon_203 : decode cX4_reckon 203 = .ok (.isub, 1) := of_0 ok_isub (by decide +kernel)
theorem dX4_reckon_204 : decode cX4_reckon 204 = .ok (.laload, 1) := of_0 ok_laload (by decide +kernel)
theorem dX4_reckon_205 : decode cX4_reckon 205 = .ok (.goto 4, 3) := of_s2 ok_goto 0 4 (by decide +kernel)
theorem dX4_reckon_208 : decode cX4_reckon 208 = .ok (.lconst 0, 1) := of_0 ok_lconst_0 (by decide +kernel)
theorem dX4_reckon_209 : decode cX4_reckon 209 = .ok (.lreturn, 1) := of_0 ok_lreturn (by decide +kernel)
theorem dX4_seats_0 : decode cX4_seats 0 = .ok (.iconst 0, 1) := of_0 ok_iconst_0 (by decide +kernel)
theorem dX4_seats_1 : decode cX4_seats 1 = .ok (.istore_n 3, 1) := of_0 ok_istore_n_3 (by decide +kernel)
theorem dX4_seats_2 : decode cX4_seats 2 = .ok (.iload_n 3, 1) := of_0 ok_iload_n_3 (by decide +kernel)
theorem dX4_seats_3 : decode cX4_seats 3 = .ok (.aload_n 0, 1) := of_0 ok_aload_n_0 (by decide +kernel)
theorem dX4_seats_4 : decode cX4_seats 4 = .ok (.getfield 32, 3) := of_u2 ok_getfield 0 32 (by decide +kernel)
theorem dX4_seats_7 : decode cX4_seats 7 = .ok (.if_icmp .ge 88, 3) := of_s2 ok_if_icmp_ge 0 88 (by decide +kernel)
theorem dX4_seats_10 : decode cX4_seats 10 = .ok (.aload_n 0, 1) := of_0 ok_aload_n_0 (by decide +kernel)
theorem dX4_seats_11 : decode cX4_seats 11 = .ok (.getfield 18, 3) := of_u2 ok_getfield 0 18 (by decide +kernel)
theorem dX4_seats_14 : decode cX4_seats 14 = .ok (.iload_n 3, 1) := of_0 ok_iload_n_3 (by decide +kernel)
theorem dX4_seats_15 : decode cX4_seats 15 = .ok (.iaload, 1) := of_0 ok_iaload (by decide +kernel)
theorem dX4_seats_16 : decode cX4_seats 16 = .ok (.aload_n 0, 1) := of_0 ok_aload_n_0 (by decide +kernel)
theorem dX4_seats_17 : decode cX4_seats 17 = .ok (.getfield 21, 3) := of_u2 ok_getfield 0 21 (by decide +kernel)
theorem dX4_seats_20 : decode cX4_seats 20 = .ok (.iload_n 3, 1) := of_0 ok_iload_n_3 (by decide +kernel)
theorem dX4_seats_21 : decode cX4_seats 21 = .ok (.iaload, 1) := of_0 ok_iaload (by decide +kernel)
theorem dX4_seats_22 : decode cX4_seats 22 = .ok (.if_icmp .ge 7, 3) := of_s2 ok_if_icmp_ge 0 7 (by decide +kernel)
theorem dX4_seats_25 : decode cX4_seats 25 = .ok (.iconst 1, 1) := of_0 ok_iconst_1 (by decide +kernel)
theorem dX4_seats_26 : decode cX4_seats 26 = .ok (.goto 4, 3) := of_s2 ok_goto 0 4 (by decide +kernel)
theorem dX4_seats_29 : decode cX4_seats 29 = .ok (.iconst 0, 1) := of_0 ok_iconst_0 (by decide +kernel)
theorem dX4_seats_30 : decode cX4_seats 30 = .ok (.istore 4, 2) := of_u1 ok_istore (by decide +kernel)
theorem dX4_seats_32 : decode cX4_seats 32 = .ok (.iload 4, 2) := of_u1 ok_iload (by decide +kernel)
theorem dX4_seats_34 : decode cX4_seats 34 = .ok (.ifCond .eq 26, 3) := of_s2 ok_ifCond_eq 0 26 (by decide +kernel)
theorem dX4_seats_37 : decode cX4_seats 37 = .ok (.aload_n 0, 1) := of_0 ok_aload_n_0 (by decide +kernel)
theorem dX4_seats_38 : decode cX4_seats 38 = .ok (.aload_n 0, 1) := of_0 ok_aload_n_0 (by decide +kernel)
theorem dX4_seats_39 : decode cX4_seats 39 = .ok (.getfield 18, 3) := of_u2 ok_getfield 0 18 (by decide +kernel)
theorem dX4_seats_42 : decode cX4_seats 42 = .ok (.iload_n 3, 1) := of_0 ok_iload_n_3 (by decide +kernel)
theorem dX4_seats_43 : decode cX4_seats 43 = .ok (.iaload, 1) := of_0 ok_iaload (by decide +kernel)
theorem dX4_seats_44 : decode cX4_seats 44 = .ok (.aload_n 0, 1) := of_0 ok_aload_n_0 (by decide +kernel)
theorem dX4_seats_45 : decode cX4_seats 45 = .ok (.getfield 21, 3) := of_u2 ok_getfield 0 21 (by decide +kernel)
theorem dX4_seats_48 : decode cX4_seats 48 = .ok (.iload_n 3, 1) := of_0 ok_iload_n_3 (by decide +kernel)
theorem dX4_seats_49 : decode cX4_seats 49 = .ok (.iaload, 1) := of_0 ok_iaload (by decide +kernel)
theorem dX4_seats_50 : decode cX4_seats 50 = .ok (.iload_n 1, 1) := of_0 ok_iload_n_1 (by decide +kernel)
theorem dX4_seats_51 : decode cX4_seats 51 = .ok (.aload_n 2, 1) := of_0 ok_aload_n_2 (by decide +kernel)
theorem dX4_seats_52 : decode cX4_seats 52 = .ok (.invokevirtual 38, 3) := of_u2 ok_invokevirtual 0 38 (by decide +kernel)
theorem dX4_seats_55 : decode cX4_seats 55 = .ok (.lconst 0, 1) := of_0 ok_lconst_0 (by decide +kernel)
theorem dX4_seats_56 : decode cX4_seats 56 = .ok (.lcmp, 1) := of_0 ok_lcmp (by decide +kernel)
theorem dX4_seats_57 : decode cX4_seats 57 = .ok (.ifCond .eq 32, 3) := of_s2 ok_ifCond_eq 0 32 (by decide +kernel)
theorem dX4_seats_60 : decode cX4_seats 60 = .ok (.aload_n 0, 1) := of_0 ok_aload_n_0 (by decide +kernel)
theorem dX4_seats_61 : decode cX4_seats 61 = .ok (.aload_n 0, 1) := of_0 ok_aload_n_0 (by decide +kernel)
theorem dX4_seats_62 : decode cX4_seats 62 = .ok (.getfield 15, 3) := of_u2 ok_getfield 0 15 (by decide +kernel)
theorem dX4_seats_65 : decode cX4_seats 65 = .ok (.iload_n 3, 1) := of_0 ok_iload_n_3 (by decide +kernel)
theorem dX4_seats_66 : decode cX4_seats 66 = .ok (.iaload, 1) := of_0 ok_iaload (by decide +kernel)
theorem dX4_seats_67 : decode cX4_seats 67 = .ok (.aload_n 0, 1) := of_0 ok_aload_n_0 (by decide +kernel)
theorem dX4_seats_68 : decode cX4_seats 68 = .ok (.getfield 18, 3) := of_u2 ok_getfield 0 18 (by decide +kernel)
theorem dX4_seats_71 : decode cX4_seats 71 = .ok (.iload_n 3, 1) := of_0 ok_iload_n_3 (by decide +kernel)
theorem dX4_seats_72 : decode cX4_seats 72 = .ok (.iaload, 1) := of_0 ok_iaload (by decide +kernel)
theorem dX4_seats_73 : decode cX4_seats 73 = .ok (.iload_n 1, 1) := of_0 ok_iload_n_1 (by decide +kernel)
theorem dX4_seats_74 : decode cX4_seats 74 = .ok (.aload_n 2, 1) := of_0 ok_aload_n_2 (by decide +kernel)
theorem dX4_seats_75 : decode cX4_seats 75 = .ok (.invokevirtual 38, 3) := of_u2 ok_invokevirtual 0 38 (by decide +kernel)
theorem dX4_seats_78 : decode cX4_seats 78 = .ok (.lconst 0, 1) := of_0 ok_lconst_0 (by decide +kernel)
theorem dX4_seats_79 : decode cX4_seats 79 = .ok (.lcmp, 1) := of_0 ok_lcmp (by decide +kernel)
theorem dX4_seats_80 : decode cX4_seats 80 = .ok (.ifCond .le 7, 3) := of_s2 ok_ifCond_le 0 7 (by decide +kernel)
theorem dX4_seats_83 : decode cX4_seats 83 = .ok (.iconst 1, 1) := of_0 ok_iconst_1 (by decide +kernel)
theorem dX4_seats_84 : decode cX4_seats 84 = .ok (.goto 4, 3) := of_s2 ok_goto 0 4 (by decide +kernel)
theorem dX4_seats_87 : decode cX4_seats 87 = .ok (.iconst 0, 1) := of_0 ok_iconst_0 (by decide +kernel)
theorem dX4_seats_88 : decode cX4_seats 88 = .ok (.ireturn, 1) := of_0 ok_ireturn (by decide +kernel)
theorem dX4_seats_89 : decode cX4_seats 89 = .ok (.iinc 3 1, 3) := of_ii ok_iinc 1 (by decide +kernel)
theorem dX4_seats_92 : decode cX4_seats 92 = .ok (.goto (-90), 3) := of_s2 ok_goto 255 166 (by decide +kernel)
theorem dX4_seats_95 : decode cX4_seats 95 = .ok (.iconst 0, 1) := of_0 ok_iconst_0 (by decide +kernel)
theorem dX4_seats_96 : decode cX4_seats 96 = .ok (.ireturn, 1) := of_0 ok_ireturn (by decide +kernel)
set_option maxRecDepth 20000 in
theorem bq_wsX0_takeBack : subq wsX0_takeBack [wsX0_takeBack_r1, wsX0_takeBack_r2] := ⟨(fun _ h => (List.mem_cons_of_mem _ (List.mem_append_left _ (List.mem_append_left _ (List.mem_append_left _ h))))), (fun _ h => (List.mem_cons_of_mem _ (List.mem_append_left _ (List.mem_append_left _ (List.mem_append_right _ h))))), trivial⟩
set_option maxRecDepth 20000 in
theorem ggX0_takeBack_X3_weigh : GoodIn wsX0_takeBack wsX3_weigh := (goodIn_cons (good_rb bq_wsX0_takeBack ([(0, 13)] : List (Nat × Nat)) rfl (by decide +kernel)) (goodIn_app (good_rb bq_wsX0_takeBack ([(0, 14), (0, 15), (0, 16), (0, 17), (0, 18), (0, 19), (0, 20), (0, 21), (0, 22), (0, 23), (1, 0), (1, 1), (1, 2), (0, 12), (1, 3), (1, 4)] : List (Nat × Nat)) rfl (by decide +kernel)) (goodIn_sb (fun _ h => (List.mem_cons_of_mem _ (List.mem_append_right _ h))) (by decide +kernel))))
set_option maxRecDepth 20000 in
theorem gX0_takeBack_X3_weigh : GoodIn wsX0_takeBack (wsV RX0 54 RX3 yX3_weigh wsX3_weigh) := goodIn_app (good_rp ([10, 11, 12, 13] : List Nat) rfl (by decide +kernel)) ggX0_takeBack_X3_weigh
set_option maxRecDepth 20000 in
theorem bq_wsX2_agree : subq wsX2_agree [[.fieldLink RX2 21 "ChairCane$Notes" "many" "I", .fieldLink RX2 9 "ChairCane$Notes" "minutes" "[I", .fieldLink RX2 15 "ChairCane$Notes" "whose" "[I", .fieldLink RX2 18 "ChairCane$Notes" "states" "[I", .methodLink RX2 37 yX3_stateOf, .instanceMethod yX3_stateOf, .selects RX3 yX3_stateOf yX3_stateOf, .initialized RX3, .code yX3_stateOf cX3_stateOf 2 (some .int), .fieldLink RX3 47 "ChairCane$Room" "dropped" "I", .fieldLink RX3 44 "ChairCane$Room" "sits" "I", .methodLink RX3 74 yX3_hasSitter, .instanceMethod yX3_hasSitter, .selects RX3 yX3_hasSitter yX3_hasSitter, .code yX3_hasSitter cX3_hasSitter 2 (some .boolean), .fieldLink RX3 22 "ChairCane$Room" "sitters" "I"]] := ⟨(fun _ h => (List.mem_cons_of_mem _ (List.mem_append_left _ (List.mem_append_left _ h)))), trivial⟩
set_option maxRecDepth 20000 in
theorem ggX2_agree_X3_stateOf : GoodIn wsX2_agree wsX3_stateOf := (goodIn_cons (good_rb bq_wsX2_agree ([(0, 8)] : List (Nat × Nat)) rfl (by decide +kernel)) (goodIn_app (good_rb bq_wsX2_agree ([(0, 9), (0, 10), (0, 11), (0, 12), (0, 13), (0, 7), (0, 14), (0, 15)] : List (Nat × Nat)) rfl (by decide +kernel)) (goodIn_sb (fun _ h => (List.mem_cons_of_mem _ (List.mem_append_right _ h))) (by decide +kernel))))
set_option maxRecDepth 20000 in
theorem gX2_agree_X3_stateOf : GoodIn wsX2_agree (wsV RX2 37 RX3 yX3_stateOf wsX3_stateOf) := goodIn_app (good_rp ([5, 6, 7, 8] : List Nat) rfl (by decide +kernel)) ggX2_agree_X3_stateOf
set_option maxRecDepth 20000 in
theorem bq_wsX3_passMinute : subq wsX3_passMinute [wsX3_passMinute_r1, wsX3_passMinute_r2, wsX3_passMinute_r3, wsX3_passMinute_r4] := ⟨(fun _ h => (List.mem_cons_of_mem _ (List.mem_append_left _ (List.mem_append_left _ (List.mem_append_left _ h))))), (fun _ h => (List.mem_cons_of_mem _ (List.mem_append_left _ (List.mem_append_left _ (List.mem_append_right _ (List.mem_append_left _ h)))))), (fun _ h => (List.mem_cons_of_mem _ (List.mem_append_left _ (List.mem_append_left _ (List.mem_append_right _ (List.mem_append_right _ (List.mem_append_left _ h))))))), (fun _ h => (List.mem_cons_of_mem _ (List.mem_append_left _ (List.mem_append_left _ (List.mem_append_right _ (List.mem_append_right _ (List.mem_append_right _ h))))))), trivial⟩
set_option maxRecDepth 20000 in
theorem ggX3_passMinute_X3_isUp : GoodIn wsX3_passMinute wsX3_isUp := (goodIn_cons (good_rb bq_wsX3_passMinute ([(0, 18)] : List (Nat × Nat)) rfl (by decide +kernel)) (goodIn_app (good_rb bq_wsX3_passMinute ([(0, 0), (0, 19)] : List (Nat × Nat)) rfl (by decide +kernel)) (goodIn_sb (fun _ h => (List.mem_cons_of_mem _ (List.mem_append_left _ (List.mem_append_right _ h)))) (by decide +kernel))))
set_option maxRecDepth 20000 in
theorem gX3_passMinute_X3_isUp : GoodIn wsX3_passMinute (wsV RX3 85 RX3 yX3_isUp wsX3_isUp) := goodIn_app (good_rp ([16, 17, 18, 8] : List Nat) rfl (by decide +kernel)) ggX3_passMinute_X3_isUp
set_option maxRecDepth 20000 in
theorem ggX3_passMinute_X3_seat : GoodIn wsX3_passMinute wsX3_seat := (goodIn_cons (good_rb bq_wsX3_passMinute ([(0, 8)] : List (Nat × Nat)) rfl (by decide +kernel)) (goodIn_app (good_rb bq_wsX3_passMinute ([(0, 9), (0, 10), (0, 11), (0, 12), (0, 13), (0, 14), (0, 15), (0, 16), (0, 17), (0, 7), (0, 18), (0, 0), (0, 19), (0, 20), (0, 21), (0, 22), (0, 23)] : List (Nat × Nat)) rfl (by decide +kernel)) (goodIn_sb (fun _ h => (List.mem_cons_of_mem _ (List.mem_append_left _ (List.mem_append_right _ h)))) (by decide +kernel))))
set_option maxRecDepth 20000 in
theorem gX3_passMinute_X3_seat : GoodIn wsX3_passMinute (wsV RX3 98 RX3 yX3_seat wsX3_seat) := goodIn_app (good_rp ([5, 6, 7, 8] : List Nat) rfl (by decide +kernel)) ggX3_passMinute_X3_seat
set_option maxRecDepth 20000 in
theorem ggX3_passMinute_X3_settle : GoodIn wsX3_passMinute wsX3_settle := (goodIn_cons (good_rb bq_wsX3_passMinute ([(2, 19)] : List (Nat × Nat)) rfl (by decide +kernel)) (goodIn_app (goodIn_app (good_rb bq_wsX3_passMinute ([(0, 11), (0, 19), (2, 20), (2, 21), (2, 22), (0, 7), (2, 23), (0, 0), (1, 20), (0, 10), (2, 2), (2, 3), (2, 4), (2, 5), (0, 9), (0, 12), (1, 21), (0, 13), (3, 0), (3, 1), (3, 2), (3, 3), (0, 14), (3, 4)] : List (Nat × Nat)) rfl (by decide +kernel)) (good_rb bq_wsX3_passMinute ([(3, 5), (3, 6), (3, 7), (0, 20), (0, 21), (0, 22), (0, 23)] : List (Nat × Nat)) rfl (by decide +kernel))) (goodIn_sb (fun _ h => (List.mem_cons_of_mem _ (List.mem_append_left _ (List.mem_append_right _ h)))) (by decide +kernel))))
set_option maxRecDepth 20000 in
theorem gX3_passMinute_X3_settle : GoodIn wsX3_passMinute (wsV RX3 108 RX3 yX3_settle wsX3_settle) := goodIn_app (good_rp ([65, 66, 67, 8] : List Nat) rfl (by decide +kernel)) ggX3_passMinute_X3_settle
set_option maxRecDepth 20000 in
theorem ggX3_passMinute_X4_seats : GoodIn wsX3_passMinute wsX4_seats := (goodIn_cons (good_rb bq_wsX3_passMinute ([(1, 4)] : List (Nat × Nat)) rfl (by decide +kernel)) (goodIn_app (goodIn_app (goodIn_app (good_rb bq_wsX3_passMinute ([(1, 5), (1, 6), (1, 7), (1, 8), (1, 9), (1, 10), (1, 11), (1, 3), (1, 12), (1, 13), (1, 14), (1, 15), (1, 16), (1, 17), (1, 18), (0, 7), (1, 19), (0, 9), (0, 10), (0, 13), (1, 20), (1, 21), (0, 14), (0, 12)] : List (Nat × Nat)) rfl (by decide +kernel)) (goodIn_app (good_rb bq_wsX3_passMinute ([(0, 19), (0, 3), (1, 22), (1, 23), (2, 0), (2, 1), (0, 0), (0, 20), (0, 21), (0, 22), (0, 23), (0, 11), (2, 2), (2, 3), (2, 4), (2, 5), (2, 6), (2, 7), (2, 8), (2, 9), (2, 10), (2, 11), (2, 12), (2, 13)] : List (Nat × Nat)) rfl (by decide +kernel)) (good_rb bq_wsX3_passMinute ([(2, 14), (2, 15)] : List (Nat × Nat)) rfl (by decide +kernel)))) (goodIn_sb (fun _ h => (List.mem_cons_of_mem _ (List.mem_append_right _ h))) (by decide +kernel))) (goodIn_sb (fun _ h => (List.mem_cons_of_mem _ (List.mem_append_left _ (List.mem_append_right _ h)))) (by decide +kernel))))
set_option maxRecDepth 20000 in
theorem gX3_passMinute_X4_seats : GoodIn wsX3_passMinute (wsV RX3 102 RX4 yX4_seats wsX4_seats) := goodIn_app (good_rp ([25, 26, 27, 28] : List Nat) rfl (by decide +kernel)) ggX3_passMinute_X4_seats
set_option maxRecDepth 20000 in
theorem bq_wsX4_reckon : subq wsX4_reckon [wsX4_reckon_r1, wsX4_reckon_r2] := ⟨(fun _ h => (List.mem_cons_of_mem _ (List.mem_append_left _ (List.mem_append_left _ (List.mem_append_left _ h))))), (fun _ h => (List.mem_cons_of_mem _ (List.mem_append_left _ (List.mem_append_left _ (List.mem_append_right _ h))))), trivial⟩
set_option maxRecDepth 20000 in
theorem ggX4_reckon_X3_wordOf : GoodIn wsX4_reckon wsX3_wordOf := (goodIn_cons (good_rb bq_wsX4_reckon ([(0, 7)] : List (Nat × Nat)) rfl (by decide +kernel)) (goodIn_app (goodIn_app (good_rb bq_wsX4_reckon ([(0, 8), (0, 9), (0, 10), (0, 11), (0, 12), (0, 13), (0, 14), (0, 15), (0, 16), (0, 17), (0, 18), (0, 19), (0, 6), (0, 20), (0, 21), (0, 22), (0, 23), (1, 0), (1, 1), (1, 2), (1, 3), (1, 4), (1, 5), (1, 6)] : List (Nat × Nat)) rfl (by decide +kernel)) (good_rb bq_wsX4_reckon ([(1, 7), (1, 8), (1, 9), (1, 10), (1, 11), (1, 12), (1, 13)] : List (Nat × Nat)) rfl (by decide +kernel))) (goodIn_sb (fun _ h => (List.mem_cons_of_mem _ (List.mem_append_right _ h))) (by decide +kernel))))
set_option maxRecDepth 20000 in
theorem gX4_reckon_X3_wordOf : GoodIn wsX4_reckon (wsV RX4 42 RX3 yX3_wordOf wsX3_wordOf) := goodIn_app (good_rp ([4, 5, 6, 7] : List Nat) rfl (by decide +kernel)) ggX4_reckon_X3_wordOf
set_option maxRecDepth 20000 in
theorem ggX4_reckon_X4_combine : GoodIn wsX4_reckon wsX4_combine := (goodIn_cons (good_rb bq_wsX4_reckon ([(1, 17)] : List (Nat × Nat)) rfl (by decide +kernel)) (good_rb bq_wsX4_reckon ([] : List (Nat × Nat)) rfl (by decide +kernel)))
set_option maxRecDepth 20000 in
theorem gX4_reckon_X4_combine : GoodIn wsX4_reckon (va_wsS RX4 48 yX4_combine wsX4_combine) := goodIn_app (good_rp ([39, 40, 41] : List Nat) rfl (by decide +kernel)) ggX4_reckon_X4_combine
set_option maxRecDepth 20000 in
theorem bq_wsX4_seats : subq wsX4_seats [wsX4_seats_r1, wsX4_seats_r2, wsX4_seats_r3] := ⟨(fun _ h => (List.mem_cons_of_mem _ (List.mem_append_left _ (List.mem_append_left _ (List.mem_append_left _ h))))), (fun _ h => (List.mem_cons_of_mem _ (List.mem_append_left _ (List.mem_append_left _ (List.mem_append_right _ (List.mem_append_left _ h)))))), (fun _ h => (List.mem_cons_of_mem _ (List.mem_append_left _ (List.mem_append_left _ (List.mem_append_right _ (List.mem_append_right _ h)))))), trivial⟩
set_option maxRecDepth 20000 in
theorem ggX4_seats_X4_reckon : GoodIn wsX4_seats wsX4_reckon := (goodIn_cons (good_rb bq_wsX4_seats ([(0, 8)] : List (Nat × Nat)) rfl (by decide +kernel)) (goodIn_app (goodIn_app (goodIn_app (good_rb bq_wsX4_seats ([(0, 9), (0, 10), (0, 11), (0, 12), (0, 13), (0, 14), (0, 15), (0, 16), (0, 17), (0, 18), (0, 19), (0, 20), (0, 21), (0, 22), (0, 23), (1, 0), (1, 1), (1, 2), (1, 3), (1, 4), (1, 5), (1, 6), (1, 7), (1, 8)] : List (Nat × Nat)) rfl (by decide +kernel)) (good_rb bq_wsX4_seats ([(1, 9), (1, 10), (1, 11), (1, 12), (1, 13), (1, 14), (1, 15), (1, 16), (1, 17), (1, 18), (1, 19), (1, 20), (1, 21), (1, 22), (1, 23), (2, 0), (0, 7), (2, 1)] : List (Nat × Nat)) rfl (by decide +kernel))) (goodIn_sb (fun _ h => (List.mem_cons_of_mem _ (List.mem_append_left _ (List.mem_append_right _ h)))) (by decide +kernel))) (goodIn_sb (fun _ h => (List.mem_cons_of_mem _ (List.mem_append_right _ h))) (by decide +kernel))))
set_option maxRecDepth 20000 in
theorem gX4_seats_X4_reckon : GoodIn wsX4_seats (wsV RX4 38 RX4 yX4_reckon wsX4_reckon) := goodIn_app (good_rp ([5, 6, 7, 8] : List Nat) rfl (by decide +kernel)) ggX4_seats_X4_reckon
noncomputable def f_X0_forget (F : Nat)   (ac : OB) : Option (OB) :=
  some ((uF ac.1 4 0), ac.2.1, ac.2.2)
set_option maxRecDepth 20000 in
theorem bq_wsX0_forget : subq wsX0_forget [[.fieldLink RX0 25 "ChairCane$Acts" "kept" "I"]] := ⟨(fun _ h => (List.mem_cons_of_mem _ (List.mem_append_left _ h))), trivial⟩
set_option maxHeartbeats 4000000 in
set_option maxRecDepth 100000 in
theorem c_X0_forget (l : Launch) (D : va_G) (k : Nat → ClassId) (sz : Nat)  (ca : Nat → Nat) (F : Nat)   (ac : OB)  {res : OB} (h : f_X0_forget F ac = some res) : CtV l yX0_forget wsX0_forget (rmK 1 0 0) [.ref (ca 0)] D k sz (acW k ca ac) (fun (_ : Unit) => True) (fun _ : Unit => acW k ca res) 0 0 := by
  refine CtV.mk (cc := cX0_forget) (maxL := 1) (ret := none) (by decide) rfl (Nat.le_of_ble_eq_true rfl) ?_
  intro p e s m below meth c A ls E hP hD hS hl
  obtain ⟨hx, hb, hr, hml, hown, hts, hlocks, hin, hG, hA⟩ := E
  have hown : s.vm.findClass RX0 = some m.cls := hown
  have in0 : ∀ w ∈ u_ws RX0 TX0 5, w ∈ wsX0_forget := fun _ h => List.mem_cons_of_mem _ (List.mem_append_right _ h)
  have hl : lv_has ls 1 [(0, .ref (ca 0))] := hl
  refine lv_aload_n hx hb dX0_forget_0 rfl (lv_at hl 0 rfl) ?_
  refine lv_iconst (v := 0) hx hb dX0_forget_1 (by decide) ?_
  refine va_put (D := D) (ci := 0) (v := .int 0) (C := RX0) (T := TX0) (N := 5) hx hb hts in0 tyX0 tyX0_ok nmX0 hown hG.1 hP hD hS 0 rfl rfl 4 (by decide) (hts (.fieldLink RX0 25 "ChairCane$Acts" "kept" "I") (mem_b bq_wsX0_forget 0 0 rfl)) (fun _ h9 => h9) rfl (tyX0_ok 4 (by decide)) rfl rfl (Nat.le_of_ble_eq_true rfl) dX0_forget_2 (fun H locs hP hD hS => ?_)
  exact fw_endV (wp := fun b : OB => acW k ca b) hx hb hr hlocks h hP hD hS dX0_forget_5
noncomputable def f_X0_copyFrom (F : Nat)   (ac : OB) (ae : OB) : Option (OB) :=
  some ((uF (uF ac.1 3 (ae.1 3)) 4 (ae.1 4)), (uF (uF (uF ac.2.1 0 (va_cpy (ae.2.1 0) (ac.2.1 0) 0 0 20)) 1 (va_cpy (ae.2.1 1) (ac.2.1 1) 0 0 20)) 2 (va_cpy (ae.2.1 2) (ac.2.1 2) 0 0 20)), ac.2.2)
set_option maxRecDepth 20000 in
theorem bq_wsX0_copyFrom : subq wsX0_copyFrom [[.fieldLink RX0 9 "ChairCane$Acts" "seats" "[I", .methodLink RX0 28 arraycopyName, .native arraycopyName, .static arraycopyName, .initialized "java/lang/System", .fieldLink RX0 15 "ChairCane$Acts" "minutes" "[I", .fieldLink RX0 18 "ChairCane$Acts" "canes" "[I", .fieldLink RX0 21 "ChairCane$Acts" "next" "I", .fieldLink RX0 25 "ChairCane$Acts" "kept" "I"]] := ⟨(fun _ h => (List.mem_cons_of_mem _ (List.mem_append_left _ h))), trivial⟩
set_option maxHeartbeats 4000000 in
set_option maxRecDepth 100000 in
theorem c_X0_copyFrom (l : Launch) (D : va_G) (k : Nat → ClassId) (sz : Nat)  (ca : Nat → Nat) (cb : Nat → Nat) (F : Nat)   (ac : OB) (ae : OB)  {res : OB} (h : f_X0_copyFrom F ac ae = some res) : CtV l yX0_copyFrom wsX0_copyFrom (rmK 2 0 0) [.ref (ca 0), .ref (cb 0)] D k sz (acW k ca ac ++ (acW k cb ae)) (fun (_ : Unit) => True) (fun _ : Unit => acW k ca res ++ (acW k cb ae)) 0 0 := by
  refine CtV.mk (cc := cX0_copyFrom) (maxL := 2) (ret := none) (by decide) rfl (Nat.le_of_ble_eq_true rfl) ?_
  intro p e s m below meth c A ls E hP hD hS hl
  obtain ⟨hx, hb, hr, hml, hown, hts, hlocks, hin, hG, hA⟩ := E
  have hown : s.vm.findClass RX0 = some m.cls := hown
  have in0 : ∀ w ∈ u_ws RX0 TX0 5, w ∈ wsX0_copyFrom := fun _ h => List.mem_cons_of_mem _ (List.mem_append_right _ h)
  have hl : lv_has ls 2 [(0, .ref (ca 0)), (1, .ref (cb 0))] := hl
  refine lv_aload_n hx hb dX0_copyFrom_0 rfl (lv_at hl 1 rfl) ?_
  refine va_get (D := D) (ci := 0) (v := .ref (cb 1)) (C := RX0) (T := TX0) (N := 5) hx hb hts in0 hown hG.1 hP 4 rfl rfl 0 (by decide) (hts (.fieldLink RX0 9 "ChairCane$Acts" "seats" "[I") (mem_b bq_wsX0_copyFrom 0 0 rfl)) (fun _ h9 => h9) rfl dX0_copyFrom_1 ?_
  refine lv_iconst (v := 0) hx hb dX0_copyFrom_4 (by decide) ?_
  refine lv_aload_n hx hb dX0_copyFrom_5 rfl (lv_at hl 0 rfl) ?_
  refine va_get (D := D) (ci := 0) (v := .ref (ca 1)) (C := RX0) (T := TX0) (N := 5) hx hb hts in0 hown hG.1 hP 0 rfl rfl 0 (by decide) (hts (.fieldLink RX0 9 "ChairCane$Acts" "seats" "[I") (mem_b bq_wsX0_copyFrom 0 0 rfl)) (fun _ h9 => h9) rfl dX0_copyFrom_6 ?_
  refine lv_iconst (v := 0) hx hb dX0_copyFrom_9 (by decide) ?_
  refine lv_bipush (v := 20) hx hb dX0_copyFrom_10 (by decide) ?_
  refine va_copyi hx hb (by rw [hml]; exact hl.1.symm) hown (hts (.methodLink RX0 28 arraycopyName) (mem_b bq_wsX0_copyFrom 0 1 rfl)) (hts (.native arraycopyName) (mem_b bq_wsX0_copyFrom 0 2 rfl)) (hts (.static arraycopyName) (mem_b bq_wsX0_copyFrom 0 3 rfl)) (hts (.initialized "java/lang/System") (mem_b bq_wsX0_copyFrom 0 4 rfl)) hG.1 hP hD hS 5 1 0 0 rfl rfl rfl rfl rfl (by decide) (by decide) (by decide) (by decide) (by decide) (fun _ _ => rfl) (Nat.le_of_ble_eq_true rfl) (Nat.le_of_ble_eq_true rfl) dX0_copyFrom_12 (fun H locs hP hD hS => ?_)
  refine lv_aload_n hx hb dX0_copyFrom_15 rfl (lv_at hl 1 rfl) ?_
  refine va_get (D := D) (ci := 0) (v := .ref (cb 2)) (C := RX0) (T := TX0) (N := 5) hx hb hts in0 hown hG.1 hP 4 rfl rfl 1 (by decide) (hts (.fieldLink RX0 15 "ChairCane$Acts" "minutes" "[I") (mem_b bq_wsX0_copyFrom 0 5 rfl)) (fun _ h9 => h9) rfl dX0_copyFrom_16 ?_
  refine lv_iconst (v := 0) hx hb dX0_copyFrom_19 (by decide) ?_
  refine lv_aload_n hx hb dX0_copyFrom_20 rfl (lv_at hl 0 rfl) ?_
  refine va_get (D := D) (ci := 0) (v := .ref (ca 2)) (C := RX0) (T := TX0) (N := 5) hx hb hts in0 hown hG.1 hP 0 rfl rfl 1 (by decide) (hts (.fieldLink RX0 15 "ChairCane$Acts" "minutes" "[I") (mem_b bq_wsX0_copyFrom 0 5 rfl)) (fun _ h9 => h9) rfl dX0_copyFrom_21 ?_
  refine lv_iconst (v := 0) hx hb dX0_copyFrom_24 (by decide) ?_
  refine lv_bipush (v := 20) hx hb dX0_copyFrom_25 (by decide) ?_
  refine va_copyi hx hb (by rw [hml]; exact hl.1.symm) hown (hts (.methodLink RX0 28 arraycopyName) (mem_b bq_wsX0_copyFrom 0 1 rfl)) (hts (.native arraycopyName) (mem_b bq_wsX0_copyFrom 0 2 rfl)) (hts (.static arraycopyName) (mem_b bq_wsX0_copyFrom 0 3 rfl)) (hts (.initialized "java/lang/System") (mem_b bq_wsX0_copyFrom 0 4 rfl)) hG.1 hP hD hS 6 2 0 0 rfl rfl rfl rfl rfl (by decide) (by decide) (by decide) (by decide) (by decide) (fun _ _ => rfl) (Nat.le_of_ble_eq_true rfl) (Nat.le_of_ble_eq_true rfl) dX0_copyFrom_27 (fun H locs hP hD hS => ?_)
  refine lv_aload_n hx hb dX0_copyFrom_30 rfl (lv_at hl 1 rfl) ?_
  refine va_get (D := D) (ci := 0) (v := .ref (cb 3)) (C := RX0) (T := TX0) (N := 5) hx hb hts in0 hown hG.1 hP 4 rfl rfl 2 (by decide) (hts (.fieldLink RX0 18 "ChairCane$Acts" "canes" "[I") (mem_b bq_wsX0_copyFrom 0 6 rfl)) (fun _ h9 => h9) rfl dX0_copyFrom_31 ?_
  refine lv_iconst (v := 0) hx hb dX0_copyFrom_34 (by decide) ?_
  refine lv_aload_n hx hb dX0_copyFrom_35 rfl (lv_at hl 0 rfl) ?_
  refine va_get (D := D) (ci := 0) (v := .ref (ca 3)) (C := RX0) (T := TX0) (N := 5) hx hb hts in0 hown hG.1 hP 0 rfl rfl 2 (by decide) (hts (.fieldLink RX0 18 "ChairCane$Acts" "canes" "[I") (mem_b bq_wsX0_copyFrom 0 6 rfl)) (fun _ h9 => h9) rfl dX0_copyFrom_36 ?_
  refine lv_iconst (v := 0) hx hb dX0_copyFrom_39 (by decide) ?_
  refine lv_bipush (v := 20) hx hb dX0_copyFrom_40 (by decide) ?_
  refine va_copyi hx hb (by rw [hml]; exact hl.1.symm) hown (hts (.methodLink RX0 28 arraycopyName) (mem_b bq_wsX0_copyFrom 0 1 rfl)) (hts (.native arraycopyName) (mem_b bq_wsX0_copyFrom 0 2 rfl)) (hts (.static arraycopyName) (mem_b bq_wsX0_copyFrom 0 3 rfl)) (hts (.initialized "java/lang/System") (mem_b bq_wsX0_copyFrom 0 4 rfl)) hG.1 hP hD hS 7 3 0 0 rfl rfl rfl rfl rfl (by decide) (by decide) (by decide) (by decide) (by decide) (fun _ _ => rfl) (Nat.le_of_ble_eq_true rfl) (Nat.le_of_ble_eq_true rfl) dX0_copyFrom_42 (fun H locs hP hD hS => ?_)
  refine lv_aload_n hx hb dX0_copyFrom_45 rfl (lv_at hl 0 rfl) ?_
  refine lv_aload_n hx hb dX0_copyFrom_46 rfl (lv_at hl 1 rfl) ?_
  refine va_get (D := D) (ci := 0) (v := .int (ae.1 3)) (C := RX0) (T := TX0) (N := 5) hx hb hts in0 hown hG.1 hP 4 rfl rfl 3 (by decide) (hts (.fieldLink RX0 21 "ChairCane$Acts" "next" "I") (mem_b bq_wsX0_copyFrom 0 7 rfl)) (fun _ h9 => h9) rfl dX0_copyFrom_47 ?_
  refine va_put (D := D) (ci := 0) (v := .int (ae.1 3)) (C := RX0) (T := TX0) (N := 5) hx hb hts in0 tyX0 tyX0_ok nmX0 hown hG.1 hP hD hS 0 rfl rfl 3 (by decide) (hts (.fieldLink RX0 21 "ChairCane$Acts" "next" "I") (mem_b bq_wsX0_copyFrom 0 7 rfl)) (fun _ h9 => h9) rfl (tyX0_ok 3 (by decide)) rfl rfl (Nat.le_of_ble_eq_true rfl) dX0_copyFrom_50 (fun H locs hP hD hS => ?_)
  refine lv_aload_n hx hb dX0_copyFrom_53 rfl (lv_at hl 0 rfl) ?_
  refine lv_aload_n hx hb dX0_copyFrom_54 rfl (lv_at hl 1 rfl) ?_
  refine va_get (D := D) (ci := 0) (v := .int (ae.1 4)) (C := RX0) (T := TX0) (N := 5) hx hb hts in0 hown hG.1 hP 4 rfl rfl 4 (by decide) (hts (.fieldLink RX0 25 "ChairCane$Acts" "kept" "I") (mem_b bq_wsX0_copyFrom 0 8 rfl)) (fun _ h9 => h9) rfl dX0_copyFrom_55 ?_
  refine va_put (D := D) (ci := 0) (v := .int (ae.1 4)) (C := RX0) (T := TX0) (N := 5) hx hb hts in0 tyX0 tyX0_ok nmX0 hown hG.1 hP hD hS 0 rfl rfl 4 (by decide) (hts (.fieldLink RX0 25 "ChairCane$Acts" "kept" "I") (mem_b bq_wsX0_copyFrom 0 8 rfl)) (fun _ h9 => h9) rfl (tyX0_ok 4 (by decide)) rfl rfl (Nat.le_of_ble_eq_true rfl) dX0_copyFrom_58 (fun H locs hP hD hS => ?_)
  exact fw_endV (wp := fun b : OB => acW k ca b ++ (acW k cb ae)) hx hb hr hlocks h hP hD hS dX0_copyFrom_61
noncomputable def b_X0_keep_38 (F : Nat)  (rm : OB)  (k38 : (Int32 × Int32 × OB) → Option (OB)) (a38 : (Int32 × Int32 × OB)) : Option (OB) :=
  if a38.2.1 < 0 then (if ib (a38.2.2.1 3) 20 then (some ((uF (uF a38.2.2.1 3 (((a38.2.2.1 3) + 1) - ((a38.2.2.1 3) + 1) / 20 * 20)) 4 (if 20 < ((a38.2.2.1 4) + 1) then 20 else ((a38.2.2.1 4) + 1))), (uF a38.2.2.2.1 2 (upd (a38.2.2.2.1 2) (Int32.toNatClampNeg (a38.2.2.1 3)) a38.1)), a38.2.2.2.2)) else none) else (if ib a38.2.1 4 then (k38 (((a38.1 <<< (7 &&& 31)) ||| ((rm.2.1 9) (Int32.toNatClampNeg a38.2.1))), (a38.2.1 + (-1)), a38.2.2)) else none)
noncomputable def f_X0_keep (F : Nat)   (ac : OB) (rm : OB) : Option (OB) :=
  if ib (ac.1 3) 20 then (lp (b_X0_keep_38 F rm) F (0, 3, (ac.1, (uF (uF ac.2.1 0 (upd (ac.2.1 0) (Int32.toNatClampNeg (ac.1 3)) ((rm.1 10) ||| ((rm.1 11) <<< (8 &&& 31))))) 1 (upd (ac.2.1 1) (Int32.toNatClampNeg (ac.1 3)) (rm.1 12))), ac.2.2))) else none
set_option maxRecDepth 20000 in
theorem bq_wsX0_keep : subq wsX0_keep [[.fieldLink RX0 9 "ChairCane$Acts" "seats" "[I", .fieldLink RX0 21 "ChairCane$Acts" "next" "I", .fieldLink RX0 34 "ChairCane$Room" "sits" "I", .fieldLink RX0 39 "ChairCane$Room" "dropped" "I", .fieldLink RX0 15 "ChairCane$Acts" "minutes" "[I", .fieldLink RX0 42 "ChairCane$Room" "minute" "I", .fieldLink RX0 45 "ChairCane$Room" "cane" "[I", .fieldLink RX0 18 "ChairCane$Acts" "canes" "[I", .fieldLink RX0 25 "ChairCane$Acts" "kept" "I", .methodLink RX0 48 Lib.Math.min.name, .static Lib.Math.min.name, .initialized "java/lang/Math", .code Lib.Math.min.name Lib.Math.min.code 2 (some .int)]] := ⟨(fun _ h => (List.mem_cons_of_mem _ (List.mem_append_left _ (List.mem_append_left _ h)))), trivial⟩
set_option maxHeartbeats 4000000 in
set_option maxRecDepth 100000 in
theorem c_X0_keep (l : Launch) (D : va_G) (k : Nat → ClassId) (sz : Nat)  (ca : Nat → Nat) (xa : Nat → Nat) (F : Nat)   (ac : OB) (rm : OB)  {res : OB} (h : f_X0_keep F ac rm = some res) : CtV l yX0_keep wsX0_keep (rmK 2 0 0) [.ref (ca 0), .ref (xa 0)] D k sz (acW k ca ac ++ (rmW k xa rm)) (fun (_ : Unit) => True) (fun _ : Unit => acW k ca res ++ (rmW k xa rm)) 0 0 := by
  refine CtV.mk (cc := cX0_keep) (maxL := 4) (ret := none) (by decide) rfl (Nat.le_of_ble_eq_true rfl) ?_
  intro p e s m below meth c A ls E hP hD hS hl
  obtain ⟨hx, hb, hr, hml, hown, hts, hlocks, hin, hG, hA⟩ := E
  have hown : s.vm.findClass RX0 = some m.cls := hown
  have in0 : ∀ w ∈ u_ws RX0 TX0 5, w ∈ wsX0_keep := fun _ h => List.mem_cons_of_mem _ (List.mem_append_left _ (List.mem_append_right _ h))
  have in3 : ∀ w ∈ u_ws RX3 TX3 17, w ∈ wsX0_keep := fun _ h => List.mem_cons_of_mem _ (List.mem_append_right _ h)
  have hl : lv_has ls 4 [(0, .ref (ca 0)), (1, .ref (xa 0))] := hl
  have B38 : ∀ a38 : (Int32 × Int32 × OB), lp (b_X0_keep_38 F rm) F a38 = some res → ∀ (H : Heap) (locs : List Loc) (ls : Array Slot), va_P D vwCl (acW k ca a38.2.2 ++ (rmW k xa rm)) H → va_D A (acW k ca a38.2.2 ++ (rmW k xa rm)) → va_S A s.heap H locs → lv_has ls 4 [(0, .ref (ca 0)), (1, .ref (xa 0)), (2, .int a38.1), (3, .int a38.2.1)] → W p l e (rmK 2 0 0) s m (List.toArray [.ref (ca 0), .ref (xa 0)]) below meth c H locs 0 0 (MQ below (va_Qv (fun (_ : Unit) => True) (hcB D (fun _ : Unit => acW k ca res ++ (rmW k xa rm)) A) A) (List.toArray [.ref (ca 0), .ref (xa 0)]) s 0 0 A) (F0 m 38 ls []) := by
    refine lp_W ?_ F
    intro k38 hk38 a38 h H locs ls hP hD hS hl
    have hc38 : ∀ (v2 : Int32) (v3 : Int32) (ac : OB), k38 (v2, v3, ac) = some res → ∀ (H : Heap) (locs : List Loc) (ls : Array Slot), va_P D vwCl (acW k ca ac ++ (rmW k xa rm)) H → va_D A (acW k ca ac ++ (rmW k xa rm)) → va_S A s.heap H locs → lv_has ls 4 [(0, .ref (ca 0)), (1, .ref (xa 0)), (2, .int v2), (3, .int v3)] → W p l e (rmK 2 0 0) s m (List.toArray [.ref (ca 0), .ref (xa 0)]) below meth c H locs 0 0 (MQ below (va_Qv (fun (_ : Unit) => True) (hcB D (fun _ : Unit => acW k ca res ++ (rmW k xa rm)) A) A) (List.toArray [.ref (ca 0), .ref (xa 0)]) s 0 0 A) (F0 m 38 ls []) := fun v2 v3 ac => hk38 (v2, v3, ac)
    refine lv_iload_n hx hb dX0_keep_38 rfl (lv_at hl 3 rfl) ?_
    refine lv_if_lt (tgt := 60) hx hb dX0_keep_39 (by decide) (fun c1 => ?_) (fun c1 => ?_)
    · have h := fw_t c1 h
      refine lv_aload_n hx hb dX0_keep_60 rfl (lv_at hl 0 rfl) ?_
      refine va_get (D := D) (ci := 0) (v := .ref (ca 3)) (C := RX0) (T := TX0) (N := 5) hx hb hts in0 hown hG.1 hP 0 rfl rfl 2 (by decide) (hts (.fieldLink RX0 18 "ChairCane$Acts" "canes" "[I") (mem_b bq_wsX0_keep 0 7 rfl)) (fun _ h9 => h9) rfl dX0_keep_61 ?_
      refine lv_aload_n hx hb dX0_keep_64 rfl (lv_at hl 0 rfl) ?_
      refine va_get (D := D) (ci := 0) (v := .int (a38.2.2.1 3)) (C := RX0) (T := TX0) (N := 5) hx hb hts in0 hown hG.1 hP 0 rfl rfl 3 (by decide) (hts (.fieldLink RX0 21 "ChairCane$Acts" "next" "I") (mem_b bq_wsX0_keep 0 1 rfl)) (fun _ h9 => h9) rfl dX0_keep_65 ?_
      refine lv_iload_n hx hb dX0_keep_68 rfl (lv_at hl 2 rfl) ?_
      obtain ⟨g2, h⟩ := fw_g h
      refine va_iast hx hb hG.1 hP hD hS 3 0 rfl rfl (ib_vp g2) dX0_keep_69 (fun H locs hP hD hS => ?_)
      refine lv_aload_n hx hb dX0_keep_70 rfl (lv_at hl 0 rfl) ?_
      refine lv_aload_n hx hb dX0_keep_71 rfl (lv_at hl 0 rfl) ?_
      refine va_get (D := D) (ci := 0) (v := .int (a38.2.2.1 3)) (C := RX0) (T := TX0) (N := 5) hx hb hts in0 hown hG.1 hP 0 rfl rfl 3 (by decide) (hts (.fieldLink RX0 21 "ChairCane$Acts" "next" "I") (mem_b bq_wsX0_keep 0 1 rfl)) (fun _ h9 => h9) rfl dX0_keep_72 ?_
      refine lv_iconst (v := 1) hx hb dX0_keep_75 (by decide) ?_
      refine lv_iadd hx hb dX0_keep_76 ?_
      refine lv_bipush (v := 20) hx hb dX0_keep_77 (by decide) ?_
      refine lv_irem hx hb dX0_keep_79 (by decide) ?_
      refine lv_topi (fun w3 ew3 => ?_)
      rw [← ew3] at h
      refine va_put (D := D) (ci := 0) (v := .int w3) (C := RX0) (T := TX0) (N := 5) hx hb hts in0 tyX0 tyX0_ok nmX0 hown hG.1 hP hD hS 0 rfl rfl 3 (by decide) (hts (.fieldLink RX0 21 "ChairCane$Acts" "next" "I") (mem_b bq_wsX0_keep 0 1 rfl)) (fun _ h9 => h9) rfl (tyX0_ok 3 (by decide)) rfl rfl (Nat.le_of_ble_eq_true rfl) dX0_keep_80 (fun H locs hP hD hS => ?_)
      refine lv_aload_n hx hb dX0_keep_83 rfl (lv_at hl 0 rfl) ?_
      refine lv_aload_n hx hb dX0_keep_84 rfl (lv_at hl 0 rfl) ?_
      refine va_get (D := D) (ci := 0) (v := .int (a38.2.2.1 4)) (C := RX0) (T := TX0) (N := 5) hx hb hts in0 hown hG.1 hP 0 rfl rfl 4 (by decide) (hts (.fieldLink RX0 25 "ChairCane$Acts" "kept" "I") (mem_b bq_wsX0_keep 0 8 rfl)) (fun _ h9 => h9) rfl dX0_keep_85 ?_
      refine lv_iconst (v := 1) hx hb dX0_keep_88 (by decide) ?_
      refine lv_iadd hx hb dX0_keep_89 ?_
      refine lv_bipush (v := 20) hx hb dX0_keep_90 (by decide) ?_
      refine va_mmin hx hb (by rw [hml]; exact hl.1.symm) hown (hts (.methodLink RX0 48 Lib.Math.min.name) (mem_b bq_wsX0_keep 0 9 rfl)) (hts (.static Lib.Math.min.name) (mem_b bq_wsX0_keep 0 10 rfl)) (hts (.initialized "java/lang/Math") (mem_b bq_wsX0_keep 0 11 rfl)) (hts (.code Lib.Math.min.name Lib.Math.min.code 2 (some .int)) (mem_b bq_wsX0_keep 0 12 rfl)) (Nat.le_of_ble_eq_true rfl) (Nat.le_of_ble_eq_true rfl) (Nat.le_of_ble_eq_true rfl) (Nat.le_of_ble_eq_true rfl) dX0_keep_92 ?_
      refine lv_topi (fun w4 ew4 => ?_)
      rw [← ew4] at h
      refine va_put (D := D) (ci := 0) (v := .int w4) (C := RX0) (T := TX0) (N := 5) hx hb hts in0 tyX0 tyX0_ok nmX0 hown hG.1 hP hD hS 0 rfl rfl 4 (by decide) (hts (.fieldLink RX0 25 "ChairCane$Acts" "kept" "I") (mem_b bq_wsX0_keep 0 8 rfl)) (fun _ h9 => h9) rfl (tyX0_ok 4 (by decide)) rfl rfl (Nat.le_of_ble_eq_true rfl) dX0_keep_95 (fun H locs hP hD hS => ?_)
      exact fw_endV (wp := fun b : OB => acW k ca b ++ (rmW k xa rm)) hx hb hr hlocks h hP hD hS dX0_keep_98
    · have h := fw_f c1 h
      refine lv_iload_n hx hb dX0_keep_42 rfl (lv_at hl 2 rfl) ?_
      refine lv_bipush (v := 7) hx hb dX0_keep_43 (by decide) ?_
      refine lv_ishl hx hb dX0_keep_45 ?_
      refine lv_aload_n hx hb dX0_keep_46 rfl (lv_at hl 1 rfl) ?_
      refine va_get (D := D) (ci := 2) (v := .ref (xa 6)) (C := RX3) (T := TX3) (N := 17) hx hb hts in3 hown hG.1 hP 4 rfl rfl 9 (by decide) (hts (.fieldLink RX0 45 "ChairCane$Room" "cane" "[I") (mem_b bq_wsX0_keep 0 6 rfl)) (fun _ h9 => h9) rfl dX0_keep_47 ?_
      refine lv_iload_n hx hb dX0_keep_50 rfl (lv_at hl 3 rfl) ?_
      obtain ⟨g5, h⟩ := fw_g h
      refine va_iald hx hb hG.1 hP 10 0 rfl rfl (ib_vp g5) dX0_keep_51 ?_
      refine lv_ior hx hb dX0_keep_52 ?_
      refine lv_istore_n (lv' := [(2, .int ((a38.1 <<< (7 &&& 31)) ||| ((rm.2.1 9) (Int32.toNatClampNeg a38.2.1)))), (0, .ref (ca 0)), (1, .ref (xa 0)), (3, .int a38.2.1)]) hx hb dX0_keep_53 rfl hl (by decide) rfl (fun ls hl => ?_)
      refine lv_iinc (v := (a38.2.1 + (-1))) (lv' := [(3, .int (a38.2.1 + (-1))), (2, .int ((a38.1 <<< (7 &&& 31)) ||| ((rm.2.1 9) (Int32.toNatClampNeg a38.2.1)))), (0, .ref (ca 0)), (1, .ref (xa 0))]) hx hb dX0_keep_54 hl (k := 3) rfl rfl (by decide) rfl (fun ls hl => ?_)
      refine lv_goto (tgt := 38) hx hb dX0_keep_57 (by decide) ?_
      exact hc38 _ _ _ h _ _ _ hP hD hS (lv_sub hl [2, 3, 1, 0] rfl)
  have C38 : ∀ (v2 : Int32) (v3 : Int32) (ac : OB), lp (b_X0_keep_38 F rm) F (v2, v3, ac) = some res → ∀ (H : Heap) (locs : List Loc) (ls : Array Slot), va_P D vwCl (acW k ca ac ++ (rmW k xa rm)) H → va_D A (acW k ca ac ++ (rmW k xa rm)) → va_S A s.heap H locs → lv_has ls 4 [(0, .ref (ca 0)), (1, .ref (xa 0)), (2, .int v2), (3, .int v3)] → W p l e (rmK 2 0 0) s m (List.toArray [.ref (ca 0), .ref (xa 0)]) below meth c H locs 0 0 (MQ below (va_Qv (fun (_ : Unit) => True) (hcB D (fun _ : Unit => acW k ca res ++ (rmW k xa rm)) A) A) (List.toArray [.ref (ca 0), .ref (xa 0)]) s 0 0 A) (F0 m 38 ls []) := fun v2 v3 ac => B38 (v2, v3, ac)
  refine lv_aload_n hx hb dX0_keep_0 rfl (lv_at hl 0 rfl) ?_
  refine va_get (D := D) (ci := 0) (v := .ref (ca 1)) (C := RX0) (T := TX0) (N := 5) hx hb hts in0 hown hG.1 hP 0 rfl rfl 0 (by decide) (hts (.fieldLink RX0 9 "ChairCane$Acts" "seats" "[I") (mem_b bq_wsX0_keep 0 0 rfl)) (fun _ h9 => h9) rfl dX0_keep_1 ?_
  refine lv_aload_n hx hb dX0_keep_4 rfl (lv_at hl 0 rfl) ?_
  refine va_get (D := D) (ci := 0) (v := .int (ac.1 3)) (C := RX0) (T := TX0) (N := 5) hx hb hts in0 hown hG.1 hP 0 rfl rfl 3 (by decide) (hts (.fieldLink RX0 21 "ChairCane$Acts" "next" "I") (mem_b bq_wsX0_keep 0 1 rfl)) (fun _ h9 => h9) rfl dX0_keep_5 ?_
  refine lv_aload_n hx hb dX0_keep_8 rfl (lv_at hl 1 rfl) ?_
  refine va_get (D := D) (ci := 2) (v := .int (rm.1 10)) (C := RX3) (T := TX3) (N := 17) hx hb hts in3 hown hG.1 hP 4 rfl rfl 10 (by decide) (hts (.fieldLink RX0 34 "ChairCane$Room" "sits" "I") (mem_b bq_wsX0_keep 0 2 rfl)) (fun _ h9 => h9) rfl dX0_keep_9 ?_
  refine lv_aload_n hx hb dX0_keep_12 rfl (lv_at hl 1 rfl) ?_
  refine va_get (D := D) (ci := 2) (v := .int (rm.1 11)) (C := RX3) (T := TX3) (N := 17) hx hb hts in3 hown hG.1 hP 4 rfl rfl 11 (by decide) (hts (.fieldLink RX0 39 "ChairCane$Room" "dropped" "I") (mem_b bq_wsX0_keep 0 3 rfl)) (fun _ h9 => h9) rfl dX0_keep_13 ?_
  refine lv_bipush (v := 8) hx hb dX0_keep_16 (by decide) ?_
  refine lv_ishl hx hb dX0_keep_18 ?_
  refine lv_ior hx hb dX0_keep_19 ?_
  obtain ⟨g6, h⟩ := fw_g h
  refine va_iast hx hb hG.1 hP hD hS 1 0 rfl rfl (ib_vp g6) dX0_keep_20 (fun H locs hP hD hS => ?_)
  refine lv_aload_n hx hb dX0_keep_21 rfl (lv_at hl 0 rfl) ?_
  refine va_get (D := D) (ci := 0) (v := .ref (ca 2)) (C := RX0) (T := TX0) (N := 5) hx hb hts in0 hown hG.1 hP 0 rfl rfl 1 (by decide) (hts (.fieldLink RX0 15 "ChairCane$Acts" "minutes" "[I") (mem_b bq_wsX0_keep 0 4 rfl)) (fun _ h9 => h9) rfl dX0_keep_22 ?_
  refine lv_aload_n hx hb dX0_keep_25 rfl (lv_at hl 0 rfl) ?_
  refine va_get (D := D) (ci := 0) (v := .int (ac.1 3)) (C := RX0) (T := TX0) (N := 5) hx hb hts in0 hown hG.1 hP 0 rfl rfl 3 (by decide) (hts (.fieldLink RX0 21 "ChairCane$Acts" "next" "I") (mem_b bq_wsX0_keep 0 1 rfl)) (fun _ h9 => h9) rfl dX0_keep_26 ?_
  refine lv_aload_n hx hb dX0_keep_29 rfl (lv_at hl 1 rfl) ?_
  refine va_get (D := D) (ci := 2) (v := .int (rm.1 12)) (C := RX3) (T := TX3) (N := 17) hx hb hts in3 hown hG.1 hP 4 rfl rfl 12 (by decide) (hts (.fieldLink RX0 42 "ChairCane$Room" "minute" "I") (mem_b bq_wsX0_keep 0 5 rfl)) (fun _ h9 => h9) rfl dX0_keep_30 ?_
  refine va_iast hx hb hG.1 hP hD hS 2 0 rfl rfl (ib_vp g6) dX0_keep_33 (fun H locs hP hD hS => ?_)
  refine lv_iconst (v := 0) hx hb dX0_keep_34 (by decide) ?_
  refine lv_istore_n (lv' := [(2, .int 0), (0, .ref (ca 0)), (1, .ref (xa 0))]) hx hb dX0_keep_35 rfl hl (by decide) rfl (fun ls hl => ?_)
  refine lv_iconst (v := 3) hx hb dX0_keep_36 (by decide) ?_
  refine lv_istore_n (lv' := [(3, .int 3), (2, .int 0), (0, .ref (ca 0)), (1, .ref (xa 0))]) hx hb dX0_keep_37 rfl hl (by decide) rfl (fun ls hl => ?_)
  exact C38 _ _ _ h _ _ _ hP hD hS (lv_sub hl [2, 3, 1, 0] rfl)
noncomputable def b_X0_takeBack_82 (F : Nat)    (k82 : (Int32 × OB × OB) → Option (OB × OB)) (a82 : (Int32 × OB × OB)) : Option (OB × OB) :=
  if 4 ≤ a82.1 then (Option.bind (f_X3_weigh F a82.2.2) (fun q2 => (some (a82.2.1, q2)))) else (if ib (a82.2.1.1 3) 20 then (if ib a82.1 4 then (k82 ((a82.1 + 1), a82.2.1, (a82.2.2.1, (uF a82.2.2.2.1 9 (upd (a82.2.2.2.1 9) (Int32.toNatClampNeg a82.1) ((((a82.2.1.2.1 2) (Int32.toNatClampNeg (a82.2.1.1 3))) >>> ((7 * a82.1) &&& 31)) &&& 127))), a82.2.2.2.2))) else none) else none)
noncomputable def f_X0_takeBack (F : Nat)   (ac : OB) (rm : OB) : Option (OB × OB) :=
  if 0 < (ac.1 4) then (if ib ((((ac.1 3) + 20) - 1) - (((ac.1 3) + 20) - 1) / 20 * 20) 20 then (lp (b_X0_takeBack_82 F) F (0, ((uF (uF ac.1 3 ((((ac.1 3) + 20) - 1) - (((ac.1 3) + 20) - 1) / 20 * 20)) 4 ((ac.1 4) - 1)), ac.2.1, ac.2.2), ((uF (uF (uF rm.1 10 (((ac.2.1 0) (Int32.toNatClampNeg ((((ac.1 3) + 20) - 1) - (((ac.1 3) + 20) - 1) / 20 * 20))) &&& 255)) 11 (((ac.2.1 0) (Int32.toNatClampNeg ((((ac.1 3) + 20) - 1) - (((ac.1 3) + 20) - 1) / 20 * 20))) >>> (8 &&& 31))) 12 ((ac.2.1 1) (Int32.toNatClampNeg ((((ac.1 3) + 20) - 1) - (((ac.1 3) + 20) - 1) / 20 * 20)))), rm.2.1, rm.2.2))) else none) else (some (ac, rm))
set_option maxHeartbeats 4000000 in
set_option maxRecDepth 100000 in
theorem c_X0_takeBack (l : Launch) (D : va_G) (k : Nat → ClassId) (sz : Nat)  (ca : Nat → Nat) (xa : Nat → Nat) (F : Nat)   (ac : OB) (rm : OB)  {res : OB × OB} (h : f_X0_takeBack F ac rm = some res) : CtV l yX0_takeBack wsX0_takeBack (rmK 3 0 0) [.ref (ca 0), .ref (xa 0)] D k sz (acW k ca ac ++ (rmW k xa rm)) (fun (_ : Unit) => True) (fun _ : Unit => acW k ca res.1 ++ (rmW k xa res.2)) 0 0 := by
  refine CtV.mk (cc := cX0_takeBack) (maxL := 3) (ret := none) (by decide) rfl (Nat.le_of_ble_eq_true rfl) ?_
  intro p e s m below meth c A ls E hP hD hS hl
  obtain ⟨hx, hb, hr, hml, hown, hts, hlocks, hin, hG, hA⟩ := E
  have hown : s.vm.findClass RX0 = some m.cls := hown
  have in0 : ∀ w ∈ u_ws RX0 TX0 5, w ∈ wsX0_takeBack := fun _ h => List.mem_cons_of_mem _ (List.mem_append_left _ (List.mem_append_right _ h))
  have in3 : ∀ w ∈ u_ws RX3 TX3 17, w ∈ wsX0_takeBack := fun _ h => List.mem_cons_of_mem _ (List.mem_append_right _ h)
  have hl : lv_has ls 3 [(0, .ref (ca 0)), (1, .ref (xa 0))] := hl
  have B82 : ∀ a82 : (Int32 × OB × OB), lp (b_X0_takeBack_82 F) F a82 = some res → ∀ (H : Heap) (locs : List Loc) (ls : Array Slot), va_P D vwCl (acW k ca a82.2.1 ++ (rmW k xa a82.2.2)) H → va_D A (acW k ca a82.2.1 ++ (rmW k xa a82.2.2)) → va_S A s.heap H locs → lv_has ls 3 [(0, .ref (ca 0)), (1, .ref (xa 0)), (2, .int a82.1)] → W p l e (rmK 3 0 0) s m (List.toArray [.ref (ca 0), .ref (xa 0)]) below meth c H locs 0 0 (MQ below (va_Qv (fun (_ : Unit) => True) (hcB D (fun _ : Unit => acW k ca res.1 ++ (rmW k xa res.2)) A) A) (List.toArray [.ref (ca 0), .ref (xa 0)]) s 0 0 A) (F0 m 82 ls []) := by
    refine lp_W ?_ F
    intro k82 hk82 a82 h H locs ls hP hD hS hl
    have hc82 : ∀ (v2 : Int32) (ac : OB) (rm : OB), k82 (v2, ac, rm) = some res → ∀ (H : Heap) (locs : List Loc) (ls : Array Slot), va_P D vwCl (acW k ca ac ++ (rmW k xa rm)) H → va_D A (acW k ca ac ++ (rmW k xa rm)) → va_S A s.heap H locs → lv_has ls 3 [(0, .ref (ca 0)), (1, .ref (xa 0)), (2, .int v2)] → W p l e (rmK 3 0 0) s m (List.toArray [.ref (ca 0), .ref (xa 0)]) below meth c H locs 0 0 (MQ below (va_Qv (fun (_ : Unit) => True) (hcB D (fun _ : Unit => acW k ca res.1 ++ (rmW k xa res.2)) A) A) (List.toArray [.ref (ca 0), .ref (xa 0)]) s 0 0 A) (F0 m 82 ls []) := fun v2 ac rm => hk82 (v2, ac, rm)
    refine lv_iload_n hx hb dX0_takeBack_82 rfl (lv_at hl 2 rfl) ?_
    refine lv_iconst (v := 4) hx hb dX0_takeBack_83 (by decide) ?_
    refine lv_icmp_ge (tgt := 116) hx hb dX0_takeBack_84 (by decide) (fun c1 => ?_) (fun c1 => ?_)
    · have h := fw_t c1 h
      refine lv_aload_n hx hb dX0_takeBack_116 rfl (lv_at hl 1 rfl) ?_
      obtain ⟨hP, hD⟩ := qm hP hD (q_to [acW k ca a82.2.1, rmW k xa a82.2.2] [0, 1] [1] [0] (by decide +kernel))
      refine fw_Vv (As := []) (rest := []) (n := 0) (wp := fun b : OB => rmW k xa b) h hx hb hml hown hts hG hA hP hD hS hl.1 _ _ (fun q hq9 => c_X3_weigh l D k _  xa F  a82.2.2  hq9) (ci := 2) (q0 := 0) rfl rfl gX0_takeBack_X3_weigh rfl ⟨rfl, rfl, Nat.le_of_ble_eq_true rfl, Nat.le_of_ble_eq_true rfl⟩ (by decide +kernel) (q_l _ _) (q_r _ _) (q_nd _ _) ⟨rfl, rfl, Nat.le_of_ble_eq_true rfl, Nat.le_of_ble_eq_true rfl, Nat.le_of_ble_eq_true rfl⟩ dX0_takeBack_117 (fun q2 H locs h hP hD hS => ?_)
      obtain ⟨hP, hD⟩ := qm (w2 := acW k ca a82.2.1 ++ (rmW k xa q2)) hP hD (q_from [acW k ca a82.2.1, rmW k xa q2] [0] [1] [0, 1] (by decide +kernel))
      exact fw_endV (wp := fun b : OB × OB => acW k ca b.1 ++ (rmW k xa b.2)) hx hb hr hlocks h hP hD hS dX0_takeBack_120
    · have h := fw_f c1 h
      refine lv_aload_n hx hb dX0_takeBack_87 rfl (lv_at hl 1 rfl) ?_
      refine va_get (D := D) (ci := 2) (v := .ref (xa 6)) (C := RX3) (T := TX3) (N := 17) hx hb hts in3 hown hG.1 hP 4 rfl rfl 9 (by decide) (hts (.fieldLink RX0 45 "ChairCane$Room" "cane" "[I") (mem_b bq_wsX0_takeBack 0 7 rfl)) (fun _ h9 => h9) rfl dX0_takeBack_88 ?_
      refine lv_iload_n hx hb dX0_takeBack_91 rfl (lv_at hl 2 rfl) ?_
      refine lv_aload_n hx hb dX0_takeBack_92 rfl (lv_at hl 0 rfl) ?_
      refine va_get (D := D) (ci := 0) (v := .ref (ca 3)) (C := RX0) (T := TX0) (N := 5) hx hb hts in0 hown hG.1 hP 0 rfl rfl 2 (by decide) (hts (.fieldLink RX0 18 "ChairCane$Acts" "canes" "[I") (mem_b bq_wsX0_takeBack 0 8 rfl)) (fun _ h9 => h9) rfl dX0_takeBack_93 ?_
      refine lv_aload_n hx hb dX0_takeBack_96 rfl (lv_at hl 0 rfl) ?_
      refine va_get (D := D) (ci := 0) (v := .int (a82.2.1.1 3)) (C := RX0) (T := TX0) (N := 5) hx hb hts in0 hown hG.1 hP 0 rfl rfl 3 (by decide) (hts (.fieldLink RX0 21 "ChairCane$Acts" "next" "I") (mem_b bq_wsX0_takeBack 0 1 rfl)) (fun _ h9 => h9) rfl dX0_takeBack_97 ?_
      obtain ⟨g3, h⟩ := fw_g h
      refine va_iald hx hb hG.1 hP 3 0 rfl rfl (ib_vp g3) dX0_takeBack_100 ?_
      refine lv_bipush (v := 7) hx hb dX0_takeBack_101 (by decide) ?_
      refine lv_iload_n hx hb dX0_takeBack_103 rfl (lv_at hl 2 rfl) ?_
      refine lv_imul hx hb dX0_takeBack_104 ?_
      refine lv_ishr hx hb dX0_takeBack_105 ?_
      refine lv_bipush (v := 127) hx hb dX0_takeBack_106 (by decide) ?_
      refine lv_iand hx hb dX0_takeBack_108 ?_
      obtain ⟨g4, h⟩ := fw_g h
      refine va_iast hx hb hG.1 hP hD hS 10 0 rfl rfl (ib_vp g4) dX0_takeBack_109 (fun H locs hP hD hS => ?_)
      refine lv_iinc (v := (a82.1 + 1)) (lv' := [(2, .int (a82.1 + 1)), (0, .ref (ca 0)), (1, .ref (xa 0))]) hx hb dX0_takeBack_110 hl (k := 2) rfl rfl (by decide) rfl (fun ls hl => ?_)
      refine lv_goto (tgt := 82) hx hb dX0_takeBack_113 (by decide) ?_
      exact hc82 _ _ _ h _ _ _ hP hD hS (lv_sub hl [1, 2, 0] rfl)
  have C82 : ∀ (v2 : Int32) (ac : OB) (rm : OB), lp (b_X0_takeBack_82 F) F (v2, ac, rm) = some res → ∀ (H : Heap) (locs : List Loc) (ls : Array Slot), va_P D vwCl (acW k ca ac ++ (rmW k xa rm)) H → va_D A (acW k ca ac ++ (rmW k xa rm)) → va_S A s.heap H locs → lv_has ls 3 [(0, .ref (ca 0)), (1, .ref (xa 0)), (2, .int v2)] → W p l e (rmK 3 0 0) s m (List.toArray [.ref (ca 0), .ref (xa 0)]) below meth c H locs 0 0 (MQ below (va_Qv (fun (_ : Unit) => True) (hcB D (fun _ : Unit => acW k ca res.1 ++ (rmW k xa res.2)) A) A) (List.toArray [.ref (ca 0), .ref (xa 0)]) s 0 0 A) (F0 m 82 ls []) := fun v2 ac rm => B82 (v2, ac, rm)
  refine lv_aload_n hx hb dX0_takeBack_0 rfl (lv_at hl 0 rfl) ?_
  refine va_get (D := D) (ci := 0) (v := .int (ac.1 4)) (C := RX0) (T := TX0) (N := 5) hx hb hts in0 hown hG.1 hP 0 rfl rfl 4 (by decide) (hts (.fieldLink RX0 25 "ChairCane$Acts" "kept" "I") (mem_b bq_wsX0_takeBack 0 0 rfl)) (fun _ h9 => h9) rfl dX0_takeBack_1 ?_
  refine lv_if_gt (tgt := 8) hx hb dX0_takeBack_4 (by decide) (fun c5 => ?_) (fun c5 => ?_)
  · have h := fw_t c5 h
    refine lv_aload_n hx hb dX0_takeBack_8 rfl (lv_at hl 0 rfl) ?_
    refine lv_dup hx hb dX0_takeBack_9 rfl ?_
    refine va_get (D := D) (ci := 0) (v := .int (ac.1 4)) (C := RX0) (T := TX0) (N := 5) hx hb hts in0 hown hG.1 hP 0 rfl rfl 4 (by decide) (hts (.fieldLink RX0 25 "ChairCane$Acts" "kept" "I") (mem_b bq_wsX0_takeBack 0 0 rfl)) (fun _ h9 => h9) rfl dX0_takeBack_10 ?_
    refine lv_iconst (v := 1) hx hb dX0_takeBack_13 (by decide) ?_
    refine lv_isub hx hb dX0_takeBack_14 ?_
    refine va_put (D := D) (ci := 0) (v := .int ((ac.1 4) - 1)) (C := RX0) (T := TX0) (N := 5) hx hb hts in0 tyX0 tyX0_ok nmX0 hown hG.1 hP hD hS 0 rfl rfl 4 (by decide) (hts (.fieldLink RX0 25 "ChairCane$Acts" "kept" "I") (mem_b bq_wsX0_takeBack 0 0 rfl)) (fun _ h9 => h9) rfl (tyX0_ok 4 (by decide)) rfl rfl (Nat.le_of_ble_eq_true rfl) dX0_takeBack_15 (fun H locs hP hD hS => ?_)
    refine lv_aload_n hx hb dX0_takeBack_18 rfl (lv_at hl 0 rfl) ?_
    refine lv_aload_n hx hb dX0_takeBack_19 rfl (lv_at hl 0 rfl) ?_
    refine va_get (D := D) (ci := 0) (v := .int (ac.1 3)) (C := RX0) (T := TX0) (N := 5) hx hb hts in0 hown hG.1 hP 0 rfl rfl 3 (by decide) (hts (.fieldLink RX0 21 "ChairCane$Acts" "next" "I") (mem_b bq_wsX0_takeBack 0 1 rfl)) (fun _ h9 => h9) rfl dX0_takeBack_20 ?_
    refine lv_bipush (v := 20) hx hb dX0_takeBack_23 (by decide) ?_
    refine lv_iadd hx hb dX0_takeBack_25 ?_
    refine lv_iconst (v := 1) hx hb dX0_takeBack_26 (by decide) ?_
    refine lv_isub hx hb dX0_takeBack_27 ?_
    refine lv_bipush (v := 20) hx hb dX0_takeBack_28 (by decide) ?_
    refine lv_irem hx hb dX0_takeBack_30 (by decide) ?_
    refine lv_topi (fun w6 ew6 => ?_)
    rw [← ew6] at h
    refine va_put (D := D) (ci := 0) (v := .int w6) (C := RX0) (T := TX0) (N := 5) hx hb hts in0 tyX0 tyX0_ok nmX0 hown hG.1 hP hD hS 0 rfl rfl 3 (by decide) (hts (.fieldLink RX0 21 "ChairCane$Acts" "next" "I") (mem_b bq_wsX0_takeBack 0 1 rfl)) (fun _ h9 => h9) rfl (tyX0_ok 3 (by decide)) rfl rfl (Nat.le_of_ble_eq_true rfl) dX0_takeBack_31 (fun H locs hP hD hS => ?_)
    refine lv_aload_n hx hb dX0_takeBack_34 rfl (lv_at hl 1 rfl) ?_
    refine lv_aload_n hx hb dX0_takeBack_35 rfl (lv_at hl 0 rfl) ?_
    refine va_get (D := D) (ci := 0) (v := .ref (ca 1)) (C := RX0) (T := TX0) (N := 5) hx hb hts in0 hown hG.1 hP 0 rfl rfl 0 (by decide) (hts (.fieldLink RX0 9 "ChairCane$Acts" "seats" "[I") (mem_b bq_wsX0_takeBack 0 2 rfl)) (fun _ h9 => h9) rfl dX0_takeBack_36 ?_
    refine lv_aload_n hx hb dX0_takeBack_39 rfl (lv_at hl 0 rfl) ?_
    refine va_get (D := D) (ci := 0) (v := .int w6) (C := RX0) (T := TX0) (N := 5) hx hb hts in0 hown hG.1 hP 0 rfl rfl 3 (by decide) (hts (.fieldLink RX0 21 "ChairCane$Acts" "next" "I") (mem_b bq_wsX0_takeBack 0 1 rfl)) (fun _ h9 => h9) rfl dX0_takeBack_40 ?_
    obtain ⟨g7, h⟩ := fw_g h
    refine va_iald hx hb hG.1 hP 1 0 rfl rfl (ib_vp g7) dX0_takeBack_43 ?_
    refine lv_sipush (v := 255) hx hb dX0_takeBack_44 (by decide) ?_
    refine lv_iand hx hb dX0_takeBack_47 ?_
    refine lv_topi (fun w8 ew8 => ?_)
    rw [← ew8] at h
    refine va_put (D := D) (ci := 2) (v := .int w8) (C := RX3) (T := TX3) (N := 17) hx hb hts in3 tyX3 tyX3_ok nmX3 hown hG.1 hP hD hS 4 rfl rfl 10 (by decide) (hts (.fieldLink RX0 34 "ChairCane$Room" "sits" "I") (mem_b bq_wsX0_takeBack 0 3 rfl)) (fun _ h9 => h9) rfl (tyX3_ok 10 (by decide)) rfl rfl (Nat.le_of_ble_eq_true rfl) dX0_takeBack_48 (fun H locs hP hD hS => ?_)
    refine lv_aload_n hx hb dX0_takeBack_51 rfl (lv_at hl 1 rfl) ?_
    refine lv_aload_n hx hb dX0_takeBack_52 rfl (lv_at hl 0 rfl) ?_
    refine va_get (D := D) (ci := 0) (v := .ref (ca 1)) (C := RX0) (T := TX0) (N := 5) hx hb hts in0 hown hG.1 hP 0 rfl rfl 0 (by decide) (hts (.fieldLink RX0 9 "ChairCane$Acts" "seats" "[I") (mem_b bq_wsX0_takeBack 0 2 rfl)) (fun _ h9 => h9) rfl dX0_takeBack_53 ?_
    refine lv_aload_n hx hb dX0_takeBack_56 rfl (lv_at hl 0 rfl) ?_
    refine va_get (D := D) (ci := 0) (v := .int w6) (C := RX0) (T := TX0) (N := 5) hx hb hts in0 hown hG.1 hP 0 rfl rfl 3 (by decide) (hts (.fieldLink RX0 21 "ChairCane$Acts" "next" "I") (mem_b bq_wsX0_takeBack 0 1 rfl)) (fun _ h9 => h9) rfl dX0_takeBack_57 ?_
    refine va_iald hx hb hG.1 hP 1 0 rfl rfl (ib_vp g7) dX0_takeBack_60 ?_
    refine lv_bipush (v := 8) hx hb dX0_takeBack_61 (by decide) ?_
    refine lv_ishr hx hb dX0_takeBack_63 ?_
    refine lv_topi (fun w9 ew9 => ?_)
    rw [← ew9] at h
    refine va_put (D := D) (ci := 2) (v := .int w9) (C := RX3) (T := TX3) (N := 17) hx hb hts in3 tyX3 tyX3_ok nmX3 hown hG.1 hP hD hS 4 rfl rfl 11 (by decide) (hts (.fieldLink RX0 39 "ChairCane$Room" "dropped" "I") (mem_b bq_wsX0_takeBack 0 4 rfl)) (fun _ h9 => h9) rfl (tyX3_ok 11 (by decide)) rfl rfl (Nat.le_of_ble_eq_true rfl) dX0_takeBack_64 (fun H locs hP hD hS => ?_)
    refine lv_aload_n hx hb dX0_takeBack_67 rfl (lv_at hl 1 rfl) ?_
    refine lv_aload_n hx hb dX0_takeBack_68 rfl (lv_at hl 0 rfl) ?_
    refine va_get (D := D) (ci := 0) (v := .ref (ca 2)) (C := RX0) (T := TX0) (N := 5) hx hb hts in0 hown hG.1 hP 0 rfl rfl 1 (by decide) (hts (.fieldLink RX0 15 "ChairCane$Acts" "minutes" "[I") (mem_b bq_wsX0_takeBack 0 5 rfl)) (fun _ h9 => h9) rfl dX0_takeBack_69 ?_
    refine lv_aload_n hx hb dX0_takeBack_72 rfl (lv_at hl 0 rfl) ?_
    refine va_get (D := D) (ci := 0) (v := .int w6) (C := RX0) (T := TX0) (N := 5) hx hb hts in0 hown hG.1 hP 0 rfl rfl 3 (by decide) (hts (.fieldLink RX0 21 "ChairCane$Acts" "next" "I") (mem_b bq_wsX0_takeBack 0 1 rfl)) (fun _ h9 => h9) rfl dX0_takeBack_73 ?_
    refine va_iald hx hb hG.1 hP 2 0 rfl rfl (ib_vp g7) dX0_takeBack_76 ?_
    refine lv_topi (fun w10 ew10 => ?_)
    rw [← ew10] at h
    refine va_put (D := D) (ci := 2) (v := .int w10) (C := RX3) (T := TX3) (N := 17) hx hb hts in3 tyX3 tyX3_ok nmX3 hown hG.1 hP hD hS 4 rfl rfl 12 (by decide) (hts (.fieldLink RX0 42 "ChairCane$Room" "minute" "I") (mem_b bq_wsX0_takeBack 0 6 rfl)) (fun _ h9 => h9) rfl (tyX3_ok 12 (by decide)) rfl rfl (Nat.le_of_ble_eq_true rfl) dX0_takeBack_77 (fun H locs hP hD hS => ?_)
    refine lv_iconst (v := 0) hx hb dX0_takeBack_80 (by decide) ?_
    refine lv_istore_n (lv' := [(2, .int 0), (0, .ref (ca 0)), (1, .ref (xa 0))]) hx hb dX0_takeBack_81 rfl hl (by decide) rfl (fun ls hl => ?_)
    exact C82 _ _ _ h _ _ _ hP hD hS (lv_sub hl [1, 2, 0] rfl)
  · have h := fw_f c5 h
    exact fw_endV (wp := fun b : OB × OB => acW k ca b.1 ++ (rmW k xa b.2)) hx hb hr hlocks h hP hD hS dX0_takeBack_7
noncomputable def f_X2_forget (F : Nat)   (nt : OB) : Option (OB) :=
  some ((uF nt.1 3 0), nt.2.1, nt.2.2)
set_option maxRecDepth 20000 in
theorem bq_wsX2_forget : subq wsX2_forget [[.fieldLink RX2 21 "ChairCane$Notes" "many" "I"]] := ⟨(fun _ h => (List.mem_cons_of_mem _ (List.mem_append_left _ h))), trivial⟩
set_option maxHeartbeats 4000000 in
set_option maxRecDepth 100000 in
theorem c_X2_forget (l : Launch) (D : va_G) (k : Nat → ClassId) (sz : Nat)  (na : Nat → Nat) (F : Nat)   (nt : OB)  {res : OB} (h : f_X2_forget F nt = some res) : CtV l yX2_forget wsX2_forget (rmK 1 0 0) [.ref (na 0)] D k sz (ntW k na nt) (fun (_ : Unit) => True) (fun _ : Unit => ntW k na res) 0 0 := by
  refine CtV.mk (cc := cX2_forget) (maxL := 1) (ret := none) (by decide) rfl (Nat.le_of_ble_eq_true rfl) ?_
  intro p e s m below meth c A ls E hP hD hS hl
  obtain ⟨hx, hb, hr, hml, hown, hts, hlocks, hin, hG, hA⟩ := E
  have hown : s.vm.findClass RX2 = some m.cls := hown
  have in2 : ∀ w ∈ u_ws RX2 TX2 4, w ∈ wsX2_forget := fun _ h => List.mem_cons_of_mem _ (List.mem_append_right _ h)
  have hl : lv_has ls 1 [(0, .ref (na 0))] := hl
  refine lv_aload_n hx hb dX2_forget_0 rfl (lv_at hl 0 rfl) ?_
  refine lv_iconst (v := 0) hx hb dX2_forget_1 (by decide) ?_
  refine va_put (D := D) (ci := 1) (v := .int 0) (C := RX2) (T := TX2) (N := 4) hx hb hts in2 tyX2 tyX2_ok nmX2 hown hG.1 hP hD hS 0 rfl rfl 3 (by decide) (hts (.fieldLink RX2 21 "ChairCane$Notes" "many" "I") (mem_b bq_wsX2_forget 0 0 rfl)) (fun _ h9 => h9) rfl (tyX2_ok 3 (by decide)) rfl rfl (Nat.le_of_ble_eq_true rfl) dX2_forget_2 (fun H locs hP hD hS => ?_)
  exact fw_endV (wp := fun b : OB => ntW k na b) hx hb hr hlocks h hP hD hS dX2_forget_5
noncomputable def f_X2_copyFrom (F : Nat)   (nt : OB) (nu : OB) : Option (OB) :=
  some ((uF nt.1 3 (nu.1 3)), (uF (uF (uF nt.2.1 0 (va_cpy (nu.2.1 0) (nt.2.1 0) 0 0 10)) 1 (va_cpy (nu.2.1 1) (nt.2.1 1) 0 0 10)) 2 (va_cpy (nu.2.1 2) (nt.2.1 2) 0 0 10)), nt.2.2)
set_option maxRecDepth 20000 in
theorem bq_wsX2_copyFrom : subq wsX2_copyFrom [[.fieldLink RX2 9 "ChairCane$Notes" "minutes" "[I", .methodLink RX2 25 arraycopyName, .native arraycopyName, .static arraycopyName, .initialized "java/lang/System", .fieldLink RX2 15 "ChairCane$Notes" "whose" "[I", .fieldLink RX2 18 "ChairCane$Notes" "states" "[I", .fieldLink RX2 21 "ChairCane$Notes" "many" "I"]] := ⟨(fun _ h => (List.mem_cons_of_mem _ (List.mem_append_left _ h))), trivial⟩
set_option maxHeartbeats 4000000 in
set_option maxRecDepth 100000 in
theorem c_X2_copyFrom (l : Launch) (D : va_G) (k : Nat → ClassId) (sz : Nat)  (na : Nat → Nat) (nb : Nat → Nat) (F : Nat)   (nt : OB) (nu : OB)  {res : OB} (h : f_X2_copyFrom F nt nu = some res) : CtV l yX2_copyFrom wsX2_copyFrom (rmK 2 0 0) [.ref (na 0), .ref (nb 0)] D k sz (ntW k na nt ++ (ntW k nb nu)) (fun (_ : Unit) => True) (fun _ : Unit => ntW k na res ++ (ntW k nb nu)) 0 0 := by
  refine CtV.mk (cc := cX2_copyFrom) (maxL := 2) (ret := none) (by decide) rfl (Nat.le_of_ble_eq_true rfl) ?_
  intro p e s m below meth c A ls E hP hD hS hl
  obtain ⟨hx, hb, hr, hml, hown, hts, hlocks, hin, hG, hA⟩ := E
  have hown : s.vm.findClass RX2 = some m.cls := hown
  have in2 : ∀ w ∈ u_ws RX2 TX2 4, w ∈ wsX2_copyFrom := fun _ h => List.mem_cons_of_mem _ (List.mem_append_right _ h)
  have hl : lv_has ls 2 [(0, .ref (na 0)), (1, .ref (nb 0))] := hl
  refine lv_aload_n hx hb dX2_copyFrom_0 rfl (lv_at hl 1 rfl) ?_
  refine va_get (D := D) (ci := 1) (v := .ref (nb 1)) (C := RX2) (T := TX2) (N := 4) hx hb hts in2 hown hG.1 hP 4 rfl rfl 0 (by decide) (hts (.fieldLink RX2 9 "ChairCane$Notes" "minutes" "[I") (mem_b bq_wsX2_copyFrom 0 0 rfl)) (fun _ h9 => h9) rfl dX2_copyFrom_1 ?_
  refine lv_iconst (v := 0) hx hb dX2_copyFrom_4 (by decide) ?_
  refine lv_aload_n hx hb dX2_copyFrom_5 rfl (lv_at hl 0 rfl) ?_
  refine va_get (D := D) (ci := 1) (v := .ref (na 1)) (C := RX2) (T := TX2) (N := 4) hx hb hts in2 hown hG.1 hP 0 rfl rfl 0 (by decide) (hts (.fieldLink RX2 9 "ChairCane$Notes" "minutes" "[I") (mem_b bq_wsX2_copyFrom 0 0 rfl)) (fun _ h9 => h9) rfl dX2_copyFrom_6 ?_
  refine lv_iconst (v := 0) hx hb dX2_copyFrom_9 (by decide) ?_
  refine lv_bipush (v := 10) hx hb dX2_copyFrom_10 (by decide) ?_
  refine va_copyi hx hb (by rw [hml]; exact hl.1.symm) hown (hts (.methodLink RX2 25 arraycopyName) (mem_b bq_wsX2_copyFrom 0 1 rfl)) (hts (.native arraycopyName) (mem_b bq_wsX2_copyFrom 0 2 rfl)) (hts (.static arraycopyName) (mem_b bq_wsX2_copyFrom 0 3 rfl)) (hts (.initialized "java/lang/System") (mem_b bq_wsX2_copyFrom 0 4 rfl)) hG.1 hP hD hS 5 1 0 0 rfl rfl rfl rfl rfl (by decide) (by decide) (by decide) (by decide) (by decide) (fun _ _ => rfl) (Nat.le_of_ble_eq_true rfl) (Nat.le_of_ble_eq_true rfl) dX2_copyFrom_12 (fun H locs hP hD hS => ?_)
  refine lv_aload_n hx hb dX2_copyFrom_15 rfl (lv_at hl 1 rfl) ?_
  refine va_get (D := D) (ci := 1) (v := .ref (nb 2)) (C := RX2) (T := TX2) (N := 4) hx hb hts in2 hown hG.1 hP 4 rfl rfl 1 (by decide) (hts (.fieldLink RX2 15 "ChairCane$Notes" "whose" "[I") (mem_b bq_wsX2_copyFrom 0 5 rfl)) (fun _ h9 => h9) rfl dX2_copyFrom_16 ?_
  refine lv_iconst (v := 0) hx hb dX2_copyFrom_19 (by decide) ?_
  refine lv_aload_n hx hb dX2_copyFrom_20 rfl (lv_at hl 0 rfl) ?_
  refine va_get (D := D) (ci := 1) (v := .ref (na 2)) (C := RX2) (T := TX2) (N := 4) hx hb hts in2 hown hG.1 hP 0 rfl rfl 1 (by decide) (hts (.fieldLink RX2 15 "ChairCane$Notes" "whose" "[I") (mem_b bq_wsX2_copyFrom 0 5 rfl)) (fun _ h9 => h9) rfl dX2_copyFrom_21 ?_
  refine lv_iconst (v := 0) hx hb dX2_copyFrom_24 (by decide) ?_
  refine lv_bipush (v := 10) hx hb dX2_copyFrom_25 (by decide) ?_
  refine va_copyi hx hb (by rw [hml]; exact hl.1.symm) hown (hts (.methodLink RX2 25 arraycopyName) (mem_b bq_wsX2_copyFrom 0 1 rfl)) (hts (.native arraycopyName) (mem_b bq_wsX2_copyFrom 0 2 rfl)) (hts (.static arraycopyName) (mem_b bq_wsX2_copyFrom 0 3 rfl)) (hts (.initialized "java/lang/System") (mem_b bq_wsX2_copyFrom 0 4 rfl)) hG.1 hP hD hS 6 2 0 0 rfl rfl rfl rfl rfl (by decide) (by decide) (by decide) (by decide) (by decide) (fun _ _ => rfl) (Nat.le_of_ble_eq_true rfl) (Nat.le_of_ble_eq_true rfl) dX2_copyFrom_27 (fun H locs hP hD hS => ?_)
  refine lv_aload_n hx hb dX2_copyFrom_30 rfl (lv_at hl 1 rfl) ?_
  refine va_get (D := D) (ci := 1) (v := .ref (nb 3)) (C := RX2) (T := TX2) (N := 4) hx hb hts in2 hown hG.1 hP 4 rfl rfl 2 (by decide) (hts (.fieldLink RX2 18 "ChairCane$Notes" "states" "[I") (mem_b bq_wsX2_copyFrom 0 6 rfl)) (fun _ h9 => h9) rfl dX2_copyFrom_31 ?_
  refine lv_iconst (v := 0) hx hb dX2_copyFrom_34 (by decide) ?_
  refine lv_aload_n hx hb dX2_copyFrom_35 rfl (lv_at hl 0 rfl) ?_
  refine va_get (D := D) (ci := 1) (v := .ref (na 3)) (C := RX2) (T := TX2) (N := 4) hx hb hts in2 hown hG.1 hP 0 rfl rfl 2 (by decide) (hts (.fieldLink RX2 18 "ChairCane$Notes" "states" "[I") (mem_b bq_wsX2_copyFrom 0 6 rfl)) (fun _ h9 => h9) rfl dX2_copyFrom_36 ?_
  refine lv_iconst (v := 0) hx hb dX2_copyFrom_39 (by decide) ?_
  refine lv_bipush (v := 10) hx hb dX2_copyFrom_40 (by decide) ?_
  refine va_copyi hx hb (by rw [hml]; exact hl.1.symm) hown (hts (.methodLink RX2 25 arraycopyName) (mem_b bq_wsX2_copyFrom 0 1 rfl)) (hts (.native arraycopyName) (mem_b bq_wsX2_copyFrom 0 2 rfl)) (hts (.static arraycopyName) (mem_b bq_wsX2_copyFrom 0 3 rfl)) (hts (.initialized "java/lang/System") (mem_b bq_wsX2_copyFrom 0 4 rfl)) hG.1 hP hD hS 7 3 0 0 rfl rfl rfl rfl rfl (by decide) (by decide) (by decide) (by decide) (by decide) (fun _ _ => rfl) (Nat.le_of_ble_eq_true rfl) (Nat.le_of_ble_eq_true rfl) dX2_copyFrom_42 (fun H locs hP hD hS => ?_)
  refine lv_aload_n hx hb dX2_copyFrom_45 rfl (lv_at hl 0 rfl) ?_
  refine lv_aload_n hx hb dX2_copyFrom_46 rfl (lv_at hl 1 rfl) ?_
  refine va_get (D := D) (ci := 1) (v := .int (nu.1 3)) (C := RX2) (T := TX2) (N := 4) hx hb hts in2 hown hG.1 hP 4 rfl rfl 3 (by decide) (hts (.fieldLink RX2 21 "ChairCane$Notes" "many" "I") (mem_b bq_wsX2_copyFrom 0 7 rfl)) (fun _ h9 => h9) rfl dX2_copyFrom_47 ?_
  refine va_put (D := D) (ci := 1) (v := .int (nu.1 3)) (C := RX2) (T := TX2) (N := 4) hx hb hts in2 tyX2 tyX2_ok nmX2 hown hG.1 hP hD hS 0 rfl rfl 3 (by decide) (hts (.fieldLink RX2 21 "ChairCane$Notes" "many" "I") (mem_b bq_wsX2_copyFrom 0 7 rfl)) (fun _ h9 => h9) rfl (tyX2_ok 3 (by decide)) rfl rfl (Nat.le_of_ble_eq_true rfl) dX2_copyFrom_50 (fun H locs hP hD hS => ?_)
  exact fw_endV (wp := fun b : OB => ntW k na b ++ (ntW k nb nu)) hx hb hr hlocks h hP hD hS dX2_copyFrom_53
noncomputable def f_X2_add (F : Nat)  (x1 : Int32) (x2 : Int32) (x3 : Int32) (nt : OB) : Option (Int32 × OB) :=
  if (nt.1 3) < 10 then (if ib (nt.1 3) 10 then (some (1, ((uF nt.1 3 ((nt.1 3) + 1)), (uF (uF (uF nt.2.1 0 (upd (nt.2.1 0) (Int32.toNatClampNeg (nt.1 3)) x1)) 1 (upd (nt.2.1 1) (Int32.toNatClampNeg (nt.1 3)) x2)) 2 (upd (nt.2.1 2) (Int32.toNatClampNeg (nt.1 3)) x3)), nt.2.2))) else none) else (some (0, nt))
set_option maxRecDepth 20000 in
theorem bq_wsX2_add : subq wsX2_add [[.fieldLink RX2 21 "ChairCane$Notes" "many" "I", .fieldLink RX2 9 "ChairCane$Notes" "minutes" "[I", .fieldLink RX2 15 "ChairCane$Notes" "whose" "[I", .fieldLink RX2 18 "ChairCane$Notes" "states" "[I"]] := ⟨(fun _ h => (List.mem_cons_of_mem _ (List.mem_append_left _ h))), trivial⟩
set_option maxHeartbeats 4000000 in
set_option maxRecDepth 100000 in
theorem c_X2_add (l : Launch) (D : va_G) (k : Nat → ClassId) (sz : Nat)  (na : Nat → Nat) (F : Nat)  (x1 : Int32) (x2 : Int32) (x3 : Int32) (nt : OB)  {res : Int32 × OB} (h : f_X2_add F x1 x2 x3 nt = some res) : CtI l yX2_add wsX2_add (rmK 1 0 0) [.ref (na 0), .int x1, .int x2, .int x3] D k sz (ntW k na nt) (fun r (_ : Unit) => r = res.1) (fun _ : Unit => ntW k na res.2) 0 0 := by
  refine CtI.mk (cc := cX2_add) (maxL := 4) (ret := (some .boolean)) (by decide) rfl (Nat.le_of_ble_eq_true rfl) ?_
  intro p e s m below meth c A ls E hP hD hS hl
  obtain ⟨hx, hb, hr, hml, hown, hts, hlocks, hin, hG, hA⟩ := E
  have hown : s.vm.findClass RX2 = some m.cls := hown
  have in2 : ∀ w ∈ u_ws RX2 TX2 4, w ∈ wsX2_add := fun _ h => List.mem_cons_of_mem _ (List.mem_append_right _ h)
  have hl : lv_has ls 4 [(0, .ref (na 0)), (1, .int x1), (2, .int x2), (3, .int x3)] := hl
  refine lv_aload_n hx hb dX2_add_0 rfl (lv_at hl 0 rfl) ?_
  refine va_get (D := D) (ci := 1) (v := .int (nt.1 3)) (C := RX2) (T := TX2) (N := 4) hx hb hts in2 hown hG.1 hP 0 rfl rfl 3 (by decide) (hts (.fieldLink RX2 21 "ChairCane$Notes" "many" "I") (mem_b bq_wsX2_add 0 0 rfl)) (fun _ h9 => h9) rfl dX2_add_1 ?_
  refine lv_bipush (v := 10) hx hb dX2_add_4 (by decide) ?_
  refine lv_icmp_lt (tgt := 11) hx hb dX2_add_6 (by decide) (fun c1 => ?_) (fun c1 => ?_)
  · have h := fw_t c1 h
    refine lv_aload_n hx hb dX2_add_11 rfl (lv_at hl 0 rfl) ?_
    refine va_get (D := D) (ci := 1) (v := .ref (na 1)) (C := RX2) (T := TX2) (N := 4) hx hb hts in2 hown hG.1 hP 0 rfl rfl 0 (by decide) (hts (.fieldLink RX2 9 "ChairCane$Notes" "minutes" "[I") (mem_b bq_wsX2_add 0 1 rfl)) (fun _ h9 => h9) rfl dX2_add_12 ?_
    refine lv_aload_n hx hb dX2_add_15 rfl (lv_at hl 0 rfl) ?_
    refine va_get (D := D) (ci := 1) (v := .int (nt.1 3)) (C := RX2) (T := TX2) (N := 4) hx hb hts in2 hown hG.1 hP 0 rfl rfl 3 (by decide) (hts (.fieldLink RX2 21 "ChairCane$Notes" "many" "I") (mem_b bq_wsX2_add 0 0 rfl)) (fun _ h9 => h9) rfl dX2_add_16 ?_
    refine lv_iload_n hx hb dX2_add_19 rfl (lv_at hl 1 rfl) ?_
    obtain ⟨g2, h⟩ := fw_g h
    refine va_iast hx hb hG.1 hP hD hS 1 0 rfl rfl (ib_vp g2) dX2_add_20 (fun H locs hP hD hS => ?_)
    refine lv_aload_n hx hb dX2_add_21 rfl (lv_at hl 0 rfl) ?_
    refine va_get (D := D) (ci := 1) (v := .ref (na 2)) (C := RX2) (T := TX2) (N := 4) hx hb hts in2 hown hG.1 hP 0 rfl rfl 1 (by decide) (hts (.fieldLink RX2 15 "ChairCane$Notes" "whose" "[I") (mem_b bq_wsX2_add 0 2 rfl)) (fun _ h9 => h9) rfl dX2_add_22 ?_
    refine lv_aload_n hx hb dX2_add_25 rfl (lv_at hl 0 rfl) ?_
    refine va_get (D := D) (ci := 1) (v := .int (nt.1 3)) (C := RX2) (T := TX2) (N := 4) hx hb hts in2 hown hG.1 hP 0 rfl rfl 3 (by decide) (hts (.fieldLink RX2 21 "ChairCane$Notes" "many" "I") (mem_b bq_wsX2_add 0 0 rfl)) (fun _ h9 => h9) rfl dX2_add_26 ?_
    refine lv_iload_n hx hb dX2_add_29 rfl (lv_at hl 2 rfl) ?_
    refine va_iast hx hb hG.1 hP hD hS 2 0 rfl rfl (ib_vp g2) dX2_add_30 (fun H locs hP hD hS => ?_)
    refine lv_aload_n hx hb dX2_add_31 rfl (lv_at hl 0 rfl) ?_
    refine va_get (D := D) (ci := 1) (v := .ref (na 3)) (C := RX2) (T := TX2) (N := 4) hx hb hts in2 hown hG.1 hP 0 rfl rfl 2 (by decide) (hts (.fieldLink RX2 18 "ChairCane$Notes" "states" "[I") (mem_b bq_wsX2_add 0 3 rfl)) (fun _ h9 => h9) rfl dX2_add_32 ?_
    refine lv_aload_n hx hb dX2_add_35 rfl (lv_at hl 0 rfl) ?_
    refine va_get (D := D) (ci := 1) (v := .int (nt.1 3)) (C := RX2) (T := TX2) (N := 4) hx hb hts in2 hown hG.1 hP 0 rfl rfl 3 (by decide) (hts (.fieldLink RX2 21 "ChairCane$Notes" "many" "I") (mem_b bq_wsX2_add 0 0 rfl)) (fun _ h9 => h9) rfl dX2_add_36 ?_
    refine lv_iload_n hx hb dX2_add_39 rfl (lv_at hl 3 rfl) ?_
    refine va_iast hx hb hG.1 hP hD hS 3 0 rfl rfl (ib_vp g2) dX2_add_40 (fun H locs hP hD hS => ?_)
    refine lv_aload_n hx hb dX2_add_41 rfl (lv_at hl 0 rfl) ?_
    refine lv_dup hx hb dX2_add_42 rfl ?_
    refine va_get (D := D) (ci := 1) (v := .int (nt.1 3)) (C := RX2) (T := TX2) (N := 4) hx hb hts in2 hown hG.1 hP 0 rfl rfl 3 (by decide) (hts (.fieldLink RX2 21 "ChairCane$Notes" "many" "I") (mem_b bq_wsX2_add 0 0 rfl)) (fun _ h9 => h9) rfl dX2_add_43 ?_
    refine lv_iconst (v := 1) hx hb dX2_add_46 (by decide) ?_
    refine lv_iadd hx hb dX2_add_47 ?_
    refine va_put (D := D) (ci := 1) (v := .int ((nt.1 3) + 1)) (C := RX2) (T := TX2) (N := 4) hx hb hts in2 tyX2 tyX2_ok nmX2 hown hG.1 hP hD hS 0 rfl rfl 3 (by decide) (hts (.fieldLink RX2 21 "ChairCane$Notes" "many" "I") (mem_b bq_wsX2_add 0 0 rfl)) (fun _ h9 => h9) rfl (tyX2_ok 3 (by decide)) rfl rfl (Nat.le_of_ble_eq_true rfl) dX2_add_48 (fun H locs hP hD hS => ?_)
    refine lv_iconst (v := 1) hx hb dX2_add_51 (by decide) ?_
    exact fw_endZ (v := 1) (rv := fun b : Int32 × OB => b.1) (wp := fun b : Int32 × OB => ntW k na b.2) hx hb hr hlocks h rfl rfl hP hD hS dX2_add_52
  · have h := fw_f c1 h
    refine lv_iconst (v := 0) hx hb dX2_add_9 (by decide) ?_
    exact fw_endZ (v := 0) (rv := fun b : Int32 × OB => b.1) (wp := fun b : Int32 × OB => ntW k na b.2) hx hb hr hlocks h rfl rfl hP hD hS dX2_add_10
noncomputable def b_X2_lastMinute_4 (F : Nat)  (nt : OB)  (k4 : (Int32 × Int32) → Option (Int32)) (a4 : (Int32 × Int32)) : Option (Int32) :=
  if (nt.1 3) ≤ a4.2 then (some a4.1) else (if ib a4.2 10 then (k4 ((if a4.1 < ((nt.2.1 0) (Int32.toNatClampNeg a4.2)) then ((nt.2.1 0) (Int32.toNatClampNeg a4.2)) else a4.1), (a4.2 + 1))) else none)
noncomputable def f_X2_lastMinute (F : Nat)   (nt : OB) : Option (Int32) :=
  lp (b_X2_lastMinute_4 F nt) F ((-1), 0)
set_option maxRecDepth 20000 in
theorem bq_wsX2_lastMinute : subq wsX2_lastMinute [[.fieldLink RX2 21 "ChairCane$Notes" "many" "I", .fieldLink RX2 9 "ChairCane$Notes" "minutes" "[I", .methodLink RX2 31 Lib.Math.max.name, .static Lib.Math.max.name, .initialized "java/lang/Math", .code Lib.Math.max.name Lib.Math.max.code 2 (some .int)]] := ⟨(fun _ h => (List.mem_cons_of_mem _ (List.mem_append_left _ h))), trivial⟩
set_option maxHeartbeats 4000000 in
set_option maxRecDepth 100000 in
theorem c_X2_lastMinute (l : Launch) (D : va_G) (k : Nat → ClassId) (sz : Nat)  (na : Nat → Nat) (F : Nat)   (nt : OB)  {res : Int32} (h : f_X2_lastMinute F nt = some res) : CtI l yX2_lastMinute wsX2_lastMinute (rmK 2 0 0) [.ref (na 0)] D k sz (ntW k na nt) (fun r (_ : Unit) => r = res) (fun _ : Unit => ntW k na nt) 0 0 := by
  refine CtI.mk (cc := cX2_lastMinute) (maxL := 3) (ret := (some .int)) (by decide) rfl (Nat.le_of_ble_eq_true rfl) ?_
  intro p e s m below meth c A ls E hP hD hS hl
  obtain ⟨hx, hb, hr, hml, hown, hts, hlocks, hin, hG, hA⟩ := E
  have hown : s.vm.findClass RX2 = some m.cls := hown
  have in2 : ∀ w ∈ u_ws RX2 TX2 4, w ∈ wsX2_lastMinute := fun _ h => List.mem_cons_of_mem _ (List.mem_append_right _ h)
  have hl : lv_has ls 3 [(0, .ref (na 0))] := hl
  have B4 : ∀ a4 : (Int32 × Int32), lp (b_X2_lastMinute_4 F nt) F a4 = some res → ∀ (H : Heap) (locs : List Loc) (ls : Array Slot), va_P D vwCl (ntW k na nt) H → va_D A (ntW k na nt) → va_S A s.heap H locs → lv_has ls 3 [(0, .ref (na 0)), (1, .int a4.1), (2, .int a4.2)] → W p l e (rmK 2 0 0) s m (List.toArray [.ref (na 0)]) below meth c H locs 0 0 (MQ below (va_Qi (fun r (_ : Unit) => r = res) (hcB D (fun _ : Unit => ntW k na nt) A) A) (List.toArray [.ref (na 0)]) s 0 0 A) (F0 m 4 ls []) := by
    refine lp_W ?_ F
    intro k4 hk4 a4 h H locs ls hP hD hS hl
    have hc4 : ∀ (v1 : Int32) (v2 : Int32), k4 (v1, v2) = some res → ∀ (H : Heap) (locs : List Loc) (ls : Array Slot), va_P D vwCl (ntW k na nt) H → va_D A (ntW k na nt) → va_S A s.heap H locs → lv_has ls 3 [(0, .ref (na 0)), (1, .int v1), (2, .int v2)] → W p l e (rmK 2 0 0) s m (List.toArray [.ref (na 0)]) below meth c H locs 0 0 (MQ below (va_Qi (fun r (_ : Unit) => r = res) (hcB D (fun _ : Unit => ntW k na nt) A) A) (List.toArray [.ref (na 0)]) s 0 0 A) (F0 m 4 ls []) := fun v1 v2 => hk4 (v1, v2)
    refine lv_iload_n hx hb dX2_lastMinute_4 rfl (lv_at hl 2 rfl) ?_
    refine lv_aload_n hx hb dX2_lastMinute_5 rfl (lv_at hl 0 rfl) ?_
    refine va_get (D := D) (ci := 1) (v := .int (nt.1 3)) (C := RX2) (T := TX2) (N := 4) hx hb hts in2 hown hG.1 hP 0 rfl rfl 3 (by decide) (hts (.fieldLink RX2 21 "ChairCane$Notes" "many" "I") (mem_b bq_wsX2_lastMinute 0 0 rfl)) (fun _ h9 => h9) rfl dX2_lastMinute_6 ?_
    refine lv_icmp_ge (tgt := 29) hx hb dX2_lastMinute_9 (by decide) (fun c1 => ?_) (fun c1 => ?_)
    · have h := fw_t c1 h
      refine lv_iload_n hx hb dX2_lastMinute_29 rfl (lv_at hl 1 rfl) ?_
      exact fw_endI (rv := fun b : Int32 => b) (wp := fun b : Int32 => ntW k na nt) hx hb hr hlocks h rfl hP hD hS dX2_lastMinute_30
    · have h := fw_f c1 h
      refine lv_iload_n hx hb dX2_lastMinute_12 rfl (lv_at hl 1 rfl) ?_
      refine lv_aload_n hx hb dX2_lastMinute_13 rfl (lv_at hl 0 rfl) ?_
      refine va_get (D := D) (ci := 1) (v := .ref (na 1)) (C := RX2) (T := TX2) (N := 4) hx hb hts in2 hown hG.1 hP 0 rfl rfl 0 (by decide) (hts (.fieldLink RX2 9 "ChairCane$Notes" "minutes" "[I") (mem_b bq_wsX2_lastMinute 0 1 rfl)) (fun _ h9 => h9) rfl dX2_lastMinute_14 ?_
      refine lv_iload_n hx hb dX2_lastMinute_17 rfl (lv_at hl 2 rfl) ?_
      obtain ⟨g2, h⟩ := fw_g h
      refine va_iald hx hb hG.1 hP 1 0 rfl rfl (ib_vp g2) dX2_lastMinute_18 ?_
      refine va_mmax hx hb (by rw [hml]; exact hl.1.symm) hown (hts (.methodLink RX2 31 Lib.Math.max.name) (mem_b bq_wsX2_lastMinute 0 2 rfl)) (hts (.static Lib.Math.max.name) (mem_b bq_wsX2_lastMinute 0 3 rfl)) (hts (.initialized "java/lang/Math") (mem_b bq_wsX2_lastMinute 0 4 rfl)) (hts (.code Lib.Math.max.name Lib.Math.max.code 2 (some .int)) (mem_b bq_wsX2_lastMinute 0 5 rfl)) (Nat.le_of_ble_eq_true rfl) (Nat.le_of_ble_eq_true rfl) (Nat.le_of_ble_eq_true rfl) (Nat.le_of_ble_eq_true rfl) dX2_lastMinute_19 ?_
      refine lv_istore_n (lv' := [(1, .int (if a4.1 < ((nt.2.1 0) (Int32.toNatClampNeg a4.2)) then ((nt.2.1 0) (Int32.toNatClampNeg a4.2)) else a4.1)), (0, .ref (na 0)), (2, .int a4.2)]) hx hb dX2_lastMinute_22 rfl hl (by decide) rfl (fun ls hl => ?_)
      refine lv_iinc (v := (a4.2 + 1)) (lv' := [(2, .int (a4.2 + 1)), (1, .int (if a4.1 < ((nt.2.1 0) (Int32.toNatClampNeg a4.2)) then ((nt.2.1 0) (Int32.toNatClampNeg a4.2)) else a4.1)), (0, .ref (na 0))]) hx hb dX2_lastMinute_23 hl (k := 2) rfl rfl (by decide) rfl (fun ls hl => ?_)
      refine lv_goto (tgt := 4) hx hb dX2_lastMinute_26 (by decide) ?_
      exact hc4 _ _ h _ _ _ hP hD hS (lv_sub hl [2, 1, 0] rfl)
  have C4 : ∀ (v1 : Int32) (v2 : Int32), lp (b_X2_lastMinute_4 F nt) F (v1, v2) = some res → ∀ (H : Heap) (locs : List Loc) (ls : Array Slot), va_P D vwCl (ntW k na nt) H → va_D A (ntW k na nt) → va_S A s.heap H locs → lv_has ls 3 [(0, .ref (na 0)), (1, .int v1), (2, .int v2)] → W p l e (rmK 2 0 0) s m (List.toArray [.ref (na 0)]) below meth c H locs 0 0 (MQ below (va_Qi (fun r (_ : Unit) => r = res) (hcB D (fun _ : Unit => ntW k na nt) A) A) (List.toArray [.ref (na 0)]) s 0 0 A) (F0 m 4 ls []) := fun v1 v2 => B4 (v1, v2)
  refine lv_iconst (v := (-1)) hx hb dX2_lastMinute_0 (by decide) ?_
  refine lv_istore_n (lv' := [(1, .int (-1)), (0, .ref (na 0))]) hx hb dX2_lastMinute_1 rfl hl (by decide) rfl (fun ls hl => ?_)
  refine lv_iconst (v := 0) hx hb dX2_lastMinute_2 (by decide) ?_
  refine lv_istore_n (lv' := [(2, .int 0), (1, .int (-1)), (0, .ref (na 0))]) hx hb dX2_lastMinute_3 rfl hl (by decide) rfl (fun ls hl => ?_)
  exact C4 _ _ h _ _ _ hP hD hS (lv_sub hl [2, 1, 0] rfl)
noncomputable def b_X2_agree_41 (F : Nat)  (nt : OB) (rm : OB) (k2 : (Int32 × Int32) → Option (Int32)) (v1 : Int32) (v3 : Int32) : Option (Int32) :=
  k2 (v1, (v3 + 1))
noncomputable def b_X2_agree_2 (F : Nat)  (nt : OB) (rm : OB)  (k2 : (Int32 × Int32) → Option (Int32)) (a2 : (Int32 × Int32)) : Option (Int32) :=
  if (nt.1 3) ≤ a2.2 then (some 1) else (if ib a2.2 10 then (if ((nt.2.1 0) (Int32.toNatClampNeg a2.2)) = a2.1 then (Option.bind (f_X3_stateOf F ((nt.2.1 1) (Int32.toNatClampNeg a2.2)) rm) (fun q4 => (if q4 = ((nt.2.1 2) (Int32.toNatClampNeg a2.2)) then (b_X2_agree_41 F nt rm k2 a2.1 a2.2) else (some 0)))) else (b_X2_agree_41 F nt rm k2 a2.1 a2.2)) else none)
noncomputable def f_X2_agree (F : Nat)  (x1 : Int32) (nt : OB) (rm : OB) : Option (Int32) :=
  lp (b_X2_agree_2 F nt rm) F (x1, 0)
set_option maxHeartbeats 4000000 in
set_option maxRecDepth 100000 in
theorem c_X2_agree (l : Launch) (D : va_G) (k : Nat → ClassId) (sz : Nat)  (na : Nat → Nat) (xa : Nat → Nat) (F : Nat)  (x1 : Int32) (nt : OB) (rm : OB)  {res : Int32} (h : f_X2_agree F x1 nt rm = some res) : CtI l yX2_agree wsX2_agree (rmK 3 0 0) [.ref (na 0), .int x1, .ref (xa 0)] D k sz (ntW k na nt ++ (rmW k xa rm)) (fun r (_ : Unit) => r = res) (fun _ : Unit => ntW k na nt ++ (rmW k xa rm)) 0 0 := by
  refine CtI.mk (cc := cX2_agree) (maxL := 4) (ret := (some .boolean)) (by decide) rfl (Nat.le_of_ble_eq_true rfl) ?_
  intro p e s m below meth c A ls E hP hD hS hl
  obtain ⟨hx, hb, hr, hml, hown, hts, hlocks, hin, hG, hA⟩ := E
  have hown : s.vm.findClass RX2 = some m.cls := hown
  have in2 : ∀ w ∈ u_ws RX2 TX2 4, w ∈ wsX2_agree := fun _ h => List.mem_cons_of_mem _ (List.mem_append_left _ (List.mem_append_right _ h))
  have in3 : ∀ w ∈ u_ws RX3 TX3 17, w ∈ wsX2_agree := fun _ h => List.mem_cons_of_mem _ (List.mem_append_right _ h)
  have hl : lv_has ls 4 [(0, .ref (na 0)), (1, .int x1), (2, .ref (xa 0))] := hl
  have B2 : ∀ a2 : (Int32 × Int32), lp (b_X2_agree_2 F nt rm) F a2 = some res → ∀ (H : Heap) (locs : List Loc) (ls : Array Slot), va_P D vwCl (ntW k na nt ++ (rmW k xa rm)) H → va_D A (ntW k na nt ++ (rmW k xa rm)) → va_S A s.heap H locs → lv_has ls 4 [(0, .ref (na 0)), (1, .int a2.1), (2, .ref (xa 0)), (3, .int a2.2)] → W p l e (rmK 3 0 0) s m (List.toArray [.ref (na 0), .int x1, .ref (xa 0)]) below meth c H locs 0 0 (MQ below (va_Qi (fun r (_ : Unit) => r = res) (hcB D (fun _ : Unit => ntW k na nt ++ (rmW k xa rm)) A) A) (List.toArray [.ref (na 0), .int x1, .ref (xa 0)]) s 0 0 A) (F0 m 2 ls []) := by
    refine lp_W ?_ F
    intro k2 hk2 a2 h H locs ls hP hD hS hl
    have hc2 : ∀ (v1 : Int32) (v3 : Int32), k2 (v1, v3) = some res → ∀ (H : Heap) (locs : List Loc) (ls : Array Slot), va_P D vwCl (ntW k na nt ++ (rmW k xa rm)) H → va_D A (ntW k na nt ++ (rmW k xa rm)) → va_S A s.heap H locs → lv_has ls 4 [(0, .ref (na 0)), (1, .int v1), (2, .ref (xa 0)), (3, .int v3)] → W p l e (rmK 3 0 0) s m (List.toArray [.ref (na 0), .int x1, .ref (xa 0)]) below meth c H locs 0 0 (MQ below (va_Qi (fun r (_ : Unit) => r = res) (hcB D (fun _ : Unit => ntW k na nt ++ (rmW k xa rm)) A) A) (List.toArray [.ref (na 0), .int x1, .ref (xa 0)]) s 0 0 A) (F0 m 2 ls []) := fun v1 v3 => hk2 (v1, v3)
    have B41 : ∀ (v1 : Int32) (v3 : Int32) (H : Heap) (locs : List Loc) (ls : Array Slot), b_X2_agree_41 F nt rm k2 v1 v3 = some res → va_P D vwCl (ntW k na nt ++ (rmW k xa rm)) H → va_D A (ntW k na nt ++ (rmW k xa rm)) → va_S A s.heap H locs → lv_has ls 4 [(0, .ref (na 0)), (1, .int v1), (2, .ref (xa 0)), (3, .int v3)] → W p l e (rmK 3 0 0) s m (List.toArray [.ref (na 0), .int x1, .ref (xa 0)]) below meth c H locs 0 0 (MQ below (va_Qi (fun r (_ : Unit) => r = res) (hcB D (fun _ : Unit => ntW k na nt ++ (rmW k xa rm)) A) A) (List.toArray [.ref (na 0), .int x1, .ref (xa 0)]) s 0 0 A) (F0 m 41 ls []) := by
      intro v1 v3 H locs ls h hP hD hS hl
      refine lv_iinc (v := (v3 + 1)) (lv' := [(3, .int (v3 + 1)), (0, .ref (na 0)), (1, .int v1), (2, .ref (xa 0))]) hx hb dX2_agree_41 hl (k := 3) rfl rfl (by decide) rfl (fun ls hl => ?_)
      refine lv_goto (tgt := 2) hx hb dX2_agree_44 (by decide) ?_
      exact hc2 _ _ h _ _ _ hP hD hS (lv_sub hl [1, 2, 3, 0] rfl)
    refine lv_iload_n hx hb dX2_agree_2 rfl (lv_at hl 3 rfl) ?_
    refine lv_aload_n hx hb dX2_agree_3 rfl (lv_at hl 0 rfl) ?_
    refine va_get (D := D) (ci := 1) (v := .int (nt.1 3)) (C := RX2) (T := TX2) (N := 4) hx hb hts in2 hown hG.1 hP 0 rfl rfl 3 (by decide) (hts (.fieldLink RX2 21 "ChairCane$Notes" "many" "I") (mem_b bq_wsX2_agree 0 0 rfl)) (fun _ h9 => h9) rfl dX2_agree_4 ?_
    refine lv_icmp_ge (tgt := 47) hx hb dX2_agree_7 (by decide) (fun c1 => ?_) (fun c1 => ?_)
    · have h := fw_t c1 h
      refine lv_iconst (v := 1) hx hb dX2_agree_47 (by decide) ?_
      exact fw_endZ (v := 1) (rv := fun b : Int32 => b) (wp := fun b : Int32 => ntW k na nt ++ (rmW k xa rm)) hx hb hr hlocks h rfl rfl hP hD hS dX2_agree_48
    · have h := fw_f c1 h
      refine lv_aload_n hx hb dX2_agree_10 rfl (lv_at hl 0 rfl) ?_
      refine va_get (D := D) (ci := 1) (v := .ref (na 1)) (C := RX2) (T := TX2) (N := 4) hx hb hts in2 hown hG.1 hP 0 rfl rfl 0 (by decide) (hts (.fieldLink RX2 9 "ChairCane$Notes" "minutes" "[I") (mem_b bq_wsX2_agree 0 1 rfl)) (fun _ h9 => h9) rfl dX2_agree_11 ?_
      refine lv_iload_n hx hb dX2_agree_14 rfl (lv_at hl 3 rfl) ?_
      obtain ⟨g2, h⟩ := fw_g h
      refine va_iald hx hb hG.1 hP 1 0 rfl rfl (ib_vp g2) dX2_agree_15 ?_
      refine lv_iload_n hx hb dX2_agree_16 rfl (lv_at hl 1 rfl) ?_
      refine lv_icmp_ne (tgt := 41) hx hb dX2_agree_17 (by decide) (fun c3 => ?_) (fun c3 => ?_)
      · have h := fw_f c3 h
        exact B41 _ _ _ _ _ h hP hD hS hl
      · have h := fw_t c3 h
        refine lv_aload_n hx hb dX2_agree_20 rfl (lv_at hl 2 rfl) ?_
        refine lv_aload_n hx hb dX2_agree_21 rfl (lv_at hl 0 rfl) ?_
        refine va_get (D := D) (ci := 1) (v := .ref (na 2)) (C := RX2) (T := TX2) (N := 4) hx hb hts in2 hown hG.1 hP 0 rfl rfl 1 (by decide) (hts (.fieldLink RX2 15 "ChairCane$Notes" "whose" "[I") (mem_b bq_wsX2_agree 0 2 rfl)) (fun _ h9 => h9) rfl dX2_agree_22 ?_
        refine lv_iload_n hx hb dX2_agree_25 rfl (lv_at hl 3 rfl) ?_
        refine va_iald hx hb hG.1 hP 2 0 rfl rfl (ib_vp g2) dX2_agree_26 ?_
        obtain ⟨hP, hD⟩ := qm hP hD (q_to [ntW k na nt, rmW k xa rm] [0, 1] [1] [0] (by decide +kernel))
        refine fw_Vi (As := [.int ((nt.2.1 1) (Int32.toNatClampNeg a2.2))]) (rest := []) (n := 1) (rv := fun b : Int32 => b) (wp := fun b : Int32 => rmW k xa rm) h hx hb hml hown hts hG hA hP hD hS hl.1 _ _ (fun q hq9 => c_X3_stateOf l D k _  xa F ((nt.2.1 1) (Int32.toNatClampNeg a2.2)) rm  hq9) (ci := 2) (q0 := 0) rfl rfl gX2_agree_X3_stateOf rfl ⟨rfl, rfl, Nat.le_of_ble_eq_true rfl, Nat.le_of_ble_eq_true rfl⟩ (by decide +kernel) (q_l _ _) (q_r _ _) (q_nd _ _) ⟨rfl, rfl, Nat.le_of_ble_eq_true rfl, Nat.le_of_ble_eq_true rfl, Nat.le_of_ble_eq_true rfl⟩ dX2_agree_27 (fun q4 H locs h hP hD hS => ?_)
        obtain ⟨hP, hD⟩ := qm (w2 := ntW k na nt ++ (rmW k xa rm)) hP hD (q_from [ntW k na nt, rmW k xa rm] [0] [1] [0, 1] (by decide +kernel))
        refine hc_is (z := q4) rfl ?_
        refine lv_aload_n hx hb dX2_agree_30 rfl (lv_at hl 0 rfl) ?_
        refine va_get (D := D) (ci := 1) (v := .ref (na 3)) (C := RX2) (T := TX2) (N := 4) hx hb hts in2 hown hG.1 hP 0 rfl rfl 2 (by decide) (hts (.fieldLink RX2 18 "ChairCane$Notes" "states" "[I") (mem_b bq_wsX2_agree 0 3 rfl)) (fun _ h9 => h9) rfl dX2_agree_31 ?_
        refine lv_iload_n hx hb dX2_agree_34 rfl (lv_at hl 3 rfl) ?_
        refine va_iald hx hb hG.1 hP 3 0 rfl rfl (ib_vp g2) dX2_agree_35 ?_
        refine lv_icmp_eq (tgt := 41) hx hb dX2_agree_36 (by decide) (fun c5 => ?_) (fun c5 => ?_)
        · have h := fw_t c5 h
          exact B41 _ _ _ _ _ h hP hD hS hl
        · have h := fw_f c5 h
          refine lv_iconst (v := 0) hx hb dX2_agree_39 (by decide) ?_
          exact fw_endZ (v := 0) (rv := fun b : Int32 => b) (wp := fun b : Int32 => ntW k na nt ++ (rmW k xa rm)) hx hb hr hlocks h rfl rfl hP hD hS dX2_agree_40
  have C2 : ∀ (v1 : Int32) (v3 : Int32), lp (b_X2_agree_2 F nt rm) F (v1, v3) = some res → ∀ (H : Heap) (locs : List Loc) (ls : Array Slot), va_P D vwCl (ntW k na nt ++ (rmW k xa rm)) H → va_D A (ntW k na nt ++ (rmW k xa rm)) → va_S A s.heap H locs → lv_has ls 4 [(0, .ref (na 0)), (1, .int v1), (2, .ref (xa 0)), (3, .int v3)] → W p l e (rmK 3 0 0) s m (List.toArray [.ref (na 0), .int x1, .ref (xa 0)]) below meth c H locs 0 0 (MQ below (va_Qi (fun r (_ : Unit) => r = res) (hcB D (fun _ : Unit => ntW k na nt ++ (rmW k xa rm)) A) A) (List.toArray [.ref (na 0), .int x1, .ref (xa 0)]) s 0 0 A) (F0 m 2 ls []) := fun v1 v3 => B2 (v1, v3)
  refine lv_iconst (v := 0) hx hb dX2_agree_0 (by decide) ?_
  refine lv_istore_n (lv' := [(3, .int 0), (0, .ref (na 0)), (1, .int x1), (2, .ref (xa 0))]) hx hb dX2_agree_1 rfl hl (by decide) rfl (fun ls hl => ?_)
  exact C2 _ _ h _ _ _ hP hD hS (lv_sub hl [1, 2, 3, 0] rfl)
noncomputable def f_X4_clear (F : Nat)   (ru : OB) : Option (OB) :=
  some ((uF (uF (uF ru.1 5 0) 6 0) 7 0), ru.2.1, ru.2.2)
set_option maxRecDepth 20000 in
theorem bq_wsX4_clear : subq wsX4_clear [[.fieldLink RX4 28 "ChairCane$Rule" "length" "I", .fieldLink RX4 32 "ChairCane$Rule" "clauses" "I", .fieldLink RX4 35 "ChairCane$Rule" "units" "I"]] := ⟨(fun _ h => (List.mem_cons_of_mem _ (List.mem_append_left _ h))), trivial⟩
set_option maxHeartbeats 4000000 in
set_option maxRecDepth 100000 in
theorem c_X4_clear (l : Launch) (D : va_G) (k : Nat → ClassId) (sz : Nat)  (qa : Nat → Nat) (F : Nat)   (ru : OB)  {res : OB} (h : f_X4_clear F ru = some res) : CtV l yX4_clear wsX4_clear (rmK 1 0 0) [.ref (qa 0)] D k sz (ruW k qa ru) (fun (_ : Unit) => True) (fun _ : Unit => ruW k qa res) 0 0 := by
  refine CtV.mk (cc := cX4_clear) (maxL := 1) (ret := none) (by decide) rfl (Nat.le_of_ble_eq_true rfl) ?_
  intro p e s m below meth c A ls E hP hD hS hl
  obtain ⟨hx, hb, hr, hml, hown, hts, hlocks, hin, hG, hA⟩ := E
  have hown : s.vm.findClass RX4 = some m.cls := hown
  have in4 : ∀ w ∈ u_ws RX4 TX4 8, w ∈ wsX4_clear := fun _ h => List.mem_cons_of_mem _ (List.mem_append_right _ h)
  have hl : lv_has ls 1 [(0, .ref (qa 0))] := hl
  refine lv_aload_n hx hb dX4_clear_0 rfl (lv_at hl 0 rfl) ?_
  refine lv_iconst (v := 0) hx hb dX4_clear_1 (by decide) ?_
  refine va_put (D := D) (ci := 3) (v := .int 0) (C := RX4) (T := TX4) (N := 8) hx hb hts in4 tyX4 tyX4_ok nmX4 hown hG.1 hP hD hS 0 rfl rfl 5 (by decide) (hts (.fieldLink RX4 28 "ChairCane$Rule" "length" "I") (mem_b bq_wsX4_clear 0 0 rfl)) (fun _ h9 => h9) rfl (tyX4_ok 5 (by decide)) rfl rfl (Nat.le_of_ble_eq_true rfl) dX4_clear_2 (fun H locs hP hD hS => ?_)
  refine lv_aload_n hx hb dX4_clear_5 rfl (lv_at hl 0 rfl) ?_
  refine lv_iconst (v := 0) hx hb dX4_clear_6 (by decide) ?_
  refine va_put (D := D) (ci := 3) (v := .int 0) (C := RX4) (T := TX4) (N := 8) hx hb hts in4 tyX4 tyX4_ok nmX4 hown hG.1 hP hD hS 0 rfl rfl 6 (by decide) (hts (.fieldLink RX4 32 "ChairCane$Rule" "clauses" "I") (mem_b bq_wsX4_clear 0 1 rfl)) (fun _ h9 => h9) rfl (tyX4_ok 6 (by decide)) rfl rfl (Nat.le_of_ble_eq_true rfl) dX4_clear_7 (fun H locs hP hD hS => ?_)
  refine lv_aload_n hx hb dX4_clear_10 rfl (lv_at hl 0 rfl) ?_
  refine lv_iconst (v := 0) hx hb dX4_clear_11 (by decide) ?_
  refine va_put (D := D) (ci := 3) (v := .int 0) (C := RX4) (T := TX4) (N := 8) hx hb hts in4 tyX4 tyX4_ok nmX4 hown hG.1 hP hD hS 0 rfl rfl 7 (by decide) (hts (.fieldLink RX4 35 "ChairCane$Rule" "units" "I") (mem_b bq_wsX4_clear 0 2 rfl)) (fun _ h9 => h9) rfl (tyX4_ok 7 (by decide)) rfl rfl (Nat.le_of_ble_eq_true rfl) dX4_clear_12 (fun H locs hP hD hS => ?_)
  exact fw_endV (wp := fun b : OB => ruW k qa b) hx hb hr hlocks h hP hD hS dX4_clear_15
noncomputable def b_X4_add_30 (F : Nat)    (ru : OB) : Option (OB) :=
  some ru
noncomputable def f_X4_add (F : Nat)  (x1 : Int32) (ru : OB) : Option (OB) :=
  if 400 ≤ (ru.1 5) then (b_X4_add_30 F ru) else (if ib (ru.1 5) 400 then (b_X4_add_30 F ((uF ru.1 5 ((ru.1 5) + 1)), (uF ru.2.1 0 (upd (ru.2.1 0) (Int32.toNatClampNeg (ru.1 5)) x1)), ru.2.2)) else none)
set_option maxRecDepth 20000 in
theorem bq_wsX4_add : subq wsX4_add [[.fieldLink RX4 28 "ChairCane$Rule" "length" "I", .fieldLink RX4 9 "ChairCane$Rule" "steps" "[I"]] := ⟨(fun _ h => (List.mem_cons_of_mem _ (List.mem_append_left _ h))), trivial⟩
set_option maxHeartbeats 4000000 in
set_option maxRecDepth 100000 in
theorem c_X4_add (l : Launch) (D : va_G) (k : Nat → ClassId) (sz : Nat)  (qa : Nat → Nat) (F : Nat)  (x1 : Int32) (ru : OB)  {res : OB} (h : f_X4_add F x1 ru = some res) : CtV l yX4_add wsX4_add (rmK 1 0 0) [.ref (qa 0), .int x1] D k sz (ruW k qa ru) (fun (_ : Unit) => True) (fun _ : Unit => ruW k qa res) 0 0 := by
  refine CtV.mk (cc := cX4_add) (maxL := 2) (ret := none) (by decide) rfl (Nat.le_of_ble_eq_true rfl) ?_
  intro p e s m below meth c A ls E hP hD hS hl
  obtain ⟨hx, hb, hr, hml, hown, hts, hlocks, hin, hG, hA⟩ := E
  have hown : s.vm.findClass RX4 = some m.cls := hown
  have in4 : ∀ w ∈ u_ws RX4 TX4 8, w ∈ wsX4_add := fun _ h => List.mem_cons_of_mem _ (List.mem_append_right _ h)
  have hl : lv_has ls 2 [(0, .ref (qa 0)), (1, .int x1)] := hl
  have B30 : ∀ (ru : OB) (H : Heap) (locs : List Loc) (ls : Array Slot), b_X4_add_30 F ru = some res → va_P D vwCl (ruW k qa ru) H → va_D A (ruW k qa ru) → va_S A s.heap H locs → lv_has ls 2 [] → W p l e (rmK 1 0 0) s m (List.toArray [.ref (qa 0), .int x1]) below meth c H locs 0 0 (MQ below (va_Qv (fun (_ : Unit) => True) (hcB D (fun _ : Unit => ruW k qa res) A) A) (List.toArray [.ref (qa 0), .int x1]) s 0 0 A) (F0 m 30 ls []) := by
    intro ru H locs ls h hP hD hS hl
    exact fw_endV (wp := fun b : OB => ruW k qa b) hx hb hr hlocks h hP hD hS dX4_add_30
  refine lv_aload_n hx hb dX4_add_0 rfl (lv_at hl 0 rfl) ?_
  refine va_get (D := D) (ci := 3) (v := .int (ru.1 5)) (C := RX4) (T := TX4) (N := 8) hx hb hts in4 hown hG.1 hP 0 rfl rfl 5 (by decide) (hts (.fieldLink RX4 28 "ChairCane$Rule" "length" "I") (mem_b bq_wsX4_add 0 0 rfl)) (fun _ h9 => h9) rfl dX4_add_1 ?_
  refine lv_sipush (v := 400) hx hb dX4_add_4 (by decide) ?_
  refine lv_icmp_ge (tgt := 30) hx hb dX4_add_7 (by decide) (fun c1 => ?_) (fun c1 => ?_)
  · have h := fw_t c1 h
    exact B30 _ _ _ _ h hP hD hS (lv_sub hl [] rfl)
  · have h := fw_f c1 h
    refine lv_aload_n hx hb dX4_add_10 rfl (lv_at hl 0 rfl) ?_
    refine va_get (D := D) (ci := 3) (v := .ref (qa 1)) (C := RX4) (T := TX4) (N := 8) hx hb hts in4 hown hG.1 hP 0 rfl rfl 0 (by decide) (hts (.fieldLink RX4 9 "ChairCane$Rule" "steps" "[I") (mem_b bq_wsX4_add 0 1 rfl)) (fun _ h9 => h9) rfl dX4_add_11 ?_
    refine lv_aload_n hx hb dX4_add_14 rfl (lv_at hl 0 rfl) ?_
    refine va_get (D := D) (ci := 3) (v := .int (ru.1 5)) (C := RX4) (T := TX4) (N := 8) hx hb hts in4 hown hG.1 hP 0 rfl rfl 5 (by decide) (hts (.fieldLink RX4 28 "ChairCane$Rule" "length" "I") (mem_b bq_wsX4_add 0 0 rfl)) (fun _ h9 => h9) rfl dX4_add_15 ?_
    refine lv_iload_n hx hb dX4_add_18 rfl (lv_at hl 1 rfl) ?_
    obtain ⟨g2, h⟩ := fw_g h
    refine va_iast hx hb hG.1 hP hD hS 1 0 rfl rfl (ib_vp g2) dX4_add_19 (fun H locs hP hD hS => ?_)
    refine lv_aload_n hx hb dX4_add_20 rfl (lv_at hl 0 rfl) ?_
    refine lv_dup hx hb dX4_add_21 rfl ?_
    refine va_get (D := D) (ci := 3) (v := .int (ru.1 5)) (C := RX4) (T := TX4) (N := 8) hx hb hts in4 hown hG.1 hP 0 rfl rfl 5 (by decide) (hts (.fieldLink RX4 28 "ChairCane$Rule" "length" "I") (mem_b bq_wsX4_add 0 0 rfl)) (fun _ h9 => h9) rfl dX4_add_22 ?_
    refine lv_iconst (v := 1) hx hb dX4_add_25 (by decide) ?_
    refine lv_iadd hx hb dX4_add_26 ?_
    refine va_put (D := D) (ci := 3) (v := .int ((ru.1 5) + 1)) (C := RX4) (T := TX4) (N := 8) hx hb hts in4 tyX4 tyX4_ok nmX4 hown hG.1 hP hD hS 0 rfl rfl 5 (by decide) (hts (.fieldLink RX4 28 "ChairCane$Rule" "length" "I") (mem_b bq_wsX4_add 0 0 rfl)) (fun _ h9 => h9) rfl (tyX4_ok 5 (by decide)) rfl rfl (Nat.le_of_ble_eq_true rfl) dX4_add_27 (fun H locs hP hD hS => ?_)
    exact B30 _ _ _ _ h hP hD hS (lv_sub hl [] rfl)
noncomputable def b_X4_closeClause_52 (F : Nat)    (ru : OB) : Option (OB) :=
  some ru
noncomputable def f_X4_closeClause (F : Nat)  (x1 : Int32) (x2 : Int32) (ru : OB) : Option (OB) :=
  if 12 ≤ (ru.1 6) then (b_X4_closeClause_52 F ru) else (if ib (ru.1 6) 12 then (b_X4_closeClause_52 F ((uF ru.1 6 ((ru.1 6) + 1)), (uF (uF (uF ru.2.1 1 (upd (ru.2.1 1) (Int32.toNatClampNeg (ru.1 6)) x1)) 2 (upd (ru.2.1 2) (Int32.toNatClampNeg (ru.1 6)) x2)) 3 (upd (ru.2.1 3) (Int32.toNatClampNeg (ru.1 6)) (ru.1 5))), ru.2.2)) else none)
set_option maxRecDepth 20000 in
theorem bq_wsX4_closeClause : subq wsX4_closeClause [[.fieldLink RX4 32 "ChairCane$Rule" "clauses" "I", .fieldLink RX4 15 "ChairCane$Rule" "sumFrom" "[I", .fieldLink RX4 18 "ChairCane$Rule" "sumTo" "[I", .fieldLink RX4 21 "ChairCane$Rule" "testTo" "[I", .fieldLink RX4 28 "ChairCane$Rule" "length" "I"]] := ⟨(fun _ h => (List.mem_cons_of_mem _ (List.mem_append_left _ h))), trivial⟩
set_option maxHeartbeats 4000000 in
set_option maxRecDepth 100000 in
theorem c_X4_closeClause (l : Launch) (D : va_G) (k : Nat → ClassId) (sz : Nat)  (qa : Nat → Nat) (F : Nat)  (x1 : Int32) (x2 : Int32) (ru : OB)  {res : OB} (h : f_X4_closeClause F x1 x2 ru = some res) : CtV l yX4_closeClause wsX4_closeClause (rmK 1 0 0) [.ref (qa 0), .int x1, .int x2] D k sz (ruW k qa ru) (fun (_ : Unit) => True) (fun _ : Unit => ruW k qa res) 0 0 := by
  refine CtV.mk (cc := cX4_closeClause) (maxL := 3) (ret := none) (by decide) rfl (Nat.le_of_ble_eq_true rfl) ?_
  intro p e s m below meth c A ls E hP hD hS hl
  obtain ⟨hx, hb, hr, hml, hown, hts, hlocks, hin, hG, hA⟩ := E
  have hown : s.vm.findClass RX4 = some m.cls := hown
  have in4 : ∀ w ∈ u_ws RX4 TX4 8, w ∈ wsX4_closeClause := fun _ h => List.mem_cons_of_mem _ (List.mem_append_right _ h)
  have hl : lv_has ls 3 [(0, .ref (qa 0)), (1, .int x1), (2, .int x2)] := hl
  have B52 : ∀ (ru : OB) (H : Heap) (locs : List Loc) (ls : Array Slot), b_X4_closeClause_52 F ru = some res → va_P D vwCl (ruW k qa ru) H → va_D A (ruW k qa ru) → va_S A s.heap H locs → lv_has ls 3 [] → W p l e (rmK 1 0 0) s m (List.toArray [.ref (qa 0), .int x1, .int x2]) below meth c H locs 0 0 (MQ below (va_Qv (fun (_ : Unit) => True) (hcB D (fun _ : Unit => ruW k qa res) A) A) (List.toArray [.ref (qa 0), .int x1, .int x2]) s 0 0 A) (F0 m 52 ls []) := by
    intro ru H locs ls h hP hD hS hl
    exact fw_endV (wp := fun b : OB => ruW k qa b) hx hb hr hlocks h hP hD hS dX4_closeClause_52
  refine lv_aload_n hx hb dX4_closeClause_0 rfl (lv_at hl 0 rfl) ?_
  refine va_get (D := D) (ci := 3) (v := .int (ru.1 6)) (C := RX4) (T := TX4) (N := 8) hx hb hts in4 hown hG.1 hP 0 rfl rfl 6 (by decide) (hts (.fieldLink RX4 32 "ChairCane$Rule" "clauses" "I") (mem_b bq_wsX4_closeClause 0 0 rfl)) (fun _ h9 => h9) rfl dX4_closeClause_1 ?_
  refine lv_bipush (v := 12) hx hb dX4_closeClause_4 (by decide) ?_
  refine lv_icmp_ge (tgt := 52) hx hb dX4_closeClause_6 (by decide) (fun c1 => ?_) (fun c1 => ?_)
  · have h := fw_t c1 h
    exact B52 _ _ _ _ h hP hD hS (lv_sub hl [] rfl)
  · have h := fw_f c1 h
    refine lv_aload_n hx hb dX4_closeClause_9 rfl (lv_at hl 0 rfl) ?_
    refine va_get (D := D) (ci := 3) (v := .ref (qa 2)) (C := RX4) (T := TX4) (N := 8) hx hb hts in4 hown hG.1 hP 0 rfl rfl 1 (by decide) (hts (.fieldLink RX4 15 "ChairCane$Rule" "sumFrom" "[I") (mem_b bq_wsX4_closeClause 0 1 rfl)) (fun _ h9 => h9) rfl dX4_closeClause_10 ?_
    refine lv_aload_n hx hb dX4_closeClause_13 rfl (lv_at hl 0 rfl) ?_
    refine va_get (D := D) (ci := 3) (v := .int (ru.1 6)) (C := RX4) (T := TX4) (N := 8) hx hb hts in4 hown hG.1 hP 0 rfl rfl 6 (by decide) (hts (.fieldLink RX4 32 "ChairCane$Rule" "clauses" "I") (mem_b bq_wsX4_closeClause 0 0 rfl)) (fun _ h9 => h9) rfl dX4_closeClause_14 ?_
    refine lv_iload_n hx hb dX4_closeClause_17 rfl (lv_at hl 1 rfl) ?_
    obtain ⟨g2, h⟩ := fw_g h
    refine va_iast hx hb hG.1 hP hD hS 2 0 rfl rfl (ib_vp g2) dX4_closeClause_18 (fun H locs hP hD hS => ?_)
    refine lv_aload_n hx hb dX4_closeClause_19 rfl (lv_at hl 0 rfl) ?_
    refine va_get (D := D) (ci := 3) (v := .ref (qa 3)) (C := RX4) (T := TX4) (N := 8) hx hb hts in4 hown hG.1 hP 0 rfl rfl 2 (by decide) (hts (.fieldLink RX4 18 "ChairCane$Rule" "sumTo" "[I") (mem_b bq_wsX4_closeClause 0 2 rfl)) (fun _ h9 => h9) rfl dX4_closeClause_20 ?_
    refine lv_aload_n hx hb dX4_closeClause_23 rfl (lv_at hl 0 rfl) ?_
    refine va_get (D := D) (ci := 3) (v := .int (ru.1 6)) (C := RX4) (T := TX4) (N := 8) hx hb hts in4 hown hG.1 hP 0 rfl rfl 6 (by decide) (hts (.fieldLink RX4 32 "ChairCane$Rule" "clauses" "I") (mem_b bq_wsX4_closeClause 0 0 rfl)) (fun _ h9 => h9) rfl dX4_closeClause_24 ?_
    refine lv_iload_n hx hb dX4_closeClause_27 rfl (lv_at hl 2 rfl) ?_
    refine va_iast hx hb hG.1 hP hD hS 3 0 rfl rfl (ib_vp g2) dX4_closeClause_28 (fun H locs hP hD hS => ?_)
    refine lv_aload_n hx hb dX4_closeClause_29 rfl (lv_at hl 0 rfl) ?_
    refine va_get (D := D) (ci := 3) (v := .ref (qa 4)) (C := RX4) (T := TX4) (N := 8) hx hb hts in4 hown hG.1 hP 0 rfl rfl 3 (by decide) (hts (.fieldLink RX4 21 "ChairCane$Rule" "testTo" "[I") (mem_b bq_wsX4_closeClause 0 3 rfl)) (fun _ h9 => h9) rfl dX4_closeClause_30 ?_
    refine lv_aload_n hx hb dX4_closeClause_33 rfl (lv_at hl 0 rfl) ?_
    refine va_get (D := D) (ci := 3) (v := .int (ru.1 6)) (C := RX4) (T := TX4) (N := 8) hx hb hts in4 hown hG.1 hP 0 rfl rfl 6 (by decide) (hts (.fieldLink RX4 32 "ChairCane$Rule" "clauses" "I") (mem_b bq_wsX4_closeClause 0 0 rfl)) (fun _ h9 => h9) rfl dX4_closeClause_34 ?_
    refine lv_aload_n hx hb dX4_closeClause_37 rfl (lv_at hl 0 rfl) ?_
    refine va_get (D := D) (ci := 3) (v := .int (ru.1 5)) (C := RX4) (T := TX4) (N := 8) hx hb hts in4 hown hG.1 hP 0 rfl rfl 5 (by decide) (hts (.fieldLink RX4 28 "ChairCane$Rule" "length" "I") (mem_b bq_wsX4_closeClause 0 4 rfl)) (fun _ h9 => h9) rfl dX4_closeClause_38 ?_
    refine va_iast hx hb hG.1 hP hD hS 4 0 rfl rfl (ib_vp g2) dX4_closeClause_41 (fun H locs hP hD hS => ?_)
    refine lv_aload_n hx hb dX4_closeClause_42 rfl (lv_at hl 0 rfl) ?_
    refine lv_dup hx hb dX4_closeClause_43 rfl ?_
    refine va_get (D := D) (ci := 3) (v := .int (ru.1 6)) (C := RX4) (T := TX4) (N := 8) hx hb hts in4 hown hG.1 hP 0 rfl rfl 6 (by decide) (hts (.fieldLink RX4 32 "ChairCane$Rule" "clauses" "I") (mem_b bq_wsX4_closeClause 0 0 rfl)) (fun _ h9 => h9) rfl dX4_closeClause_44 ?_
    refine lv_iconst (v := 1) hx hb dX4_closeClause_47 (by decide) ?_
    refine lv_iadd hx hb dX4_closeClause_48 ?_
    refine va_put (D := D) (ci := 3) (v := .int ((ru.1 6) + 1)) (C := RX4) (T := TX4) (N := 8) hx hb hts in4 tyX4 tyX4_ok nmX4 hown hG.1 hP hD hS 0 rfl rfl 6 (by decide) (hts (.fieldLink RX4 32 "ChairCane$Rule" "clauses" "I") (mem_b bq_wsX4_closeClause 0 0 rfl)) (fun _ h9 => h9) rfl (tyX4_ok 6 (by decide)) rfl rfl (Nat.le_of_ble_eq_true rfl) dX4_closeClause_49 (fun H locs hP hD hS => ?_)
    exact B52 _ _ _ _ h hP hD hS (lv_sub hl [] rfl)
noncomputable def b_X4_combine_133 (F : Nat)    (y0 : Int64) : Option (Int64) :=
  some y0
noncomputable def b_X4_combine_147 (F : Nat)    (y0 : Int64) : Option (Int64) :=
  some y0
noncomputable def b_X4_combine_159 (F : Nat)    (y0 : Int64) : Option (Int64) :=
  some y0
noncomputable def b_X4_combine_171 (F : Nat)    (y0 : Int64) : Option (Int64) :=
  some y0
noncomputable def b_X4_combine_183 (F : Nat)    (y0 : Int64) : Option (Int64) :=
  some y0
noncomputable def b_X4_combine_195 (F : Nat)    (y0 : Int64) : Option (Int64) :=
  some y0
noncomputable def b_X4_combine_207 (F : Nat)    (y0 : Int64) : Option (Int64) :=
  some y0
noncomputable def f_X4_combine (F : Nat)  (x0 : Int32) (x1 : Int64) (x3 : Int64)  : Option (Int64) :=
  if x0 = 37 then (if (lg_cmp x3 0) = 0 then (b_X4_combine_147 F 0) else (if ¬ x3 = 0 then (b_X4_combine_147 F (x1 - x1 / x3 * x3)) else none)) else if x0 = 42 then (some (x1 * x3)) else if x0 = 43 then (some (x1 + x3)) else if x0 = 45 then (some (x1 - x3)) else if x0 = 47 then (if (lg_cmp x3 0) = 0 then (b_X4_combine_133 F 0) else (if ¬ x3 = 0 then (b_X4_combine_133 F (x1 / x3)) else none)) else if x0 = 60 then (if 0 ≤ (lg_cmp x1 x3) then (b_X4_combine_159 F 0) else (b_X4_combine_159 F 1)) else if x0 = 61 then (if (lg_cmp x1 x3) = 0 then (b_X4_combine_183 F 1) else (b_X4_combine_183 F 0)) else if x0 = 62 then (if (lg_cmp x1 x3) ≤ 0 then (b_X4_combine_207 F 0) else (b_X4_combine_207 F 1)) else if x0 = 256 then (if 0 < (lg_cmp x1 x3) then (b_X4_combine_171 F 0) else (b_X4_combine_171 F 1)) else if x0 = 257 then (if (lg_cmp x1 x3) < 0 then (b_X4_combine_195 F 0) else (b_X4_combine_195 F 1)) else if x0 = 275 then (some (x1 ||| x3)) else if x0 = 276 then (some (x1 &&& x3)) else (some 0)
set_option maxHeartbeats 4000000 in
set_option maxRecDepth 100000 in
theorem c_X4_combine (l : Launch) (D : va_G) (k : Nat → ClassId) (sz : Nat)   (F : Nat)  (x0 : Int32) (x1 : Int64) (x3 : Int64)   {res : Int64} (h : f_X4_combine F x0 x1 x3 = some res) : CtL l yX4_combine wsX4_combine (rmK 1 0 0) [.int x0, .long x1, .long x3] D k sz ([]) (fun r (_ : Unit) => r = res) (fun _ : Unit => []) 0 0 := by
  refine CtL.mk (cc := cX4_combine) (maxL := 5) (ret := (some .long)) (by decide) rfl (Nat.le_of_ble_eq_true rfl) ?_
  intro p e s m below meth c A ls E hP hD hS hl
  obtain ⟨hx, hb, hr, hml, hown, hts, hlocks, hin, hG, hA⟩ := E
  have hown : s.vm.findClass RX4 = some m.cls := hown
  have hl : lv_has ls 5 [(0, .int x0), (1, .long x1), (3, .long x3)] := hl
  have B133 : ∀ (y0 : Int64) (H : Heap) (locs : List Loc) (ls : Array Slot), b_X4_combine_133 F y0 = some res → va_P D vwCl ([]) H → va_D A ([]) → va_S A s.heap H locs → lv_has ls 5 [] → W p l e (rmK 1 0 0) s m (List.toArray [.int x0, .long x1, .long x3]) below meth c H locs 0 0 (MQ below (va_Ql (fun r (_ : Unit) => r = res) (hcB D (fun _ : Unit => []) A) A) (List.toArray [.int x0, .long x1, .long x3]) s 0 0 A) (F0 m 133 ls [.long y0]) := by
    intro y0 H locs ls h hP hD hS hl
    exact fw_endL (rv := fun b : Int64 => b) (wp := fun b : Int64 => []) hx hb hr hlocks h rfl hP hD hS dX4_combine_133
  have B147 : ∀ (y0 : Int64) (H : Heap) (locs : List Loc) (ls : Array Slot), b_X4_combine_147 F y0 = some res → va_P D vwCl ([]) H → va_D A ([]) → va_S A s.heap H locs → lv_has ls 5 [] → W p l e (rmK 1 0 0) s m (List.toArray [.int x0, .long x1, .long x3]) below meth c H locs 0 0 (MQ below (va_Ql (fun r (_ : Unit) => r = res) (hcB D (fun _ : Unit => []) A) A) (List.toArray [.int x0, .long x1, .long x3]) s 0 0 A) (F0 m 147 ls [.long y0]) := by
    intro y0 H locs ls h hP hD hS hl
    exact fw_endL (rv := fun b : Int64 => b) (wp := fun b : Int64 => []) hx hb hr hlocks h rfl hP hD hS dX4_combine_147
  have B159 : ∀ (y0 : Int64) (H : Heap) (locs : List Loc) (ls : Array Slot), b_X4_combine_159 F y0 = some res → va_P D vwCl ([]) H → va_D A ([]) → va_S A s.heap H locs → lv_has ls 5 [] → W p l e (rmK 1 0 0) s m (List.toArray [.int x0, .long x1, .long x3]) below meth c H locs 0 0 (MQ below (va_Ql (fun r (_ : Unit) => r = res) (hcB D (fun _ : Unit => []) A) A) (List.toArray [.int x0, .long x1, .long x3]) s 0 0 A) (F0 m 159 ls [.long y0]) := by
    intro y0 H locs ls h hP hD hS hl
    exact fw_endL (rv := fun b : Int64 => b) (wp := fun b : Int64 => []) hx hb hr hlocks h rfl hP hD hS dX4_combine_159
  have B171 : ∀ (y0 : Int64) (H : Heap) (locs : List Loc) (ls : Array Slot), b_X4_combine_171 F y0 = some res → va_P D vwCl ([]) H → va_D A ([]) → va_S A s.heap H locs → lv_has ls 5 [] → W p l e (rmK 1 0 0) s m (List.toArray [.int x0, .long x1, .long x3]) below meth c H locs 0 0 (MQ below (va_Ql (fun r (_ : Unit) => r = res) (hcB D (fun _ : Unit => []) A) A) (List.toArray [.int x0, .long x1, .long x3]) s 0 0 A) (F0 m 171 ls [.long y0]) := by
    intro y0 H locs ls h hP hD hS hl
    exact fw_endL (rv := fun b : Int64 => b) (wp := fun b : Int64 => []) hx hb hr hlocks h rfl hP hD hS dX4_combine_171
  have B183 : ∀ (y0 : Int64) (H : Heap) (locs : List Loc) (ls : Array Slot), b_X4_combine_183 F y0 = some res → va_P D vwCl ([]) H → va_D A ([]) → va_S A s.heap H locs → lv_has ls 5 [] → W p l e (rmK 1 0 0) s m (List.toArray [.int x0, .long x1, .long x3]) below meth c H locs 0 0 (MQ below (va_Ql (fun r (_ : Unit) => r = res) (hcB D (fun _ : Unit => []) A) A) (List.toArray [.int x0, .long x1, .long x3]) s 0 0 A) (F0 m 183 ls [.long y0]) := by
    intro y0 H locs ls h hP hD hS hl
    exact fw_endL (rv := fun b : Int64 => b) (wp := fun b : Int64 => []) hx hb hr hlocks h rfl hP hD hS dX4_combine_183
  have B195 : ∀ (y0 : Int64) (H : Heap) (locs : List Loc) (ls : Array Slot), b_X4_combine_195 F y0 = some res → va_P D vwCl ([]) H → va_D A ([]) → va_S A s.heap H locs → lv_has ls 5 [] → W p l e (rmK 1 0 0) s m (List.toArray [.int x0, .long x1, .long x3]) below meth c H locs 0 0 (MQ below (va_Ql (fun r (_ : Unit) => r = res) (hcB D (fun _ : Unit => []) A) A) (List.toArray [.int x0, .long x1, .long x3]) s 0 0 A) (F0 m 195 ls [.long y0]) := by
    intro y0 H locs ls h hP hD hS hl
    exact fw_endL (rv := fun b : Int64 => b) (wp := fun b : Int64 => []) hx hb hr hlocks h rfl hP hD hS dX4_combine_195
  have B207 : ∀ (y0 : Int64) (H : Heap) (locs : List Loc) (ls : Array Slot), b_X4_combine_207 F y0 = some res → va_P D vwCl ([]) H → va_D A ([]) → va_S A s.heap H locs → lv_has ls 5 [] → W p l e (rmK 1 0 0) s m (List.toArray [.int x0, .long x1, .long x3]) below meth c H locs 0 0 (MQ below (va_Ql (fun r (_ : Unit) => r = res) (hcB D (fun _ : Unit => []) A) A) (List.toArray [.int x0, .long x1, .long x3]) s 0 0 A) (F0 m 207 ls [.long y0]) := by
    intro y0 H locs ls h hP hD hS hl
    exact fw_endL (rv := fun b : Int64 => b) (wp := fun b : Int64 => []) hx hb hr hlocks h rfl hP hD hS dX4_combine_207
  refine lv_iload_n hx hb dX4_combine_0 rfl (lv_at hl 0 rfl) ?_
  by_cases c1 : x0 = 37
  · have h := fw_t c1 h
    refine lv_lookup (off := 133) (tgt := 134) hx hb dX4_combine_1 (by decide) (by rw [c1]; rfl) (by decide) ?_
    refine lv_lload_n hx hb dX4_combine_134 rfl (lv_at hl 2 rfl) ?_
    refine lv_lconst (v := 0) hx hb dX4_combine_135 (by decide) ?_
    refine W.lcmp hx hb dX4_combine_136 ?_
    refine lv_if_ne (tgt := 144) hx hb dX4_combine_137 (by decide) (fun c2 => ?_) (fun c2 => ?_)
    · have h := fw_f c2 h
      refine lv_lload_n hx hb dX4_combine_144 rfl (lv_at hl 1 rfl) ?_
      refine lv_lload_n hx hb dX4_combine_145 rfl (lv_at hl 2 rfl) ?_
      obtain ⟨g3, h⟩ := fw_g h
      refine lv_lrem hx hb dX4_combine_146 g3 ?_
      exact B147 _ _ _ _ h hP hD hS (lv_sub hl [] rfl)
    · have h := fw_t c2 h
      refine lv_lconst (v := 0) hx hb dX4_combine_140 (by decide) ?_
      refine lv_goto (tgt := 147) hx hb dX4_combine_141 (by decide) ?_
      exact B147 _ _ _ _ h hP hD hS (lv_sub hl [] rfl)
  have h := fw_f c1 h
  by_cases c4 : x0 = 42
  · have h := fw_t c4 h
    refine lv_lookup (off := 115) (tgt := 116) hx hb dX4_combine_1 (by decide) (by rw [c4]; rfl) (by decide) ?_
    refine lv_lload_n hx hb dX4_combine_116 rfl (lv_at hl 1 rfl) ?_
    refine lv_lload_n hx hb dX4_combine_117 rfl (lv_at hl 2 rfl) ?_
    refine lv_lmul hx hb dX4_combine_118 ?_
    exact fw_endL (rv := fun b : Int64 => b) (wp := fun b : Int64 => []) hx hb hr hlocks h rfl hP hD hS dX4_combine_119
  have h := fw_f c4 h
  by_cases c5 : x0 = 43
  · have h := fw_t c5 h
    refine lv_lookup (off := 107) (tgt := 108) hx hb dX4_combine_1 (by decide) (by rw [c5]; rfl) (by decide) ?_
    refine lv_lload_n hx hb dX4_combine_108 rfl (lv_at hl 1 rfl) ?_
    refine lv_lload_n hx hb dX4_combine_109 rfl (lv_at hl 2 rfl) ?_
    refine lv_ladd hx hb dX4_combine_110 ?_
    exact fw_endL (rv := fun b : Int64 => b) (wp := fun b : Int64 => []) hx hb hr hlocks h rfl hP hD hS dX4_combine_111
  have h := fw_f c5 h
  by_cases c6 : x0 = 45
  · have h := fw_t c6 h
    refine lv_lookup (off := 111) (tgt := 112) hx hb dX4_combine_1 (by decide) (by rw [c6]; rfl) (by decide) ?_
    refine lv_lload_n hx hb dX4_combine_112 rfl (lv_at hl 1 rfl) ?_
    refine lv_lload_n hx hb dX4_combine_113 rfl (lv_at hl 2 rfl) ?_
    refine lv_lsub hx hb dX4_combine_114 ?_
    exact fw_endL (rv := fun b : Int64 => b) (wp := fun b : Int64 => []) hx hb hr hlocks h rfl hP hD hS dX4_combine_115
  have h := fw_f c6 h
  by_cases c7 : x0 = 47
  · have h := fw_t c7 h
    refine lv_lookup (off := 119) (tgt := 120) hx hb dX4_combine_1 (by decide) (by rw [c7]; rfl) (by decide) ?_
    refine lv_lload_n hx hb dX4_combine_120 rfl (lv_at hl 2 rfl) ?_
    refine lv_lconst (v := 0) hx hb dX4_combine_121 (by decide) ?_
    refine W.lcmp hx hb dX4_combine_122 ?_
    refine lv_if_ne (tgt := 130) hx hb dX4_combine_123 (by decide) (fun c8 => ?_) (fun c8 => ?_)
    · have h := fw_f c8 h
      refine lv_lload_n hx hb dX4_combine_130 rfl (lv_at hl 1 rfl) ?_
      refine lv_lload_n hx hb dX4_combine_131 rfl (lv_at hl 2 rfl) ?_
      obtain ⟨g9, h⟩ := fw_g h
      refine lv_ldiv hx hb dX4_combine_132 g9 ?_
      exact B133 _ _ _ _ h hP hD hS (lv_sub hl [] rfl)
    · have h := fw_t c8 h
      refine lv_lconst (v := 0) hx hb dX4_combine_126 (by decide) ?_
      refine lv_goto (tgt := 133) hx hb dX4_combine_127 (by decide) ?_
      exact B133 _ _ _ _ h hP hD hS (lv_sub hl [] rfl)
  have h := fw_f c7 h
  by_cases c10 : x0 = 60
  · have h := fw_t c10 h
    refine lv_lookup (off := 147) (tgt := 148) hx hb dX4_combine_1 (by decide) (by rw [c10]; rfl) (by decide) ?_
    refine lv_lload_n hx hb dX4_combine_148 rfl (lv_at hl 1 rfl) ?_
    refine lv_lload_n hx hb dX4_combine_149 rfl (lv_at hl 2 rfl) ?_
    refine W.lcmp hx hb dX4_combine_150 ?_
    refine lv_if_ge (tgt := 158) hx hb dX4_combine_151 (by decide) (fun c11 => ?_) (fun c11 => ?_)
    · have h := fw_t c11 h
      refine lv_lconst (v := 0) hx hb dX4_combine_158 (by decide) ?_
      exact B159 _ _ _ _ h hP hD hS (lv_sub hl [] rfl)
    · have h := fw_f c11 h
      refine lv_lconst (v := 1) hx hb dX4_combine_154 (by decide) ?_
      refine lv_goto (tgt := 159) hx hb dX4_combine_155 (by decide) ?_
      exact B159 _ _ _ _ h hP hD hS (lv_sub hl [] rfl)
  have h := fw_f c10 h
  by_cases c12 : x0 = 61
  · have h := fw_t c12 h
    refine lv_lookup (off := 171) (tgt := 172) hx hb dX4_combine_1 (by decide) (by rw [c12]; rfl) (by decide) ?_
    refine lv_lload_n hx hb dX4_combine_172 rfl (lv_at hl 1 rfl) ?_
    refine lv_lload_n hx hb dX4_combine_173 rfl (lv_at hl 2 rfl) ?_
    refine W.lcmp hx hb dX4_combine_174 ?_
    refine lv_if_ne (tgt := 182) hx hb dX4_combine_175 (by decide) (fun c13 => ?_) (fun c13 => ?_)
    · have h := fw_f c13 h
      refine lv_lconst (v := 0) hx hb dX4_combine_182 (by decide) ?_
      exact B183 _ _ _ _ h hP hD hS (lv_sub hl [] rfl)
    · have h := fw_t c13 h
      refine lv_lconst (v := 1) hx hb dX4_combine_178 (by decide) ?_
      refine lv_goto (tgt := 183) hx hb dX4_combine_179 (by decide) ?_
      exact B183 _ _ _ _ h hP hD hS (lv_sub hl [] rfl)
  have h := fw_f c12 h
  by_cases c14 : x0 = 62
  · have h := fw_t c14 h
    refine lv_lookup (off := 195) (tgt := 196) hx hb dX4_combine_1 (by decide) (by rw [c14]; rfl) (by decide) ?_
    refine lv_lload_n hx hb dX4_combine_196 rfl (lv_at hl 1 rfl) ?_
    refine lv_lload_n hx hb dX4_combine_197 rfl (lv_at hl 2 rfl) ?_
    refine W.lcmp hx hb dX4_combine_198 ?_
    refine lv_if_le (tgt := 206) hx hb dX4_combine_199 (by decide) (fun c15 => ?_) (fun c15 => ?_)
    · have h := fw_t c15 h
      refine lv_lconst (v := 0) hx hb dX4_combine_206 (by decide) ?_
      exact B207 _ _ _ _ h hP hD hS (lv_sub hl [] rfl)
    · have h := fw_f c15 h
      refine lv_lconst (v := 1) hx hb dX4_combine_202 (by decide) ?_
      refine lv_goto (tgt := 207) hx hb dX4_combine_203 (by decide) ?_
      exact B207 _ _ _ _ h hP hD hS (lv_sub hl [] rfl)
  have h := fw_f c14 h
  by_cases c16 : x0 = 256
  · have h := fw_t c16 h
    refine lv_lookup (off := 159) (tgt := 160) hx hb dX4_combine_1 (by decide) (by rw [c16]; rfl) (by decide) ?_
    refine lv_lload_n hx hb dX4_combine_160 rfl (lv_at hl 1 rfl) ?_
    refine lv_lload_n hx hb dX4_combine_161 rfl (lv_at hl 2 rfl) ?_
    refine W.lcmp hx hb dX4_combine_162 ?_
    refine lv_if_gt (tgt := 170) hx hb dX4_combine_163 (by decide) (fun c17 => ?_) (fun c17 => ?_)
    · have h := fw_t c17 h
      refine lv_lconst (v := 0) hx hb dX4_combine_170 (by decide) ?_
      exact B171 _ _ _ _ h hP hD hS (lv_sub hl [] rfl)
    · have h := fw_f c17 h
      refine lv_lconst (v := 1) hx hb dX4_combine_166 (by decide) ?_
      refine lv_goto (tgt := 171) hx hb dX4_combine_167 (by decide) ?_
      exact B171 _ _ _ _ h hP hD hS (lv_sub hl [] rfl)
  have h := fw_f c16 h
  by_cases c18 : x0 = 257
  · have h := fw_t c18 h
    refine lv_lookup (off := 183) (tgt := 184) hx hb dX4_combine_1 (by decide) (by rw [c18]; rfl) (by decide) ?_
    refine lv_lload_n hx hb dX4_combine_184 rfl (lv_at hl 1 rfl) ?_
    refine lv_lload_n hx hb dX4_combine_185 rfl (lv_at hl 2 rfl) ?_
    refine W.lcmp hx hb dX4_combine_186 ?_
    refine lv_if_lt (tgt := 194) hx hb dX4_combine_187 (by decide) (fun c19 => ?_) (fun c19 => ?_)
    · have h := fw_t c19 h
      refine lv_lconst (v := 0) hx hb dX4_combine_194 (by decide) ?_
      exact B195 _ _ _ _ h hP hD hS (lv_sub hl [] rfl)
    · have h := fw_f c19 h
      refine lv_lconst (v := 1) hx hb dX4_combine_190 (by decide) ?_
      refine lv_goto (tgt := 195) hx hb dX4_combine_191 (by decide) ?_
      exact B195 _ _ _ _ h hP hD hS (lv_sub hl [] rfl)
  have h := fw_f c18 h
  by_cases c20 : x0 = 275
  · have h := fw_t c20 h
    refine lv_lookup (off := 211) (tgt := 212) hx hb dX4_combine_1 (by decide) (by rw [c20]; rfl) (by decide) ?_
    refine lv_lload_n hx hb dX4_combine_212 rfl (lv_at hl 1 rfl) ?_
    refine lv_lload_n hx hb dX4_combine_213 rfl (lv_at hl 2 rfl) ?_
    refine lv_lor hx hb dX4_combine_214 ?_
    exact fw_endL (rv := fun b : Int64 => b) (wp := fun b : Int64 => []) hx hb hr hlocks h rfl hP hD hS dX4_combine_215
  have h := fw_f c20 h
  by_cases c21 : x0 = 276
  · have h := fw_t c21 h
    refine lv_lookup (off := 207) (tgt := 208) hx hb dX4_combine_1 (by decide) (by rw [c21]; rfl) (by decide) ?_
    refine lv_lload_n hx hb dX4_combine_208 rfl (lv_at hl 1 rfl) ?_
    refine lv_lload_n hx hb dX4_combine_209 rfl (lv_at hl 2 rfl) ?_
    refine lv_land hx hb dX4_combine_210 ?_
    exact fw_endL (rv := fun b : Int64 => b) (wp := fun b : Int64 => []) hx hb hr hlocks h rfl hP hD hS dX4_combine_211
  have h := fw_f c21 h
  simp only [sp_eq, show (37 : Int32).toInt = 37 from by decide, show (42 : Int32).toInt = 42 from by decide, show (43 : Int32).toInt = 43 from by decide, show (45 : Int32).toInt = 45 from by decide, show (47 : Int32).toInt = 47 from by decide, show (60 : Int32).toInt = 60 from by decide, show (61 : Int32).toInt = 61 from by decide, show (62 : Int32).toInt = 62 from by decide, show (256 : Int32).toInt = 256 from by decide, show (257 : Int32).toInt = 257 from by decide, show (275 : Int32).toInt = 275 from by decide, show (276 : Int32).toInt = 276 from by decide] at c1 c4 c5 c6 c7 c10 c12 c14 c16 c18 c20 c21
  refine lv_lookup (off := 215) (tgt := 216) hx hb dX4_combine_1 (by decide) (by show Op.lookupswitch.offset [(37, 133), (42, 115), (43, 107), (45, 111), (47, 119), (60, 147), (61, 171), (62, 195), (256, 159), (257, 183), (275, 211), (276, 207)] _ _ = _; rw [Op.lookupswitch.offset_cons, if_neg (by omega), Op.lookupswitch.offset_cons, if_neg (by omega), Op.lookupswitch.offset_cons, if_neg (by omega), Op.lookupswitch.offset_cons, if_neg (by omega), Op.lookupswitch.offset_cons, if_neg (by omega), Op.lookupswitch.offset_cons, if_neg (by omega), Op.lookupswitch.offset_cons, if_neg (by omega), Op.lookupswitch.offset_cons, if_neg (by omega), Op.lookupswitch.offset_cons, if_neg (by omega), Op.lookupswitch.offset_cons, if_neg (by omega), Op.lookupswitch.offset_cons, if_neg (by omega), Op.lookupswitch.offset_cons, if_neg (by omega), Op.lookupswitch.offset_nil]) (by decide) ?_
  refine lv_lconst (v := 0) hx hb dX4_combine_216 (by decide) ?_
  exact fw_endL (rv := fun b : Int64 => b) (wp := fun b : Int64 => []) hx hb hr hlocks h rfl hP hD hS dX4_combine_217
noncomputable def b_X4_reckon_209 (F : Nat)  (rm : OB)  (y0 : Int64) (ru : OB) : Option (Int64 × OB) :=
  some (y0, ru)
noncomputable def b_X4_reckon_191 (F : Nat)  (rm : OB)  (v5 : Int32) (ru : OB) : Option (Int64 × OB) :=
  if v5 ≤ 0 then (b_X4_reckon_209 F rm 0 ru) else (if ib (v5 - 1) 60 then (b_X4_reckon_209 F rm ((ru.2.2 4) (Int32.toNatClampNeg (v5 - 1))) ru) else none)
noncomputable def b_X4_reckon_185 (F : Nat)  (rm : OB) (k6 : (Int32 × Int32 × Int32 × Int32 × OB) → Option (Int64 × OB)) (v2 : Int32) (v3 : Int32) (v5 : Int32) (v6 : Int32) (ru : OB) : Option (Int64 × OB) :=
  k6 (v2, v3, v5, (v6 + 1), ru)
noncomputable def b_X4_reckon_103 (F : Nat)  (rm : OB) (k6 : (Int32 × Int32 × Int32 × Int32 × OB) → Option (Int64 × OB)) (v2 : Int32) (v3 : Int32) (v5 : Int32) (v6 : Int32) (y0 : Int64) (y1 : Int32) (ru : OB) : Option (Int64 × OB) :=
  if ib y1 60 then (b_X4_reckon_185 F rm k6 v2 v3 (v5 + 1) v6 (ru.1, ru.2.1, (uF ru.2.2 4 (vp_updL (ru.2.2 4) (Int32.toNatClampNeg y1) y0)))) else none
noncomputable def b_X4_reckon_66 (F : Nat)  (rm : OB) (k6 : (Int32 × Int32 × Int32 × Int32 × OB) → Option (Int64 × OB)) (v2 : Int32) (v3 : Int32) (v5 : Int32) (v6 : Int32) (v7 : Int32) (v8 : Int32) (ru : OB) : Option (Int64 × OB) :=
  if 60 ≤ v5 then (b_X4_reckon_185 F rm k6 v2 v3 v5 v6 ru) else (if v8 = 0 then (Option.bind (f_X3_wordOf F v7 v3 rm) (fun q6 => (b_X4_reckon_103 F rm k6 v2 v3 v5 v6 (Int32.toInt64 q6) v5 ru))) else (b_X4_reckon_103 F rm k6 v2 v3 v5 v6 (Int32.toInt64 (v7 - 1000)) v5 ru))
noncomputable def b_X4_reckon_110 (F : Nat)  (rm : OB) (k6 : (Int32 × Int32 × Int32 × Int32 × OB) → Option (Int64 × OB)) (v2 : Int32) (v3 : Int32) (v5 : Int32) (v6 : Int32) (v7 : Int32) (ru : OB) : Option (Int64 × OB) :=
  if v7 = 277 then (if v5 ≤ 0 then (b_X4_reckon_185 F rm k6 v2 v3 v5 v6 ru) else (if ib (v5 - 1) 60 then (b_X4_reckon_185 F rm k6 v2 v3 v5 v6 (ru.1, ru.2.1, (uF ru.2.2 4 (vp_updL (ru.2.2 4) (Int32.toNatClampNeg (v5 - 1)) (1 - ((ru.2.2 4) (Int32.toNatClampNeg (v5 - 1)))))))) else none)) else (if v5 ≤ 1 then (b_X4_reckon_185 F rm k6 v2 v3 v5 v6 ru) else (if ib ((v5 + (-1)) - 1) 60 then (if ib (v5 + (-1)) 60 then (Option.bind (f_X4_combine F v7 ((ru.2.2 4) (Int32.toNatClampNeg ((v5 + (-1)) - 1))) ((ru.2.2 4) (Int32.toNatClampNeg (v5 + (-1))))) (fun q11 => (b_X4_reckon_185 F rm k6 v2 v3 (v5 + (-1)) v6 (ru.1, ru.2.1, (uF ru.2.2 4 (vp_updL (ru.2.2 4) (Int32.toNatClampNeg ((v5 + (-1)) - 1)) q11)))))) else none) else none))
noncomputable def b_X4_reckon_43 (F : Nat)  (rm : OB) (k6 : (Int32 × Int32 × Int32 × Int32 × OB) → Option (Int64 × OB)) (v2 : Int32) (v3 : Int32) (v5 : Int32) (v6 : Int32) (v7 : Int32) (y0 : Int32) (ru : OB) : Option (Int64 × OB) :=
  if y0 = 0 then (if v7 < 260 then (b_X4_reckon_110 F rm k6 v2 v3 v5 v6 v7 ru) else (if 270 < v7 then (b_X4_reckon_110 F rm k6 v2 v3 v5 v6 v7 ru) else (b_X4_reckon_66 F rm k6 v2 v3 v5 v6 v7 y0 ru))) else (b_X4_reckon_66 F rm k6 v2 v3 v5 v6 v7 y0 ru)
noncomputable def b_X4_reckon_6 (F : Nat)  (rm : OB)  (k6 : (Int32 × Int32 × Int32 × Int32 × OB) → Option (Int64 × OB)) (a6 : (Int32 × Int32 × Int32 × Int32 × OB)) : Option (Int64 × OB) :=
  if a6.1 ≤ a6.2.2.2.1 then (b_X4_reckon_191 F rm a6.2.2.1 a6.2.2.2.2) else (if (a6.2.2.2.2.1 5) ≤ a6.2.2.2.1 then (b_X4_reckon_191 F rm a6.2.2.1 a6.2.2.2.2) else (if ib a6.2.2.2.1 400 then (if ((a6.2.2.2.2.2.1 0) (Int32.toNatClampNeg a6.2.2.2.1)) < 1000 then (b_X4_reckon_43 F rm k6 a6.1 a6.2.1 a6.2.2.1 a6.2.2.2.1 ((a6.2.2.2.2.2.1 0) (Int32.toNatClampNeg a6.2.2.2.1)) 0 a6.2.2.2.2) else (b_X4_reckon_43 F rm k6 a6.1 a6.2.1 a6.2.2.1 a6.2.2.2.1 ((a6.2.2.2.2.2.1 0) (Int32.toNatClampNeg a6.2.2.2.1)) 1 a6.2.2.2.2)) else none))
noncomputable def f_X4_reckon (F : Nat)  (x1 : Int32) (x2 : Int32) (x3 : Int32) (ru : OB) (rm : OB) : Option (Int64 × OB) :=
  lp (b_X4_reckon_6 F rm) F (x2, x3, 0, x1, ru)
set_option maxHeartbeats 4000000 in
set_option maxRecDepth 100000 in
theorem c_X4_reckon (l : Launch) (D : va_G) (k : Nat → ClassId) (sz : Nat)  (qa : Nat → Nat) (xa : Nat → Nat) (F : Nat)  (x1 : Int32) (x2 : Int32) (x3 : Int32) (ru : OB) (rm : OB)  {res : Int64 × OB} (h : f_X4_reckon F x1 x2 x3 ru rm = some res) : CtL l yX4_reckon wsX4_reckon (rmK 3 0 0) [.ref (qa 0), .int x1, .int x2, .int x3, .ref (xa 0)] D k sz (ruW k qa ru ++ (rmW k xa rm)) (fun r (_ : Unit) => r = res.1) (fun _ : Unit => ruW k qa res.2 ++ (rmW k xa rm)) 0 0 := by
  refine CtL.mk (cc := cX4_reckon) (maxL := 9) (ret := (some .long)) (by decide) rfl (Nat.le_of_ble_eq_true rfl) ?_
  intro p e s m below meth c A ls E hP hD hS hl
  obtain ⟨hx, hb, hr, hml, hown, hts, hlocks, hin, hG, hA⟩ := E
  have hown : s.vm.findClass RX4 = some m.cls := hown
  have in3 : ∀ w ∈ u_ws RX3 TX3 17, w ∈ wsX4_reckon := fun _ h => List.mem_cons_of_mem _ (List.mem_append_right _ h)
  have in4 : ∀ w ∈ u_ws RX4 TX4 8, w ∈ wsX4_reckon := fun _ h => List.mem_cons_of_mem _ (List.mem_append_left _ (List.mem_append_right _ h))
  have hl : lv_has ls 9 [(0, .ref (qa 0)), (1, .int x1), (2, .int x2), (3, .int x3), (4, .ref (xa 0))] := hl
  have B209 : ∀ (y0 : Int64) (ru : OB) (H : Heap) (locs : List Loc) (ls : Array Slot), b_X4_reckon_209 F rm y0 ru = some res → va_P D vwCl (ruW k qa ru ++ (rmW k xa rm)) H → va_D A (ruW k qa ru ++ (rmW k xa rm)) → va_S A s.heap H locs → lv_has ls 9 [] → W p l e (rmK 3 0 0) s m (List.toArray [.ref (qa 0), .int x1, .int x2, .int x3, .ref (xa 0)]) below meth c H locs 0 0 (MQ below (va_Ql (fun r (_ : Unit) => r = res.1) (hcB D (fun _ : Unit => ruW k qa res.2 ++ (rmW k xa rm)) A) A) (List.toArray [.ref (qa 0), .int x1, .int x2, .int x3, .ref (xa 0)]) s 0 0 A) (F0 m 209 ls [.long y0]) := by
    intro y0 ru H locs ls h hP hD hS hl
    exact fw_endL (rv := fun b : Int64 × OB => b.1) (wp := fun b : Int64 × OB => ruW k qa b.2 ++ (rmW k xa rm)) hx hb hr hlocks h rfl hP hD hS dX4_reckon_209
  have B191 : ∀ (v5 : Int32) (ru : OB) (H : Heap) (locs : List Loc) (ls : Array Slot), b_X4_reckon_191 F rm v5 ru = some res → va_P D vwCl (ruW k qa ru ++ (rmW k xa rm)) H → va_D A (ruW k qa ru ++ (rmW k xa rm)) → va_S A s.heap H locs → lv_has ls 9 [(0, .ref (qa 0)), (5, .int v5)] → W p l e (rmK 3 0 0) s m (List.toArray [.ref (qa 0), .int x1, .int x2, .int x3, .ref (xa 0)]) below meth c H locs 0 0 (MQ below (va_Ql (fun r (_ : Unit) => r = res.1) (hcB D (fun _ : Unit => ruW k qa res.2 ++ (rmW k xa rm)) A) A) (List.toArray [.ref (qa 0), .int x1, .int x2, .int x3, .ref (xa 0)]) s 0 0 A) (F0 m 191 ls []) := by
    intro v5 ru H locs ls h hP hD hS hl
    refine lv_iload hx hb dX4_reckon_191 (lv_at hl 1 rfl) ?_
    refine lv_if_le (tgt := 208) hx hb dX4_reckon_193 (by decide) (fun c1 => ?_) (fun c1 => ?_)
    · have h := fw_t c1 h
      refine lv_lconst (v := 0) hx hb dX4_reckon_208 (by decide) ?_
      exact B209 _ _ _ _ _ h hP hD hS (lv_sub hl [] rfl)
    · have h := fw_f c1 h
      refine lv_aload_n hx hb dX4_reckon_196 rfl (lv_at hl 0 rfl) ?_
      refine va_get (D := D) (ci := 3) (v := .ref (qa 5)) (C := RX4) (T := TX4) (N := 8) hx hb hts in4 hown hG.1 hP 0 rfl rfl 4 (by decide) (hts (.fieldLink RX4 24 "ChairCane$Rule" "stack" "[J") (mem_b bq_wsX4_reckon 0 2 rfl)) (fun _ h9 => h9) rfl dX4_reckon_197 ?_
      refine lv_iload hx hb dX4_reckon_200 (lv_at hl 1 rfl) ?_
      refine lv_iconst (v := 1) hx hb dX4_reckon_202 (by decide) ?_
      refine lv_isub hx hb dX4_reckon_203 ?_
      obtain ⟨g2, h⟩ := fw_g h
      refine va_lald hx hb hG.1 hP 5 3 rfl rfl (ib_vp g2) dX4_reckon_204 ?_
      refine lv_goto (tgt := 209) hx hb dX4_reckon_205 (by decide) ?_
      exact B209 _ _ _ _ _ h hP hD hS (lv_sub hl [] rfl)
  have B6 : ∀ a6 : (Int32 × Int32 × Int32 × Int32 × OB), lp (b_X4_reckon_6 F rm) F a6 = some res → ∀ (H : Heap) (locs : List Loc) (ls : Array Slot), va_P D vwCl (ruW k qa a6.2.2.2.2 ++ (rmW k xa rm)) H → va_D A (ruW k qa a6.2.2.2.2 ++ (rmW k xa rm)) → va_S A s.heap H locs → lv_has ls 9 [(0, .ref (qa 0)), (2, .int a6.1), (3, .int a6.2.1), (4, .ref (xa 0)), (5, .int a6.2.2.1), (6, .int a6.2.2.2.1)] → W p l e (rmK 3 0 0) s m (List.toArray [.ref (qa 0), .int x1, .int x2, .int x3, .ref (xa 0)]) below meth c H locs 0 0 (MQ below (va_Ql (fun r (_ : Unit) => r = res.1) (hcB D (fun _ : Unit => ruW k qa res.2 ++ (rmW k xa rm)) A) A) (List.toArray [.ref (qa 0), .int x1, .int x2, .int x3, .ref (xa 0)]) s 0 0 A) (F0 m 6 ls []) := by
    refine lp_W ?_ F
    intro k6 hk6 a6 h H locs ls hP hD hS hl
    have hc6 : ∀ (v2 : Int32) (v3 : Int32) (v5 : Int32) (v6 : Int32) (ru : OB), k6 (v2, v3, v5, v6, ru) = some res → ∀ (H : Heap) (locs : List Loc) (ls : Array Slot), va_P D vwCl (ruW k qa ru ++ (rmW k xa rm)) H → va_D A (ruW k qa ru ++ (rmW k xa rm)) → va_S A s.heap H locs → lv_has ls 9 [(0, .ref (qa 0)), (2, .int v2), (3, .int v3), (4, .ref (xa 0)), (5, .int v5), (6, .int v6)] → W p l e (rmK 3 0 0) s m (List.toArray [.ref (qa 0), .int x1, .int x2, .int x3, .ref (xa 0)]) below meth c H locs 0 0 (MQ below (va_Ql (fun r (_ : Unit) => r = res.1) (hcB D (fun _ : Unit => ruW k qa res.2 ++ (rmW k xa rm)) A) A) (List.toArray [.ref (qa 0), .int x1, .int x2, .int x3, .ref (xa 0)]) s 0 0 A) (F0 m 6 ls []) := fun v2 v3 v5 v6 ru => hk6 (v2, v3, v5, v6, ru)
    have B185 : ∀ (v2 : Int32) (v3 : Int32) (v5 : Int32) (v6 : Int32) (ru : OB) (H : Heap) (locs : List Loc) (ls : Array Slot), b_X4_reckon_185 F rm k6 v2 v3 v5 v6 ru = some res → va_P D vwCl (ruW k qa ru ++ (rmW k xa rm)) H → va_D A (ruW k qa ru ++ (rmW k xa rm)) → va_S A s.heap H locs → lv_has ls 9 [(0, .ref (qa 0)), (2, .int v2), (3, .int v3), (4, .ref (xa 0)), (5, .int v5), (6, .int v6)] → W p l e (rmK 3 0 0) s m (List.toArray [.ref (qa 0), .int x1, .int x2, .int x3, .ref (xa 0)]) below meth c H locs 0 0 (MQ below (va_Ql (fun r (_ : Unit) => r = res.1) (hcB D (fun _ : Unit => ruW k qa res.2 ++ (rmW k xa rm)) A) A) (List.toArray [.ref (qa 0), .int x1, .int x2, .int x3, .ref (xa 0)]) s 0 0 A) (F0 m 185 ls []) := by
      intro v2 v3 v5 v6 ru H locs ls h hP hD hS hl
      refine lv_iinc (v := (v6 + 1)) (lv' := [(6, .int (v6 + 1)), (0, .ref (qa 0)), (2, .int v2), (3, .int v3), (4, .ref (xa 0)), (5, .int v5)]) hx hb dX4_reckon_185 hl (k := 5) rfl rfl (by decide) rfl (fun ls hl => ?_)
      refine lv_goto (tgt := 6) hx hb dX4_reckon_188 (by decide) ?_
      exact hc6 _ _ _ _ _ h _ _ _ hP hD hS (lv_sub hl [1, 2, 3, 4, 5, 0] rfl)
    have B103 : ∀ (v2 : Int32) (v3 : Int32) (v5 : Int32) (v6 : Int32) (y0 : Int64) (y1 : Int32) (ru : OB) (H : Heap) (locs : List Loc) (ls : Array Slot), b_X4_reckon_103 F rm k6 v2 v3 v5 v6 y0 y1 ru = some res → va_P D vwCl (ruW k qa ru ++ (rmW k xa rm)) H → va_D A (ruW k qa ru ++ (rmW k xa rm)) → va_S A s.heap H locs → lv_has ls 9 [(0, .ref (qa 0)), (2, .int v2), (3, .int v3), (4, .ref (xa 0)), (5, .int v5), (6, .int v6)] → W p l e (rmK 3 0 0) s m (List.toArray [.ref (qa 0), .int x1, .int x2, .int x3, .ref (xa 0)]) below meth c H locs 0 0 (MQ below (va_Ql (fun r (_ : Unit) => r = res.1) (hcB D (fun _ : Unit => ruW k qa res.2 ++ (rmW k xa rm)) A) A) (List.toArray [.ref (qa 0), .int x1, .int x2, .int x3, .ref (xa 0)]) s 0 0 A) (F0 m 103 ls [.long y0, .int y1, .ref (qa 5)]) := by
      intro v2 v3 v5 v6 y0 y1 ru H locs ls h hP hD hS hl
      obtain ⟨g3, h⟩ := fw_g h
      refine va_last hx hb hG.1 hP hD hS 5 3 rfl rfl (ib_vp g3) dX4_reckon_103 (fun H locs hP hD hS => ?_)
      refine lv_iinc (v := (v5 + 1)) (lv' := [(5, .int (v5 + 1)), (0, .ref (qa 0)), (2, .int v2), (3, .int v3), (4, .ref (xa 0)), (6, .int v6)]) hx hb dX4_reckon_104 hl (k := 4) rfl rfl (by decide) rfl (fun ls hl => ?_)
      refine lv_goto (tgt := 185) hx hb dX4_reckon_107 (by decide) ?_
      exact B185 _ _ _ _ _ _ _ _ h hP hD hS (lv_sub hl [1, 2, 3, 4, 0, 5] rfl)
    have B66 : ∀ (v2 : Int32) (v3 : Int32) (v5 : Int32) (v6 : Int32) (v7 : Int32) (v8 : Int32) (ru : OB) (H : Heap) (locs : List Loc) (ls : Array Slot), b_X4_reckon_66 F rm k6 v2 v3 v5 v6 v7 v8 ru = some res → va_P D vwCl (ruW k qa ru ++ (rmW k xa rm)) H → va_D A (ruW k qa ru ++ (rmW k xa rm)) → va_S A s.heap H locs → lv_has ls 9 [(0, .ref (qa 0)), (2, .int v2), (3, .int v3), (4, .ref (xa 0)), (5, .int v5), (6, .int v6), (7, .int v7), (8, .int v8)] → W p l e (rmK 3 0 0) s m (List.toArray [.ref (qa 0), .int x1, .int x2, .int x3, .ref (xa 0)]) below meth c H locs 0 0 (MQ below (va_Ql (fun r (_ : Unit) => r = res.1) (hcB D (fun _ : Unit => ruW k qa res.2 ++ (rmW k xa rm)) A) A) (List.toArray [.ref (qa 0), .int x1, .int x2, .int x3, .ref (xa 0)]) s 0 0 A) (F0 m 66 ls []) := by
      intro v2 v3 v5 v6 v7 v8 ru H locs ls h hP hD hS hl
      refine lv_iload hx hb dX4_reckon_66 (lv_at hl 4 rfl) ?_
      refine lv_bipush (v := 60) hx hb dX4_reckon_68 (by decide) ?_
      refine lv_icmp_ge (tgt := 185) hx hb dX4_reckon_70 (by decide) (fun c4 => ?_) (fun c4 => ?_)
      · have h := fw_t c4 h
        exact B185 _ _ _ _ _ _ _ _ h hP hD hS (lv_sub hl [0, 1, 2, 3, 4, 5] rfl)
      · have h := fw_f c4 h
        refine lv_aload_n hx hb dX4_reckon_73 rfl (lv_at hl 0 rfl) ?_
        refine va_get (D := D) (ci := 3) (v := .ref (qa 5)) (C := RX4) (T := TX4) (N := 8) hx hb hts in4 hown hG.1 hP 0 rfl rfl 4 (by decide) (hts (.fieldLink RX4 24 "ChairCane$Rule" "stack" "[J") (mem_b bq_wsX4_reckon 0 2 rfl)) (fun _ h9 => h9) rfl dX4_reckon_74 ?_
        refine lv_iload hx hb dX4_reckon_77 (lv_at hl 4 rfl) ?_
        refine lv_iload hx hb dX4_reckon_79 (lv_at hl 7 rfl) ?_
        refine lv_if_eq (tgt := 94) hx hb dX4_reckon_81 (by decide) (fun c5 => ?_) (fun c5 => ?_)
        · have h := fw_t c5 h
          refine lv_aload hx hb dX4_reckon_94 (lv_at hl 3 rfl) ?_
          refine lv_iload hx hb dX4_reckon_96 (lv_at hl 6 rfl) ?_
          refine lv_iload_n hx hb dX4_reckon_98 rfl (lv_at hl 2 rfl) ?_
          obtain ⟨hP, hD⟩ := qm hP hD (q_to [ruW k qa ru, rmW k xa rm] [0, 1] [1] [0] (by decide +kernel))
          refine fw_Vi (As := [.int v7, .int v3]) (rest := [.int v5, .ref (qa 5)]) (n := 2) (rv := fun b : Int32 => b) (wp := fun b : Int32 => rmW k xa rm) h hx hb hml hown hts hG hA hP hD hS hl.1 _ _ (fun q hq9 => c_X3_wordOf l D k _  xa F v7 v3 rm  hq9) (ci := 2) (q0 := 0) rfl rfl gX4_reckon_X3_wordOf rfl ⟨rfl, rfl, Nat.le_of_ble_eq_true rfl, Nat.le_of_ble_eq_true rfl⟩ (by decide +kernel) (q_l _ _) (q_r _ _) (q_nd _ _) ⟨rfl, rfl, Nat.le_of_ble_eq_true rfl, Nat.le_of_ble_eq_true rfl, Nat.le_of_ble_eq_true rfl⟩ dX4_reckon_99 (fun q6 H locs h hP hD hS => ?_)
          obtain ⟨hP, hD⟩ := qm (w2 := ruW k qa ru ++ (rmW k xa rm)) hP hD (q_from [ruW k qa ru, rmW k xa rm] [0] [1] [0, 1] (by decide +kernel))
          refine hc_is (z := q6) rfl ?_
          refine lv_i2l hx hb dX4_reckon_102 rfl ?_
          exact B103 _ _ _ _ _ _ _ _ _ _ h hP hD hS (lv_sub hl [0, 1, 2, 3, 4, 5] rfl)
        · have h := fw_f c5 h
          refine lv_iload hx hb dX4_reckon_84 (lv_at hl 6 rfl) ?_
          refine lv_sipush (v := 1000) hx hb dX4_reckon_86 (by decide) ?_
          refine lv_isub hx hb dX4_reckon_89 ?_
          refine lv_i2l hx hb dX4_reckon_90 rfl ?_
          refine lv_goto (tgt := 103) hx hb dX4_reckon_91 (by decide) ?_
          exact B103 _ _ _ _ _ _ _ _ _ _ h hP hD hS (lv_sub hl [0, 1, 2, 3, 4, 5] rfl)
    have B110 : ∀ (v2 : Int32) (v3 : Int32) (v5 : Int32) (v6 : Int32) (v7 : Int32) (ru : OB) (H : Heap) (locs : List Loc) (ls : Array Slot), b_X4_reckon_110 F rm k6 v2 v3 v5 v6 v7 ru = some res → va_P D vwCl (ruW k qa ru ++ (rmW k xa rm)) H → va_D A (ruW k qa ru ++ (rmW k xa rm)) → va_S A s.heap H locs → lv_has ls 9 [(0, .ref (qa 0)), (2, .int v2), (3, .int v3), (4, .ref (xa 0)), (5, .int v5), (6, .int v6), (7, .int v7)] → W p l e (rmK 3 0 0) s m (List.toArray [.ref (qa 0), .int x1, .int x2, .int x3, .ref (xa 0)]) below meth c H locs 0 0 (MQ below (va_Ql (fun r (_ : Unit) => r = res.1) (hcB D (fun _ : Unit => ruW k qa res.2 ++ (rmW k xa rm)) A) A) (List.toArray [.ref (qa 0), .int x1, .int x2, .int x3, .ref (xa 0)]) s 0 0 A) (F0 m 110 ls []) := by
      intro v2 v3 v5 v6 v7 ru H locs ls h hP hD hS hl
      refine lv_iload hx hb dX4_reckon_110 (lv_at hl 6 rfl) ?_
      refine lv_sipush (v := 277) hx hb dX4_reckon_112 (by decide) ?_
      refine lv_icmp_ne (tgt := 146) hx hb dX4_reckon_115 (by decide) (fun c7 => ?_) (fun c7 => ?_)
      · have h := fw_f c7 h
        refine lv_iload hx hb dX4_reckon_146 (lv_at hl 4 rfl) ?_
        refine lv_iconst (v := 1) hx hb dX4_reckon_148 (by decide) ?_
        refine lv_icmp_le (tgt := 185) hx hb dX4_reckon_149 (by decide) (fun c8 => ?_) (fun c8 => ?_)
        · have h := fw_t c8 h
          exact B185 _ _ _ _ _ _ _ _ h hP hD hS (lv_sub hl [0, 1, 2, 3, 4, 5] rfl)
        · have h := fw_f c8 h
          refine lv_iinc (v := (v5 + (-1))) (lv' := [(5, .int (v5 + (-1))), (0, .ref (qa 0)), (2, .int v2), (3, .int v3), (4, .ref (xa 0)), (6, .int v6), (7, .int v7)]) hx hb dX4_reckon_152 hl (k := 4) rfl rfl (by decide) rfl (fun ls hl => ?_)
          refine lv_aload_n hx hb dX4_reckon_155 rfl (lv_at hl 1 rfl) ?_
          refine va_get (D := D) (ci := 3) (v := .ref (qa 5)) (C := RX4) (T := TX4) (N := 8) hx hb hts in4 hown hG.1 hP 0 rfl rfl 4 (by decide) (hts (.fieldLink RX4 24 "ChairCane$Rule" "stack" "[J") (mem_b bq_wsX4_reckon 0 2 rfl)) (fun _ h9 => h9) rfl dX4_reckon_156 ?_
          refine lv_iload hx hb dX4_reckon_159 (lv_at hl 0 rfl) ?_
          refine lv_iconst (v := 1) hx hb dX4_reckon_161 (by decide) ?_
          refine lv_isub hx hb dX4_reckon_162 ?_
          refine lv_iload hx hb dX4_reckon_163 (lv_at hl 6 rfl) ?_
          refine lv_aload_n hx hb dX4_reckon_165 rfl (lv_at hl 1 rfl) ?_
          refine va_get (D := D) (ci := 3) (v := .ref (qa 5)) (C := RX4) (T := TX4) (N := 8) hx hb hts in4 hown hG.1 hP 0 rfl rfl 4 (by decide) (hts (.fieldLink RX4 24 "ChairCane$Rule" "stack" "[J") (mem_b bq_wsX4_reckon 0 2 rfl)) (fun _ h9 => h9) rfl dX4_reckon_166 ?_
          refine lv_iload hx hb dX4_reckon_169 (lv_at hl 0 rfl) ?_
          refine lv_iconst (v := 1) hx hb dX4_reckon_171 (by decide) ?_
          refine lv_isub hx hb dX4_reckon_172 ?_
          obtain ⟨g9, h⟩ := fw_g h
          refine va_lald hx hb hG.1 hP 5 3 rfl rfl (ib_vp g9) dX4_reckon_173 ?_
          refine lv_aload_n hx hb dX4_reckon_174 rfl (lv_at hl 1 rfl) ?_
          refine va_get (D := D) (ci := 3) (v := .ref (qa 5)) (C := RX4) (T := TX4) (N := 8) hx hb hts in4 hown hG.1 hP 0 rfl rfl 4 (by decide) (hts (.fieldLink RX4 24 "ChairCane$Rule" "stack" "[J") (mem_b bq_wsX4_reckon 0 2 rfl)) (fun _ h9 => h9) rfl dX4_reckon_175 ?_
          refine lv_iload hx hb dX4_reckon_178 (lv_at hl 0 rfl) ?_
          obtain ⟨g10, h⟩ := fw_g h
          refine va_lald hx hb hG.1 hP 5 3 rfl rfl (ib_vp g10) dX4_reckon_180 ?_
          refine fw_Sl (As := [.int v7, .long ((ru.2.2 4) (Int32.toNatClampNeg ((v5 + (-1)) - 1))), .long ((ru.2.2 4) (Int32.toNatClampNeg (v5 + (-1))))]) (rest := [.int ((v5 + (-1)) - 1), .ref (qa 5)]) (n := 3) (wr := ruW k qa ru ++ (rmW k xa rm)) (rv := fun b : Int64 => b) (wp := fun b : Int64 => []) h hx hb hml hown hts hG hA hP hD hS hl.1 [] (List.range (ruW k qa ru ++ (rmW k xa rm)).length) (fun q hq9 => c_X4_combine l D k _   F v7 ((ru.2.2 4) (Int32.toNatClampNeg ((v5 + (-1)) - 1))) ((ru.2.2 4) (Int32.toNatClampNeg (v5 + (-1))))   hq9) gX4_reckon_X4_combine rfl ⟨rfl, rfl, Nat.le_of_ble_eq_true rfl, Nat.le_of_ble_eq_true rfl⟩ (by decide +kernel) rfl (al_C _) (al_m _) ⟨rfl, rfl, Nat.le_of_ble_eq_true rfl, Nat.le_of_ble_eq_true rfl, Nat.le_of_ble_eq_true rfl⟩ dX4_reckon_181 (fun q11 H locs h hP hD hS => ?_)
          obtain ⟨hP, hD⟩ := cv (w' := (ruW k qa ru ++ (rmW k xa rm)) ++ []) hP hD rfl
          rw [List.append_nil] at hP hD
          refine hc_isL (z := q11) rfl ?_
          refine va_last hx hb hG.1 hP hD hS 5 3 rfl rfl (ib_vp g9) dX4_reckon_184 (fun H locs hP hD hS => ?_)
          exact B185 _ _ _ _ _ _ _ _ h hP hD hS (lv_sub hl [1, 2, 3, 4, 0, 5] rfl)
      · have h := fw_t c7 h
        refine lv_iload hx hb dX4_reckon_118 (lv_at hl 4 rfl) ?_
        refine lv_if_le (tgt := 185) hx hb dX4_reckon_120 (by decide) (fun c12 => ?_) (fun c12 => ?_)
        · have h := fw_t c12 h
          exact B185 _ _ _ _ _ _ _ _ h hP hD hS (lv_sub hl [0, 1, 2, 3, 4, 5] rfl)
        · have h := fw_f c12 h
          refine lv_aload_n hx hb dX4_reckon_123 rfl (lv_at hl 0 rfl) ?_
          refine va_get (D := D) (ci := 3) (v := .ref (qa 5)) (C := RX4) (T := TX4) (N := 8) hx hb hts in4 hown hG.1 hP 0 rfl rfl 4 (by decide) (hts (.fieldLink RX4 24 "ChairCane$Rule" "stack" "[J") (mem_b bq_wsX4_reckon 0 2 rfl)) (fun _ h9 => h9) rfl dX4_reckon_124 ?_
          refine lv_iload hx hb dX4_reckon_127 (lv_at hl 4 rfl) ?_
          refine lv_iconst (v := 1) hx hb dX4_reckon_129 (by decide) ?_
          refine lv_isub hx hb dX4_reckon_130 ?_
          refine lv_lconst (v := 1) hx hb dX4_reckon_131 (by decide) ?_
          refine lv_aload_n hx hb dX4_reckon_132 rfl (lv_at hl 0 rfl) ?_
          refine va_get (D := D) (ci := 3) (v := .ref (qa 5)) (C := RX4) (T := TX4) (N := 8) hx hb hts in4 hown hG.1 hP 0 rfl rfl 4 (by decide) (hts (.fieldLink RX4 24 "ChairCane$Rule" "stack" "[J") (mem_b bq_wsX4_reckon 0 2 rfl)) (fun _ h9 => h9) rfl dX4_reckon_133 ?_
          refine lv_iload hx hb dX4_reckon_136 (lv_at hl 4 rfl) ?_
          refine lv_iconst (v := 1) hx hb dX4_reckon_138 (by decide) ?_
          refine lv_isub hx hb dX4_reckon_139 ?_
          obtain ⟨g13, h⟩ := fw_g h
          refine va_lald hx hb hG.1 hP 5 3 rfl rfl (ib_vp g13) dX4_reckon_140 ?_
          refine lv_lsub hx hb dX4_reckon_141 ?_
          refine va_last hx hb hG.1 hP hD hS 5 3 rfl rfl (ib_vp g13) dX4_reckon_142 (fun H locs hP hD hS => ?_)
          refine lv_goto (tgt := 185) hx hb dX4_reckon_143 (by decide) ?_
          exact B185 _ _ _ _ _ _ _ _ h hP hD hS (lv_sub hl [0, 1, 2, 3, 4, 5] rfl)
    have B43 : ∀ (v2 : Int32) (v3 : Int32) (v5 : Int32) (v6 : Int32) (v7 : Int32) (y0 : Int32) (ru : OB) (H : Heap) (locs : List Loc) (ls : Array Slot), b_X4_reckon_43 F rm k6 v2 v3 v5 v6 v7 y0 ru = some res → va_P D vwCl (ruW k qa ru ++ (rmW k xa rm)) H → va_D A (ruW k qa ru ++ (rmW k xa rm)) → va_S A s.heap H locs → lv_has ls 9 [(0, .ref (qa 0)), (2, .int v2), (3, .int v3), (4, .ref (xa 0)), (5, .int v5), (6, .int v6), (7, .int v7)] → W p l e (rmK 3 0 0) s m (List.toArray [.ref (qa 0), .int x1, .int x2, .int x3, .ref (xa 0)]) below meth c H locs 0 0 (MQ below (va_Ql (fun r (_ : Unit) => r = res.1) (hcB D (fun _ : Unit => ruW k qa res.2 ++ (rmW k xa rm)) A) A) (List.toArray [.ref (qa 0), .int x1, .int x2, .int x3, .ref (xa 0)]) s 0 0 A) (F0 m 43 ls [.int y0]) := by
      intro v2 v3 v5 v6 v7 y0 ru H locs ls h hP hD hS hl
      refine lv_istore (lv' := [(8, .int y0), (0, .ref (qa 0)), (2, .int v2), (3, .int v3), (4, .ref (xa 0)), (5, .int v5), (6, .int v6), (7, .int v7)]) hx hb dX4_reckon_43 hl (by decide) rfl (fun ls hl => ?_)
      refine lv_iload hx hb dX4_reckon_45 (lv_at hl 0 rfl) ?_
      refine lv_if_ne (tgt := 66) hx hb dX4_reckon_47 (by decide) (fun c14 => ?_) (fun c14 => ?_)
      · have h := fw_f c14 h
        exact B66 _ _ _ _ _ _ _ _ _ _ h hP hD hS (lv_sub hl [1, 2, 3, 4, 5, 6, 7, 0] rfl)
      · have h := fw_t c14 h
        refine lv_iload hx hb dX4_reckon_50 (lv_at hl 7 rfl) ?_
        refine lv_sipush (v := 260) hx hb dX4_reckon_52 (by decide) ?_
        refine lv_icmp_lt (tgt := 110) hx hb dX4_reckon_55 (by decide) (fun c15 => ?_) (fun c15 => ?_)
        · have h := fw_t c15 h
          exact B110 _ _ _ _ _ _ _ _ _ h hP hD hS (lv_sub hl [1, 2, 3, 4, 5, 6, 7] rfl)
        · have h := fw_f c15 h
          refine lv_iload hx hb dX4_reckon_58 (lv_at hl 7 rfl) ?_
          refine lv_sipush (v := 270) hx hb dX4_reckon_60 (by decide) ?_
          refine lv_icmp_gt (tgt := 110) hx hb dX4_reckon_63 (by decide) (fun c16 => ?_) (fun c16 => ?_)
          · have h := fw_t c16 h
            exact B110 _ _ _ _ _ _ _ _ _ h hP hD hS (lv_sub hl [1, 2, 3, 4, 5, 6, 7] rfl)
          · have h := fw_f c16 h
            exact B66 _ _ _ _ _ _ _ _ _ _ h hP hD hS (lv_sub hl [1, 2, 3, 4, 5, 6, 7, 0] rfl)
    refine lv_iload hx hb dX4_reckon_6 (lv_at hl 5 rfl) ?_
    refine lv_iload_n hx hb dX4_reckon_8 rfl (lv_at hl 1 rfl) ?_
    refine lv_icmp_ge (tgt := 191) hx hb dX4_reckon_9 (by decide) (fun c17 => ?_) (fun c17 => ?_)
    · have h := fw_t c17 h
      exact B191 _ _ _ _ _ h hP hD hS (lv_sub hl [0, 4] rfl)
    · have h := fw_f c17 h
      refine lv_iload hx hb dX4_reckon_12 (lv_at hl 5 rfl) ?_
      refine lv_aload_n hx hb dX4_reckon_14 rfl (lv_at hl 0 rfl) ?_
      refine va_get (D := D) (ci := 3) (v := .int (a6.2.2.2.2.1 5)) (C := RX4) (T := TX4) (N := 8) hx hb hts in4 hown hG.1 hP 0 rfl rfl 5 (by decide) (hts (.fieldLink RX4 28 "ChairCane$Rule" "length" "I") (mem_b bq_wsX4_reckon 0 0 rfl)) (fun _ h9 => h9) rfl dX4_reckon_15 ?_
      refine lv_icmp_ge (tgt := 191) hx hb dX4_reckon_18 (by decide) (fun c18 => ?_) (fun c18 => ?_)
      · have h := fw_t c18 h
        exact B191 _ _ _ _ _ h hP hD hS (lv_sub hl [0, 4] rfl)
      · have h := fw_f c18 h
        refine lv_aload_n hx hb dX4_reckon_21 rfl (lv_at hl 0 rfl) ?_
        refine va_get (D := D) (ci := 3) (v := .ref (qa 1)) (C := RX4) (T := TX4) (N := 8) hx hb hts in4 hown hG.1 hP 0 rfl rfl 0 (by decide) (hts (.fieldLink RX4 9 "ChairCane$Rule" "steps" "[I") (mem_b bq_wsX4_reckon 0 1 rfl)) (fun _ h9 => h9) rfl dX4_reckon_22 ?_
        refine lv_iload hx hb dX4_reckon_25 (lv_at hl 5 rfl) ?_
        obtain ⟨g19, h⟩ := fw_g h
        refine va_iald hx hb hG.1 hP 1 0 rfl rfl (ib_vp g19) dX4_reckon_27 ?_
        refine lv_istore (lv' := [(7, .int ((a6.2.2.2.2.2.1 0) (Int32.toNatClampNeg a6.2.2.2.1))), (0, .ref (qa 0)), (2, .int a6.1), (3, .int a6.2.1), (4, .ref (xa 0)), (5, .int a6.2.2.1), (6, .int a6.2.2.2.1)]) hx hb dX4_reckon_28 hl (by decide) rfl (fun ls hl => ?_)
        refine lv_iload hx hb dX4_reckon_30 (lv_at hl 0 rfl) ?_
        refine lv_sipush (v := 1000) hx hb dX4_reckon_32 (by decide) ?_
        refine lv_icmp_lt (tgt := 42) hx hb dX4_reckon_35 (by decide) (fun c20 => ?_) (fun c20 => ?_)
        · have h := fw_t c20 h
          refine lv_iconst (v := 0) hx hb dX4_reckon_42 (by decide) ?_
          exact B43 _ _ _ _ _ _ _ _ _ _ h hP hD hS (lv_sub hl [1, 2, 3, 4, 5, 6, 0] rfl)
        · have h := fw_f c20 h
          refine lv_iconst (v := 1) hx hb dX4_reckon_38 (by decide) ?_
          refine lv_goto (tgt := 43) hx hb dX4_reckon_39 (by decide) ?_
          exact B43 _ _ _ _ _ _ _ _ _ _ h hP hD hS (lv_sub hl [1, 2, 3, 4, 5, 6, 0] rfl)
  have C6 : ∀ (v2 : Int32) (v3 : Int32) (v5 : Int32) (v6 : Int32) (ru : OB), lp (b_X4_reckon_6 F rm) F (v2, v3, v5, v6, ru) = some res → ∀ (H : Heap) (locs : List Loc) (ls : Array Slot), va_P D vwCl (ruW k qa ru ++ (rmW k xa rm)) H → va_D A (ruW k qa ru ++ (rmW k xa rm)) → va_S A s.heap H locs → lv_has ls 9 [(0, .ref (qa 0)), (2, .int v2), (3, .int v3), (4, .ref (xa 0)), (5, .int v5), (6, .int v6)] → W p l e (rmK 3 0 0) s m (List.toArray [.ref (qa 0), .int x1, .int x2, .int x3, .ref (xa 0)]) below meth c H locs 0 0 (MQ below (va_Ql (fun r (_ : Unit) => r = res.1) (hcB D (fun _ : Unit => ruW k qa res.2 ++ (rmW k xa rm)) A) A) (List.toArray [.ref (qa 0), .int x1, .int x2, .int x3, .ref (xa 0)]) s 0 0 A) (F0 m 6 ls []) := fun v2 v3 v5 v6 ru => B6 (v2, v3, v5, v6, ru)
  refine lv_iconst (v := 0) hx hb dX4_reckon_0 (by decide) ?_
  refine lv_istore (lv' := [(5, .int 0), (0, .ref (qa 0)), (1, .int x1), (2, .int x2), (3, .int x3), (4, .ref (xa 0))]) hx hb dX4_reckon_1 hl (by decide) rfl (fun ls hl => ?_)
  refine lv_iload_n hx hb dX4_reckon_3 rfl (lv_at hl 2 rfl) ?_
  refine lv_istore (lv' := [(6, .int x1), (5, .int 0), (0, .ref (qa 0)), (1, .int x1), (2, .int x2), (3, .int x3), (4, .ref (xa 0))]) hx hb dX4_reckon_4 hl (by decide) rfl (fun ls hl => ?_)
  exact C6 _ _ _ _ _ h _ _ _ hP hD hS (lv_sub hl [2, 4, 5, 6, 1, 0] rfl)
noncomputable def b_X4_seats_88 (F : Nat)  (rm : OB)  (y0 : Int32) (ru : OB) : Option (Int32 × OB) :=
  if bo y0 then (some (y0, ru)) else none
noncomputable def b_X4_seats_60 (F : Nat)  (rm : OB)  (v1 : Int32) (v3 : Int32) (ru : OB) : Option (Int32 × OB) :=
  if ib v3 12 then (Option.bind (f_X4_reckon F ((ru.2.1 1) (Int32.toNatClampNeg v3)) ((ru.2.1 2) (Int32.toNatClampNeg v3)) v1 ru rm) (fun q3 => (if (lg_cmp q3.1 0) ≤ 0 then (b_X4_seats_88 F rm 0 q3.2) else (b_X4_seats_88 F rm 1 q3.2)))) else none
noncomputable def b_X4_seats_30 (F : Nat)  (rm : OB) (k2 : (Int32 × Int32 × OB) → Option (Int32 × OB)) (v1 : Int32) (v3 : Int32) (y0 : Int32) (ru : OB) : Option (Int32 × OB) :=
  if y0 = 0 then (b_X4_seats_60 F rm v1 v3 ru) else (if ib v3 12 then (Option.bind (f_X4_reckon F ((ru.2.1 2) (Int32.toNatClampNeg v3)) ((ru.2.1 3) (Int32.toNatClampNeg v3)) v1 ru rm) (fun q7 => (if (lg_cmp q7.1 0) = 0 then (k2 (v1, (v3 + 1), q7.2)) else (b_X4_seats_60 F rm v1 v3 q7.2)))) else none)
noncomputable def b_X4_seats_2 (F : Nat)  (rm : OB)  (k2 : (Int32 × Int32 × OB) → Option (Int32 × OB)) (a2 : (Int32 × Int32 × OB)) : Option (Int32 × OB) :=
  if (a2.2.2.1 6) ≤ a2.2.1 then (some (0, a2.2.2)) else (if ib a2.2.1 12 then (if ((a2.2.2.2.1 3) (Int32.toNatClampNeg a2.2.1)) ≤ ((a2.2.2.2.1 2) (Int32.toNatClampNeg a2.2.1)) then (b_X4_seats_30 F rm k2 a2.1 a2.2.1 0 a2.2.2) else (b_X4_seats_30 F rm k2 a2.1 a2.2.1 1 a2.2.2)) else none)
noncomputable def f_X4_seats (F : Nat)  (x1 : Int32) (ru : OB) (rm : OB) : Option (Int32 × OB) :=
  lp (b_X4_seats_2 F rm) F (x1, 0, ru)
set_option maxHeartbeats 4000000 in
set_option maxRecDepth 100000 in
theorem c_X4_seats (l : Launch) (D : va_G) (k : Nat → ClassId) (sz : Nat)  (qa : Nat → Nat) (xa : Nat → Nat) (F : Nat)  (x1 : Int32) (ru : OB) (rm : OB)  {res : Int32 × OB} (h : f_X4_seats F x1 ru rm = some res) : CtI l yX4_seats wsX4_seats (rmK 4 0 0) [.ref (qa 0), .int x1, .ref (xa 0)] D k sz (ruW k qa ru ++ (rmW k xa rm)) (fun r (_ : Unit) => r = res.1) (fun _ : Unit => ruW k qa res.2 ++ (rmW k xa rm)) 0 0 := by
  refine CtI.mk (cc := cX4_seats) (maxL := 5) (ret := (some .boolean)) (by decide) rfl (Nat.le_of_ble_eq_true rfl) ?_
  intro p e s m below meth c A ls E hP hD hS hl
  obtain ⟨hx, hb, hr, hml, hown, hts, hlocks, hin, hG, hA⟩ := E
  have hown : s.vm.findClass RX4 = some m.cls := hown
  have in3 : ∀ w ∈ u_ws RX3 TX3 17, w ∈ wsX4_seats := fun _ h => List.mem_cons_of_mem _ (List.mem_append_right _ h)
  have in4 : ∀ w ∈ u_ws RX4 TX4 8, w ∈ wsX4_seats := fun _ h => List.mem_cons_of_mem _ (List.mem_append_left _ (List.mem_append_right _ h))
  have hl : lv_has ls 5 [(0, .ref (qa 0)), (1, .int x1), (2, .ref (xa 0))] := hl
  have B88 : ∀ (y0 : Int32) (ru : OB) (H : Heap) (locs : List Loc) (ls : Array Slot), b_X4_seats_88 F rm y0 ru = some res → va_P D vwCl (ruW k qa ru ++ (rmW k xa rm)) H → va_D A (ruW k qa ru ++ (rmW k xa rm)) → va_S A s.heap H locs → lv_has ls 5 [] → W p l e (rmK 4 0 0) s m (List.toArray [.ref (qa 0), .int x1, .ref (xa 0)]) below meth c H locs 0 0 (MQ below (va_Qi (fun r (_ : Unit) => r = res.1) (hcB D (fun _ : Unit => ruW k qa res.2 ++ (rmW k xa rm)) A) A) (List.toArray [.ref (qa 0), .int x1, .ref (xa 0)]) s 0 0 A) (F0 m 88 ls [.int y0]) := by
    intro y0 ru H locs ls h hP hD hS hl
    obtain ⟨g1, h⟩ := fw_g h
    exact fw_endZ (rv := fun b : Int32 × OB => b.1) (wp := fun b : Int32 × OB => ruW k qa b.2 ++ (rmW k xa rm)) hx hb hr hlocks h (bo_z g1) rfl hP hD hS dX4_seats_88
  have B60 : ∀ (v1 : Int32) (v3 : Int32) (ru : OB) (H : Heap) (locs : List Loc) (ls : Array Slot), b_X4_seats_60 F rm v1 v3 ru = some res → va_P D vwCl (ruW k qa ru ++ (rmW k xa rm)) H → va_D A (ruW k qa ru ++ (rmW k xa rm)) → va_S A s.heap H locs → lv_has ls 5 [(0, .ref (qa 0)), (1, .int v1), (2, .ref (xa 0)), (3, .int v3)] → W p l e (rmK 4 0 0) s m (List.toArray [.ref (qa 0), .int x1, .ref (xa 0)]) below meth c H locs 0 0 (MQ below (va_Qi (fun r (_ : Unit) => r = res.1) (hcB D (fun _ : Unit => ruW k qa res.2 ++ (rmW k xa rm)) A) A) (List.toArray [.ref (qa 0), .int x1, .ref (xa 0)]) s 0 0 A) (F0 m 60 ls []) := by
    intro v1 v3 ru H locs ls h hP hD hS hl
    refine lv_aload_n hx hb dX4_seats_60 rfl (lv_at hl 0 rfl) ?_
    refine lv_aload_n hx hb dX4_seats_61 rfl (lv_at hl 0 rfl) ?_
    refine va_get (D := D) (ci := 3) (v := .ref (qa 2)) (C := RX4) (T := TX4) (N := 8) hx hb hts in4 hown hG.1 hP 0 rfl rfl 1 (by decide) (hts (.fieldLink RX4 15 "ChairCane$Rule" "sumFrom" "[I") (mem_b bq_wsX4_seats 0 3 rfl)) (fun _ h9 => h9) rfl dX4_seats_62 ?_
    refine lv_iload_n hx hb dX4_seats_65 rfl (lv_at hl 3 rfl) ?_
    obtain ⟨g2, h⟩ := fw_g h
    refine va_iald hx hb hG.1 hP 2 0 rfl rfl (ib_vp g2) dX4_seats_66 ?_
    refine lv_aload_n hx hb dX4_seats_67 rfl (lv_at hl 0 rfl) ?_
    refine va_get (D := D) (ci := 3) (v := .ref (qa 3)) (C := RX4) (T := TX4) (N := 8) hx hb hts in4 hown hG.1 hP 0 rfl rfl 2 (by decide) (hts (.fieldLink RX4 18 "ChairCane$Rule" "sumTo" "[I") (mem_b bq_wsX4_seats 0 1 rfl)) (fun _ h9 => h9) rfl dX4_seats_68 ?_
    refine lv_iload_n hx hb dX4_seats_71 rfl (lv_at hl 3 rfl) ?_
    refine va_iald hx hb hG.1 hP 3 0 rfl rfl (ib_vp g2) dX4_seats_72 ?_
    refine lv_iload_n hx hb dX4_seats_73 rfl (lv_at hl 1 rfl) ?_
    refine lv_aload_n hx hb dX4_seats_74 rfl (lv_at hl 2 rfl) ?_
    refine fw_Vl (As := [.int ((ru.2.1 1) (Int32.toNatClampNeg v3)), .int ((ru.2.1 2) (Int32.toNatClampNeg v3)), .int v1, .ref (xa 0)]) (rest := []) (n := 4) (wr := []) (rv := fun b : Int64 × OB => b.1) (wp := fun b : Int64 × OB => ruW k qa b.2 ++ (rmW k xa rm)) h hx hb hml hown hts hG hA hP hD hS hl.1 (List.range (ruW k qa ru ++ (rmW k xa rm)).length) [] (fun q hq9 => c_X4_reckon l D k _  qa xa F ((ru.2.1 1) (Int32.toNatClampNeg v3)) ((ru.2.1 2) (Int32.toNatClampNeg v3)) v1 ru rm  hq9) (ci := 3) (q0 := 0) rfl rfl gX4_seats_X4_reckon rfl ⟨rfl, rfl, Nat.le_of_ble_eq_true rfl, Nat.le_of_ble_eq_true rfl⟩ (by decide +kernel) (al_C _) rfl (al_n _) ⟨rfl, rfl, Nat.le_of_ble_eq_true rfl, Nat.le_of_ble_eq_true rfl, Nat.le_of_ble_eq_true rfl⟩ dX4_seats_75 (fun q3 H locs h hP hD hS => ?_)
    obtain ⟨hP, hD⟩ := cv (w' := ruW k qa q3.2 ++ (rmW k xa rm)) hP hD rfl
    refine hc_isL (z := q3.1) rfl ?_
    refine lv_lconst (v := 0) hx hb dX4_seats_78 (by decide) ?_
    refine W.lcmp hx hb dX4_seats_79 ?_
    refine lv_if_le (tgt := 87) hx hb dX4_seats_80 (by decide) (fun c4 => ?_) (fun c4 => ?_)
    · have h := fw_t c4 h
      refine lv_iconst (v := 0) hx hb dX4_seats_87 (by decide) ?_
      exact B88 _ _ _ _ _ h hP hD hS (lv_sub hl [] rfl)
    · have h := fw_f c4 h
      refine lv_iconst (v := 1) hx hb dX4_seats_83 (by decide) ?_
      refine lv_goto (tgt := 88) hx hb dX4_seats_84 (by decide) ?_
      exact B88 _ _ _ _ _ h hP hD hS (lv_sub hl [] rfl)
  have B2 : ∀ a2 : (Int32 × Int32 × OB), lp (b_X4_seats_2 F rm) F a2 = some res → ∀ (H : Heap) (locs : List Loc) (ls : Array Slot), va_P D vwCl (ruW k qa a2.2.2 ++ (rmW k xa rm)) H → va_D A (ruW k qa a2.2.2 ++ (rmW k xa rm)) → va_S A s.heap H locs → lv_has ls 5 [(0, .ref (qa 0)), (1, .int a2.1), (2, .ref (xa 0)), (3, .int a2.2.1)] → W p l e (rmK 4 0 0) s m (List.toArray [.ref (qa 0), .int x1, .ref (xa 0)]) below meth c H locs 0 0 (MQ below (va_Qi (fun r (_ : Unit) => r = res.1) (hcB D (fun _ : Unit => ruW k qa res.2 ++ (rmW k xa rm)) A) A) (List.toArray [.ref (qa 0), .int x1, .ref (xa 0)]) s 0 0 A) (F0 m 2 ls []) := by
    refine lp_W ?_ F
    intro k2 hk2 a2 h H locs ls hP hD hS hl
    have hc2 : ∀ (v1 : Int32) (v3 : Int32) (ru : OB), k2 (v1, v3, ru) = some res → ∀ (H : Heap) (locs : List Loc) (ls : Array Slot), va_P D vwCl (ruW k qa ru ++ (rmW k xa rm)) H → va_D A (ruW k qa ru ++ (rmW k xa rm)) → va_S A s.heap H locs → lv_has ls 5 [(0, .ref (qa 0)), (1, .int v1), (2, .ref (xa 0)), (3, .int v3)] → W p l e (rmK 4 0 0) s m (List.toArray [.ref (qa 0), .int x1, .ref (xa 0)]) below meth c H locs 0 0 (MQ below (va_Qi (fun r (_ : Unit) => r = res.1) (hcB D (fun _ : Unit => ruW k qa res.2 ++ (rmW k xa rm)) A) A) (List.toArray [.ref (qa 0), .int x1, .ref (xa 0)]) s 0 0 A) (F0 m 2 ls []) := fun v1 v3 ru => hk2 (v1, v3, ru)
    have B30 : ∀ (v1 : Int32) (v3 : Int32) (y0 : Int32) (ru : OB) (H : Heap) (locs : List Loc) (ls : Array Slot), b_X4_seats_30 F rm k2 v1 v3 y0 ru = some res → va_P D vwCl (ruW k qa ru ++ (rmW k xa rm)) H → va_D A (ruW k qa ru ++ (rmW k xa rm)) → va_S A s.heap H locs → lv_has ls 5 [(0, .ref (qa 0)), (1, .int v1), (2, .ref (xa 0)), (3, .int v3)] → W p l e (rmK 4 0 0) s m (List.toArray [.ref (qa 0), .int x1, .ref (xa 0)]) below meth c H locs 0 0 (MQ below (va_Qi (fun r (_ : Unit) => r = res.1) (hcB D (fun _ : Unit => ruW k qa res.2 ++ (rmW k xa rm)) A) A) (List.toArray [.ref (qa 0), .int x1, .ref (xa 0)]) s 0 0 A) (F0 m 30 ls [.int y0]) := by
      intro v1 v3 y0 ru H locs ls h hP hD hS hl
      refine lv_istore (lv' := [(4, .int y0), (0, .ref (qa 0)), (1, .int v1), (2, .ref (xa 0)), (3, .int v3)]) hx hb dX4_seats_30 hl (by decide) rfl (fun ls hl => ?_)
      refine lv_iload hx hb dX4_seats_32 (lv_at hl 0 rfl) ?_
      refine lv_if_eq (tgt := 60) hx hb dX4_seats_34 (by decide) (fun c5 => ?_) (fun c5 => ?_)
      · have h := fw_t c5 h
        exact B60 _ _ _ _ _ _ h hP hD hS (lv_sub hl [1, 2, 3, 4] rfl)
      · have h := fw_f c5 h
        refine lv_aload_n hx hb dX4_seats_37 rfl (lv_at hl 1 rfl) ?_
        refine lv_aload_n hx hb dX4_seats_38 rfl (lv_at hl 1 rfl) ?_
        refine va_get (D := D) (ci := 3) (v := .ref (qa 3)) (C := RX4) (T := TX4) (N := 8) hx hb hts in4 hown hG.1 hP 0 rfl rfl 2 (by decide) (hts (.fieldLink RX4 18 "ChairCane$Rule" "sumTo" "[I") (mem_b bq_wsX4_seats 0 1 rfl)) (fun _ h9 => h9) rfl dX4_seats_39 ?_
        refine lv_iload_n hx hb dX4_seats_42 rfl (lv_at hl 4 rfl) ?_
        obtain ⟨g6, h⟩ := fw_g h
        refine va_iald hx hb hG.1 hP 3 0 rfl rfl (ib_vp g6) dX4_seats_43 ?_
        refine lv_aload_n hx hb dX4_seats_44 rfl (lv_at hl 1 rfl) ?_
        refine va_get (D := D) (ci := 3) (v := .ref (qa 4)) (C := RX4) (T := TX4) (N := 8) hx hb hts in4 hown hG.1 hP 0 rfl rfl 3 (by decide) (hts (.fieldLink RX4 21 "ChairCane$Rule" "testTo" "[I") (mem_b bq_wsX4_seats 0 2 rfl)) (fun _ h9 => h9) rfl dX4_seats_45 ?_
        refine lv_iload_n hx hb dX4_seats_48 rfl (lv_at hl 4 rfl) ?_
        refine va_iald hx hb hG.1 hP 4 0 rfl rfl (ib_vp g6) dX4_seats_49 ?_
        refine lv_iload_n hx hb dX4_seats_50 rfl (lv_at hl 2 rfl) ?_
        refine lv_aload_n hx hb dX4_seats_51 rfl (lv_at hl 3 rfl) ?_
        refine fw_Vl (As := [.int ((ru.2.1 2) (Int32.toNatClampNeg v3)), .int ((ru.2.1 3) (Int32.toNatClampNeg v3)), .int v1, .ref (xa 0)]) (rest := []) (n := 4) (wr := []) (rv := fun b : Int64 × OB => b.1) (wp := fun b : Int64 × OB => ruW k qa b.2 ++ (rmW k xa rm)) h hx hb hml hown hts hG hA hP hD hS hl.1 (List.range (ruW k qa ru ++ (rmW k xa rm)).length) [] (fun q hq9 => c_X4_reckon l D k _  qa xa F ((ru.2.1 2) (Int32.toNatClampNeg v3)) ((ru.2.1 3) (Int32.toNatClampNeg v3)) v1 ru rm  hq9) (ci := 3) (q0 := 0) rfl rfl gX4_seats_X4_reckon rfl ⟨rfl, rfl, Nat.le_of_ble_eq_true rfl, Nat.le_of_ble_eq_true rfl⟩ (by decide +kernel) (al_C _) rfl (al_n _) ⟨rfl, rfl, Nat.le_of_ble_eq_true rfl, Nat.le_of_ble_eq_true rfl, Nat.le_of_ble_eq_true rfl⟩ dX4_seats_52 (fun q7 H locs h hP hD hS => ?_)
        obtain ⟨hP, hD⟩ := cv (w' := ruW k qa q7.2 ++ (rmW k xa rm)) hP hD rfl
        refine hc_isL (z := q7.1) rfl ?_
        refine lv_lconst (v := 0) hx hb dX4_seats_55 (by decide) ?_
        refine W.lcmp hx hb dX4_seats_56 ?_
        refine lv_if_eq (tgt := 89) hx hb dX4_seats_57 (by decide) (fun c8 => ?_) (fun c8 => ?_)
        · have h := fw_t c8 h
          refine lv_iinc (v := (v3 + 1)) (lv' := [(3, .int (v3 + 1)), (4, .int y0), (0, .ref (qa 0)), (1, .int v1), (2, .ref (xa 0))]) hx hb dX4_seats_89 hl (k := 4) rfl rfl (by decide) rfl (fun ls hl => ?_)
          refine lv_goto (tgt := 2) hx hb dX4_seats_92 (by decide) ?_
          exact hc2 _ _ _ h _ _ _ hP hD hS (lv_sub hl [2, 3, 4, 0] rfl)
        · have h := fw_f c8 h
          exact B60 _ _ _ _ _ _ h hP hD hS (lv_sub hl [1, 2, 3, 4] rfl)
    refine lv_iload_n hx hb dX4_seats_2 rfl (lv_at hl 3 rfl) ?_
    refine lv_aload_n hx hb dX4_seats_3 rfl (lv_at hl 0 rfl) ?_
    refine va_get (D := D) (ci := 3) (v := .int (a2.2.2.1 6)) (C := RX4) (T := TX4) (N := 8) hx hb hts in4 hown hG.1 hP 0 rfl rfl 6 (by decide) (hts (.fieldLink RX4 32 "ChairCane$Rule" "clauses" "I") (mem_b bq_wsX4_seats 0 0 rfl)) (fun _ h9 => h9) rfl dX4_seats_4 ?_
    refine lv_icmp_ge (tgt := 95) hx hb dX4_seats_7 (by decide) (fun c9 => ?_) (fun c9 => ?_)
    · have h := fw_t c9 h
      refine lv_iconst (v := 0) hx hb dX4_seats_95 (by decide) ?_
      exact fw_endZ (v := 0) (rv := fun b : Int32 × OB => b.1) (wp := fun b : Int32 × OB => ruW k qa b.2 ++ (rmW k xa rm)) hx hb hr hlocks h rfl rfl hP hD hS dX4_seats_96
    · have h := fw_f c9 h
      refine lv_aload_n hx hb dX4_seats_10 rfl (lv_at hl 0 rfl) ?_
      refine va_get (D := D) (ci := 3) (v := .ref (qa 3)) (C := RX4) (T := TX4) (N := 8) hx hb hts in4 hown hG.1 hP 0 rfl rfl 2 (by decide) (hts (.fieldLink RX4 18 "ChairCane$Rule" "sumTo" "[I") (mem_b bq_wsX4_seats 0 1 rfl)) (fun _ h9 => h9) rfl dX4_seats_11 ?_
      refine lv_iload_n hx hb dX4_seats_14 rfl (lv_at hl 3 rfl) ?_
      obtain ⟨g10, h⟩ := fw_g h
      refine va_iald hx hb hG.1 hP 3 0 rfl rfl (ib_vp g10) dX4_seats_15 ?_
      refine lv_aload_n hx hb dX4_seats_16 rfl (lv_at hl 0 rfl) ?_
      refine va_get (D := D) (ci := 3) (v := .ref (qa 4)) (C := RX4) (T := TX4) (N := 8) hx hb hts in4 hown hG.1 hP 0 rfl rfl 3 (by decide) (hts (.fieldLink RX4 21 "ChairCane$Rule" "testTo" "[I") (mem_b bq_wsX4_seats 0 2 rfl)) (fun _ h9 => h9) rfl dX4_seats_17 ?_
      refine lv_iload_n hx hb dX4_seats_20 rfl (lv_at hl 3 rfl) ?_
      refine va_iald hx hb hG.1 hP 4 0 rfl rfl (ib_vp g10) dX4_seats_21 ?_
      refine lv_icmp_ge (tgt := 29) hx hb dX4_seats_22 (by decide) (fun c11 => ?_) (fun c11 => ?_)
      · have h := fw_t c11 h
        refine lv_iconst (v := 0) hx hb dX4_seats_29 (by decide) ?_
        exact B30 _ _ _ _ _ _ _ h hP hD hS hl
      · have h := fw_f c11 h
        refine lv_iconst (v := 1) hx hb dX4_seats_25 (by decide) ?_
        refine lv_goto (tgt := 30) hx hb dX4_seats_26 (by decide) ?_
        exact B30 _ _ _ _ _ _ _ h hP hD hS hl
  have C2 : ∀ (v1 : Int32) (v3 : Int32) (ru : OB), lp (b_X4_seats_2 F rm) F (v1, v3, ru) = some res → ∀ (H : Heap) (locs : List Loc) (ls : Array Slot), va_P D vwCl (ruW k qa ru ++ (rmW k xa rm)) H → va_D A (ruW k qa ru ++ (rmW k xa rm)) → va_S A s.heap H locs → lv_has ls 5 [(0, .ref (qa 0)), (1, .int v1), (2, .ref (xa 0)), (3, .int v3)] → W p l e (rmK 4 0 0) s m (List.toArray [.ref (qa 0), .int x1, .ref (xa 0)]) below meth c H locs 0 0 (MQ below (va_Qi (fun r (_ : Unit) => r = res.1) (hcB D (fun _ : Unit => ruW k qa res.2 ++ (rmW k xa rm)) A) A) (List.toArray [.ref (qa 0), .int x1, .ref (xa 0)]) s 0 0 A) (F0 m 2 ls []) := fun v1 v3 ru => B2 (v1, v3, ru)
  refine lv_iconst (v := 0) hx hb dX4_seats_0 (by decide) ?_
  refine lv_istore_n (lv' := [(3, .int 0), (0, .ref (qa 0)), (1, .int x1), (2, .ref (xa 0))]) hx hb dX4_seats_1 rfl hl (by decide) rfl (fun ls hl => ?_)
  exact C2 _ _ _ h _ _ _ hP hD hS (lv_sub hl [1, 2, 3, 0] rfl)
noncomputable def b_X3_passMinute_n_68 (F : Nat)   (k2 : (Int32 × OB) → Option (Int32 × OB)) (v2 : Int32) (rm : OB) : Option (Int32 × OB) :=
  k2 ((v2 + 1), rm)
noncomputable def b_X3_passMinute_n_39 (F : Nat)   (k2 : (Int32 × OB) → Option (Int32 × OB)) (v2 : Int32) (y0 : Int32) (y1 : Int32) (rm : OB) : Option (Int32 × OB) :=
  Option.bind (f_X3_seat F y1 y0 rm) (fun q1 => (b_X3_passMinute_n_68 F k2 v2 q1))
noncomputable def b_X3_passMinute_n_2 (F : Nat)    (k2 : (Int32 × OB) → Option (Int32 × OB)) (a2 : (Int32 × OB)) : Option (Int32 × OB) :=
  if (a2.2.1 3) ≤ a2.1 then (Option.bind (f_X3_settle F a2.2) (fun q3 => (some (q3.1, ((uF q3.2.1 12 ((q3.2.1 12) + 1)), q3.2.2.1, q3.2.2.2))))) else (if (((a2.2.1 15) >>> (a2.1 &&& 31)) &&& 1) = 0 then (b_X3_passMinute_n_68 F k2 a2.1 a2.2) else (if (((a2.2.1 16) >>> (a2.1 &&& 31)) &&& 1) = 0 then (b_X3_passMinute_n_39 F k2 a2.1 0 a2.1 a2.2) else (b_X3_passMinute_n_39 F k2 a2.1 1 a2.1 a2.2)))
noncomputable def f_X3_passMinute_n (F : Nat)   (rm : OB) : Option (Int32 × OB) :=
  lp (b_X3_passMinute_n_2 F) F (0, rm)
set_option maxHeartbeats 4000000 in
set_option maxRecDepth 100000 in
theorem c_X3_passMinute_n (l : Launch) (D : va_G) (k : Nat → ClassId) (sz : Nat)  (xa : Nat → Nat) (F : Nat)   (rm : OB)  {res : Int32 × OB} (h : f_X3_passMinute_n F rm = some res) : CtI l yX3_passMinute wsX3_passMinute (rmK 5 0 0) [.ref (xa 0), .null] D k sz (rmW k xa rm) (fun r (_ : Unit) => r = res.1) (fun _ : Unit => rmW k xa res.2) 0 0 := by
  refine CtI.mk (cc := cX3_passMinute) (maxL := 3) (ret := (some .int)) (by decide) rfl (Nat.le_of_ble_eq_true rfl) ?_
  intro p e s m below meth c A ls E hP hD hS hl
  obtain ⟨hx, hb, hr, hml, hown, hts, hlocks, hin, hG, hA⟩ := E
  have hown : s.vm.findClass RX3 = some m.cls := hown
  have in3 : ∀ w ∈ u_ws RX3 TX3 17, w ∈ wsX3_passMinute := fun _ h => List.mem_cons_of_mem _ (List.mem_append_left _ (List.mem_append_right _ h))
  have in4 : ∀ w ∈ u_ws RX4 TX4 8, w ∈ wsX3_passMinute := fun _ h => List.mem_cons_of_mem _ (List.mem_append_right _ h)
  have hl : lv_has ls 3 [(0, .ref (xa 0)), (1, .null)] := hl
  have B2 : ∀ a2 : (Int32 × OB), lp (b_X3_passMinute_n_2 F) F a2 = some res → ∀ (H : Heap) (locs : List Loc) (ls : Array Slot), va_P D vwCl (rmW k xa a2.2) H → va_D A (rmW k xa a2.2) → va_S A s.heap H locs → lv_has ls 3 [(0, .ref (xa 0)), (1, .null), (2, .int a2.1)] → W p l e (rmK 5 0 0) s m (List.toArray [.ref (xa 0), .null]) below meth c H locs 0 0 (MQ below (va_Qi (fun r (_ : Unit) => r = res.1) (hcB D (fun _ : Unit => rmW k xa res.2) A) A) (List.toArray [.ref (xa 0), .null]) s 0 0 A) (F0 m 2 ls []) := by
    refine lp_W ?_ F
    intro k2 hk2 a2 h H locs ls hP hD hS hl
    have hc2 : ∀ (v2 : Int32) (rm : OB), k2 (v2, rm) = some res → ∀ (H : Heap) (locs : List Loc) (ls : Array Slot), va_P D vwCl (rmW k xa rm) H → va_D A (rmW k xa rm) → va_S A s.heap H locs → lv_has ls 3 [(0, .ref (xa 0)), (1, .null), (2, .int v2)] → W p l e (rmK 5 0 0) s m (List.toArray [.ref (xa 0), .null]) below meth c H locs 0 0 (MQ below (va_Qi (fun r (_ : Unit) => r = res.1) (hcB D (fun _ : Unit => rmW k xa res.2) A) A) (List.toArray [.ref (xa 0), .null]) s 0 0 A) (F0 m 2 ls []) := fun v2 rm => hk2 (v2, rm)
    have B68 : ∀ (v2 : Int32) (rm : OB) (H : Heap) (locs : List Loc) (ls : Array Slot), b_X3_passMinute_n_68 F k2 v2 rm = some res → va_P D vwCl (rmW k xa rm) H → va_D A (rmW k xa rm) → va_S A s.heap H locs → lv_has ls 3 [(0, .ref (xa 0)), (1, .null), (2, .int v2)] → W p l e (rmK 5 0 0) s m (List.toArray [.ref (xa 0), .null]) below meth c H locs 0 0 (MQ below (va_Qi (fun r (_ : Unit) => r = res.1) (hcB D (fun _ : Unit => rmW k xa res.2) A) A) (List.toArray [.ref (xa 0), .null]) s 0 0 A) (F0 m 68 ls []) := by
      intro v2 rm H locs ls h hP hD hS hl
      refine lv_iinc (v := (v2 + 1)) (lv' := [(2, .int (v2 + 1)), (0, .ref (xa 0)), (1, .null)]) hx hb dX3_passMinute_68 hl (k := 2) rfl rfl (by decide) rfl (fun ls hl => ?_)
      refine lv_goto (tgt := 2) hx hb dX3_passMinute_71 (by decide) ?_
      exact hc2 _ _ h _ _ _ hP hD hS (lv_sub hl [1, 2, 0] rfl)
    have B39 : ∀ (v2 : Int32) (y0 : Int32) (y1 : Int32) (rm : OB) (H : Heap) (locs : List Loc) (ls : Array Slot), b_X3_passMinute_n_39 F k2 v2 y0 y1 rm = some res → va_P D vwCl (rmW k xa rm) H → va_D A (rmW k xa rm) → va_S A s.heap H locs → lv_has ls 3 [(0, .ref (xa 0)), (1, .null), (2, .int v2)] → W p l e (rmK 5 0 0) s m (List.toArray [.ref (xa 0), .null]) below meth c H locs 0 0 (MQ below (va_Qi (fun r (_ : Unit) => r = res.1) (hcB D (fun _ : Unit => rmW k xa res.2) A) A) (List.toArray [.ref (xa 0), .null]) s 0 0 A) (F0 m 39 ls [.int y0, .int y1, .ref (xa 0)]) := by
      intro v2 y0 y1 rm H locs ls h hP hD hS hl
      refine fw_Vv (As := [.int y1, .int y0]) (rest := []) (n := 2) (wr := []) (wp := fun b : OB => rmW k xa b) h hx hb hml hown hts hG hA hP hD hS hl.1 (List.range (rmW k xa rm).length) [] (fun q hq9 => c_X3_seat l D k _  xa F y1 y0 rm  hq9) (ci := 2) (q0 := 0) rfl rfl gX3_passMinute_X3_seat rfl ⟨rfl, rfl, Nat.le_of_ble_eq_true rfl, Nat.le_of_ble_eq_true rfl⟩ (by decide +kernel) (al_C _) rfl (al_n _) ⟨rfl, rfl, Nat.le_of_ble_eq_true rfl, Nat.le_of_ble_eq_true rfl, Nat.le_of_ble_eq_true rfl⟩ dX3_passMinute_39 (fun q1 H locs h hP hD hS => ?_)
      obtain ⟨hP, hD⟩ := cv (w' := rmW k xa q1) hP hD rfl
      refine lv_goto (tgt := 68) hx hb dX3_passMinute_42 (by decide) ?_
      exact B68 _ _ _ _ _ h hP hD hS hl
    refine lv_iload_n hx hb dX3_passMinute_2 rfl (lv_at hl 2 rfl) ?_
    refine lv_aload_n hx hb dX3_passMinute_3 rfl (lv_at hl 0 rfl) ?_
    refine va_get (D := D) (ci := 2) (v := .int (a2.2.1 3)) (C := RX3) (T := TX3) (N := 17) hx hb hts in3 hown hG.1 hP 0 rfl rfl 3 (by decide) (hts (.fieldLink RX3 22 "ChairCane$Room" "sitters" "I") (mem_b bq_wsX3_passMinute 0 0 rfl)) (fun _ h9 => h9) rfl dX3_passMinute_4 ?_
    refine lv_icmp_ge (tgt := 74) hx hb dX3_passMinute_7 (by decide) (fun c2 => ?_) (fun c2 => ?_)
    · have h := fw_t c2 h
      refine lv_aload_n hx hb dX3_passMinute_74 rfl (lv_at hl 0 rfl) ?_
      refine fw_Vi (As := []) (rest := []) (n := 0) (wr := []) (rv := fun b : Int32 × OB => b.1) (wp := fun b : Int32 × OB => rmW k xa b.2) h hx hb hml hown hts hG hA hP hD hS hl.1 (List.range (rmW k xa a2.2).length) [] (fun q hq9 => c_X3_settle l D k _  xa F  a2.2  hq9) (ci := 2) (q0 := 0) rfl rfl gX3_passMinute_X3_settle rfl ⟨rfl, rfl, Nat.le_of_ble_eq_true rfl, Nat.le_of_ble_eq_true rfl⟩ (by decide +kernel) (al_C _) rfl (al_n _) ⟨rfl, rfl, Nat.le_of_ble_eq_true rfl, Nat.le_of_ble_eq_true rfl, Nat.le_of_ble_eq_true rfl⟩ dX3_passMinute_75 (fun q3 H locs h hP hD hS => ?_)
      obtain ⟨hP, hD⟩ := cv (w' := rmW k xa q3.2) hP hD rfl
      refine hc_is (z := q3.1) rfl ?_
      refine lv_istore_n (lv' := [(2, .int q3.1), (0, .ref (xa 0)), (1, .null)]) hx hb dX3_passMinute_78 rfl hl (by decide) rfl (fun ls hl => ?_)
      refine lv_aload_n hx hb dX3_passMinute_79 rfl (lv_at hl 1 rfl) ?_
      refine lv_dup hx hb dX3_passMinute_80 rfl ?_
      refine va_get (D := D) (ci := 2) (v := .int (q3.2.1 12)) (C := RX3) (T := TX3) (N := 17) hx hb hts in3 hown hG.1 hP 0 rfl rfl 12 (by decide) (hts (.fieldLink RX3 50 "ChairCane$Room" "minute" "I") (mem_b bq_wsX3_passMinute 0 3 rfl)) (fun _ h9 => h9) rfl dX3_passMinute_81 ?_
      refine lv_iconst (v := 1) hx hb dX3_passMinute_84 (by decide) ?_
      refine lv_iadd hx hb dX3_passMinute_85 ?_
      refine va_put (D := D) (ci := 2) (v := .int ((q3.2.1 12) + 1)) (C := RX3) (T := TX3) (N := 17) hx hb hts in3 tyX3 tyX3_ok nmX3 hown hG.1 hP hD hS 0 rfl rfl 12 (by decide) (hts (.fieldLink RX3 50 "ChairCane$Room" "minute" "I") (mem_b bq_wsX3_passMinute 0 3 rfl)) (fun _ h9 => h9) rfl (tyX3_ok 12 (by decide)) rfl rfl (Nat.le_of_ble_eq_true rfl) dX3_passMinute_86 (fun H locs hP hD hS => ?_)
      refine lv_iload_n hx hb dX3_passMinute_89 rfl (lv_at hl 0 rfl) ?_
      exact fw_endI (rv := fun b : Int32 × OB => b.1) (wp := fun b : Int32 × OB => rmW k xa b.2) hx hb hr hlocks h rfl hP hD hS dX3_passMinute_90
    · have h := fw_f c2 h
      refine lv_aload_n hx hb dX3_passMinute_10 rfl (lv_at hl 0 rfl) ?_
      refine va_get (D := D) (ci := 2) (v := .int (a2.2.1 15)) (C := RX3) (T := TX3) (N := 17) hx hb hts in3 hown hG.1 hP 0 rfl rfl 15 (by decide) (hts (.fieldLink RX3 59 "ChairCane$Room" "held" "I") (mem_b bq_wsX3_passMinute 0 1 rfl)) (fun _ h9 => h9) rfl dX3_passMinute_11 ?_
      refine lv_iload_n hx hb dX3_passMinute_14 rfl (lv_at hl 2 rfl) ?_
      refine lv_ishr hx hb dX3_passMinute_15 ?_
      refine lv_iconst (v := 1) hx hb dX3_passMinute_16 (by decide) ?_
      refine lv_iand hx hb dX3_passMinute_17 ?_
      refine lv_if_eq (tgt := 45) hx hb dX3_passMinute_18 (by decide) (fun c4 => ?_) (fun c4 => ?_)
      · have h := fw_t c4 h
        refine lv_aload_nN hx hb dX3_passMinute_45 rfl (lv_at hl 1 rfl) ?_
        refine lv_ifnullN (tgt := 68) hx hb dX3_passMinute_46 (by decide) ?_
        exact B68 _ _ _ _ _ h hP hD hS hl
      · have h := fw_f c4 h
        refine lv_aload_n hx hb dX3_passMinute_21 rfl (lv_at hl 0 rfl) ?_
        refine lv_iload_n hx hb dX3_passMinute_22 rfl (lv_at hl 2 rfl) ?_
        refine lv_aload_n hx hb dX3_passMinute_23 rfl (lv_at hl 0 rfl) ?_
        refine va_get (D := D) (ci := 2) (v := .int (a2.2.1 16)) (C := RX3) (T := TX3) (N := 17) hx hb hts in3 hown hG.1 hP 0 rfl rfl 16 (by decide) (hts (.fieldLink RX3 62 "ChairCane$Room" "heldDown" "I") (mem_b bq_wsX3_passMinute 0 2 rfl)) (fun _ h9 => h9) rfl dX3_passMinute_24 ?_
        refine lv_iload_n hx hb dX3_passMinute_27 rfl (lv_at hl 2 rfl) ?_
        refine lv_ishr hx hb dX3_passMinute_28 ?_
        refine lv_iconst (v := 1) hx hb dX3_passMinute_29 (by decide) ?_
        refine lv_iand hx hb dX3_passMinute_30 ?_
        refine lv_if_eq (tgt := 38) hx hb dX3_passMinute_31 (by decide) (fun c5 => ?_) (fun c5 => ?_)
        · have h := fw_t c5 h
          refine lv_iconst (v := 0) hx hb dX3_passMinute_38 (by decide) ?_
          exact B39 _ _ _ _ _ _ _ h hP hD hS hl
        · have h := fw_f c5 h
          refine lv_iconst (v := 1) hx hb dX3_passMinute_34 (by decide) ?_
          refine lv_goto (tgt := 39) hx hb dX3_passMinute_35 (by decide) ?_
          exact B39 _ _ _ _ _ _ _ h hP hD hS hl
  have C2 : ∀ (v2 : Int32) (rm : OB), lp (b_X3_passMinute_n_2 F) F (v2, rm) = some res → ∀ (H : Heap) (locs : List Loc) (ls : Array Slot), va_P D vwCl (rmW k xa rm) H → va_D A (rmW k xa rm) → va_S A s.heap H locs → lv_has ls 3 [(0, .ref (xa 0)), (1, .null), (2, .int v2)] → W p l e (rmK 5 0 0) s m (List.toArray [.ref (xa 0), .null]) below meth c H locs 0 0 (MQ below (va_Qi (fun r (_ : Unit) => r = res.1) (hcB D (fun _ : Unit => rmW k xa res.2) A) A) (List.toArray [.ref (xa 0), .null]) s 0 0 A) (F0 m 2 ls []) := fun v2 rm => B2 (v2, rm)
  refine lv_iconst (v := 0) hx hb dX3_passMinute_0 (by decide) ?_
  refine lv_istore_n (lv' := [(2, .int 0), (0, .ref (xa 0)), (1, .null)]) hx hb dX3_passMinute_1 rfl hl (by decide) rfl (fun ls hl => ?_)
  exact C2 _ _ h _ _ _ hP hD hS (lv_sub hl [1, 2, 0] rfl)
noncomputable def b_X3_passMinute_r_68 (F : Nat)   (k2 : (Int32 × OB × OB) → Option (Int32 × OB × OB)) (v2 : Int32) (rm : OB) (ru : OB) : Option (Int32 × OB × OB) :=
  k2 ((v2 + 1), rm, ru)
noncomputable def b_X3_passMinute_r_39 (F : Nat)   (k2 : (Int32 × OB × OB) → Option (Int32 × OB × OB)) (v2 : Int32) (y0 : Int32) (y1 : Int32) (rm : OB) (ru : OB) : Option (Int32 × OB × OB) :=
  Option.bind (f_X3_seat F y1 y0 rm) (fun q1 => (b_X3_passMinute_r_68 F k2 v2 q1 ru))
noncomputable def b_X3_passMinute_r_2 (F : Nat)    (k2 : (Int32 × OB × OB) → Option (Int32 × OB × OB)) (a2 : (Int32 × OB × OB)) : Option (Int32 × OB × OB) :=
  if (a2.2.1.1 3) ≤ a2.1 then (Option.bind (f_X3_settle F a2.2.1) (fun q3 => (some (q3.1, ((uF q3.2.1 12 ((q3.2.1 12) + 1)), q3.2.2.1, q3.2.2.2), a2.2.2)))) else (if (((a2.2.1.1 15) >>> (a2.1 &&& 31)) &&& 1) = 0 then (Option.bind (f_X3_isUp F a2.1 a2.2.1) (fun q5 => (if q5 = 0 then (b_X3_passMinute_r_68 F k2 a2.1 a2.2.1 a2.2.2) else (Option.bind (f_X4_seats F a2.1 a2.2.2 a2.2.1) (fun q7 => (Option.bind (f_X3_seat F a2.1 q7.1 a2.2.1) (fun q8 => (b_X3_passMinute_r_68 F k2 a2.1 q8 q7.2)))))))) else (if (((a2.2.1.1 16) >>> (a2.1 &&& 31)) &&& 1) = 0 then (b_X3_passMinute_r_39 F k2 a2.1 0 a2.1 a2.2.1 a2.2.2) else (b_X3_passMinute_r_39 F k2 a2.1 1 a2.1 a2.2.1 a2.2.2)))
noncomputable def f_X3_passMinute_r (F : Nat)   (rm : OB) (ru : OB) : Option (Int32 × OB × OB) :=
  lp (b_X3_passMinute_r_2 F) F (0, rm, ru)
set_option maxHeartbeats 4000000 in
set_option maxRecDepth 100000 in
theorem c_X3_passMinute_r (l : Launch) (D : va_G) (k : Nat → ClassId) (sz : Nat)  (xa : Nat → Nat) (qa : Nat → Nat) (F : Nat)   (rm : OB) (ru : OB)  {res : Int32 × OB × OB} (h : f_X3_passMinute_r F rm ru = some res) : CtI l yX3_passMinute wsX3_passMinute (rmK 5 0 0) [.ref (xa 0), .ref (qa 0)] D k sz (rmW k xa rm ++ (ruW k qa ru)) (fun r (_ : Unit) => r = res.1) (fun _ : Unit => rmW k xa res.2.1 ++ (ruW k qa res.2.2)) 0 0 := by
  refine CtI.mk (cc := cX3_passMinute) (maxL := 3) (ret := (some .int)) (by decide) rfl (Nat.le_of_ble_eq_true rfl) ?_
  intro p e s m below meth c A ls E hP hD hS hl
  obtain ⟨hx, hb, hr, hml, hown, hts, hlocks, hin, hG, hA⟩ := E
  have hown : s.vm.findClass RX3 = some m.cls := hown
  have in3 : ∀ w ∈ u_ws RX3 TX3 17, w ∈ wsX3_passMinute := fun _ h => List.mem_cons_of_mem _ (List.mem_append_left _ (List.mem_append_right _ h))
  have in4 : ∀ w ∈ u_ws RX4 TX4 8, w ∈ wsX3_passMinute := fun _ h => List.mem_cons_of_mem _ (List.mem_append_right _ h)
  have hl : lv_has ls 3 [(0, .ref (xa 0)), (1, .ref (qa 0))] := hl
  have B2 : ∀ a2 : (Int32 × OB × OB), lp (b_X3_passMinute_r_2 F) F a2 = some res → ∀ (H : Heap) (locs : List Loc) (ls : Array Slot), va_P D vwCl (rmW k xa a2.2.1 ++ (ruW k qa a2.2.2)) H → va_D A (rmW k xa a2.2.1 ++ (ruW k qa a2.2.2)) → va_S A s.heap H locs → lv_has ls 3 [(0, .ref (xa 0)), (1, .ref (qa 0)), (2, .int a2.1)] → W p l e (rmK 5 0 0) s m (List.toArray [.ref (xa 0), .ref (qa 0)]) below meth c H locs 0 0 (MQ below (va_Qi (fun r (_ : Unit) => r = res.1) (hcB D (fun _ : Unit => rmW k xa res.2.1 ++ (ruW k qa res.2.2)) A) A) (List.toArray [.ref (xa 0), .ref (qa 0)]) s 0 0 A) (F0 m 2 ls []) := by
    refine lp_W ?_ F
    intro k2 hk2 a2 h H locs ls hP hD hS hl
    have hc2 : ∀ (v2 : Int32) (rm : OB) (ru : OB), k2 (v2, rm, ru) = some res → ∀ (H : Heap) (locs : List Loc) (ls : Array Slot), va_P D vwCl (rmW k xa rm ++ (ruW k qa ru)) H → va_D A (rmW k xa rm ++ (ruW k qa ru)) → va_S A s.heap H locs → lv_has ls 3 [(0, .ref (xa 0)), (1, .ref (qa 0)), (2, .int v2)] → W p l e (rmK 5 0 0) s m (List.toArray [.ref (xa 0), .ref (qa 0)]) below meth c H locs 0 0 (MQ below (va_Qi (fun r (_ : Unit) => r = res.1) (hcB D (fun _ : Unit => rmW k xa res.2.1 ++ (ruW k qa res.2.2)) A) A) (List.toArray [.ref (xa 0), .ref (qa 0)]) s 0 0 A) (F0 m 2 ls []) := fun v2 rm ru => hk2 (v2, rm, ru)
    have B68 : ∀ (v2 : Int32) (rm : OB) (ru : OB) (H : Heap) (locs : List Loc) (ls : Array Slot), b_X3_passMinute_r_68 F k2 v2 rm ru = some res → va_P D vwCl (rmW k xa rm ++ (ruW k qa ru)) H → va_D A (rmW k xa rm ++ (ruW k qa ru)) → va_S A s.heap H locs → lv_has ls 3 [(0, .ref (xa 0)), (1, .ref (qa 0)), (2, .int v2)] → W p l e (rmK 5 0 0) s m (List.toArray [.ref (xa 0), .ref (qa 0)]) below meth c H locs 0 0 (MQ below (va_Qi (fun r (_ : Unit) => r = res.1) (hcB D (fun _ : Unit => rmW k xa res.2.1 ++ (ruW k qa res.2.2)) A) A) (List.toArray [.ref (xa 0), .ref (qa 0)]) s 0 0 A) (F0 m 68 ls []) := by
      intro v2 rm ru H locs ls h hP hD hS hl
      refine lv_iinc (v := (v2 + 1)) (lv' := [(2, .int (v2 + 1)), (0, .ref (xa 0)), (1, .ref (qa 0))]) hx hb dX3_passMinute_68 hl (k := 2) rfl rfl (by decide) rfl (fun ls hl => ?_)
      refine lv_goto (tgt := 2) hx hb dX3_passMinute_71 (by decide) ?_
      exact hc2 _ _ _ h _ _ _ hP hD hS (lv_sub hl [1, 2, 0] rfl)
    have B39 : ∀ (v2 : Int32) (y0 : Int32) (y1 : Int32) (rm : OB) (ru : OB) (H : Heap) (locs : List Loc) (ls : Array Slot), b_X3_passMinute_r_39 F k2 v2 y0 y1 rm ru = some res → va_P D vwCl (rmW k xa rm ++ (ruW k qa ru)) H → va_D A (rmW k xa rm ++ (ruW k qa ru)) → va_S A s.heap H locs → lv_has ls 3 [(0, .ref (xa 0)), (1, .ref (qa 0)), (2, .int v2)] → W p l e (rmK 5 0 0) s m (List.toArray [.ref (xa 0), .ref (qa 0)]) below meth c H locs 0 0 (MQ below (va_Qi (fun r (_ : Unit) => r = res.1) (hcB D (fun _ : Unit => rmW k xa res.2.1 ++ (ruW k qa res.2.2)) A) A) (List.toArray [.ref (xa 0), .ref (qa 0)]) s 0 0 A) (F0 m 39 ls [.int y0, .int y1, .ref (xa 0)]) := by
      intro v2 y0 y1 rm ru H locs ls h hP hD hS hl
      obtain ⟨hP, hD⟩ := qm hP hD (q_to [rmW k xa rm, ruW k qa ru] [0, 1] [0] [1] (by decide +kernel))
      refine fw_Vv (As := [.int y1, .int y0]) (rest := []) (n := 2) (wp := fun b : OB => rmW k xa b) h hx hb hml hown hts hG hA hP hD hS hl.1 _ _ (fun q hq9 => c_X3_seat l D k _  xa F y1 y0 rm  hq9) (ci := 2) (q0 := 0) rfl rfl gX3_passMinute_X3_seat rfl ⟨rfl, rfl, Nat.le_of_ble_eq_true rfl, Nat.le_of_ble_eq_true rfl⟩ (by decide +kernel) (q_l _ _) (q_r _ _) (q_nd _ _) ⟨rfl, rfl, Nat.le_of_ble_eq_true rfl, Nat.le_of_ble_eq_true rfl, Nat.le_of_ble_eq_true rfl⟩ dX3_passMinute_39 (fun q1 H locs h hP hD hS => ?_)
      obtain ⟨hP, hD⟩ := qm (w2 := rmW k xa q1 ++ (ruW k qa ru)) hP hD (q_from [rmW k xa q1, ruW k qa ru] [1] [0] [0, 1] (by decide +kernel))
      refine lv_goto (tgt := 68) hx hb dX3_passMinute_42 (by decide) ?_
      exact B68 _ _ _ _ _ _ h hP hD hS hl
    refine lv_iload_n hx hb dX3_passMinute_2 rfl (lv_at hl 2 rfl) ?_
    refine lv_aload_n hx hb dX3_passMinute_3 rfl (lv_at hl 0 rfl) ?_
    refine va_get (D := D) (ci := 2) (v := .int (a2.2.1.1 3)) (C := RX3) (T := TX3) (N := 17) hx hb hts in3 hown hG.1 hP 0 rfl rfl 3 (by decide) (hts (.fieldLink RX3 22 "ChairCane$Room" "sitters" "I") (mem_b bq_wsX3_passMinute 0 0 rfl)) (fun _ h9 => h9) rfl dX3_passMinute_4 ?_
    refine lv_icmp_ge (tgt := 74) hx hb dX3_passMinute_7 (by decide) (fun c2 => ?_) (fun c2 => ?_)
    · have h := fw_t c2 h
      refine lv_aload_n hx hb dX3_passMinute_74 rfl (lv_at hl 0 rfl) ?_
      obtain ⟨hP, hD⟩ := qm hP hD (q_to [rmW k xa a2.2.1, ruW k qa a2.2.2] [0, 1] [0] [1] (by decide +kernel))
      refine fw_Vi (As := []) (rest := []) (n := 0) (rv := fun b : Int32 × OB => b.1) (wp := fun b : Int32 × OB => rmW k xa b.2) h hx hb hml hown hts hG hA hP hD hS hl.1 _ _ (fun q hq9 => c_X3_settle l D k _  xa F  a2.2.1  hq9) (ci := 2) (q0 := 0) rfl rfl gX3_passMinute_X3_settle rfl ⟨rfl, rfl, Nat.le_of_ble_eq_true rfl, Nat.le_of_ble_eq_true rfl⟩ (by decide +kernel) (q_l _ _) (q_r _ _) (q_nd _ _) ⟨rfl, rfl, Nat.le_of_ble_eq_true rfl, Nat.le_of_ble_eq_true rfl, Nat.le_of_ble_eq_true rfl⟩ dX3_passMinute_75 (fun q3 H locs h hP hD hS => ?_)
      obtain ⟨hP, hD⟩ := qm (w2 := rmW k xa q3.2 ++ (ruW k qa a2.2.2)) hP hD (q_from [rmW k xa q3.2, ruW k qa a2.2.2] [1] [0] [0, 1] (by decide +kernel))
      refine hc_is (z := q3.1) rfl ?_
      refine lv_istore_n (lv' := [(2, .int q3.1), (0, .ref (xa 0)), (1, .ref (qa 0))]) hx hb dX3_passMinute_78 rfl hl (by decide) rfl (fun ls hl => ?_)
      refine lv_aload_n hx hb dX3_passMinute_79 rfl (lv_at hl 1 rfl) ?_
      refine lv_dup hx hb dX3_passMinute_80 rfl ?_
      refine va_get (D := D) (ci := 2) (v := .int (q3.2.1 12)) (C := RX3) (T := TX3) (N := 17) hx hb hts in3 hown hG.1 hP 0 rfl rfl 12 (by decide) (hts (.fieldLink RX3 50 "ChairCane$Room" "minute" "I") (mem_b bq_wsX3_passMinute 0 3 rfl)) (fun _ h9 => h9) rfl dX3_passMinute_81 ?_
      refine lv_iconst (v := 1) hx hb dX3_passMinute_84 (by decide) ?_
      refine lv_iadd hx hb dX3_passMinute_85 ?_
      refine va_put (D := D) (ci := 2) (v := .int ((q3.2.1 12) + 1)) (C := RX3) (T := TX3) (N := 17) hx hb hts in3 tyX3 tyX3_ok nmX3 hown hG.1 hP hD hS 0 rfl rfl 12 (by decide) (hts (.fieldLink RX3 50 "ChairCane$Room" "minute" "I") (mem_b bq_wsX3_passMinute 0 3 rfl)) (fun _ h9 => h9) rfl (tyX3_ok 12 (by decide)) rfl rfl (Nat.le_of_ble_eq_true rfl) dX3_passMinute_86 (fun H locs hP hD hS => ?_)
      refine lv_iload_n hx hb dX3_passMinute_89 rfl (lv_at hl 0 rfl) ?_
      exact fw_endI (rv := fun b : Int32 × OB × OB => b.1) (wp := fun b : Int32 × OB × OB => rmW k xa b.2.1 ++ (ruW k qa b.2.2)) hx hb hr hlocks h rfl hP hD hS dX3_passMinute_90
    · have h := fw_f c2 h
      refine lv_aload_n hx hb dX3_passMinute_10 rfl (lv_at hl 0 rfl) ?_
      refine va_get (D := D) (ci := 2) (v := .int (a2.2.1.1 15)) (C := RX3) (T := TX3) (N := 17) hx hb hts in3 hown hG.1 hP 0 rfl rfl 15 (by decide) (hts (.fieldLink RX3 59 "ChairCane$Room" "held" "I") (mem_b bq_wsX3_passMinute 0 1 rfl)) (fun _ h9 => h9) rfl dX3_passMinute_11 ?_
      refine lv_iload_n hx hb dX3_passMinute_14 rfl (lv_at hl 2 rfl) ?_
      refine lv_ishr hx hb dX3_passMinute_15 ?_
      refine lv_iconst (v := 1) hx hb dX3_passMinute_16 (by decide) ?_
      refine lv_iand hx hb dX3_passMinute_17 ?_
      refine lv_if_eq (tgt := 45) hx hb dX3_passMinute_18 (by decide) (fun c4 => ?_) (fun c4 => ?_)
      · have h := fw_t c4 h
        refine lv_aload_n hx hb dX3_passMinute_45 rfl (lv_at hl 1 rfl) ?_
        refine lv_ifnull hx hb dX3_passMinute_46 ?_
        refine lv_aload_n hx hb dX3_passMinute_49 rfl (lv_at hl 0 rfl) ?_
        refine lv_iload_n hx hb dX3_passMinute_50 rfl (lv_at hl 2 rfl) ?_
        obtain ⟨hP, hD⟩ := qm hP hD (q_to [rmW k xa a2.2.1, ruW k qa a2.2.2] [0, 1] [0] [1] (by decide +kernel))
        refine fw_Vi (As := [.int a2.1]) (rest := []) (n := 1) (rv := fun b : Int32 => b) (wp := fun b : Int32 => rmW k xa a2.2.1) h hx hb hml hown hts hG hA hP hD hS hl.1 _ _ (fun q hq9 => c_X3_isUp l D k _  xa F a2.1 a2.2.1  hq9) (ci := 2) (q0 := 0) rfl rfl gX3_passMinute_X3_isUp rfl ⟨rfl, rfl, Nat.le_of_ble_eq_true rfl, Nat.le_of_ble_eq_true rfl⟩ (by decide +kernel) (q_l _ _) (q_r _ _) (q_nd _ _) ⟨rfl, rfl, Nat.le_of_ble_eq_true rfl, Nat.le_of_ble_eq_true rfl, Nat.le_of_ble_eq_true rfl⟩ dX3_passMinute_51 (fun q5 H locs h hP hD hS => ?_)
        obtain ⟨hP, hD⟩ := qm (w2 := rmW k xa a2.2.1 ++ (ruW k qa a2.2.2)) hP hD (q_from [rmW k xa a2.2.1, ruW k qa a2.2.2] [1] [0] [0, 1] (by decide +kernel))
        refine hc_is (z := q5) rfl ?_
        refine lv_if_eq (tgt := 68) hx hb dX3_passMinute_54 (by decide) (fun c6 => ?_) (fun c6 => ?_)
        · have h := fw_t c6 h
          exact B68 _ _ _ _ _ _ h hP hD hS hl
        · have h := fw_f c6 h
          refine lv_aload_n hx hb dX3_passMinute_57 rfl (lv_at hl 0 rfl) ?_
          refine lv_iload_n hx hb dX3_passMinute_58 rfl (lv_at hl 2 rfl) ?_
          refine lv_aload_n hx hb dX3_passMinute_59 rfl (lv_at hl 1 rfl) ?_
          refine lv_iload_n hx hb dX3_passMinute_60 rfl (lv_at hl 2 rfl) ?_
          refine lv_aload_n hx hb dX3_passMinute_61 rfl (lv_at hl 0 rfl) ?_
          obtain ⟨hP, hD⟩ := qm hP hD (q_to [rmW k xa a2.2.1, ruW k qa a2.2.2] [0, 1] [1, 0] [] (by decide +kernel))
          refine fw_Vi (As := [.int a2.1, .ref (xa 0)]) (rest := [.int a2.1, .ref (xa 0)]) (n := 2) (rv := fun b : Int32 × OB => b.1) (wp := fun b : Int32 × OB => ruW k qa b.2 ++ (rmW k xa a2.2.1)) h hx hb hml hown hts hG hA hP hD hS hl.1 _ _ (fun q hq9 => c_X4_seats l D k _  qa xa F a2.1 a2.2.2 a2.2.1  hq9) (ci := 3) (q0 := 0) rfl rfl gX3_passMinute_X4_seats rfl ⟨rfl, rfl, Nat.le_of_ble_eq_true rfl, Nat.le_of_ble_eq_true rfl⟩ (by decide +kernel) (q_l _ _) (q_r _ _) (q_nd _ _) ⟨rfl, rfl, Nat.le_of_ble_eq_true rfl, Nat.le_of_ble_eq_true rfl, Nat.le_of_ble_eq_true rfl⟩ dX3_passMinute_62 (fun q7 H locs h hP hD hS => ?_)
          obtain ⟨hP, hD⟩ := qm (w2 := rmW k xa a2.2.1 ++ (ruW k qa q7.2)) hP hD (q_from [rmW k xa a2.2.1, ruW k qa q7.2] [] [1, 0] [0, 1] (by decide +kernel))
          refine hc_is (z := q7.1) rfl ?_
          obtain ⟨hP, hD⟩ := qm hP hD (q_to [rmW k xa a2.2.1, ruW k qa q7.2] [0, 1] [0] [1] (by decide +kernel))
          refine fw_Vv (As := [.int a2.1, .int q7.1]) (rest := []) (n := 2) (wp := fun b : OB => rmW k xa b) h hx hb hml hown hts hG hA hP hD hS hl.1 _ _ (fun q hq9 => c_X3_seat l D k _  xa F a2.1 q7.1 a2.2.1  hq9) (ci := 2) (q0 := 0) rfl rfl gX3_passMinute_X3_seat rfl ⟨rfl, rfl, Nat.le_of_ble_eq_true rfl, Nat.le_of_ble_eq_true rfl⟩ (by decide +kernel) (q_l _ _) (q_r _ _) (q_nd _ _) ⟨rfl, rfl, Nat.le_of_ble_eq_true rfl, Nat.le_of_ble_eq_true rfl, Nat.le_of_ble_eq_true rfl⟩ dX3_passMinute_65 (fun q8 H locs h hP hD hS => ?_)
          obtain ⟨hP, hD⟩ := qm (w2 := rmW k xa q8 ++ (ruW k qa q7.2)) hP hD (q_from [rmW k xa q8, ruW k qa q7.2] [1] [0] [0, 1] (by decide +kernel))
          exact B68 _ _ _ _ _ _ h hP hD hS hl
      · have h := fw_f c4 h
        refine lv_aload_n hx hb dX3_passMinute_21 rfl (lv_at hl 0 rfl) ?_
        refine lv_iload_n hx hb dX3_passMinute_22 rfl (lv_at hl 2 rfl) ?_
        refine lv_aload_n hx hb dX3_passMinute_23 rfl (lv_at hl 0 rfl) ?_
        refine va_get (D := D) (ci := 2) (v := .int (a2.2.1.1 16)) (C := RX3) (T := TX3) (N := 17) hx hb hts in3 hown hG.1 hP 0 rfl rfl 16 (by decide) (hts (.fieldLink RX3 62 "ChairCane$Room" "heldDown" "I") (mem_b bq_wsX3_passMinute 0 2 rfl)) (fun _ h9 => h9) rfl dX3_passMinute_24 ?_
        refine lv_iload_n hx hb dX3_passMinute_27 rfl (lv_at hl 2 rfl) ?_
        refine lv_ishr hx hb dX3_passMinute_28 ?_
        refine lv_iconst (v := 1) hx hb dX3_passMinute_29 (by decide) ?_
        refine lv_iand hx hb dX3_passMinute_30 ?_
        refine lv_if_eq (tgt := 38) hx hb dX3_passMinute_31 (by decide) (fun c9 => ?_) (fun c9 => ?_)
        · have h := fw_t c9 h
          refine lv_iconst (v := 0) hx hb dX3_passMinute_38 (by decide) ?_
          exact B39 _ _ _ _ _ _ _ _ h hP hD hS hl
        · have h := fw_f c9 h
          refine lv_iconst (v := 1) hx hb dX3_passMinute_34 (by decide) ?_
          refine lv_goto (tgt := 39) hx hb dX3_passMinute_35 (by decide) ?_
          exact B39 _ _ _ _ _ _ _ _ h hP hD hS hl
  have C2 : ∀ (v2 : Int32) (rm : OB) (ru : OB), lp (b_X3_passMinute_r_2 F) F (v2, rm, ru) = some res → ∀ (H : Heap) (locs : List Loc) (ls : Array Slot), va_P D vwCl (rmW k xa rm ++ (ruW k qa ru)) H → va_D A (rmW k xa rm ++ (ruW k qa ru)) → va_S A s.heap H locs → lv_has ls 3 [(0, .ref (xa 0)), (1, .ref (qa 0)), (2, .int v2)] → W p l e (rmK 5 0 0) s m (List.toArray [.ref (xa 0), .ref (qa 0)]) below meth c H locs 0 0 (MQ below (va_Qi (fun r (_ : Unit) => r = res.1) (hcB D (fun _ : Unit => rmW k xa res.2.1 ++ (ruW k qa res.2.2)) A) A) (List.toArray [.ref (xa 0), .ref (qa 0)]) s 0 0 A) (F0 m 2 ls []) := fun v2 rm ru => B2 (v2, rm, ru)
  refine lv_iconst (v := 0) hx hb dX3_passMinute_0 (by decide) ?_
  refine lv_istore_n (lv' := [(2, .int 0), (0, .ref (xa 0)), (1, .ref (qa 0))]) hx hb dX3_passMinute_1 rfl hl (by decide) rfl (fun ls hl => ?_)
  exact C2 _ _ _ h _ _ _ hP hD hS (lv_sub hl [1, 2, 0] rfl)
