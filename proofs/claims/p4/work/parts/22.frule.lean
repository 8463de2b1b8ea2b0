/-! acts, notes, rules, a minute, as functions -/
theorem dX0_copyFrom_0 : decode cX0_copyFrom 0 = .ok (.aload_n 1, 1) := by decide +kernel
theorem dX0_copyFrom_1 : decode cX0_copyFrom 1 = .ok (.getfield 9, 3) := by decide +kernel
theorem dX0_copyFrom_4 : decode cX0_copyFrom 4 = .ok (.iconst 0, 1) := by decide +kernel
theorem dX0_copyFrom_5 : decode cX0_copyFrom 5 = .ok (.aload_n 0, 1) := by decide +kernel
theorem dX0_copyFrom_6 : decode cX0_copyFrom 6 = .ok (.getfield 9, 3) := by decide +kernel
theorem dX0_copyFrom_9 : decode cX0_copyFrom 9 = .ok (.iconst 0, 1) := by decide +kernel
theorem dX0_copyFrom_10 : decode cX0_copyFrom 10 = .ok (.bipush 20, 2) := by decide +kernel
theorem dX0_copyFrom_12 : decode cX0_copyFrom 12 = .ok (.invokestatic 28, 3) := by decide +kernel
theorem dX0_copyFrom_15 : decode cX0_copyFrom 15 = .ok (.aload_n 1, 1) := by decide +kernel
theorem dX0_copyFrom_16 : decode cX0_copyFrom 16 = .ok (.getfield 15, 3) := by decide +kernel
theorem dX0_copyFrom_19 : decode cX0_copyFrom 19 = .ok (.iconst 0, 1) := by decide +kernel
theorem dX0_copyFrom_20 : decode cX0_copyFrom 20 = .ok (.aload_n 0, 1) := by decide +kernel
theorem dX0_copyFrom_21 : decode cX0_copyFrom 21 = .ok (.getfield 15, 3) := by decide +kernel
theorem dX0_copyFrom_24 : decode cX0_copyFrom 24 = .ok (.iconst 0, 1) := by decide +kernel
theorem dX0_copyFrom_25 : decode cX0_copyFrom 25 = .ok (.bipush 20, 2) := by decide +kernel
theorem dX0_copyFrom_27 : decode cX0_copyFrom 27 = .ok (.invokestatic 28, 3) := by decide +kernel
theorem dX0_copyFrom_30 : decode cX0_copyFrom 30 = .ok (.aload_n 1, 1) := by decide +kernel
theorem dX0_copyFrom_31 : decode cX0_copyFrom 31 = .ok (.getfield 18, 3) := by decide +kernel
theorem dX0_copyFrom_34 : decode cX0_copyFrom 34 = .ok (.iconst 0, 1) := by decide +kernel
theorem dX0_copyFrom_35 : decode cX0_copyFrom 35 = .ok (.aload_n 0, 1) := by decide +kernel
theorem dX0_copyFrom_36 : decode cX0_copyFrom 36 = .ok (.getfield 18, 3) := by decide +kernel
theorem dX0_copyFrom_39 : decode cX0_copyFrom 39 = .ok (.iconst 0, 1) := by decide +kernel
theorem dX0_copyFrom_40 : decode cX0_copyFrom 40 = .ok (.bipush 20, 2) := by decide +kernel
theorem dX0_copyFrom_42 : decode cX0_copyFrom 42 = .ok (.invokestatic 28, 3) := by decide +kernel
theorem dX0_copyFrom_45 : decode cX0_copyFrom 45 = .ok (.aload_n 0, 1) := by decide +kernel
theorem dX0_copyFrom_46 : decode cX0_copyFrom 46 = .ok (.aload_n 1, 1) := by decide +kernel
theorem dX0_copyFrom_47 : decode cX0_copyFrom 47 = .ok (.getfield 21, 3) := by decide +kernel
theorem dX0_copyFrom_50 : decode cX0_copyFrom 50 = .ok (.putfield 21, 3) := by decide +kernel
theorem dX0_copyFrom_53 : decode cX0_copyFrom 53 = .ok (.aload_n 0, 1) := by decide +kernel
theorem dX0_copyFrom_54 : decode cX0_copyFrom 54 = .ok (.aload_n 1, 1) := by decide +kernel
theorem dX0_copyFrom_55 : decode cX0_copyFrom 55 = .ok (.getfield 25, 3) := by decide +kernel
theorem dX0_copyFrom_58 : decode cX0_copyFrom 58 = .ok (.putfield 25, 3) := by decide +kernel
theorem dX0_copyFrom_61 : decode cX0_copyFrom 61 = .ok (.return_, 1) := by decide +kernel
theorem dX0_forget_0 : decode cX0_forget 0 = .ok (.aload_n 0, 1) := by decide +kernel
theorem dX0_forget_1 : decode cX0_forget 1 = .ok (.iconst 0, 1) := by decide +kernel
theorem dX0_forget_2 : decode cX0_forget 2 = .ok (.putfield 25, 3) := by decide +kernel
theorem dX0_forget_5 : decode cX0_forget 5 = .ok (.return_, 1) := by decide +kernel
theorem dX0_keep_0 : decode cX0_keep 0 = .ok (.aload_n 0, 1) := by decide +kernel
theorem dX0_keep_1 : decode cX0_keep 1 = .ok (.getfield 9, 3) := by decide +kernel
theorem dX0_keep_4 : decode cX0_keep 4 = .ok (.aload_n 0, 1) := by decide +kernel
theorem dX0_keep_5 : decode cX0_keep 5 = .ok (.getfield 21, 3) := by decide +kernel
theorem dX0_keep_8 : decode cX0_keep 8 = .ok (.aload_n 1, 1) := by decide +kernel
theorem dX0_keep_9 : decode cX0_keep 9 = .ok (.getfield 34, 3) := by decide +kernel
theorem dX0_keep_12 : decode cX0_keep 12 = .ok (.aload_n 1, 1) := by decide +kernel
theorem dX0_keep_13 : decode cX0_keep 13 = .ok (.getfield 39, 3) := by decide +kernel
theorem dX0_keep_16 : decode cX0_keep 16 = .ok (.bipush 8, 2) := by decide +kernel
theorem dX0_keep_18 : decode cX0_keep 18 = .ok (.ishl, 1) := by decide +kernel
theorem dX0_keep_19 : decode cX0_keep 19 = .ok (.ior, 1) := by decide +kernel
theorem dX0_keep_20 : decode cX0_keep 20 = .ok (.iastore, 1) := by decide +kernel
theorem dX0_keep_21 : decode cX0_keep 21 = .ok (.aload_n 0, 1) := by decide +kernel
theorem dX0_keep_22 : decode cX0_keep 22 = .ok (.getfield 15, 3) := by decide +kernel
theorem dX0_keep_25 : decode cX0_keep 25 = .ok (.aload_n 0, 1) := by decide +kernel
theorem dX0_keep_26 : decode cX0_keep 26 = .ok (.getfield 21, 3) := by decide +kernel
theorem dX0_keep_29 : decode cX0_keep 29 = .ok (.aload_n 1, 1) := by decide +kernel
theorem dX0_keep_30 : decode cX0_keep 30 = .ok (.getfield 42, 3) := by decide +kernel
theorem dX0_keep_33 : decode cX0_keep 33 = .ok (.iastore, 1) := by decide +kernel
theorem dX0_keep_34 : decode cX0_keep 34 = .ok (.iconst 0, 1) := by decide +kernel
theorem dX0_keep_35 : decode cX0_keep 35 = .ok (.istore_n 2, 1) := by decide +kernel
theorem dX0_keep_36 : decode cX0_keep 36 = .ok (.iconst 3, 1) := by decide +kernel
theorem dX0_keep_37 : decode cX0_keep 37 = .ok (.istore_n 3, 1) := by decide +kernel
theorem dX0_keep_38 : decode cX0_keep 38 = .ok (.iload_n 3, 1) := by decide +kernel
theorem dX0_keep_39 : decode cX0_keep 39 = .ok (.ifCond .lt 21, 3) := by decide +kernel
theorem dX0_keep_42 : decode cX0_keep 42 = .ok (.iload_n 2, 1) := by decide +kernel
theorem dX0_keep_43 : decode cX0_keep 43 = .ok (.bipush 7, 2) := by decide +kernel
theorem dX0_keep_45 : decode cX0_keep 45 = .ok (.ishl, 1) := by decide +kernel
theorem dX0_keep_46 : decode cX0_keep 46 = .ok (.aload_n 1, 1) := by decide +kernel
theorem dX0_keep_47 : decode cX0_keep 47 = .ok (.getfield 45, 3) := by decide +kernel
theorem dX0_keep_50 : decode cX0_keep 50 = .ok (.iload_n 3, 1) := by decide +kernel
theorem dX0_keep_51 : decode cX0_keep 51 = .ok (.iaload, 1) := by decide +kernel
theorem dX0_keep_52 : decode cX0_keep 52 = .ok (.ior, 1) := by decide +kernel
theorem dX0_keep_53 : decode cX0_keep 53 = .ok (.istore_n 2, 1) := by decide +kernel
theorem dX0_keep_54 : decode cX0_keep 54 = .ok (.iinc 3 (-1), 3) := by decide +kernel
theorem dX0_keep_57 : decode cX0_keep 57 = .ok (.goto (-19), 3) := by decide +kernel
theorem dX0_keep_60 : decode cX0_keep 60 = .ok (.aload_n 0, 1) := by decide +kernel
theorem dX0_keep_61 : decode cX0_keep 61 = .ok (.getfield 18, 3) := by decide +kernel
theorem dX0_keep_64 : decode cX0_keep 64 = .ok (.aload_n 0, 1) := by decide +kernel
theorem dX0_keep_65 : decode cX0_keep 65 = .ok (.getfield 21, 3) := by decide +kernel
theorem dX0_keep_68 : decode cX0_keep 68 = .ok (.iload_n 2, 1) := by decide +kernel
theorem dX0_keep_69 : decode cX0_keep 69 = .ok (.iastore, 1) := by decide +kernel
theorem dX0_keep_70 : decode cX0_keep 70 = .ok (.aload_n 0, 1) := by decide +kernel
theorem dX0_keep_71 : decode cX0_keep 71 = .ok (.aload_n 0, 1) := by decide +kernel
theorem dX0_keep_72 : decode cX0_keep 72 = .ok (.getfield 21, 3) := by decide +kernel
theorem dX0_keep_75 : decode cX0_keep 75 = .ok (.iconst 1, 1) := by decide +kernel
theorem dX0_keep_76 : decode cX0_keep 76 = .ok (.iadd, 1) := by decide +kernel
theorem dX0_keep_77 : decode cX0_keep 77 = .ok (.bipush 20, 2) := by decide +kernel
theorem dX0_keep_79 : decode cX0_keep 79 = .ok (.irem, 1) := by decide +kernel
theorem dX0_keep_80 : decode cX0_keep 80 = .ok (.putfield 21, 3) := by decide +kernel
theorem dX0_keep_83 : decode cX0_keep 83 = .ok (.aload_n 0, 1) := by decide +kernel
theorem dX0_keep_84 : decode cX0_keep 84 = .ok (.aload_n 0, 1) := by decide +kernel
theorem dX0_keep_85 : decode cX0_keep 85 = .ok (.getfield 25, 3) := by decide +kernel
theorem dX0_keep_88 : decode cX0_keep 88 = .ok (.iconst 1, 1) := by decide +kernel
theorem dX0_keep_89 : decode cX0_keep 89 = .ok (.iadd, 1) := by decide +kernel
theorem dX0_keep_90 : decode cX0_keep 90 = .ok (.bipush 20, 2) := by decide +kernel
theorem dX0_keep_92 : decode cX0_keep 92 = .ok (.invokestatic 48, 3) := by decide +kernel
theorem dX0_keep_95 : decode cX0_keep 95 = .ok (.putfield 25, 3) := by decide +kernel
theorem dX0_keep_98 : decode cX0_keep 98 = .ok (.return_, 1) := by decide +kernel
theorem dX0_takeBack_0 : decode cX0_takeBack 0 = .ok (.aload_n 0, 1) := by decide +kernel
theorem dX0_takeBack_1 : decode cX0_takeBack 1 = .ok (.getfield 25, 3) := by decide +kernel
theorem dX0_takeBack_4 : decode cX0_takeBack 4 = .ok (.ifCond .gt 4, 3) := by decide +kernel
theorem dX0_takeBack_7 : decode cX0_takeBack 7 = .ok (.return_, 1) := by decide +kernel
theorem dX0_takeBack_8 : decode cX0_takeBack 8 = .ok (.aload_n 0, 1) := by decide +kernel
theorem dX0_takeBack_9 : decode cX0_takeBack 9 = .ok (.dup, 1) := by decide +kernel
theorem dX0_takeBack_10 : decode cX0_takeBack 10 = .ok (.getfield 25, 3) := by decide +kernel
theorem dX0_takeBack_13 : decode cX0_takeBack 13 = .ok (.iconst 1, 1) := by decide +kernel
theorem dX0_takeBack_14 : decode cX0_takeBack 14 = .ok (.isub, 1) := by decide +kernel
theorem dX0_takeBack_15 : decode cX0_takeBack 15 = .ok (.putfield 25, 3) := by decide +kernel
theorem dX0_takeBack_18 : decode cX0_takeBack 18 = .ok (.aload_n 0, 1) := by decide +kernel
theorem dX0_takeBack_19 : decode cX0_takeBack 19 = .ok (.aload_n 0, 1) := by decide +kernel
theorem dX0_takeBack_20 : decode cX0_takeBack 20 = .ok (.getfield 21, 3) := by decide +kernel
theorem dX0_takeBack_23 : decode cX0_takeBack 23 = .ok (.bipush 20, 2) := by decide +kernel
theorem dX0_takeBack_25 : decode cX0_takeBack 25 = .ok (.iadd, 1) := by decide +kernel
theorem dX0_takeBack_26 : decode cX0_takeBack 26 = .ok (.iconst 1, 1) := by decide +kernel
theorem dX0_takeBack_27 : decode cX0_takeBack 27 = .ok (.isub, 1) := by decide +kernel
theorem dX0_takeBack_28 : decode cX0_takeBack 28 = .ok (.bipush 20, 2) := by decide +kernel
theorem dX0_takeBack_30 : decode cX0_takeBack 30 = .ok (.irem, 1) := by decide +kernel
theorem dX0_takeBack_31 : decode cX0_takeBack 31 = .ok (.putfield 21, 3) := by decide +kernel
theorem dX0_takeBack_34 : decode cX0_takeBack 34 = .ok (.aload_n 1, 1) := by decide +kernel
theorem dX0_takeBack_35 : decode cX0_takeBack 35 = .ok (.aload_n 0, 1) := by decide +kernel
theorem dX0_takeBack_36 : decode cX0_takeBack 36 = .ok (.getfield 9, 3) := by decide +kernel
theorem dX0_takeBack_39 : decode cX0_takeBack 39 = .ok (.aload_n 0, 1) := by decide +kernel
theorem dX0_takeBack_40 : decode cX0_takeBack 40 = .ok (.getfield 21, 3) := by decide +kernel
theorem dX0_takeBack_43 : decode cX0_takeBack 43 = .ok (.iaload, 1) := by decide +kernel
theorem dX0_takeBack_44 : decode cX0_takeBack 44 = .ok (.sipush 255, 3) := by decide +kernel
theorem dX0_takeBack_47 : decode cX0_takeBack 47 = .ok (.iand, 1) := by decide +kernel
theorem dX0_takeBack_48 : decode cX0_takeBack 48 = .ok (.putfield 34, 3) := by decide +kernel
theorem dX0_takeBack_51 : decode cX0_takeBack 51 = .ok (.aload_n 1, 1) := by decide +kernel
theorem dX0_takeBack_52 : decode cX0_takeBack 52 = .ok (.aload_n 0, 1) := by decide +kernel
theorem dX0_takeBack_53 : decode cX0_takeBack 53 = .ok (.getfield 9, 3) := by decide +kernel
theorem dX0_takeBack_56 : decode cX0_takeBack 56 = .ok (.aload_n 0, 1) := by decide +kernel
theorem dX0_takeBack_57 : decode cX0_takeBack 57 = .ok (.getfield 21, 3) := by decide +kernel
theorem dX0_takeBack_60 : decode cX0_takeBack 60 = .ok (.iaload, 1) := by decide +kernel
theorem dX0_takeBack_61 : decode cX0_takeBack 61 = .ok (.bipush 8, 2) := by decide +kernel
theorem dX0_takeBack_63 : decode cX0_takeBack 63 = .ok (.ishr, 1) := by decide +kernel
theorem dX0_takeBack_64 : decode cX0_takeBack 64 = .ok (.putfield 39, 3) := by decide +kernel
theorem dX0_takeBack_67 : decode cX0_takeBack 67 = .ok (.aload_n 1, 1) := by decide +kernel
theorem dX0_takeBack_68 : decode cX0_takeBack 68 = .ok (.aload_n 0, 1) := by decide +kernel
theorem dX0_takeBack_69 : decode cX0_takeBack 69 = .ok (.getfield 15, 3) := by decide +kernel
theorem dX0_takeBack_72 : decode cX0_takeBack 72 = .ok (.aload_n 0, 1) := by decide +kernel
theorem dX0_takeBack_73 : decode cX0_takeBack 73 = .ok (.getfield 21, 3) := by decide +kernel
theorem dX0_takeBack_76 : decode cX0_takeBack 76 = .ok (.iaload, 1) := by decide +kernel
theorem dX0_takeBack_77 : decode cX0_takeBack 77 = .ok (.putfield 42, 3) := by decide +kernel
theorem dX0_takeBack_80 : decode cX0_takeBack 80 = .ok (.iconst 0, 1) := by decide +kernel
theorem dX0_takeBack_81 : decode cX0_takeBack 81 = .ok (.istore_n 2, 1) := by decide +kernel
theorem dX0_takeBack_82 : decode cX0_takeBack 82 = .ok (.iload_n 2, 1) := by decide +kernel
theorem dX0_takeBack_83 : decode cX0_takeBack 83 = .ok (.iconst 4, 1) := by decide +kernel
theorem dX0_takeBack_84 : decode cX0_takeBack 84 = .ok (.if_icmp .ge 32, 3) := by decide +kernel
theorem dX0_takeBack_87 : decode cX0_takeBack 87 = .ok (.aload_n 1, 1) := by decide +kernel
theorem dX0_takeBack_88 : decode cX0_takeBack 88 = .ok (.getfield 45, 3) := by decide +kernel
theorem dX0_takeBack_91 : decode cX0_takeBack 91 = .ok (.iload_n 2, 1) := by decide +kernel
theorem dX0_takeBack_92 : decode cX0_takeBack 92 = .ok (.aload_n 0, 1) := by decide +kernel
theorem dX0_takeBack_93 : decode cX0_takeBack 93 = .ok (.getfield 18, 3) := by decide +kernel
theorem dX0_takeBack_96 : decode cX0_takeBack 96 = .ok (.aload_n 0, 1) := by decide +kernel
theorem dX0_takeBack_97 : decode cX0_takeBack 97 = .ok (.getfield 21, 3) := by decide +kernel
theorem dX0_takeBack_100 : decode cX0_takeBack 100 = .ok (.iaload, 1) := by decide +kernel
theorem dX0_takeBack_101 : decode cX0_takeBack 101 = .ok (.bipush 7, 2) := by decide +kernel
theorem dX0_takeBack_103 : decode cX0_takeBack 103 = .ok (.iload_n 2, 1) := by decide +kernel
theorem dX0_takeBack_104 : decode cX0_takeBack 104 = .ok (.imul, 1) := by decide +kernel
theorem dX0_takeBack_105 : decode cX0_takeBack 105 = .ok (.ishr, 1) := by decide +kernel
theorem dX0_takeBack_106 : decode cX0_takeBack 106 = .ok (.bipush 127, 2) := by decide +kernel
theorem dX0_takeBack_108 : decode cX0_takeBack 108 = .ok (.iand, 1) := by decide +kernel
theorem dX0_takeBack_109 : decode cX0_takeBack 109 = .ok (.iastore, 1) := by decide +kernel
theorem dX0_takeBack_110 : decode cX0_takeBack 110 = .ok (.iinc 2 1, 3) := by decide +kernel
theorem dX0_takeBack_113 : decode cX0_takeBack 113 = .ok (.goto (-31), 3) := by decide +kernel
theorem dX0_takeBack_116 : decode cX0_takeBack 116 = .ok (.aload_n 1, 1) := by decide +kernel
theorem dX0_takeBack_117 : decode cX0_takeBack 117 = .ok (.invokevirtual 54, 3) := by decide +kernel
theorem dX0_takeBack_120 : decode cX0_takeBack 120 = .ok (.return_, 1) := by decide +kernel
theorem dX2_add_0 : decode cX2_add 0 = .ok (.aload_n 0, 1) := by decide +kernel
theorem dX2_add_1 : decode cX2_add 1 = .ok (.getfield 21, 3) := by decide +kernel
theorem dX2_add_4 : decode cX2_add 4 = .ok (.bipush 10, 2) := by decide +kernel
theorem dX2_add_6 : decode cX2_add 6 = .ok (.if_icmp .lt 5, 3) := by decide +kernel
theorem dX2_add_9 : decode cX2_add 9 = .ok (.iconst 0, 1) := by decide +kernel
theorem dX2_add_10 : decode cX2_add 10 = .ok (.ireturn, 1) := by decide +kernel
theorem dX2_add_11 : decode cX2_add 11 = .ok (.aload_n 0, 1) := by decide +kernel
theorem dX2_add_12 : decode cX2_add 12 = .ok (.getfield 9, 3) := by decide +kernel
theorem dX2_add_15 : decode cX2_add 15 = .ok (.aload_n 0, 1) := by decide +kernel
theorem dX2_add_16 : decode cX2_add 16 = .ok (.getfield 21, 3) := by decide +kernel
theorem dX2_add_19 : decode cX2_add 19 = .ok (.iload_n 1, 1) := by decide +kernel
theorem dX2_add_20 : decode cX2_add 20 = .ok (.iastore, 1) := by decide +kernel
theorem dX2_add_21 : decode cX2_add 21 = .ok (.aload_n 0, 1) := by decide +kernel
theorem dX2_add_22 : decode cX2_add 22 = .ok (.getfield 15, 3) := by decide +kernel
theorem dX2_add_25 : decode cX2_add 25 = .ok (.aload_n 0, 1) := by decide +kernel
theorem dX2_add_26 : decode cX2_add 26 = .ok (.getfield 21, 3) := by decide +kernel
theorem dX2_add_29 : decode cX2_add 29 = .ok (.iload_n 2, 1) := by decide +kernel
theorem dX2_add_30 : decode cX2_add 30 = .ok (.iastore, 1) := by decide +kernel
theorem dX2_add_31 : decode cX2_add 31 = .ok (.aload_n 0, 1) := by decide +kernel
theorem dX2_add_32 : decode cX2_add 32 = .ok (.getfield 18, 3) := by decide +kernel
theorem dX2_add_35 : decode cX2_add 35 = .ok (.aload_n 0, 1) := by decide +kernel
theorem dX2_add_36 : decode cX2_add 36 = .ok (.getfield 21, 3) := by decide +kernel
theorem dX2_add_39 : decode cX2_add 39 = .ok (.iload_n 3, 1) := by decide +kernel
theorem dX2_add_40 : decode cX2_add 40 = .ok (.iastore, 1) := by decide +kernel
theorem dX2_add_41 : decode cX2_add 41 = .ok (.aload_n 0, 1) := by decide +kernel
theorem dX2_add_42 : decode cX2_add 42 = .ok (.dup, 1) := by decide +kernel
theorem dX2_add_43 : decode cX2_add 43 = .ok (.getfield 21, 3) := by decide +kernel
theorem dX2_add_46 : decode cX2_add 46 = .ok (.iconst 1, 1) := by decide +kernel
theorem dX2_add_47 : decode cX2_add 47 = .ok (.iadd, 1) := by decide +kernel
theorem dX2_add_48 : decode cX2_add 48 = .ok (.putfield 21, 3) := by decide +kernel
theorem dX2_add_51 : decode cX2_add 51 = .ok (.iconst 1, 1) := by decide +kernel
theorem dX2_add_52 : decode cX2_add 52 = .ok (.ireturn, 1) := by decide +kernel
theorem dX2_agree_0 : decode cX2_agree 0 = .ok (.iconst 0, 1) := by decide +kernel
theorem dX2_agree_1 : decode cX2_agree 1 = .ok (.istore_n 3, 1) := by decide +kernel
theorem dX2_agree_2 : decode cX2_agree 2 = .ok (.iload_n 3, 1) := by decide +kernel
theorem dX2_agree_3 : decode cX2_agree 3 = .ok (.aload_n 0, 1) := by decide +kernel
theorem dX2_agree_4 : decode cX2_agree 4 = .ok (.getfield 21, 3) := by decide +kernel
theorem dX2_agree_7 : decode cX2_agree 7 = .ok (.if_icmp .ge 40, 3) := by decide +kernel
theorem dX2_agree_10 : decode cX2_agree 10 = .ok (.aload_n 0, 1) := by decide +kernel
theorem dX2_agree_11 : decode cX2_agree 11 = .ok (.getfield 9, 3) := by decide +kernel
theorem dX2_agree_14 : decode cX2_agree 14 = .ok (.iload_n 3, 1) := by decide +kernel
theorem dX2_agree_15 : decode cX2_agree 15 = .ok (.iaload, 1) := by decide +kernel
theorem dX2_agree_16 : decode cX2_agree 16 = .ok (.iload_n 1, 1) := by decide +kernel
theorem dX2_agree_17 : decode cX2_agree 17 = .ok (.if_icmp .ne 24, 3) := by decide +kernel
theorem dX2_agree_20 : decode cX2_agree 20 = .ok (.aload_n 2, 1) := by decide +kernel
theorem dX2_agree_21 : decode cX2_agree 21 = .ok (.aload_n 0, 1) := by decide +kernel
theorem dX2_agree_22 : decode cX2_agree 22 = .ok (.getfield 15, 3) := by decide +kernel
theorem dX2_agree_25 : decode cX2_agree 25 = .ok (.iload_n 3, 1) := by decide +kernel
theorem dX2_agree_26 : decode cX2_agree 26 = .ok (.iaload, 1) := by decide +kernel
theorem dX2_agree_27 : decode cX2_agree 27 = .ok (.invokevirtual 37, 3) := by decide +kernel
theorem dX2_agree_30 : decode cX2_agree 30 = .ok (.aload_n 0, 1) := by decide +kernel
theorem dX2_agree_31 : decode cX2_agree 31 = .ok (.getfield 18, 3) := by decide +kernel
theorem dX2_agree_34 : decode cX2_agree 34 = .ok (.iload_n 3, 1) := by decide +kernel
theorem dX2_agree_35 : decode cX2_agree 35 = .ok (.iaload, 1) := by decide +kernel
theorem dX2_agree_36 : decode cX2_agree 36 = .ok (.if_icmp .eq 5, 3) := by decide +kernel
theorem dX2_agree_39 : decode cX2_agree 39 = .ok (.iconst 0, 1) := by decide +kernel
theorem dX2_agree_40 : decode cX2_agree 40 = .ok (.ireturn, 1) := by decide +kernel
theorem dX2_agree_41 : decode cX2_agree 41 = .ok (.iinc 3 1, 3) := by decide +kernel
theorem dX2_agree_44 : decode cX2_agree 44 = .ok (.goto (-42), 3) := by decide +kernel
theorem dX2_agree_47 : decode cX2_agree 47 = .ok (.iconst 1, 1) := by decide +kernel
theorem dX2_agree_48 : decode cX2_agree 48 = .ok (.ireturn, 1) := by decide +kernel
theorem dX2_copyFrom_0 : decode cX2_copyFrom 0 = .ok (.aload_n 1, 1) := by decide +kernel
theorem dX2_copyFrom_1 : decode cX2_copyFrom 1 = .ok (.getfield 9, 3) := by decide +kernel
theorem dX2_copyFrom_4 : decode cX2_copyFrom 4 = .ok (.iconst 0, 1) := by decide +kernel
theorem dX2_copyFrom_5 : decode cX2_copyFrom 5 = .ok (.aload_n 0, 1) := by decide +kernel
theorem dX2_copyFrom_6 : decode cX2_copyFrom 6 = .ok (.getfield 9, 3) := by decide +kernel
theorem dX2_copyFrom_9 : decode cX2_copyFrom 9 = .ok (.iconst 0, 1) := by decide +kernel
theorem dX2_copyFrom_10 : decode cX2_copyFrom 10 = .ok (.bipush 10, 2) := by decide +kernel
theorem dX2_copyFrom_12 : decode cX2_copyFrom 12 = .ok (.invokestatic 25, 3) := by decide +kernel
theorem dX2_copyFrom_15 : decode cX2_copyFrom 15 = .ok (.aload_n 1, 1) := by decide +kernel
theorem dX2_copyFrom_16 : decode cX2_copyFrom 16 = .ok (.getfield 15, 3) := by decide +kernel
theorem dX2_copyFrom_19 : decode cX2_copyFrom 19 = .ok (.iconst 0, 1) := by decide +kernel
theorem dX2_copyFrom_20 : decode cX2_copyFrom 20 = .ok (.aload_n 0, 1) := by decide +kernel
theorem dX2_copyFrom_21 : decode cX2_copyFrom 21 = .ok (.getfield 15, 3) := by decide +kernel
theorem dX2_copyFrom_24 : decode cX2_copyFrom 24 = .ok (.iconst 0, 1) := by decide +kernel
theorem dX2_copyFrom_25 : decode cX2_copyFrom 25 = .ok (.bipush 10, 2) := by decide +kernel
theorem dX2_copyFrom_27 : decode cX2_copyFrom 27 = .ok (.invokestatic 25, 3) := by decide +kernel
theorem dX2_copyFrom_30 : decode cX2_copyFrom 30 = .ok (.aload_n 1, 1) := by decide +kernel
theorem dX2_copyFrom_31 : decode cX2_copyFrom 31 = .ok (.getfield 18, 3) := by decide +kernel
theorem dX2_copyFrom_34 : decode cX2_copyFrom 34 = .ok (.iconst 0, 1) := by decide +kernel
theorem dX2_copyFrom_35 : decode cX2_copyFrom 35 = .ok (.aload_n 0, 1) := by decide +kernel
theorem dX2_copyFrom_36 : decode cX2_copyFrom 36 = .ok (.getfield 18, 3) := by decide +kernel
theorem dX2_copyFrom_39 : decode cX2_copyFrom 39 = .ok (.iconst 0, 1) := by decide +kernel
theorem dX2_copyFrom_40 : decode cX2_copyFrom 40 = .ok (.bipush 10, 2) := by decide +kernel
theorem dX2_copyFrom_42 : decode cX2_copyFrom 42 = .ok (.invokestatic 25, 3) := by decide +kernel
theorem dX2_copyFrom_45 : decode cX2_copyFrom 45 = .ok (.aload_n 0, 1) := by decide +kernel
theorem dX2_copyFrom_46 : decode cX2_copyFrom 46 = .ok (.aload_n 1, 1) := by decide +kernel
theorem dX2_copyFrom_47 : decode cX2_copyFrom 47 = .ok (.getfield 21, 3) := by decide +kernel
theorem dX2_copyFrom_50 : decode cX2_copyFrom 50 = .ok (.putfield 21, 3) := by decide +kernel
theorem dX2_copyFrom_53 : decode cX2_copyFrom 53 = .ok (.return_, 1) := by decide +kernel
theorem dX2_forget_0 : decode cX2_forget 0 = .ok (.aload_n 0, 1) := by decide +kernel
theorem dX2_forget_1 : decode cX2_forget 1 = .ok (.iconst 0, 1) := by decide +kernel
theorem dX2_forget_2 : decode cX2_forget 2 = .ok (.putfield 21, 3) := by decide +kernel
theorem dX2_forget_5 : decode cX2_forget 5 = .ok (.return_, 1) := by decide +kernel
theorem dX2_lastMinute_0 : decode cX2_lastMinute 0 = .ok (.iconst (-1), 1) := by decide +kernel
theorem dX2_lastMinute_1 : decode cX2_lastMinute 1 = .ok (.istore_n 1, 1) := by decide +kernel
theorem dX2_lastMinute_2 : decode cX2_lastMinute 2 = .ok (.iconst 0, 1) := by decide +kernel
theorem dX2_lastMinute_3 : decode cX2_lastMinute 3 = .ok (.istore_n 2, 1) := by decide +kernel
theorem dX2_lastMinute_4 : decode cX2_lastMinute 4 = .ok (.iload_n 2, 1) := by decide +kernel
theorem dX2_lastMinute_5 : decode cX2_lastMinute 5 = .ok (.aload_n 0, 1) := by decide +kernel
theorem dX2_lastMinute_6 : decode cX2_lastMinute 6 = .ok (.getfield 21, 3) := by decide +kernel
theorem dX2_lastMinute_9 : decode cX2_lastMinute 9 = .ok (.if_icmp .ge 20, 3) := by decide +kernel
theorem dX2_lastMinute_12 : decode cX2_lastMinute 12 = .ok (.iload_n 1, 1) := by decide +kernel
theorem dX2_lastMinute_13 : decode cX2_lastMinute 13 = .ok (.aload_n 0, 1) := by decide +kernel
theorem dX2_lastMinute_14 : decode cX2_lastMinute 14 = .ok (.getfield 9, 3) := by decide +kernel
theorem dX2_lastMinute_17 : decode cX2_lastMinute 17 = .ok (.iload_n 2, 1) := by decide +kernel
theorem dX2_lastMinute_18 : decode cX2_lastMinute 18 = .ok (.iaload, 1) := by decide +kernel
theorem dX2_lastMinute_19 : decode cX2_lastMinute 19 = .ok (.invokestatic 31, 3) := by decide +kernel
theorem dX2_lastMinute_22 : decode cX2_lastMinute 22 = .ok (.istore_n 1, 1) := by decide +kernel
theorem dX2_lastMinute_23 : decode cX2_lastMinute 23 = .ok (.iinc 2 1, 3) := by decide +kernel
theorem dX2_lastMinute_26 : decode cX2_lastMinute 26 = .ok (.goto (-22), 3) := by decide +kernel
theorem dX2_lastMinute_29 : decode cX2_lastMinute 29 = .ok (.iload_n 1, 1) := by decide +kernel
theorem dX2_lastMinute_30 : decode cX2_lastMinute 30 = .ok (.ireturn, 1) := by decide +kernel
theorem dX3_passMinute_0 : decode cX3_passMinute 0 = .ok (.iconst 0, 1) := by decide +kernel
theorem dX3_passMinute_1 : decode cX3_passMinute 1 = .ok (.istore_n 2, 1) := by decide +kernel
theorem dX3_passMinute_2 : decode cX3_passMinute 2 = .ok (.iload_n 2, 1) := by decide +kernel
theorem dX3_passMinute_3 : decode cX3_passMinute 3 = .ok (.aload_n 0, 1) := by decide +kernel
theorem dX3_passMinute_4 : decode cX3_passMinute 4 = .ok (.getfield 22, 3) := by decide +kernel
theorem dX3_passMinute_7 : decode cX3_passMinute 7 = .ok (.if_icmp .ge 67, 3) := by decide +kernel
theorem dX3_passMinute_10 : decode cX3_passMinute 10 = .ok (.aload_n 0, 1) := by decide +kernel
theorem dX3_passMinute_11 : decode cX3_passMinute 11 = .ok (.getfield 59, 3) := by decide +kernel
theorem dX3_passMinute_14 : decode cX3_passMinute 14 = .ok (.iload_n 2, 1) := by decide +kernel
theorem dX3_passMinute_15 : decode cX3_passMinute 15 = .ok (.ishr, 1) := by decide +kernel
theorem dX3_passMinute_16 : decode cX3_passMinute 16 = .ok (.iconst 1, 1) := by decide +kernel
theorem dX3_passMinute_17 : decode cX3_passMinute 17 = .ok (.iand, 1) := by decide +kernel
theorem dX3_passMinute_18 : decode cX3_passMinute 18 = .ok (.ifCond .eq 27, 3) := by decide +kernel
theorem dX3_passMinute_21 : decode cX3_passMinute 21 = .ok (.aload_n 0, 1) := by decide +kernel
theorem dX3_passMinute_22 : decode cX3_passMinute 22 = .ok (.iload_n 2, 1) := by decide +kernel
theorem dX3_passMinute_23 : decode cX3_passMinute 23 = .ok (.aload_n 0, 1) := by decide +kernel
theorem dX3_passMinute_24 : decode cX3_passMinute 24 = .ok (.getfield 62, 3) := by decide +kernel
theorem dX3_passMinute_27 : decode cX3_passMinute 27 = .ok (.iload_n 2, 1) := by decide +kernel
theorem dX3_passMinute_28 : decode cX3_passMinute 28 = .ok (.ishr, 1) := by decide +kernel
theorem dX3_passMinute_29 : decode cX3_passMinute 29 = .ok (.iconst 1, 1) := by decide +kernel
theorem dX3_passMinute_30 : decode cX3_passMinute 30 = .ok (.iand, 1) := by decide +kernel
theorem dX3_passMinute_31 : decode cX3_passMinute 31 = .ok (.ifCond .eq 7, 3) := by decide +kernel
theorem dX3_passMinute_34 : decode cX3_passMinute 34 = .ok (.iconst 1, 1) := by decide +kernel
theorem dX3_passMinute_35 : decode cX3_passMinute 35 = .ok (.goto 4, 3) := by decide +kernel
theorem dX3_passMinute_38 : decode cX3_passMinute 38 = .ok (.iconst 0, 1) := by decide +kernel
theorem dX3_passMinute_39 : decode cX3_passMinute 39 = .ok (.invokevirtual 98, 3) := by decide +kernel
theorem dX3_passMinute_42 : decode cX3_passMinute 42 = .ok (.goto 26, 3) := by decide +kernel
theorem dX3_passMinute_45 : decode cX3_passMinute 45 = .ok (.aload_n 1, 1) := by decide +kernel
theorem dX3_passMinute_46 : decode cX3_passMinute 46 = .ok (.ifnull 22, 3) := by decide +kernel
theorem dX3_passMinute_49 : decode cX3_passMinute 49 = .ok (.aload_n 0, 1) := by decide +kernel
theorem dX3_passMinute_50 : decode cX3_passMinute 50 = .ok (.iload_n 2, 1) := by decide +kernel
theorem dX3_passMinute_51 : decode cX3_passMinute 51 = .ok (.invokevirtual 85, 3) := by decide +kernel
theorem dX3_passMinute_54 : decode cX3_passMinute 54 = .ok (.ifCond .eq 14, 3) := by decide +kernel
theorem dX3_passMinute_57 : decode cX3_passMinute 57 = .ok (.aload_n 0, 1) := by decide +kernel
theorem dX3_passMinute_58 : decode cX3_passMinute 58 = .ok (.iload_n 2, 1) := by decide +kernel
theorem dX3_passMinute_59 : decode cX3_passMinute 59 = .ok (.aload_n 1, 1) := by decide +kernel
theorem dX3_passMinute_60 : decode cX3_passMinute 60 = .ok (.iload_n 2, 1) := by decide +kernel
theorem dX3_passMinute_61 : decode cX3_passMinute 61 = .ok (.aload_n 0, 1) := by decide +kernel
theorem dX3_passMinute_62 : decode cX3_passMinute 62 = .ok (.invokevirtual 102, 3) := by decide +kernel
theorem dX3_passMinute_65 : decode cX3_passMinute 65 = .ok (.invokevirtual 98, 3) := by decide +kernel
theorem dX3_passMinute_68 : decode cX3_passMinute 68 = .ok (.iinc 2 1, 3) := by decide +kernel
theorem dX3_passMinute_71 : decode cX3_passMinute 71 = .ok (.goto (-69), 3) := by decide +kernel
theorem dX3_passMinute_74 : decode cX3_passMinute 74 = .ok (.aload_n 0, 1) := by decide +kernel
theorem dX3_passMinute_75 : decode cX3_passMinute 75 = .ok (.invokevirtual 108, 3) := by decide +kernel
theorem dX3_passMinute_78 : decode cX3_passMinute 78 = .ok (.istore_n 2, 1) := by decide +kernel
theorem dX3_passMinute_79 : decode cX3_passMinute 79 = .ok (.aload_n 0, 1) := by decide +kernel
theorem dX3_passMinute_80 : decode cX3_passMinute 80 = .ok (.dup, 1) := by decide +kernel
theorem dX3_passMinute_81 : decode cX3_passMinute 81 = .ok (.getfield 50, 3) := by decide +kernel
theorem dX3_passMinute_84 : decode cX3_passMinute 84 = .ok (.iconst 1, 1) := by decide +kernel
theorem dX3_passMinute_85 : decode cX3_passMinute 85 = .ok (.iadd, 1) := by decide +kernel
theorem dX3_passMinute_86 : decode cX3_passMinute 86 = .ok (.putfield 50, 3) := by decide +kernel
theorem dX3_passMinute_89 : decode cX3_passMinute 89 = .ok (.iload_n 2, 1) := by decide +kernel
theorem dX3_passMinute_90 : decode cX3_passMinute 90 = .ok (.ireturn, 1) := by decide +kernel
theorem dX4_add_0 : decode cX4_add 0 = .ok (.aload_n 0, 1) := by decide +kernel
theorem dX4_add_1 : decode cX4_add 1 = .ok (.getfield 28, 3) := by decide +kernel
theorem dX4_add_4 : decode cX4_add 4 = .ok (.sipush 400, 3) := by decide +kernel
theorem dX4_add_7 : decode cX4_add 7 = .ok (.if_icmp .ge 23, 3) := by decide +kernel
theorem dX4_add_10 : decode cX4_add 10 = .ok (.aload_n 0, 1) := by decide +kernel
theorem dX4_add_11 : decode cX4_add 11 = .ok (.getfield 9, 3) := by decide +kernel
theorem dX4_add_14 : decode cX4_add 14 = .ok (.aload_n 0, 1) := by decide +kernel
theorem dX4_add_15 : decode cX4_add 15 = .ok (.getfield 28, 3) := by decide +kernel
theorem dX4_add_18 : decode cX4_add 18 = .ok (.iload_n 1, 1) := by decide +kernel
theorem dX4_add_19 : decode cX4_add 19 = .ok (.iastore, 1) := by decide +kernel
theorem dX4_add_20 : decode cX4_add 20 = .ok (.aload_n 0, 1) := by decide +kernel
theorem dX4_add_21 : decode cX4_add 21 = .ok (.dup, 1) := by decide +kernel
theorem dX4_add_22 : decode cX4_add 22 = .ok (.getfield 28, 3) := by decide +kernel
theorem dX4_add_25 : decode cX4_add 25 = .ok (.iconst 1, 1) := by decide +kernel
theorem dX4_add_26 : decode cX4_add 26 = .ok (.iadd, 1) := by decide +kernel
theorem dX4_add_27 : decode cX4_add 27 = .ok (.putfield 28, 3) := by decide +kernel
theorem dX4_add_30 : decode cX4_add 30 = .ok (.return_, 1) := by decide +kernel
theorem dX4_clear_0 : decode cX4_clear 0 = .ok (.aload_n 0, 1) := by decide +kernel
theorem dX4_clear_1 : decode cX4_clear 1 = .ok (.iconst 0, 1) := by decide +kernel
theorem dX4_clear_2 : decode cX4_clear 2 = .ok (.putfield 28, 3) := by decide +kernel
theorem dX4_clear_5 : decode cX4_clear 5 = .ok (.aload_n 0, 1) := by decide +kernel
theorem dX4_clear_6 : decode cX4_clear 6 = .ok (.iconst 0, 1) := by decide +kernel
theorem dX4_clear_7 : decode cX4_clear 7 = .ok (.putfield 32, 3) := by decide +kernel
theorem dX4_clear_10 : decode cX4_clear 10 = .ok (.aload_n 0, 1) := by decide +kernel
theorem dX4_clear_11 : decode cX4_clear 11 = .ok (.iconst 0, 1) := by decide +kernel
theorem dX4_clear_12 : decode cX4_clear 12 = .ok (.putfield 35, 3) := by decide +kernel
theorem dX4_clear_15 : decode cX4_clear 15 = .ok (.return_, 1) := by decide +kernel
theorem dX4_closeClause_0 : decode cX4_closeClause 0 = .ok (.aload_n 0, 1) := by decide +kernel
theorem dX4_closeClause_1 : decode cX4_closeClause 1 = .ok (.getfield 32, 3) := by decide +kernel
theorem dX4_closeClause_4 : decode cX4_closeClause 4 = .ok (.bipush 12, 2) := by decide +kernel
theorem dX4_closeClause_6 : decode cX4_closeClause 6 = .ok (.if_icmp .ge 46, 3) := by decide +kernel
theorem dX4_closeClause_9 : decode cX4_closeClause 9 = .ok (.aload_n 0, 1) := by decide +kernel
theorem dX4_closeClause_10 : decode cX4_closeClause 10 = .ok (.getfield 15, 3) := by decide +kernel
theorem dX4_closeClause_13 : decode cX4_closeClause 13 = .ok (.aload_n 0, 1) := by decide +kernel
theorem dX4_closeClause_14 : decode cX4_closeClause 14 = .ok (.getfield 32, 3) := by decide +kernel
theorem dX4_closeClause_17 : decode cX4_closeClause 17 = .ok (.iload_n 1, 1) := by decide +kernel
theorem dX4_closeClause_18 : decode cX4_closeClause 18 = .ok (.iastore, 1) := by decide +kernel
theorem dX4_closeClause_19 : decode cX4_closeClause 19 = .ok (.aload_n 0, 1) := by decide +kernel
theorem dX4_closeClause_20 : decode cX4_closeClause 20 = .ok (.getfield 18, 3) := by decide +kernel
theorem dX4_closeClause_23 : decode cX4_closeClause 23 = .ok (.aload_n 0, 1) := by decide +kernel
theorem dX4_closeClause_24 : decode cX4_closeClause 24 = .ok (.getfield 32, 3) := by decide +kernel
theorem dX4_closeClause_27 : decode cX4_closeClause 27 = .ok (.iload_n 2, 1) := by decide +kernel
theorem dX4_closeClause_28 : decode cX4_closeClause 28 = .ok (.iastore, 1) := by decide +kernel
theorem dX4_closeClause_29 : decode cX4_closeClause 29 = .ok (.aload_n 0, 1) := by decide +kernel
theorem dX4_closeClause_30 : decode cX4_closeClause 30 = .ok (.getfield 21, 3) := by decide +kernel
theorem dX4_closeClause_33 : decode cX4_closeClause 33 = .ok (.aload_n 0, 1) := by decide +kernel
theorem dX4_closeClause_34 : decode cX4_closeClause 34 = .ok (.getfield 32, 3) := by decide +kernel
theorem dX4_closeClause_37 : decode cX4_closeClause 37 = .ok (.aload_n 0, 1) := by decide +kernel
theorem dX4_closeClause_38 : decode cX4_closeClause 38 = .ok (.getfield 28, 3) := by decide +kernel
theorem dX4_closeClause_41 : decode cX4_closeClause 41 = .ok (.iastore, 1) := by decide +kernel
theorem dX4_closeClause_42 : decode cX4_closeClause 42 = .ok (.aload_n 0, 1) := by decide +kernel
theorem dX4_closeClause_43 : decode cX4_closeClause 43 = .ok (.dup, 1) := by decide +kernel
theorem dX4_closeClause_44 : decode cX4_closeClause 44 = .ok (.getfield 32, 3) := by decide +kernel
theorem dX4_closeClause_47 : decode cX4_closeClause 47 = .ok (.iconst 1, 1) := by decide +kernel
theorem dX4_closeClause_48 : decode cX4_closeClause 48 = .ok (.iadd, 1) := by decide +kernel
theorem dX4_closeClause_49 : decode cX4_closeClause 49 = .ok (.putfield 32, 3) := by decide +kernel
theorem dX4_closeClause_52 : decode cX4_closeClause 52 = .ok (.return_, 1) := by decide +kernel
theorem dX4_combine_0 : decode cX4_combine 0 = .ok (.iload_n 0, 1) := by decide +kernel
theorem dX4_combine_1 : decode cX4_combine 1 = .ok (.lookupswitch 215 #[(37, 133), (42, 115), (43, 107), (45, 111), (47, 119), (60, 147), (61, 171), (62, 195), (256, 159), (257, 183), (275, 211), (276, 207)], 107) := by decide +kernel
theorem dX4_combine_108 : decode cX4_combine 108 = .ok (.lload_n 1, 1) := by decide +kernel
theorem dX4_combine_109 : decode cX4_combine 109 = .ok (.lload_n 3, 1) := by decide +kernel
theorem dX4_combine_110 : decode cX4_combine 110 = .ok (.ladd, 1) := by decide +kernel
theorem dX4_combine_111 : decode cX4_combine 111 = .ok (.lreturn, 1) := by decide +kernel
theorem dX4_combine_112 : decode cX4_combine 112 = .ok (.lload_n 1, 1) := by decide +kernel
theorem dX4_combine_113 : decode cX4_combine 113 = .ok (.lload_n 3, 1) := by decide +kernel
theorem dX4_combine_114 : decode cX4_combine 114 = .ok (.lsub, 1) := by decide +kernel
theorem dX4_combine_115 : decode cX4_combine 115 = .ok (.lreturn, 1) := by decide +kernel
theorem dX4_combine_116 : decode cX4_combine 116 = .ok (.lload_n 1, 1) := by decide +kernel
theorem dX4_combine_117 : decode cX4_combine 117 = .ok (.lload_n 3, 1) := by decide +kernel
theorem dX4_combine_118 : decode cX4_combine 118 = .ok (.lmul, 1) := by decide +kernel
theorem dX4_combine_119 : decode cX4_combine 119 = .ok (.lreturn, 1) := by decide +kernel
theorem dX4_combine_120 : decode cX4_combine 120 = .ok (.lload_n 3, 1) := by decide +kernel
theorem dX4_combine_121 : decode cX4_combine 121 = .ok (.lconst 0, 1) := by decide +kernel
theorem dX4_combine_122 : decode cX4_combine 122 = .ok (.lcmp, 1) := by decide +kernel
theorem dX4_combine_123 : decode cX4_combine 123 = .ok (.ifCond .ne 7, 3) := by decide +kernel
theorem dX4_combine_126 : decode cX4_combine 126 = .ok (.lconst 0, 1) := by decide +kernel
theorem dX4_combine_127 : decode cX4_combine 127 = .ok (.goto 6, 3) := by decide +kernel
theorem dX4_combine_130 : decode cX4_combine 130 = .ok (.lload_n 1, 1) := by decide +kernel
theorem dX4_combine_131 : decode cX4_combine 131 = .ok (.lload_n 3, 1) := by decide +kernel
theorem dX4_combine_132 : decode cX4_combine 132 = .ok (.ldiv, 1) := by decide +kernel
theorem dX4_combine_133 : decode cX4_combine 133 = .ok (.lreturn, 1) := by decide +kernel
theorem dX4_combine_134 : decode cX4_combine 134 = .ok (.lload_n 3, 1) := by decide +kernel
theorem dX4_combine_135 : decode cX4_combine 135 = .ok (.lconst 0, 1) := by decide +kernel
theorem dX4_combine_136 : decode cX4_combine 136 = .ok (.lcmp, 1) := by decide +kernel
theorem dX4_combine_137 : decode cX4_combine 137 = .ok (.ifCond .ne 7, 3) := by decide +kernel
theorem dX4_combine_140 : decode cX4_combine 140 = .ok (.lconst 0, 1) := by decide +kernel
theorem dX4_combine_141 : decode cX4_combine 141 = .ok (.goto 6, 3) := by decide +kernel
theorem dX4_combine_144 : decode cX4_combine 144 = .ok (.lload_n 1, 1) := by decide +kernel
theorem dX4_combine_145 : decode cX4_combine 145 = .ok (.lload_n 3, 1) := by decide +kernel
theorem dX4_combine_146 : decode cX4_combine 146 = .ok (.lrem, 1) := by decide +kernel
theorem dX4_combine_147 : decode cX4_combine 147 = .ok (.lreturn, 1) := by decide +kernel
theorem dX4_combine_148 : decode cX4_combine 148 = .ok (.lload_n 1, 1) := by decide +kernel
theorem dX4_combine_149 : decode cX4_combine 149 = .ok (.lload_n 3, 1) := by decide +kernel
theorem dX4_combine_150 : decode cX4_combine 150 = .ok (.lcmp, 1) := by decide +kernel
theorem dX4_combine_151 : decode cX4_combine 151 = .ok (.ifCond .ge 7, 3) := by decide +kernel
theorem dX4_combine_154 : decode cX4_combine 154 = .ok (.lconst 1, 1) := by decide +kernel
theorem dX4_combine_155 : decode cX4_combine 155 = .ok (.goto 4, 3) := by decide +kernel
theorem dX4_combine_158 : decode cX4_combine 158 = .ok (.lconst 0, 1) := by decide +kernel
theorem dX4_combine_159 : decode cX4_combine 159 = .ok (.lreturn, 1) := by decide +kernel
theorem dX4_combine_160 : decode cX4_combine 160 = .ok (.lload_n 1, 1) := by decide +kernel
theorem dX4_combine_161 : decode cX4_combine 161 = .ok (.lload_n 3, 1) := by decide +kernel
theorem dX4_combine_162 : decode cX4_combine 162 = .ok (.lcmp, 1) := by decide +kernel
theorem dX4_combine_163 : decode cX4_combine 163 = .ok (.ifCond .gt 7, 3) := by decide +kernel
theorem dX4_combine_166 : decode cX4_combine 166 = .ok (.lconst 1, 1) := by decide +kernel
theorem dX4_combine_167 : decode cX4_combine 167 = .ok (.goto 4, 3) := by decide +kernel
theorem dX4_combine_170 : decode cX4_combine 170 = .ok (.lconst 0, 1) := by decide +kernel
theorem dX4_combine_171 : decode cX4_combine 171 = .ok (.lreturn, 1) := by decide +kernel
theorem dX4_combine_172 : decode cX4_combine 172 = .ok (.lload_n 1, 1) := by decide +kernel
theorem dX4_combine_173 : decode cX4_combine 173 = .ok (.lload_n 3, 1) := by decide +kernel
theorem dX4_combine_174 : decode cX4_combine 174 = .ok (.lcmp, 1) := by decide +kernel
theorem dX4_combine_175 : decode cX4_combine 175 = .ok (.ifCond .ne 7, 3) := by decide +kernel
theorem dX4_combine_178 : decode cX4_combine 178 = .ok (.lconst 1, 1) := by decide +kernel
theorem dX4_combine_179 : decode cX4_combine 179 = .ok (.goto 4, 3) := by decide +kernel
theorem dX4_combine_182 : decode cX4_combine 182 = .ok (.lconst 0, 1) := by decide +kernel
theorem dX4_combine_183 : decode cX4_combine 183 = .ok (.lreturn, 1) := by decide +kernel
theorem dX4_combine_184 : decode cX4_combine 184 = .ok (.lload_n 1, 1) := by decide +kernel
theorem dX4_combine_185 : decode cX4_combine 185 = .ok (.lload_n 3, 1) := by decide +kernel
theorem dX4_combine_186 : decode cX4_combine 186 = .ok (.lcmp, 1) := by decide +kernel
theorem dX4_combine_187 : decode cX4_combine 187 = .ok (.ifCond .lt 7, 3) := by decide +kernel
theorem dX4_combine_190 : decode cX4_combine 190 = .ok (.lconst 1, 1) := by decide +kernel
theorem dX4_combine_191 : decode cX4_combine 191 = .ok (.goto 4, 3) := by decide +kernel
theorem dX4_combine_194 : decode cX4_combine 194 = .ok (.lconst 0, 1) := by decide +kernel
theorem dX4_combine_195 : decode cX4_combine 195 = .ok (.lreturn, 1) := by decide +kernel
theorem dX4_combine_196 : decode cX4_combine 196 = .ok (.lload_n 1, 1) := by decide +kernel
theorem dX4_combine_197 : decode cX4_combine 197 = .ok (.lload_n 3, 1) := by decide +kernel
theorem dX4_combine_198 : decode cX4_combine 198 = .ok (.lcmp, 1) := by decide +kernel
theorem dX4_combine_199 : decode cX4_combine 199 = .ok (.ifCond .le 7, 3) := by decide +kernel
theorem dX4_combine_202 : decode cX4_combine 202 = .ok (.lconst 1, 1) := by decide +kernel
theorem dX4_combine_203 : decode cX4_combine 203 = .ok (.goto 4, 3) := by decide +kernel
theorem dX4_combine_206 : decode cX4_combine 206 = .ok (.lconst 0, 1) := by decide +kernel
theorem dX4_combine_207 : decode cX4_combine 207 = .ok (.lreturn, 1) := by decide +kernel
theorem dX4_combine_208 : decode cX4_combine 208 = .ok (.lload_n 1, 1) := by decide +kernel
theorem dX4_combine_209 : decode cX4_combine 209 = .ok (.lload_n 3, 1) := by decide +kernel
theorem dX4_combine_210 : decode cX4_combine 210 = .ok (.land, 1) := by decide +kernel
theorem dX4_combine_211 : decode cX4_combine 211 = .ok (.lreturn, 1) := by decide +kernel
theorem dX4_combine_212 : decode cX4_combine 212 = .ok (.lload_n 1, 1) := by decide +kernel
theorem dX4_combine_213 : decode cX4_combine 213 = .ok (.lload_n 3, 1) := by decide +kernel
theorem dX4_combine_214 : decode cX4_combine 214 = .ok (.lor, 1) := by decide +kernel
theorem dX4_combine_215 : decode cX4_combine 215 = .ok (.lreturn, 1) := by decide +kernel
theorem dX4_combine_216 : decode cX4_combine 216 = .ok (.lconst 0, 1) := by decide +kernel
theorem dX4_combine_217 : decode cX4_combine 217 = .ok (.lreturn, 1) := by decide +kernel
theorem dX4_reckon_0 : decode cX4_reckon 0 = .ok (.iconst 0, 1) := by decide +kernel
theorem dX4_reckon_1 : decode cX4_reckon 1 = .ok (.istore 5, 2) := by decide +kernel
theorem dX4_reckon_3 : decode cX4_reckon 3 = .ok (.iload_n 1, 1) := by decide +kernel
theorem dX4_reckon_4 : decode cX4_reckon 4 = .ok (.istore 6, 2) := by decide +kernel
theorem dX4_reckon_6 : decode cX4_reckon 6 = .ok (.iload 6, 2) := by decide +kernel
theorem dX4_reckon_8 : decode cX4_reckon 8 = .ok (.iload_n 2, 1) := by decide +kernel
theorem dX4_reckon_9 : decode cX4_reckon 9 = .ok (.if_icmp .ge 182, 3) := by decide +kernel
theorem dX4_reckon_12 : decode cX4_reckon 12 = .ok (.iload 6, 2) := by decide +kernel
theorem dX4_reckon_14 : decode cX4_reckon 14 = .ok (.aload_n 0, 1) := by decide +kernel
theorem dX4_reckon_15 : decode cX4_reckon 15 = .ok (.getfield 28, 3) := by decide +kernel
theorem dX4_reckon_18 : decode cX4_reckon 18 = .ok (.if_icmp .ge 173, 3) := by decide +kernel
theorem dX4_reckon_21 : decode cX4_reckon 21 = .ok (.aload_n 0, 1) := by decide +kernel
theorem dX4_reckon_22 : decode cX4_reckon 22 = .ok (.getfield 9, 3) := by decide +kernel
theorem dX4_reckon_25 : decode cX4_reckon 25 = .ok (.iload 6, 2) := by decide +kernel
theorem dX4_reckon_27 : decode cX4_reckon 27 = .ok (.iaload, 1) := by decide +kernel
theorem dX4_reckon_28 : decode cX4_reckon 28 = .ok (.istore 7, 2) := by decide +kernel
theorem dX4_reckon_30 : decode cX4_reckon 30 = .ok (.iload 7, 2) := by decide +kernel
theorem dX4_reckon_32 : decode cX4_reckon 32 = .ok (.sipush 1000, 3) := by decide +kernel
theorem dX4_reckon_35 : decode cX4_reckon 35 = .ok (.if_icmp .lt 7, 3) := by decide +kernel
theorem dX4_reckon_38 : decode cX4_reckon 38 = .ok (.iconst 1, 1) := by decide +kernel
theorem dX4_reckon_39 : decode cX4_reckon 39 = .ok (.goto 4, 3) := by decide +kernel
theorem dX4_reckon_42 : decode cX4_reckon 42 = .ok (.iconst 0, 1) := by decide +kernel
theorem dX4_reckon_43 : decode cX4_reckon 43 = .ok (.istore 8, 2) := by decide +kernel
theorem dX4_reckon_45 : decode cX4_reckon 45 = .ok (.iload 8, 2) := by decide +kernel
theorem dX4_reckon_47 : decode cX4_reckon 47 = .ok (.ifCond .ne 19, 3) := by decide +kernel
theorem dX4_reckon_50 : decode cX4_reckon 50 = .ok (.iload 7, 2) := by decide +kernel
theorem dX4_reckon_52 : decode cX4_reckon 52 = .ok (.sipush 260, 3) := by decide +kernel
theorem dX4_reckon_55 : decode cX4_reckon 55 = .ok (.if_icmp .lt 55, 3) := by decide +kernel
theorem dX4_reckon_58 : decode cX4_reckon 58 = .ok (.iload 7, 2) := by decide +kernel
theorem dX4_reckon_60 : decode cX4_reckon 60 = .ok (.sipush 270, 3) := by decide +kernel
theorem dX4_reckon_63 : decode cX4_reckon 63 = .ok (.if_icmp .gt 47, 3) := by decide +kernel
theorem dX4_reckon_66 : decode cX4_reckon 66 = .ok (.iload 5, 2) := by decide +kernel
theorem dX4_reckon_68 : decode cX4_reckon 68 = .ok (.bipush 60, 2) := by decide +kernel
theorem dX4_reckon_70 : decode cX4_reckon 70 = .ok (.if_icmp .ge 115, 3) := by decide +kernel
theorem dX4_reckon_73 : decode cX4_reckon 73 = .ok (.aload_n 0, 1) := by decide +kernel
theorem dX4_reckon_74 : decode cX4_reckon 74 = .ok (.getfield 24, 3) := by decide +kernel
theorem dX4_reckon_77 : decode cX4_reckon 77 = .ok (.iload 5, 2) := by decide +kernel
theorem dX4_reckon_79 : decode cX4_reckon 79 = .ok (.iload 8, 2) := by decide +kernel
theorem dX4_reckon_81 : decode cX4_reckon 81 = .ok (.ifCond .eq 13, 3) := by decide +kernel
theorem dX4_reckon_84 : decode cX4_reckon 84 = .ok (.iload 7, 2) := by decide +kernel
theorem dX4_reckon_86 : decode cX4_reckon 86 = .ok (.sipush 1000, 3) := by decide +kernel
theorem dX4_reckon_89 : decode cX4_reckon 89 = .ok (.isub, 1) := by decide +kernel
theorem dX4_reckon_90 : decode cX4_reckon 90 = .ok (.i2l, 1) := by decide +kernel
theorem dX4_reckon_91 : decode cX4_reckon 91 = .ok (.goto 12, 3) := by decide +kernel
theorem dX4_reckon_94 : decode cX4_reckon 94 = .ok (.aload 4, 2) := by decide +kernel
theorem dX4_reckon_96 : decode cX4_reckon 96 = .ok (.iload 7, 2) := by decide +kernel
theorem dX4_reckon_98 : decode cX4_reckon 98 = .ok (.iload_n 3, 1) := by decide +kernel
theorem dX4_reckon_99 : decode cX4_reckon 99 = .ok (.invokevirtual 42, 3) := by decide +kernel
theorem dX4_reckon_102 : decode cX4_reckon 102 = .ok (.i2l, 1) := by decide +kernel
theorem dX4_reckon_103 : decode cX4_reckon 103 = .ok (.lastore, 1) := by decide +kernel
theorem dX4_reckon_104 : decode cX4_reckon 104 = .ok (.iinc 5 1, 3) := by decide +kernel
theorem dX4_reckon_107 : decode cX4_reckon 107 = .ok (.goto 78, 3) := by decide +kernel
theorem dX4_reckon_110 : decode cX4_reckon 110 = .ok (.iload 7, 2) := by decide +kernel
theorem dX4_reckon_112 : decode cX4_reckon 112 = .ok (.sipush 277, 3) := by decide +kernel
theorem dX4_reckon_115 : decode cX4_reckon 115 = .ok (.if_icmp .ne 31, 3) := by decide +kernel
theorem dX4_reckon_118 : decode cX4_reckon 118 = .ok (.iload 5, 2) := by decide +kernel
theorem dX4_reckon_120 : decode cX4_reckon 120 = .ok (.ifCond .le 65, 3) := by decide +kernel
theorem dX4_reckon_123 : decode cX4_reckon 123 = .ok (.aload_n 0, 1) := by decide +kernel
theorem dX4_reckon_124 : decode cX4_reckon 124 = .ok (.getfield 24, 3) := by decide +kernel
theorem dX4_reckon_127 : decode cX4_reckon 127 = .ok (.iload 5, 2) := by decide +kernel
theorem dX4_reckon_129 : decode cX4_reckon 129 = .ok (.iconst 1, 1) := by decide +kernel
theorem dX4_reckon_130 : decode cX4_reckon 130 = .ok (.isub, 1) := by decide +kernel
theorem dX4_reckon_131 : decode cX4_reckon 131 = .ok (.lconst 1, 1) := by decide +kernel
theorem dX4_reckon_132 : decode cX4_reckon 132 = .ok (.aload_n 0, 1) := by decide +kernel
theorem dX4_reckon_133 : decode cX4_reckon 133 = .ok (.getfield 24, 3) := by decide +kernel
theorem dX4_reckon_136 : decode cX4_reckon 136 = .ok (.iload 5, 2) := by decide +kernel
theorem dX4_reckon_138 : decode cX4_reckon 138 = .ok (.iconst 1, 1) := by decide +kernel
theorem dX4_reckon_139 : decode cX4_reckon 139 = .ok (.isub, 1) := by decide +kernel
theorem dX4_reckon_140 : decode cX4_reckon 140 = .ok (.laload, 1) := by decide +kernel
theorem dX4_reckon_141 : decode cX4_reckon 141 = .ok (.lsub, 1) := by decide +kernel
theorem dX4_reckon_142 : decode cX4_reckon 142 = .ok (.lastore, 1) := by decide +kernel
theorem dX4_reckon_143 : decode cX4_reckon 143 = .ok (.goto 42, 3) := by decide +kernel
theorem dX4_reckon_146 : decode cX4_reckon 146 = .ok (.iload 5, 2) := by decide +kernel
theorem dX4_reckon_148 : decode cX4_reckon 148 = .ok (.iconst 1, 1) := by decide +kernel
theorem dX4_reckon_149 : decode cX4_reckon 149 = .ok (.if_icmp .le 36, 3) := by decide +kernel
theorem dX4_reckon_152 : decode cX4_reckon 152 = .ok (.iinc 5 (-1), 3) := by decide +kernel
theorem dX4_reckon_155 : decode cX4_reckon 155 = .ok (.aload_n 0, 1) := by decide +kernel
theorem dX4_reckon_156 : decode cX4_reckon 156 = .ok (.getfield 24, 3) := by decide +kernel
theorem dX4_reckon_159 : decode cX4_reckon 159 = .ok (.iload 5, 2) := by decide +kernel
theorem dX4_reckon_161 : decode cX4_reckon 161 = .ok (.iconst 1, 1) := by decide +kernel
theorem dX4_reckon_162 : decode cX4_reckon 162 = .ok (.isub, 1) := by decide +kernel
theorem dX4_reckon_163 : decode cX4_reckon 163 = .ok (.iload 7, 2) := by decide +kernel
theorem dX4_reckon_165 : decode cX4_reckon 165 = .ok (.aload_n 0, 1) := by decide +kernel
theorem dX4_reckon_166 : decode cX4_reckon 166 = .ok (.getfield 24, 3) := by decide +kernel
theorem dX4_reckon_169 : decode cX4_reckon 169 = .ok (.iload 5, 2) := by decide +kernel
theorem dX4_reckon_171 : decode cX4_reckon 171 = .ok (.iconst 1, 1) := by decide +kernel
theorem dX4_reckon_172 : decode cX4_reckon 172 = .ok (.isub, 1) := by decide +kernel
theorem dX4_reckon_173 : decode cX4_reckon 173 = .ok (.laload, 1) := by decide +kernel
theorem dX4_reckon_174 : decode cX4_reckon 174 = .ok (.aload_n 0, 1) := by decide +kernel
theorem dX4_reckon_175 : decode cX4_reckon 175 = .ok (.getfield 24, 3) := by decide +kernel
theorem dX4_reckon_178 : decode cX4_reckon 178 = .ok (.iload 5, 2) := by decide +kernel
theorem dX4_reckon_180 : decode cX4_reckon 180 = .ok (.laload, 1) := by decide +kernel
theorem dX4_reckon_181 : decode cX4_reckon 181 = .ok (.invokestatic 48, 3) := by decide +kernel
theorem dX4_reckon_184 : decode cX4_reckon 184 = .ok (.lastore, 1) := by decide +kernel
theorem dX4_reckon_185 : decode cX4_reckon 185 = .ok (.iinc 6 1, 3) := by decide +kernel
theorem dX4_reckon_188 : decode cX4_reckon 188 = .ok (.goto (-182), 3) := by decide +kernel
theorem dX4_reckon_191 : decode cX4_reckon 191 = .ok (.iload 5, 2) := by decide +kernel
theorem dX4_reckon_193 : decode cX4_reckon 193 = .ok (.ifCond .le 15, 3) := by decide +kernel
theorem dX4_reckon_196 : decode cX4_reckon 196 = .ok (.aload_n 0, 1) := by decide +kernel
theorem dX4_reckon_197 : decode cX4_reckon 197 = .ok (.getfield 24, 3) := by decide +kernel
theorem dX4_reckon_200 : decode cX4_reckon 200 = .ok (.iload 5, 2) := by decide +kernel
theorem dX4_reckon_202 : decode cX4_reckon 202 = .ok (.iconst 1, 1) := by decide +kernel
theorem dX4_reckon_203 : decode cX4_reckon 203 = .ok (.isub, 1) := by decide +kernel
theorem dX4_reckon_204 : decode cX4_reckon 204 = .ok (.laload, 1) := by decide +kernel
theorem dX4_reckon_205 : decode cX4_reckon 205 = .ok (.goto 4, 3) := by decide +kernel
theorem dX4_reckon_208 : decode cX4_reckon 208 = .ok (.lconst 0, 1) := by decide +kernel
theorem dX4_reckon_209 : decode cX4_reckon 209 = .ok (.lreturn, 1) := by decide +kernel
theorem dX4_seats_0 : decode cX4_seats 0 = .ok (.iconst 0, 1) := by decide +kernel
theorem dX4_seats_1 : decode cX4_seats 1 = .ok (.istore_n 3, 1) := by decide +kernel
theorem dX4_seats_2 : decode cX4_seats 2 = .ok (.iload_n 3, 1) := by decide +kernel
theorem dX4_seats_3 : decode cX4_seats 3 = .ok (.aload_n 0, 1) := by decide +kernel
theorem dX4_seats_4 : decode cX4_seats 4 = .ok (.getfield 32, 3) := by decide +kernel
theorem dX4_seats_7 : decode cX4_seats 7 = .ok (.if_icmp .ge 88, 3) := by decide +kernel
theorem dX4_seats_10 : decode cX4_seats 10 = .ok (.aload_n 0, 1) := by decide +kernel
theorem dX4_seats_11 : decode cX4_seats 11 = .ok (.getfield 18, 3) := by decide +kernel
theorem dX4_seats_14 : decode cX4_seats 14 = .ok (.iload_n 3, 1) := by decide +kernel
theorem dX4_seats_15 : decode cX4_seats 15 = .ok (.iaload, 1) := by decide +kernel
theorem dX4_seats_16 : decode cX4_seats 16 = .ok (.aload_n 0, 1) := by decide +kernel
theorem dX4_seats_17 : decode cX4_seats 17 = .ok (.getfield 21, 3) := by decide +kernel
theorem dX4_seats_20 : decode cX4_seats 20 = .ok (.iload_n 3, 1) := by decide +kernel
theorem dX4_seats_21 : decode cX4_seats 21 = .ok (.iaload, 1) := by decide +kernel
theorem dX4_seats_22 : decode cX4_seats 22 = .ok (.if_icmp .ge 7, 3) := by decide +kernel
theorem dX4_seats_25 : decode cX4_seats 25 = .ok (.iconst 1, 1) := by decide +kernel
theorem dX4_seats_26 : decode cX4_seats 26 = .ok (.goto 4, 3) := by decide +kernel
theorem dX4_seats_29 : decode cX4_seats 29 = .ok (.iconst 0, 1) := by decide +kernel
theorem dX4_seats_30 : decode cX4_seats 30 = .ok (.istore 4, 2) := by decide +kernel
theorem dX4_seats_32 : decode cX4_seats 32 = .ok (.iload 4, 2) := by decide +kernel
theorem dX4_seats_34 : decode cX4_seats 34 = .ok (.ifCond .eq 26, 3) := by decide +kernel
theorem dX4_seats_37 : decode cX4_seats 37 = .ok (.aload_n 0, 1) := by decide +kernel
theorem dX4_seats_38 : decode cX4_seats 38 = .ok (.aload_n 0, 1) := by decide +kernel
theorem dX4_seats_39 : decode cX4_seats 39 = .ok (.getfield 18, 3) := by decide +kernel
theorem dX4_seats_42 : decode cX4_seats 42 = .ok (.iload_n 3, 1) := by decide +kernel
theorem dX4_seats_43 : decode cX4_seats 43 = .ok (.iaload, 1) := by decide +kernel
theorem dX4_seats_44 : decode cX4_seats 44 = .ok (.aload_n 0, 1) := by decide +kernel
theorem dX4_seats_45 : decode cX4_seats 45 = .ok (.getfield 21, 3) := by decide +kernel
theorem dX4_seats_48 : decode cX4_seats 48 = .ok (.iload_n 3, 1) := by decide +kernel
theorem dX4_seats_49 : decode cX4_seats 49 = .ok (.iaload, 1) := by decide +kernel
theorem dX4_seats_50 : decode cX4_seats 50 = .ok (.iload_n 1, 1) := by decide +kernel
theorem dX4_seats_51 : decode cX4_seats 51 = .ok (.aload_n 2, 1) := by decide +kernel
theorem dX4_seats_52 : decode cX4_seats 52 = .ok (.invokevirtual 38, 3) := by decide +kernel
theorem dX4_seats_55 : decode cX4_seats 55 = .ok (.lconst 0, 1) := by decide +kernel
theorem dX4_seats_56 : decode cX4_seats 56 = .ok (.lcmp, 1) := by decide +kernel
theorem dX4_seats_57 : decode cX4_seats 57 = .ok (.ifCond .eq 32, 3) := by decide +kernel
theorem dX4_seats_60 : decode cX4_seats 60 = .ok (.aload_n 0, 1) := by decide +kernel
theorem dX4_seats_61 : decode cX4_seats 61 = .ok (.aload_n 0, 1) := by decide +kernel
theorem dX4_seats_62 : decode cX4_seats 62 = .ok (.getfield 15, 3) := by decide +kernel
theorem dX4_seats_65 : decode cX4_seats 65 = .ok (.iload_n 3, 1) := by decide +kernel
theorem dX4_seats_66 : decode cX4_seats 66 = .ok (.iaload, 1) := by decide +kernel
theorem dX4_seats_67 : decode cX4_seats 67 = .ok (.aload_n 0, 1) := by decide +kernel
theorem dX4_seats_68 : decode cX4_seats 68 = .ok (.getfield 18, 3) := by decide +kernel
theorem dX4_seats_71 : decode cX4_seats 71 = .ok (.iload_n 3, 1) := by decide +kernel
theorem dX4_seats_72 : decode cX4_seats 72 = .ok (.iaload, 1) := by decide +kernel
theorem dX4_seats_73 : decode cX4_seats 73 = .ok (.iload_n 1, 1) := by decide +kernel
theorem dX4_seats_74 : decode cX4_seats 74 = .ok (.aload_n 2, 1) := by decide +kernel
theorem dX4_seats_75 : decode cX4_seats 75 = .ok (.invokevirtual 38, 3) := by decide +kernel
theorem dX4_seats_78 : decode cX4_seats 78 = .ok (.lconst 0, 1) := by decide +kernel
theorem dX4_seats_79 : decode cX4_seats 79 = .ok (.lcmp, 1) := by decide +kernel
theorem dX4_seats_80 : decode cX4_seats 80 = .ok (.ifCond .le 7, 3) := by decide +kernel
theorem dX4_seats_83 : decode cX4_seats 83 = .ok (.iconst 1, 1) := by decide +kernel
theorem dX4_seats_84 : decode cX4_seats 84 = .ok (.goto 4, 3) := by decide +kernel
theorem dX4_seats_87 : decode cX4_seats 87 = .ok (.iconst 0, 1) := by decide +kernel
theorem dX4_seats_88 : decode cX4_seats 88 = .ok (.ireturn, 1) := by decide +kernel
theorem dX4_seats_89 : decode cX4_seats 89 = .ok (.iinc 3 1, 3) := by decide +kernel
theorem dX4_seats_92 : decode cX4_seats 92 = .ok (.goto (-90), 3) := by decide +kernel
theorem dX4_seats_95 : decode cX4_seats 95 = .ok (.iconst 0, 1) := by decide +kernel
theorem dX4_seats_96 : decode cX4_seats 96 = .ok (.ireturn, 1) := by decide +kernel
set_option maxRecDepth 20000 in
theorem ggX0_takeBack_X3_weigh : GoodIn wsX0_takeBack wsX3_weigh := goodIn_r _ [14, 15, 16, 17, 18, 19, 20, 21, 22, 23, 24, 25, 26, 27, 13, 28, 29, 35, 36, 37, 38, 39, 40, 41, 42, 43, 44, 45, 46, 47, 48, 49, 50, 51] (by decide +kernel) (by decide +kernel)
set_option maxRecDepth 20000 in
theorem gX0_takeBack_X3_weigh : GoodIn wsX0_takeBack (wsV RX0 54 RX3 yX3_weigh wsX3_weigh) := goodIn_app (goodIn_of _ (by decide +kernel)) ggX0_takeBack_X3_weigh
set_option maxRecDepth 20000 in
theorem ggX2_agree_X3_stateOf : GoodIn wsX2_agree wsX3_stateOf := goodIn_r _ [9, 10, 11, 12, 13, 14, 8, 15, 16, 21, 22, 23, 24, 25, 26, 27, 28, 29, 30, 31, 32, 33, 34, 35, 36, 37] (by decide +kernel) (by decide +kernel)
set_option maxRecDepth 20000 in
theorem gX2_agree_X3_stateOf : GoodIn wsX2_agree (wsV RX2 37 RX3 yX3_stateOf wsX3_stateOf) := goodIn_app (goodIn_of _ (by decide +kernel)) ggX2_agree_X3_stateOf
set_option maxRecDepth 20000 in
theorem ggX3_passMinute_X3_isUp : GoodIn wsX3_passMinute wsX3_isUp := goodIn_r _ [19, 1, 20, 81, 82, 83, 84, 85, 86, 87, 88, 89, 90, 91, 92, 93, 94, 95, 96, 97] (by decide +kernel) (by decide +kernel)
set_option maxRecDepth 20000 in
theorem gX3_passMinute_X3_isUp : GoodIn wsX3_passMinute (wsV RX3 85 RX3 yX3_isUp wsX3_isUp) := goodIn_app (goodIn_of _ (by decide +kernel)) ggX3_passMinute_X3_isUp
set_option maxRecDepth 20000 in
theorem ggX3_passMinute_X3_seat : GoodIn wsX3_passMinute wsX3_seat := goodIn_r _ [9, 10, 11, 12, 13, 14, 15, 16, 17, 18, 8, 19, 1, 20, 21, 22, 23, 24, 81, 82, 83, 84, 85, 86, 87, 88, 89, 90, 91, 92, 93, 94, 95, 96, 97] (by decide +kernel) (by decide +kernel)
set_option maxRecDepth 20000 in
theorem gX3_passMinute_X3_seat : GoodIn wsX3_passMinute (wsV RX3 98 RX3 yX3_seat wsX3_seat) := goodIn_app (goodIn_of _ (by decide +kernel)) ggX3_passMinute_X3_seat
set_option maxRecDepth 20000 in
theorem ggX3_passMinute_X3_settle : GoodIn wsX3_passMinute wsX3_settle := goodIn_r _ [68, 12, 20, 69, 70, 71, 8, 72, 1, 45, 11, 51, 52, 53, 54, 10, 13, 46, 14, 73, 74, 75, 76, 15, 77, 78, 79, 80, 21, 22, 23, 24, 81, 82, 83, 84, 85, 86, 87, 88, 89, 90, 91, 92, 93, 94, 95, 96, 97] (by decide +kernel) (by decide +kernel)
set_option maxRecDepth 20000 in
theorem gX3_passMinute_X3_settle : GoodIn wsX3_passMinute (wsV RX3 108 RX3 yX3_settle wsX3_settle) := goodIn_app (goodIn_of _ (by decide +kernel)) ggX3_passMinute_X3_settle
set_option maxRecDepth 20000 in
theorem ggX3_passMinute_X4_seats : GoodIn wsX3_passMinute wsX4_seats := goodIn_r _ [29, 30, 31, 32, 33, 34, 35, 36, 28, 37, 38, 39, 40, 41, 42, 43, 8, 44, 10, 11, 14, 45, 46, 15, 13, 20, 4, 47, 48, 49, 50, 1, 21, 22, 23, 24, 12, 51, 52, 53, 54, 55, 56, 57, 58, 59, 60, 61, 62, 63, 64, 98, 99, 100, 101, 102, 103, 104, 105, 81, 82, 83, 84, 85, 86, 87, 88, 89, 90, 91, 92, 93, 94, 95, 96, 97] (by decide +kernel) (by decide +kernel)
set_option maxRecDepth 20000 in
theorem gX3_passMinute_X4_seats : GoodIn wsX3_passMinute (wsV RX3 102 RX4 yX4_seats wsX4_seats) := goodIn_app (goodIn_of _ (by decide +kernel)) ggX3_passMinute_X4_seats
set_option maxRecDepth 20000 in
theorem ggX4_reckon_X3_wordOf : GoodIn wsX4_reckon wsX3_wordOf := goodIn_r _ [8, 9, 10, 11, 12, 13, 14, 15, 16, 17, 18, 19, 20, 7, 21, 22, 23, 24, 25, 26, 27, 28, 29, 30, 31, 32, 33, 34, 35, 36, 37, 38, 51, 52, 53, 54, 55, 56, 57, 58, 59, 60, 61, 62, 63, 64, 65, 66, 67] (by decide +kernel) (by decide +kernel)
set_option maxRecDepth 20000 in
theorem gX4_reckon_X3_wordOf : GoodIn wsX4_reckon (wsV RX4 42 RX3 yX3_wordOf wsX3_wordOf) := goodIn_app (goodIn_of _ (by decide +kernel)) ggX4_reckon_X3_wordOf
set_option maxRecDepth 20000 in
theorem ggX4_reckon_X4_combine : GoodIn wsX4_reckon wsX4_combine := goodIn_r _ [42] (by decide +kernel) (by decide +kernel)
set_option maxRecDepth 20000 in
theorem gX4_reckon_X4_combine : GoodIn wsX4_reckon (va_wsS RX4 48 yX4_combine wsX4_combine) := goodIn_app (goodIn_of _ (by decide +kernel)) ggX4_reckon_X4_combine
set_option maxRecDepth 20000 in
theorem ggX4_seats_X4_reckon : GoodIn wsX4_seats wsX4_reckon := goodIn_r _ [9, 10, 11, 12, 13, 14, 15, 16, 17, 18, 19, 20, 21, 22, 23, 24, 25, 26, 27, 28, 29, 30, 31, 32, 33, 34, 35, 36, 37, 38, 39, 40, 41, 42, 43, 44, 45, 46, 47, 48, 49, 8, 50, 51, 52, 53, 54, 55, 56, 57, 58, 59, 60, 61, 62, 63, 64, 65, 66, 67, 68, 69, 70, 71, 72, 73, 74, 75] (by decide +kernel) (by decide +kernel)
set_option maxRecDepth 20000 in
theorem gX4_seats_X4_reckon : GoodIn wsX4_seats (wsV RX4 38 RX4 yX4_reckon wsX4_reckon) := goodIn_app (goodIn_of _ (by decide +kernel)) ggX4_seats_X4_reckon
def f_X0_forget (F : Nat)   (ac : OB) : Option (OB) :=
  some ((uF ac.1 4 0), ac.2.1, ac.2.2)
set_option maxHeartbeats 4000000 in
set_option maxRecDepth 100000 in
theorem c_X0_forget (l : Launch) (D : va_G) (k : Nat → ClassId) (sz : Nat)  (ca : Nat → Nat) (F : Nat)   (ac : OB)  {res : OB} (h : f_X0_forget F ac = some res) : CtV l yX0_forget wsX0_forget (rmK 1 0 0) [.ref (ca 0)] D k sz (acW k ca ac) (fun (_ : Unit) => True) (fun _ : Unit => acW k ca res) 0 0 := by
  refine CtV.mk (cc := cX0_forget) (maxL := 1) (ret := none) (by decide) rfl (Nat.le_of_ble_eq_true rfl) ?_
  intro p e s m below meth c A ls E hP hD hS hl
  obtain ⟨hx, hb, hr, hml, hown, hts, hlocks, hin, hG, hA⟩ := E
  have hown : s.vm.findClass RX0 = some m.cls := hown
  have in0 : ∀ w ∈ u_ws RX0 TX0 5, w ∈ wsX0_forget := fun _ h => List.mem_cons_of_mem _ (List.mem_append_right _ h)
  have hl : lv_has ls 1 [(0, .ref (ca 0))] := hl
  refine lv_aload_n hx hb dX0_forget_0 rfl (lv_at hl 0 rfl) ?_
  refine lv_iconst (v := 0) hx hb dX0_forget_1 (by decide) ?_
  refine va_put (D := D) (ci := 0) (v := .int 0) (C := RX0) (T := TX0) (N := 5) hx hb hts in0 tyX0 tyX0_ok nmX0 hown hG.1 hP hD hS 0 rfl rfl 4 (by decide) (hts (.fieldLink RX0 25 "ChairCane$Acts" "kept" "I") (by decide +kernel)) (fun _ h9 => h9) rfl (tyX0_ok 4 (by decide)) rfl rfl (Nat.le_of_ble_eq_true rfl) dX0_forget_2 (fun H locs hP hD hS => ?_)
  exact fw_endV (wp := fun b : OB => acW k ca b) hx hb hr hlocks h hP hD hS dX0_forget_5
def f_X2_forget (F : Nat)   (nt : OB) : Option (OB) :=
  some ((uF nt.1 3 0), nt.2.1, nt.2.2)
set_option maxHeartbeats 4000000 in
set_option maxRecDepth 100000 in
theorem c_X2_forget (l : Launch) (D : va_G) (k : Nat → ClassId) (sz : Nat)  (na : Nat → Nat) (F : Nat)   (nt : OB)  {res : OB} (h : f_X2_forget F nt = some res) : CtV l yX2_forget wsX2_forget (rmK 1 0 0) [.ref (na 0)] D k sz (ntW k na nt) (fun (_ : Unit) => True) (fun _ : Unit => ntW k na res) 0 0 := by
  refine CtV.mk (cc := cX2_forget) (maxL := 1) (ret := none) (by decide) rfl (Nat.le_of_ble_eq_true rfl) ?_
  intro p e s m below meth c A ls E hP hD hS hl
  obtain ⟨hx, hb, hr, hml, hown, hts, hlocks, hin, hG, hA⟩ := E
  have hown : s.vm.findClass RX2 = some m.cls := hown
  have in2 : ∀ w ∈ u_ws RX2 TX2 4, w ∈ wsX2_forget := fun _ h => List.mem_cons_of_mem _ (List.mem_append_right _ h)
  have hl : lv_has ls 1 [(0, .ref (na 0))] := hl
  refine lv_aload_n hx hb dX2_forget_0 rfl (lv_at hl 0 rfl) ?_
  refine lv_iconst (v := 0) hx hb dX2_forget_1 (by decide) ?_
  refine va_put (D := D) (ci := 1) (v := .int 0) (C := RX2) (T := TX2) (N := 4) hx hb hts in2 tyX2 tyX2_ok nmX2 hown hG.1 hP hD hS 0 rfl rfl 3 (by decide) (hts (.fieldLink RX2 21 "ChairCane$Notes" "many" "I") (by decide +kernel)) (fun _ h9 => h9) rfl (tyX2_ok 3 (by decide)) rfl rfl (Nat.le_of_ble_eq_true rfl) dX2_forget_2 (fun H locs hP hD hS => ?_)
  exact fw_endV (wp := fun b : OB => ntW k na b) hx hb hr hlocks h hP hD hS dX2_forget_5
def f_X4_clear (F : Nat)   (ru : OB) : Option (OB) :=
  some ((uF (uF (uF ru.1 5 0) 6 0) 7 0), ru.2.1, ru.2.2)
set_option maxHeartbeats 4000000 in
set_option maxRecDepth 100000 in
theorem c_X4_clear (l : Launch) (D : va_G) (k : Nat → ClassId) (sz : Nat)  (qa : Nat → Nat) (F : Nat)   (ru : OB)  {res : OB} (h : f_X4_clear F ru = some res) : CtV l yX4_clear wsX4_clear (rmK 1 0 0) [.ref (qa 0)] D k sz (ruW k qa ru) (fun (_ : Unit) => True) (fun _ : Unit => ruW k qa res) 0 0 := by
  refine CtV.mk (cc := cX4_clear) (maxL := 1) (ret := none) (by decide) rfl (Nat.le_of_ble_eq_true rfl) ?_
  intro p e s m below meth c A ls E hP hD hS hl
  obtain ⟨hx, hb, hr, hml, hown, hts, hlocks, hin, hG, hA⟩ := E
  have hown : s.vm.findClass RX4 = some m.cls := hown
  have in4 : ∀ w ∈ u_ws RX4 TX4 8, w ∈ wsX4_clear := fun _ h => List.mem_cons_of_mem _ (List.mem_append_right _ h)
  have hl : lv_has ls 1 [(0, .ref (qa 0))] := hl
  refine lv_aload_n hx hb dX4_clear_0 rfl (lv_at hl 0 rfl) ?_
  refine lv_iconst (v := 0) hx hb dX4_clear_1 (by decide) ?_
  refine va_put (D := D) (ci := 3) (v := .int 0) (C := RX4) (T := TX4) (N := 8) hx hb hts in4 tyX4 tyX4_ok nmX4 hown hG.1 hP hD hS 0 rfl rfl 5 (by decide) (hts (.fieldLink RX4 28 "ChairCane$Rule" "length" "I") (by decide +kernel)) (fun _ h9 => h9) rfl (tyX4_ok 5 (by decide)) rfl rfl (Nat.le_of_ble_eq_true rfl) dX4_clear_2 (fun H locs hP hD hS => ?_)
  refine lv_aload_n hx hb dX4_clear_5 rfl (lv_at hl 0 rfl) ?_
  refine lv_iconst (v := 0) hx hb dX4_clear_6 (by decide) ?_
  refine va_put (D := D) (ci := 3) (v := .int 0) (C := RX4) (T := TX4) (N := 8) hx hb hts in4 tyX4 tyX4_ok nmX4 hown hG.1 hP hD hS 0 rfl rfl 6 (by decide) (hts (.fieldLink RX4 32 "ChairCane$Rule" "clauses" "I") (by decide +kernel)) (fun _ h9 => h9) rfl (tyX4_ok 6 (by decide)) rfl rfl (Nat.le_of_ble_eq_true rfl) dX4_clear_7 (fun H locs hP hD hS => ?_)
  refine lv_aload_n hx hb dX4_clear_10 rfl (lv_at hl 0 rfl) ?_
  refine lv_iconst (v := 0) hx hb dX4_clear_11 (by decide) ?_
  refine va_put (D := D) (ci := 3) (v := .int 0) (C := RX4) (T := TX4) (N := 8) hx hb hts in4 tyX4 tyX4_ok nmX4 hown hG.1 hP hD hS 0 rfl rfl 7 (by decide) (hts (.fieldLink RX4 35 "ChairCane$Rule" "units" "I") (by decide +kernel)) (fun _ h9 => h9) rfl (tyX4_ok 7 (by decide)) rfl rfl (Nat.le_of_ble_eq_true rfl) dX4_clear_12 (fun H locs hP hD hS => ?_)
  exact fw_endV (wp := fun b : OB => ruW k qa b) hx hb hr hlocks h hP hD hS dX4_clear_15
def b_X4_add_30 (F : Nat)    (ru : OB) : Option (OB) :=
  some ru
def f_X4_add (F : Nat)  (x1 : Int32) (ru : OB) : Option (OB) :=
  if 400 ≤ (ru.1 5) then (b_X4_add_30 F ru) else (if ib (ru.1 5) 400 then (b_X4_add_30 F ((uF ru.1 5 ((ru.1 5) + 1)), (uF ru.2.1 0 (upd (ru.2.1 0) (Int32.toNatClampNeg (ru.1 5)) x1)), ru.2.2)) else none)
set_option maxHeartbeats 4000000 in
set_option maxRecDepth 100000 in
theorem c_X4_add (l : Launch) (D : va_G) (k : Nat → ClassId) (sz : Nat)  (qa : Nat → Nat) (F : Nat)  (x1 : Int32) (ru : OB)  {res : OB} (h : f_X4_add F x1 ru = some res) : CtV l yX4_add wsX4_add (rmK 1 0 0) [.ref (qa 0), .int x1] D k sz (ruW k qa ru) (fun (_ : Unit) => True) (fun _ : Unit => ruW k qa res) 0 0 := by
  refine CtV.mk (cc := cX4_add) (maxL := 2) (ret := none) (by decide) rfl (Nat.le_of_ble_eq_true rfl) ?_
  intro p e s m below meth c A ls E hP hD hS hl
  obtain ⟨hx, hb, hr, hml, hown, hts, hlocks, hin, hG, hA⟩ := E
  have hown : s.vm.findClass RX4 = some m.cls := hown
  have in4 : ∀ w ∈ u_ws RX4 TX4 8, w ∈ wsX4_add := fun _ h => List.mem_cons_of_mem _ (List.mem_append_right _ h)
  have hl : lv_has ls 2 [(0, .ref (qa 0)), (1, .int x1)] := hl
  have B30 : ∀ (ru : OB) (H : Heap) (locs : List Loc) (ls : Array Slot), b_X4_add_30 F ru = some res → va_P D vwCl (ruW k qa ru) H → va_D A (ruW k qa ru) → va_S A s.heap H locs → lv_has ls 2 [] → W p l e (rmK 1 0 0) s m (List.toArray [.ref (qa 0), .int x1]) below meth c H locs 0 0 (MQ below (va_Qv (fun (_ : Unit) => True) (hcB D (fun _ : Unit => ruW k qa res) A) A) (List.toArray [.ref (qa 0), .int x1]) s 0 0 A) (F0 m 30 ls []) := by
    intro ru H locs ls h hP hD hS hl
    exact fw_endV (wp := fun b : OB => ruW k qa b) hx hb hr hlocks h hP hD hS dX4_add_30
  refine lv_aload_n hx hb dX4_add_0 rfl (lv_at hl 0 rfl) ?_
  refine va_get (D := D) (ci := 3) (v := .int (ru.1 5)) (C := RX4) (T := TX4) (N := 8) hx hb hts in4 hown hG.1 hP 0 rfl rfl 5 (by decide) (hts (.fieldLink RX4 28 "ChairCane$Rule" "length" "I") (by decide +kernel)) (fun _ h9 => h9) rfl dX4_add_1 ?_
  refine lv_sipush (v := 400) hx hb dX4_add_4 (by decide) ?_
  refine lv_icmp_ge (tgt := 30) hx hb dX4_add_7 (by decide) (fun c1 => ?_) (fun c1 => ?_)
  · have h := fw_t c1 h
    exact B30 _ _ _ _ h hP hD hS (lv_sub hl [] rfl)
  · have h := fw_f c1 h
    refine lv_aload_n hx hb dX4_add_10 rfl (lv_at hl 0 rfl) ?_
    refine va_get (D := D) (ci := 3) (v := .ref (qa 1)) (C := RX4) (T := TX4) (N := 8) hx hb hts in4 hown hG.1 hP 0 rfl rfl 0 (by decide) (hts (.fieldLink RX4 9 "ChairCane$Rule" "steps" "[I") (by decide +kernel)) (fun _ h9 => h9) rfl dX4_add_11 ?_
    refine lv_aload_n hx hb dX4_add_14 rfl (lv_at hl 0 rfl) ?_
    refine va_get (D := D) (ci := 3) (v := .int (ru.1 5)) (C := RX4) (T := TX4) (N := 8) hx hb hts in4 hown hG.1 hP 0 rfl rfl 5 (by decide) (hts (.fieldLink RX4 28 "ChairCane$Rule" "length" "I") (by decide +kernel)) (fun _ h9 => h9) rfl dX4_add_15 ?_
    refine lv_iload_n hx hb dX4_add_18 rfl (lv_at hl 1 rfl) ?_
    obtain ⟨g2, h⟩ := fw_g h
    refine va_iast hx hb hG.1 hP hD hS 1 0 rfl rfl (ib_vp g2) dX4_add_19 (fun H locs hP hD hS => ?_)
    refine lv_aload_n hx hb dX4_add_20 rfl (lv_at hl 0 rfl) ?_
    refine lv_dup hx hb dX4_add_21 rfl ?_
    refine va_get (D := D) (ci := 3) (v := .int (ru.1 5)) (C := RX4) (T := TX4) (N := 8) hx hb hts in4 hown hG.1 hP 0 rfl rfl 5 (by decide) (hts (.fieldLink RX4 28 "ChairCane$Rule" "length" "I") (by decide +kernel)) (fun _ h9 => h9) rfl dX4_add_22 ?_
    refine lv_iconst (v := 1) hx hb dX4_add_25 (by decide) ?_
    refine lv_iadd hx hb dX4_add_26 ?_
    refine va_put (D := D) (ci := 3) (v := .int ((ru.1 5) + 1)) (C := RX4) (T := TX4) (N := 8) hx hb hts in4 tyX4 tyX4_ok nmX4 hown hG.1 hP hD hS 0 rfl rfl 5 (by decide) (hts (.fieldLink RX4 28 "ChairCane$Rule" "length" "I") (by decide +kernel)) (fun _ h9 => h9) rfl (tyX4_ok 5 (by decide)) rfl rfl (Nat.le_of_ble_eq_true rfl) dX4_add_27 (fun H locs hP hD hS => ?_)
    exact B30 _ _ _ _ h hP hD hS (lv_sub hl [] rfl)
def b_X4_closeClause_52 (F : Nat)    (ru : OB) : Option (OB) :=
  some ru
def f_X4_closeClause (F : Nat)  (x1 : Int32) (x2 : Int32) (ru : OB) : Option (OB) :=
  if 12 ≤ (ru.1 6) then (b_X4_closeClause_52 F ru) else (if ib (ru.1 6) 12 then (b_X4_closeClause_52 F ((uF ru.1 6 ((ru.1 6) + 1)), (uF (uF (uF ru.2.1 1 (upd (ru.2.1 1) (Int32.toNatClampNeg (ru.1 6)) x1)) 2 (upd (ru.2.1 2) (Int32.toNatClampNeg (ru.1 6)) x2)) 3 (upd (ru.2.1 3) (Int32.toNatClampNeg (ru.1 6)) (ru.1 5))), ru.2.2)) else none)
set_option maxHeartbeats 4000000 in
set_option maxRecDepth 100000 in
theorem c_X4_closeClause (l : Launch) (D : va_G) (k : Nat → ClassId) (sz : Nat)  (qa : Nat → Nat) (F : Nat)  (x1 : Int32) (x2 : Int32) (ru : OB)  {res : OB} (h : f_X4_closeClause F x1 x2 ru = some res) : CtV l yX4_closeClause wsX4_closeClause (rmK 1 0 0) [.ref (qa 0), .int x1, .int x2] D k sz (ruW k qa ru) (fun (_ : Unit) => True) (fun _ : Unit => ruW k qa res) 0 0 := by
  refine CtV.mk (cc := cX4_closeClause) (maxL := 3) (ret := none) (by decide) rfl (Nat.le_of_ble_eq_true rfl) ?_
  intro p e s m below meth c A ls E hP hD hS hl
  obtain ⟨hx, hb, hr, hml, hown, hts, hlocks, hin, hG, hA⟩ := E
  have hown : s.vm.findClass RX4 = some m.cls := hown
  have in4 : ∀ w ∈ u_ws RX4 TX4 8, w ∈ wsX4_closeClause := fun _ h => List.mem_cons_of_mem _ (List.mem_append_right _ h)
  have hl : lv_has ls 3 [(0, .ref (qa 0)), (1, .int x1), (2, .int x2)] := hl
  have B52 : ∀ (ru : OB) (H : Heap) (locs : List Loc) (ls : Array Slot), b_X4_closeClause_52 F ru = some res → va_P D vwCl (ruW k qa ru) H → va_D A (ruW k qa ru) → va_S A s.heap H locs → lv_has ls 3 [] → W p l e (rmK 1 0 0) s m (List.toArray [.ref (qa 0), .int x1, .int x2]) below meth c H locs 0 0 (MQ below (va_Qv (fun (_ : Unit) => True) (hcB D (fun _ : Unit => ruW k qa res) A) A) (List.toArray [.ref (qa 0), .int x1, .int x2]) s 0 0 A) (F0 m 52 ls []) := by
    intro ru H locs ls h hP hD hS hl
    exact fw_endV (wp := fun b : OB => ruW k qa b) hx hb hr hlocks h hP hD hS dX4_closeClause_52
  refine lv_aload_n hx hb dX4_closeClause_0 rfl (lv_at hl 0 rfl) ?_
  refine va_get (D := D) (ci := 3) (v := .int (ru.1 6)) (C := RX4) (T := TX4) (N := 8) hx hb hts in4 hown hG.1 hP 0 rfl rfl 6 (by decide) (hts (.fieldLink RX4 32 "ChairCane$Rule" "clauses" "I") (by decide +kernel)) (fun _ h9 => h9) rfl dX4_closeClause_1 ?_
  refine lv_bipush (v := 12) hx hb dX4_closeClause_4 (by decide) ?_
  refine lv_icmp_ge (tgt := 52) hx hb dX4_closeClause_6 (by decide) (fun c1 => ?_) (fun c1 => ?_)
  · have h := fw_t c1 h
    exact B52 _ _ _ _ h hP hD hS (lv_sub hl [] rfl)
  · have h := fw_f c1 h
    refine lv_aload_n hx hb dX4_closeClause_9 rfl (lv_at hl 0 rfl) ?_
    refine va_get (D := D) (ci := 3) (v := .ref (qa 2)) (C := RX4) (T := TX4) (N := 8) hx hb hts in4 hown hG.1 hP 0 rfl rfl 1 (by decide) (hts (.fieldLink RX4 15 "ChairCane$Rule" "sumFrom" "[I") (by decide +kernel)) (fun _ h9 => h9) rfl dX4_closeClause_10 ?_
    refine lv_aload_n hx hb dX4_closeClause_13 rfl (lv_at hl 0 rfl) ?_
    refine va_get (D := D) (ci := 3) (v := .int (ru.1 6)) (C := RX4) (T := TX4) (N := 8) hx hb hts in4 hown hG.1 hP 0 rfl rfl 6 (by decide) (hts (.fieldLink RX4 32 "ChairCane$Rule" "clauses" "I") (by decide +kernel)) (fun _ h9 => h9) rfl dX4_closeClause_14 ?_
    refine lv_iload_n hx hb dX4_closeClause_17 rfl (lv_at hl 1 rfl) ?_
    obtain ⟨g2, h⟩ := fw_g h
    refine va_iast hx hb hG.1 hP hD hS 2 0 rfl rfl (ib_vp g2) dX4_closeClause_18 (fun H locs hP hD hS => ?_)
    refine lv_aload_n hx hb dX4_closeClause_19 rfl (lv_at hl 0 rfl) ?_
    refine va_get (D := D) (ci := 3) (v := .ref (qa 3)) (C := RX4) (T := TX4) (N := 8) hx hb hts in4 hown hG.1 hP 0 rfl rfl 2 (by decide) (hts (.fieldLink RX4 18 "ChairCane$Rule" "sumTo" "[I") (by decide +kernel)) (fun _ h9 => h9) rfl dX4_closeClause_20 ?_
    refine lv_aload_n hx hb dX4_closeClause_23 rfl (lv_at hl 0 rfl) ?_
    refine va_get (D := D) (ci := 3) (v := .int (ru.1 6)) (C := RX4) (T := TX4) (N := 8) hx hb hts in4 hown hG.1 hP 0 rfl rfl 6 (by decide) (hts (.fieldLink RX4 32 "ChairCane$Rule" "clauses" "I") (by decide +kernel)) (fun _ h9 => h9) rfl dX4_closeClause_24 ?_
    refine lv_iload_n hx hb dX4_closeClause_27 rfl (lv_at hl 2 rfl) ?_
    refine va_iast hx hb hG.1 hP hD hS 3 0 rfl rfl (ib_vp g2) dX4_closeClause_28 (fun H locs hP hD hS => ?_)
    refine lv_aload_n hx hb dX4_closeClause_29 rfl (lv_at hl 0 rfl) ?_
    refine va_get (D := D) (ci := 3) (v := .ref (qa 4)) (C := RX4) (T := TX4) (N := 8) hx hb hts in4 hown hG.1 hP 0 rfl rfl 3 (by decide) (hts (.fieldLink RX4 21 "ChairCane$Rule" "testTo" "[I") (by decide +kernel)) (fun _ h9 => h9) rfl dX4_closeClause_30 ?_
    refine lv_aload_n hx hb dX4_closeClause_33 rfl (lv_at hl 0 rfl) ?_
    refine va_get (D := D) (ci := 3) (v := .int (ru.1 6)) (C := RX4) (T := TX4) (N := 8) hx hb hts in4 hown hG.1 hP 0 rfl rfl 6 (by decide) (hts (.fieldLink RX4 32 "ChairCane$Rule" "clauses" "I") (by decide +kernel)) (fun _ h9 => h9) rfl dX4_closeClause_34 ?_
    refine lv_aload_n hx hb dX4_closeClause_37 rfl (lv_at hl 0 rfl) ?_
    refine va_get (D := D) (ci := 3) (v := .int (ru.1 5)) (C := RX4) (T := TX4) (N := 8) hx hb hts in4 hown hG.1 hP 0 rfl rfl 5 (by decide) (hts (.fieldLink RX4 28 "ChairCane$Rule" "length" "I") (by decide +kernel)) (fun _ h9 => h9) rfl dX4_closeClause_38 ?_
    refine va_iast hx hb hG.1 hP hD hS 4 0 rfl rfl (ib_vp g2) dX4_closeClause_41 (fun H locs hP hD hS => ?_)
    refine lv_aload_n hx hb dX4_closeClause_42 rfl (lv_at hl 0 rfl) ?_
    refine lv_dup hx hb dX4_closeClause_43 rfl ?_
    refine va_get (D := D) (ci := 3) (v := .int (ru.1 6)) (C := RX4) (T := TX4) (N := 8) hx hb hts in4 hown hG.1 hP 0 rfl rfl 6 (by decide) (hts (.fieldLink RX4 32 "ChairCane$Rule" "clauses" "I") (by decide +kernel)) (fun _ h9 => h9) rfl dX4_closeClause_44 ?_
    refine lv_iconst (v := 1) hx hb dX4_closeClause_47 (by decide) ?_
    refine lv_iadd hx hb dX4_closeClause_48 ?_
    refine va_put (D := D) (ci := 3) (v := .int ((ru.1 6) + 1)) (C := RX4) (T := TX4) (N := 8) hx hb hts in4 tyX4 tyX4_ok nmX4 hown hG.1 hP hD hS 0 rfl rfl 6 (by decide) (hts (.fieldLink RX4 32 "ChairCane$Rule" "clauses" "I") (by decide +kernel)) (fun _ h9 => h9) rfl (tyX4_ok 6 (by decide)) rfl rfl (Nat.le_of_ble_eq_true rfl) dX4_closeClause_49 (fun H locs hP hD hS => ?_)
    exact B52 _ _ _ _ h hP hD hS (lv_sub hl [] rfl)
