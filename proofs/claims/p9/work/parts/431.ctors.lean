/-! the constructors of the class's own parts -/
theorem dX0_init_0 : decode cX0_init 0 = .ok (.aload_n 0, 1) := of_0 ok_aload_n_0 (by decide +kernel)
theorem dX0_init_1 : decode cX0_init 1 = .ok (.invokespecial 3, 3) := of_u2 ok_invokespecial 0 3 (by decide +kernel)
theorem dX0_init_4 : decode cX0_init 4 = .ok (.aload_n 0, 1) := of_0 ok_aload_n_0 (by decide +kernel)
theorem dX0_init_5 : decode cX0_init 5 = .ok (.bipush 20, 2) := of_s1 ok_bipush 20 (by decide +kernel)
theorem dX0_init_7 : decode cX0_init 7 = .ok (.newarray .int, 2) := by decide +kernel
theorem dX0_init_9 : decode cX0_init 9 = .ok (.putfield 9, 3) := of_u2 ok_putfield 0 9 (by decide +kernel)
theorem dX0_init_12 : decode cX0_init 12 = .ok (.aload_n 0, 1) := of_0 ok_aload_n_0 (by decide +kernel)
theorem dX0_init_13 : decode cX0_init 13 = .ok (.bipush 20, 2) := of_s1 ok_bipush 20 (by decide +kernel)
theorem dX0_init_15 : decode cX0_init 15 = .ok (.newarray .int, 2) := by decide +kernel
theorem dX0_init_17 : decode cX0_init 17 = .ok (.putfield 15, 3) := of_u2 ok_putfield 0 15 (by decide +kernel)
theorem dX0_init_20 : decode cX0_init 20 = .ok (.aload_n 0, 1) := of_0 ok_aload_n_0 (by decide +kernel)
theorem dX0_init_21 : decode cX0_init 21 = .ok (.bipush 20, 2) := of_s1 ok_bipush 20 (by decide +kernel)
theorem dX0_init_23 : decode cX0_init 23 = .ok (.newarray .int, 2) := by decide +kernel
theorem dX0_init_25 : decode cX0_init 25 = .ok (.putfield 18, 3) := of_u2 ok_putfield 0 18 (by decide +kernel)
theorem dX0_init_28 : decode cX0_init 28 = .ok (.aload_n 0, 1) := of_0 ok_aload_n_0 (by decide +kernel)
theorem dX0_init_29 : decode cX0_init 29 = .ok (.iconst 0, 1) := of_0 ok_iconst_0 (by decide +kernel)
theorem dX0_init_30 : decode cX0_init 30 = .ok (.putfield 21, 3) := of_u2 ok_putfield 0 21 (by decide +kernel)
theorem dX0_init_33 : decode cX0_init 33 = .ok (.aload_n 0, 1) := of_0 ok_aload_n_0 (by decide +kernel)
theorem dX0_init_34 : decode cX0_init 34 = .ok (.iconst 0, 1) := of_0 ok_iconst_0 (by decide +kernel)
theorem dX0_init_35 : decode cX0_init 35 = .ok (.putfield 25, 3) := of_u2 ok_putfield 0 25 (by decide +kernel)
theorem dX0_init_38 : decode cX0_init 38 = .ok (.return_, 1) := of_0 ok_return_ (by decide +kernel)
theorem dX2_init_0 : decode cX2_init 0 = .ok (.aload_n 0, 1) := of_0 ok_aload_n_0 (by decide +kernel)
theorem dX2_init_1 : decode cX2_init 1 = .ok (.invokespecial 3, 3) := of_u2 ok_invokespecial 0 3 (by decide +kernel)
theorem dX2_init_4 : decode cX2_init 4 = .ok (.aload_n 0, 1) := of_0 ok_aload_n_0 (by decide +kernel)
theorem dX2_init_5 : decode cX2_init 5 = .ok (.bipush 10, 2) := of_s1 ok_bipush 10 (by decide +kernel)
theorem dX2_init_7 : decode cX2_init 7 = .ok (.newarray .int, 2) := by decide +kernel
theorem dX2_init_9 : decode cX2_init 9 = .ok (.putfield 9, 3) := of_u2 ok_putfield 0 9 (by decide +kernel)
theorem dX2_init_12 : decode cX2_init 12 = .ok (.aload_n 0, 1) := of_0 ok_aload_n_0 (by decide +kernel)
theorem dX2_init_13 : decode cX2_init 13 = .ok (.bipush 10, 2) := of_s1 ok_bipush 10 (by decide +kernel)
theorem dX2_init_15 : decode cX2_init 15 = .ok (.newarray .int, 2) := by decide +kernel
theorem dX2_init_17 : decode cX2_init 17 = .ok (.putfield 15, 3) := of_u2 ok_putfield 0 15 (by decide +kernel)
theorem dX2_init_20 : decode cX2_init 20 = .ok (.aload_n 0, 1) := of_0 ok_aload_n_0 (by decide +kernel)
theorem dX2_init_21 : decode cX2_init 21 = .ok (.bipush 10, 2) := of_s1 ok_bipush 10 (by decide +kernel)
theorem dX2_init_23 : decode cX2_init 23 = .ok (.newarray .int, 2) := by decide +kernel
theorem dX2_init_25 : decode cX2_init 25 = .ok (.putfield 18, 3) := of_u2 ok_putfield 0 18 (by decide +kernel)
theorem dX2_init_28 : decode cX2_init 28 = .ok (.aload_n 0, 1) := of_0 ok_aload_n_0 (by decide +kernel)
theorem dX2_init_29 : decode cX2_init 29 = .ok (.iconst 0, 1) := of_0 ok_iconst_0 (by decide +kernel)
theorem dX2_init_30 : decode cX2_init 30 = .ok (.putfield 21, 3) := of_u2 ok_putfield 0 21 (by decide +kernel)
theorem dX2_init_33 : decode cX2_init 33 = .ok (.return_, 1) := of_0 ok_return_ (by decide +kernel)
theorem dX3_init_0 : decode cX3_init 0 = .ok (.aload_n 0, 1) := of_0 ok_aload_n_0 (by decide +kernel)
theorem dX3_init_1 : decode cX3_init 1 = .ok (.invokespecial 3, 3) := of_u2 ok_invokespecial 0 3 (by decide +kernel)
theorem dX3_init_4 : decode cX3_init 4 = .ok (.aload_n 0, 1) := of_0 ok_aload_n_0 (by decide +kernel)
theorem dX3_init_5 : decode cX3_init 5 = .ok (.iconst 0, 1) := of_0 ok_iconst_0 (by decide +kernel)
theorem dX3_init_6 : decode cX3_init 6 = .ok (.putfield 9, 3) := of_u2 ok_putfield 0 9 (by decide +kernel)
theorem dX3_init_9 : decode cX3_init 9 = .ok (.aload_n 0, 1) := of_0 ok_aload_n_0 (by decide +kernel)
theorem dX3_init_10 : decode cX3_init 10 = .ok (.iconst 0, 1) := of_0 ok_iconst_0 (by decide +kernel)
theorem dX3_init_11 : decode cX3_init 11 = .ok (.putfield 15, 3) := of_u2 ok_putfield 0 15 (by decide +kernel)
theorem dX3_init_14 : decode cX3_init 14 = .ok (.aload_n 0, 1) := of_0 ok_aload_n_0 (by decide +kernel)
theorem dX3_init_15 : decode cX3_init 15 = .ok (.iconst 0, 1) := of_0 ok_iconst_0 (by decide +kernel)
theorem dX3_init_16 : decode cX3_init 16 = .ok (.putfield 19, 3) := of_u2 ok_putfield 0 19 (by decide +kernel)
theorem dX3_init_19 : decode cX3_init 19 = .ok (.aload_n 0, 1) := of_0 ok_aload_n_0 (by decide +kernel)
theorem dX3_init_20 : decode cX3_init 20 = .ok (.iconst 0, 1) := of_0 ok_iconst_0 (by decide +kernel)
theorem dX3_init_21 : decode cX3_init 21 = .ok (.putfield 22, 3) := of_u2 ok_putfield 0 22 (by decide +kernel)
theorem dX3_init_24 : decode cX3_init 24 = .ok (.aload_n 0, 1) := of_0 ok_aload_n_0 (by decide +kernel)
theorem dX3_init_25 : decode cX3_init 25 = .ok (.iconst 4, 1) := of_0 ok_iconst_4 (by decide +kernel)
theorem dX3_init_26 : decode cX3_init 26 = .ok (.newarray .int, 2) := by decide +kernel
theorem dX3_init_28 : decode cX3_init 28 = .ok (.putfield 25, 3) := of_u2 ok_putfield 0 25 (by decide +kernel)
theorem dX3_init_31 : decode cX3_init 31 = .ok (.aload_n 0, 1) := of_0 ok_aload_n_0 (by decide +kernel)
theorem dX3_init_32 : decode cX3_init 32 = .ok (.bipush 8, 2) := of_s1 ok_bipush 8 (by decide +kernel)
theorem dX3_init_34 : decode cX3_init 34 = .ok (.newarray .int, 2) := by decide +kernel
theorem dX3_init_36 : decode cX3_init 36 = .ok (.putfield 29, 3) := of_u2 ok_putfield 0 29 (by decide +kernel)
theorem dX3_init_39 : decode cX3_init 39 = .ok (.aload_n 0, 1) := of_0 ok_aload_n_0 (by decide +kernel)
theorem dX3_init_40 : decode cX3_init 40 = .ok (.bipush 8, 2) := of_s1 ok_bipush 8 (by decide +kernel)
theorem dX3_init_42 : decode cX3_init 42 = .ok (.newarray .int, 2) := by decide +kernel
theorem dX3_init_44 : decode cX3_init 44 = .ok (.putfield 32, 3) := of_u2 ok_putfield 0 32 (by decide +kernel)
theorem dX3_init_47 : decode cX3_init 47 = .ok (.aload_n 0, 1) := of_0 ok_aload_n_0 (by decide +kernel)
theorem dX3_init_48 : decode cX3_init 48 = .ok (.bipush 8, 2) := of_s1 ok_bipush 8 (by decide +kernel)
theorem dX3_init_50 : decode cX3_init 50 = .ok (.newarray .int, 2) := by decide +kernel
theorem dX3_init_52 : decode cX3_init 52 = .ok (.putfield 35, 3) := of_u2 ok_putfield 0 35 (by decide +kernel)
theorem dX3_init_55 : decode cX3_init 55 = .ok (.aload_n 0, 1) := of_0 ok_aload_n_0 (by decide +kernel)
theorem dX3_init_56 : decode cX3_init 56 = .ok (.bipush 8, 2) := of_s1 ok_bipush 8 (by decide +kernel)
theorem dX3_init_58 : decode cX3_init 58 = .ok (.newarray .int, 2) := by decide +kernel
theorem dX3_init_60 : decode cX3_init 60 = .ok (.putfield 38, 3) := of_u2 ok_putfield 0 38 (by decide +kernel)
theorem dX3_init_63 : decode cX3_init 63 = .ok (.aload_n 0, 1) := of_0 ok_aload_n_0 (by decide +kernel)
theorem dX3_init_64 : decode cX3_init 64 = .ok (.iconst 4, 1) := of_0 ok_iconst_4 (by decide +kernel)
theorem dX3_init_65 : decode cX3_init 65 = .ok (.newarray .int, 2) := by decide +kernel
theorem dX3_init_67 : decode cX3_init 67 = .ok (.putfield 41, 3) := of_u2 ok_putfield 0 41 (by decide +kernel)
theorem dX3_init_70 : decode cX3_init 70 = .ok (.aload_n 0, 1) := of_0 ok_aload_n_0 (by decide +kernel)
theorem dX3_init_71 : decode cX3_init 71 = .ok (.iconst 0, 1) := of_0 ok_iconst_0 (by decide +kernel)
theorem dX3_init_72 : decode cX3_init 72 = .ok (.putfield 44, 3) := of_u2 ok_putfield 0 44 (by decide +kernel)
theorem dX3_init_75 : decode cX3_init 75 = .ok (.aload_n 0, 1) := of_0 ok_aload_n_0 (by decide +kernel)
theorem dX3_init_76 : decode cX3_init 76 = .ok (.iconst 0, 1) := of_0 ok_iconst_0 (by decide +kernel)
theorem dX3_init_77 : decode cX3_init 77 = .ok (.putfield 47, 3) := of_u2 ok_putfield 0 47 (by decide +kernel)
theorem dX3_init_80 : decode cX3_init 80 = .ok (.aload_n 0, 1) := of_0 ok_aload_n_0 (by decide +kernel)
theorem dX3_init_81 : decode cX3_init 81 = .ok (.iconst 0, 1) := of_0 ok_iconst_0 (by decide +kernel)
theorem dX3_init_82 : decode cX3_init 82 = .ok (.putfield 50, 3) := of_u2 ok_putfield 0 50 (by decide +kernel)
theorem dX3_init_85 : decode cX3_init 85 = .ok (.aload_n 0, 1) := of_0 ok_aload_n_0 (by decide +kernel)
theorem dX3_init_86 : decode cX3_init 86 = .ok (.iconst 4, 1) := of_0 ok_iconst_4 (by decide +kernel)
theorem dX3_init_87 : decode cX3_init 87 = .ok (.newarray .int, 2) := by decide +kernel
theorem dX3_init_89 : decode cX3_init 89 = .ok (.putfield 53, 3) := of_u2 ok_putfield 0 53 (by decide +kernel)
theorem dX3_init_92 : decode cX3_init 92 = .ok (.aload_n 0, 1) := of_0 ok_aload_n_0 (by decide +kernel)
theorem dX3_init_93 : decode cX3_init 93 = .ok (.iconst 4, 1) := of_0 ok_iconst_4 (by decide +kernel)
theorem dX3_init_94 : decode cX3_init 94 = .ok (.newarray .int, 2) := by decide +kernel
theorem dX3_init_96 : decode cX3_init 96 = .ok (.putfield 56, 3) := of_u2 ok_putfield 0 56 (by decide +kernel)
theorem dX3_init_99 : decode cX3_init 99 = .ok (.aload_n 0, 1) := of_0 ok_aload_n_0 (by decide +kernel)
theorem dX3_init_100 : decode cX3_init 100 = .ok (.iconst 0, 1) := of_0 ok_iconst_0 (by decide +kernel)
theorem dX3_init_101 : decode cX3_init 101 = .ok (.putfield 59, 3) := of_u2 ok_putfield 0 59 (by decide +kernel)
theorem dX3_init_104 : decode cX3_init 104 = .ok (.aload_n 0, 1) := of_0 ok_aload_n_0 (by decide +kernel)
theorem dX3_init_105 : decode cX3_init 105 = .ok (.iconst 0, 1) := of_0 ok_iconst_0 (by decide +kernel)
theorem dX3_init_106 : decode cX3_init 106 = .ok (.putfield 62, 3) := of_u2 ok_putfield 0 62 (by decide +kernel)
theorem dX3_init_109 : decode cX3_init 109 = .ok (.return_, 1) := of_0 ok_return_ (by decide +kernel)
theorem dX4_init_0 : decode cX4_init 0 = .ok (.aload_n 0, 1) := of_0 ok_aload_n_0 (by decide +kernel)
theorem dX4_init_1 : decode cX4_init 1 = .ok (.invokespecial 3, 3) := of_u2 ok_invokespecial 0 3 (by decide +kernel)
theorem dX4_init_4 : decode cX4_init 4 = .ok (.aload_n 0, 1) := of_0 ok_aload_n_0 (by decide +kernel)
theorem dX4_init_5 : decode cX4_init 5 = .ok (.sipush 400, 3) := of_s2 ok_sipush 1 144 (by decide +kernel)
theorem dX4_init_8 : decode cX4_init 8 = .ok (.newarray .int, 2) := by decide +kernel
theorem dX4_init_10 : decode cX4_init 10 = .ok (.putfield 9, 3) := of_u2 ok_putfield 0 9 (by decide +kernel)
theorem dX4_init_13 : decode cX4_init 13 = .ok (.aload_n 0, 1) := of_0 ok_aload_n_0 (by decide +kernel)
theorem dX4_init_14 : decode cX4_init 14 = .ok (.bipush 12, 2) := of_s1 ok_bipush 12 (by decide +kernel)
theorem dX4_init_16 : decode cX4_init 16 = .ok (.newarray .int, 2) := by decide +kernel
theorem dX4_init_18 : decode cX4_init 18 = .ok (.putfield 15, 3) := of_u2 ok_putfield 0 15 (by decide +kernel)
theorem dX4_init_21 : decode cX4_init 21 = .ok (.aload_n 0, 1) := of_0 ok_aload_n_0 (by decide +kernel)
theorem dX4_init_22 : decode cX4_init 22 = .ok (.bipush 12, 2) := of_s1 ok_bipush 12 (by decide +kernel)
theorem dX4_init_24 : decode cX4_init 24 = .ok (.newarray .int, 2) := by decide +kernel
theorem dX4_init_26 : decode cX4_init 26 = .ok (.putfield 18, 3) := of_u2 ok_putfield 0 18 (by decide +kernel)
theorem dX4_init_29 : decode cX4_init 29 = .ok (.aload_n 0, 1) := of_0 ok_aload_n_0 (by decide +kernel)
theorem dX4_init_30 : decode cX4_init 30 = .ok (.bipush 12, 2) := of_s1 ok_bipush 12 (by decide +kernel)
theorem dX4_init_32 : decode cX4_init 32 = .ok (.newarray .int, 2) := by decide +kernel
theorem dX4_init_34 : decode cX4_init 34 = .ok (.putfield 21, 3) := of_u2 ok_putfield 0 21 (by decide +kernel)
theorem dX4_init_37 : decode cX4_init 37 = .ok (.aload_n 0, 1) := of_0 ok_aload_n_0 (by decide +kernel)
theorem dX4_init_38 : decode cX4_init 38 = .ok (.bipush 60, 2) := of_s1 ok_bipush 60 (by decide +kernel)
theorem dX4_init_40 : decode cX4_init 40 = .ok (.newarray .long, 2) := by decide +kernel
theorem dX4_init_42 : decode cX4_init 42 = .ok (.putfield 24, 3) := of_u2 ok_putfield 0 24 (by decide +kernel)
theorem dX4_init_45 : decode cX4_init 45 = .ok (.aload_n 0, 1) := of_0 ok_aload_n_0 (by decide +kernel)
theorem dX4_init_46 : decode cX4_init 46 = .ok (.iconst 0, 1) := of_0 ok_iconst_0 (by decide +kernel)
theorem dX4_init_47 : decode cX4_init 47 = .ok (.putfield 28, 3) := of_u2 ok_putfield 0 28 (by decide +kernel)
theorem dX4_init_50 : decode cX4_init 50 = .ok (.aload_n 0, 1) := of_0 ok_aload_n_0 (by decide +kernel)
theorem dX4_init_51 : decode cX4_init 51 = .ok (.iconst 0, 1) := of_0 ok_iconst_0 (by decide +kernel)
theorem dX4_init_52 : decode cX4_init 52 = .ok (.putfield 32, 3) := of_u2 ok_putfield 0 32 (by decide +kernel)
theorem dX4_init_55 : decode cX4_init 55 = .ok (.aload_n 0, 1) := of_0 ok_aload_n_0 (by decide +kernel)
theorem dX4_init_56 : decode cX4_init 56 = .ok (.iconst 0, 1) := of_0 ok_iconst_0 (by decide +kernel)
theorem dX4_init_57 : decode cX4_init 57 = .ok (.putfield 35, 3) := of_u2 ok_putfield 0 35 (by decide +kernel)
theorem dX4_init_60 : decode cX4_init 60 = .ok (.return_, 1) := of_0 ok_return_ (by decide +kernel)
theorem dX6_init_0 : decode cX6_init 0 = .ok (.aload_n 0, 1) := of_0 ok_aload_n_0 (by decide +kernel)
theorem dX6_init_1 : decode cX6_init 1 = .ok (.invokespecial 3, 3) := of_u2 ok_invokespecial 0 3 (by decide +kernel)
theorem dX6_init_4 : decode cX6_init 4 = .ok (.aload_n 0, 1) := of_0 ok_aload_n_0 (by decide +kernel)
theorem dX6_init_5 : decode cX6_init 5 = .ok (.new 9, 3) := of_u2 ok_new 0 9 (by decide +kernel)
theorem dX6_init_8 : decode cX6_init 8 = .ok (.dup, 1) := of_0 ok_dup (by decide +kernel)
theorem dX6_init_9 : decode cX6_init 9 = .ok (.invokespecial 11, 3) := of_u2 ok_invokespecial 0 11 (by decide +kernel)
theorem dX6_init_12 : decode cX6_init 12 = .ok (.putfield 12, 3) := of_u2 ok_putfield 0 12 (by decide +kernel)
theorem dX6_init_15 : decode cX6_init 15 = .ok (.aload_n 0, 1) := of_0 ok_aload_n_0 (by decide +kernel)
theorem dX6_init_16 : decode cX6_init 16 = .ok (.new 18, 3) := of_u2 ok_new 0 18 (by decide +kernel)
theorem dX6_init_19 : decode cX6_init 19 = .ok (.dup, 1) := of_0 ok_dup (by decide +kernel)
theorem dX6_init_20 : decode cX6_init 20 = .ok (.invokespecial 20, 3) := of_u2 ok_invokespecial 0 20 (by decide +kernel)
theorem dX6_init_23 : decode cX6_init 23 = .ok (.putfield 21, 3) := of_u2 ok_putfield 0 21 (by decide +kernel)
theorem dX6_init_26 : decode cX6_init 26 = .ok (.aload_n 0, 1) := of_0 ok_aload_n_0 (by decide +kernel)
theorem dX6_init_27 : decode cX6_init 27 = .ok (.new 25, 3) := of_u2 ok_new 0 25 (by decide +kernel)
theorem dX6_init_30 : decode cX6_init 30 = .ok (.dup, 1) := of_0 ok_dup (by decide +kernel)
theorem dX6_init_31 : decode cX6_init 31 = .ok (.invokespecial 27, 3) := of_u2 ok_invokespecial 0 27 (by decide +kernel)
theorem dX6_init_34 : decode cX6_init 34 = .ok (.putfield 28, 3) := of_u2 ok_putfield 0 28 (by decide +kernel)
theorem dX6_init_37 : decode cX6_init 37 = .ok (.aload_n 0, 1) := of_0 ok_aload_n_0 (by decide +kernel)
theorem dX6_init_38 : decode cX6_init 38 = .ok (.iconst (-1), 1) := of_0 ok_iconst_m1 (by decide +kernel)
theorem dX6_init_39 : decode cX6_init 39 = .ok (.putfield 32, 3) := of_u2 ok_putfield 0 32 (by decide +kernel)
theorem dX6_init_42 : decode cX6_init 42 = .ok (.aload_n 0, 1) := of_0 ok_aload_n_0 (by decide +kernel)
theorem dX6_init_43 : decode cX6_init 43 = .ok (.iconst 0, 1) := of_0 ok_iconst_0 (by decide +kernel)
theorem dX6_init_44 : decode cX6_init 44 = .ok (.putfield 36, 3) := of_u2 ok_putfield 0 36 (by decide +kernel)
theorem dX6_init_47 : decode cX6_init 47 = .ok (.return_, 1) := of_0 ok_return_ (by decide +kernel)
theorem dX7_init_0 : decode cX7_init 0 = .ok (.aload_n 0, 1) := of_0 ok_aload_n_0 (by decide +kernel)
theorem dX7_init_1 : decode cX7_init 1 = .ok (.invokespecial 3, 3) := of_u2 ok_invokespecial 0 3 (by decide +kernel)
theorem dX7_init_4 : decode cX7_init 4 = .ok (.aload_n 0, 1) := of_0 ok_aload_n_0 (by decide +kernel)
theorem dX7_init_5 : decode cX7_init 5 = .ok (.sipush 400, 3) := of_s2 ok_sipush 1 144 (by decide +kernel)
theorem dX7_init_8 : decode cX7_init 8 = .ok (.newarray .byte, 2) := by decide +kernel
theorem dX7_init_10 : decode cX7_init 10 = .ok (.putfield 9, 3) := of_u2 ok_putfield 0 9 (by decide +kernel)
theorem dX7_init_13 : decode cX7_init 13 = .ok (.aload_n 0, 1) := of_0 ok_aload_n_0 (by decide +kernel)
theorem dX7_init_14 : decode cX7_init 14 = .ok (.iconst 0, 1) := of_0 ok_iconst_0 (by decide +kernel)
theorem dX7_init_15 : decode cX7_init 15 = .ok (.putfield 15, 3) := of_u2 ok_putfield 0 15 (by decide +kernel)
theorem dX7_init_18 : decode cX7_init 18 = .ok (.aload_n 0, 1) := of_0 ok_aload_n_0 (by decide +kernel)
theorem dX7_init_19 : decode cX7_init 19 = .ok (.sipush 401, 3) := of_s2 ok_sipush 1 145 (by decide +kernel)
theorem dX7_init_22 : decode cX7_init 22 = .ok (.newarray .int, 2) := by decide +kernel
theorem dX7_init_24 : decode cX7_init 24 = .ok (.putfield 19, 3) := of_u2 ok_putfield 0 19 (by decide +kernel)
theorem dX7_init_27 : decode cX7_init 27 = .ok (.aload_n 0, 1) := of_0 ok_aload_n_0 (by decide +kernel)
theorem dX7_init_28 : decode cX7_init 28 = .ok (.sipush 401, 3) := of_s2 ok_sipush 1 145 (by decide +kernel)
theorem dX7_init_31 : decode cX7_init 31 = .ok (.newarray .int, 2) := by decide +kernel
theorem dX7_init_33 : decode cX7_init 33 = .ok (.putfield 23, 3) := of_u2 ok_putfield 0 23 (by decide +kernel)
theorem dX7_init_36 : decode cX7_init 36 = .ok (.aload_n 0, 1) := of_0 ok_aload_n_0 (by decide +kernel)
theorem dX7_init_37 : decode cX7_init 37 = .ok (.sipush 401, 3) := of_s2 ok_sipush 1 145 (by decide +kernel)
theorem dX7_init_40 : decode cX7_init 40 = .ok (.newarray .int, 2) := by decide +kernel
theorem dX7_init_42 : decode cX7_init 42 = .ok (.putfield 26, 3) := of_u2 ok_putfield 0 26 (by decide +kernel)
theorem dX7_init_45 : decode cX7_init 45 = .ok (.aload_n 0, 1) := of_0 ok_aload_n_0 (by decide +kernel)
theorem dX7_init_46 : decode cX7_init 46 = .ok (.iconst 0, 1) := of_0 ok_iconst_0 (by decide +kernel)
theorem dX7_init_47 : decode cX7_init 47 = .ok (.putfield 29, 3) := of_u2 ok_putfield 0 29 (by decide +kernel)
theorem dX7_init_50 : decode cX7_init 50 = .ok (.aload_n 0, 1) := of_0 ok_aload_n_0 (by decide +kernel)
theorem dX7_init_51 : decode cX7_init 51 = .ok (.iconst 0, 1) := of_0 ok_iconst_0 (by decide +kernel)
theorem dX7_init_52 : decode cX7_init 52 = .ok (.putfield 32, 3) := of_u2 ok_putfield 0 32 (by decide +kernel)
theorem dX7_init_55 : decode cX7_init 55 = .ok (.aload_n 0, 1) := of_0 ok_aload_n_0 (by decide +kernel)
theorem dX7_init_56 : decode cX7_init 56 = .ok (.iconst 0, 1) := of_0 ok_iconst_0 (by decide +kernel)
theorem dX7_init_57 : decode cX7_init 57 = .ok (.putfield 35, 3) := of_u2 ok_putfield 0 35 (by decide +kernel)
theorem dX7_init_60 : decode cX7_init 60 = .ok (.return_, 1) := of_0 ok_return_ (by decide +kernel)
set_option maxRecDepth 20000 in
theorem ggX6_init_X0_init : GoodIn wsX6_init wsX0_init := good_rp ([40, 41, 2, 3, 25, 42, 43, 44, 45, 46, 76, 77, 78, 79, 80] : List Nat) rfl (by decide +kernel)
set_option maxRecDepth 20000 in
theorem gX6_init_X0_init_n20 : GoodIn wsX6_init (wsX0_init) := ggX6_init_X0_init
set_option maxRecDepth 20000 in
theorem ggX6_init_X2_init : GoodIn wsX6_init wsX2_init := good_rp ([48, 49, 2, 3, 25, 50, 51, 52, 53, 81, 82, 83, 84] : List Nat) rfl (by decide +kernel)
set_option maxRecDepth 20000 in
theorem gX6_init_X2_init_n27 : GoodIn wsX6_init (wsX2_init) := ggX6_init_X2_init
set_option maxRecDepth 20000 in
theorem ggX6_init_X3_init : GoodIn wsX6_init wsX3_init := good_rp ([19, 20, 2, 3, 21, 22, 23, 24, 25, 26, 27, 28, 29, 30, 31, 32, 33, 34, 35, 36, 37, 38, 54, 55, 56, 57, 58, 59, 60, 61, 62, 63, 64, 65, 66, 67, 68, 69, 70] : List Nat) rfl (by decide +kernel)
set_option maxRecDepth 20000 in
theorem gX6_init_X3_init_n11 : GoodIn wsX6_init (wsX3_init) := ggX6_init_X3_init
noncomputable def actsZ (k : Nat → ClassId) (h : Nat) (q : Nat → Nat) : va_W := ([(h, .inr (0, [.ref (q 0), .ref (q 1), .ref (q 2), .int 0, .int 0])), ((q 0), hcI k 20 (fun _ => 0)), ((q 1), hcI k 20 (fun _ => 0)), ((q 2), hcI k 20 (fun _ => 0))] : va_W)
noncomputable def notesZ (k : Nat → ClassId) (h : Nat) (q : Nat → Nat) : va_W := ([(h, .inr (1, [.ref (q 0), .ref (q 1), .ref (q 2), .int 0])), ((q 0), hcI k 10 (fun _ => 0)), ((q 1), hcI k 10 (fun _ => 0)), ((q 2), hcI k 10 (fun _ => 0))] : va_W)
noncomputable def roomZ (k : Nat → ClassId) (h : Nat) (q : Nat → Nat) : va_W := ([(h, .inr (2, [.int 0, .int 0, .int 0, .int 0, .ref (q 0), .ref (q 1), .ref (q 2), .ref (q 3), .ref (q 4), .ref (q 5), .int 0, .int 0, .int 0, .ref (q 6), .ref (q 7), .int 0, .int 0])), ((q 0), hcI k 4 (fun _ => 0)), ((q 1), hcI k 8 (fun _ => 0)), ((q 2), hcI k 8 (fun _ => 0)), ((q 3), hcI k 8 (fun _ => 0)), ((q 4), hcI k 8 (fun _ => 0)), ((q 5), hcI k 4 (fun _ => 0)), ((q 6), hcI k 4 (fun _ => 0)), ((q 7), hcI k 4 (fun _ => 0))] : va_W)
noncomputable def ruleZ (k : Nat → ClassId) (h : Nat) (q : Nat → Nat) : va_W := ([(h, .inr (3, [.ref (q 0), .ref (q 1), .ref (q 2), .ref (q 3), .ref (q 4), .int 0, .int 0, .int 0])), ((q 0), hcI k 400 (fun _ => 0)), ((q 1), hcI k 12 (fun _ => 0)), ((q 2), hcI k 12 (fun _ => 0)), ((q 3), hcI k 12 (fun _ => 0)), ((q 4), hcJ k 60 (fun _ => 0))] : va_W)
noncomputable def tapeZ (k : Nat → ClassId) (h : Nat) (q : Nat → Nat) : va_W := ([(h, .inr (5, [.ref (q 0), .int 0, .ref (q 1), .ref (q 2), .ref (q 3), .int 0, .int 0, .int 0])), ((q 0), hcY k 400 (fun _ => 0)), ((q 1), hcI k 401 (fun _ => 0)), ((q 2), hcI k 401 (fun _ => 0)), ((q 3), hcI k 401 (fun _ => 0))] : va_W)
noncomputable def standZ (k : Nat → ClassId) (h : Nat) (q : Nat → Nat) : va_W := ([(h, .inr (4, [.ref (q 0), .ref (q 1), .ref (q 2), .int (-1), .int 0])), ((q 0), .inr (2, [.int 0, .int 0, .int 0, .int 0, .ref (q 3), .ref (q 4), .ref (q 5), .ref (q 6), .ref (q 7), .ref (q 8), .int 0, .int 0, .int 0, .ref (q 9), .ref (q 10), .int 0, .int 0])), ((q 3), hcI k 4 (fun _ => 0)), ((q 4), hcI k 8 (fun _ => 0)), ((q 5), hcI k 8 (fun _ => 0)), ((q 6), hcI k 8 (fun _ => 0)), ((q 7), hcI k 8 (fun _ => 0)), ((q 8), hcI k 4 (fun _ => 0)), ((q 9), hcI k 4 (fun _ => 0)), ((q 10), hcI k 4 (fun _ => 0)), ((q 1), .inr (0, [.ref (q 11), .ref (q 12), .ref (q 13), .int 0, .int 0])), ((q 11), hcI k 20 (fun _ => 0)), ((q 12), hcI k 20 (fun _ => 0)), ((q 13), hcI k 20 (fun _ => 0)), ((q 2), .inr (1, [.ref (q 14), .ref (q 15), .ref (q 16), .int 0])), ((q 14), hcI k 10 (fun _ => 0)), ((q 15), hcI k 10 (fun _ => 0)), ((q 16), hcI k 10 (fun _ => 0))] : va_W)
set_option maxHeartbeats 4000000 in
set_option maxRecDepth 100000 in
theorem c_X0_init (l : Launch) (D : va_G) (k : Nat → ClassId) (sz : Nat) (h0 : Nat) : CtV l yX0_init wsX0_init (rmK 1 3 60) [.ref h0] D k sz (([(h0, .inr (0, [.null, .null, .null, .int 0, .int 0]))] : va_W)) (fun _ : Nat → Nat => True) (fun q : Nat → Nat => actsZ k h0 q) 3 60 := by
  refine CtV.mk (cc := cX0_init) (maxL := 1) (ret := none) (by decide) rfl (Nat.le_of_ble_eq_true rfl) ?_
  intro p e s m below meth c A ls E hP hD hS hl
  obtain ⟨hx, hb, hr, hml, hown, hts, hlocks, hin, hG, hA⟩ := E
  have hown : s.vm.findClass RX0 = some m.cls := hown
  have in0 : ∀ w ∈ u_ws RX0 TX0 5, w ∈ wsX0_init := fun _ h => List.mem_cons_of_mem _ (List.mem_append_right _ h)
  have hl : lv_has ls 1 [(0, .ref h0)] := hl
  refine lv_aload_n hx hb dX0_init_0 rfl (lv_at hl 0 rfl) ?_
  refine W.objInit hx hb hown (hts (.methodLink RX0 3 objectInit) (by decide +kernel)) (hts (.instanceMethod objectInit) (by decide +kernel)) (hts (.code objectInit ⟨#[0xb1]⟩ 1 none) (by decide +kernel)) rfl (by rw [hml]; exact hl.1) rfl dX0_init_1 (Nat.le_of_ble_eq_true rfl) (Nat.le_of_ble_eq_true rfl) ?_
  refine W.eq (g2 := F0 m 4 ls []) rfl ?_
  refine lv_aload_n hx hb dX0_init_4 rfl (lv_at hl 0 rfl) ?_
  refine lv_bipush (v := 20) hx hb dX0_init_5 (by decide) ?_
  refine hc_newI hx hb (hts (.arrayClass .int) (by decide +kernel)) hG hA hP hD hS 20 (by decide) ⟨Nat.le_of_ble_eq_true rfl, Nat.le_of_ble_eq_true rfl⟩ dX0_init_7 (fun q_1 H hP hD hS => ?_)
  refine va_putF (D := D) (ci := 0) (v := .ref q_1) (C := RX0) (T := TX0) (N := 5) hx hb hts in0 tyX0 tyX0_ok nmX0 hown hG.1 hP hD hS 0 rfl rfl 0 (by decide) (hts (.fieldLink RX0 9 "ChairCane$Acts" "seats" "[I") (by decide +kernel)) (fun _ h9 => h9) rfl hin rfl (tyX0_ok 0 (by decide)) rfl rfl (Nat.le_of_ble_eq_true rfl) dX0_init_9 (fun H locs hP hD hS => ?_)
  obtain ⟨hP, hD⟩ := cv (w' := ([(h0, .inr (0, [.ref q_1, .null, .null, .int 0, .int 0])), (q_1, hcI k 20 (fun _ => 0))] : va_W)) hP hD rfl
  refine lv_aload_n hx hb dX0_init_12 rfl (lv_at hl 0 rfl) ?_
  refine lv_bipush (v := 20) hx hb dX0_init_13 (by decide) ?_
  refine hc_newI hx hb (hts (.arrayClass .int) (by decide +kernel)) hG hA hP hD hS 20 (by decide) ⟨Nat.le_of_ble_eq_true rfl, Nat.le_of_ble_eq_true rfl⟩ dX0_init_15 (fun q_2 H hP hD hS => ?_)
  refine va_putF (D := D) (ci := 0) (v := .ref q_2) (C := RX0) (T := TX0) (N := 5) hx hb hts in0 tyX0 tyX0_ok nmX0 hown hG.1 hP hD hS 0 rfl rfl 1 (by decide) (hts (.fieldLink RX0 15 "ChairCane$Acts" "minutes" "[I") (by decide +kernel)) (fun _ h9 => h9) rfl hin rfl (tyX0_ok 1 (by decide)) rfl rfl (Nat.le_of_ble_eq_true rfl) dX0_init_17 (fun H locs hP hD hS => ?_)
  obtain ⟨hP, hD⟩ := cv (w' := ([(h0, .inr (0, [.ref q_1, .ref q_2, .null, .int 0, .int 0])), (q_1, hcI k 20 (fun _ => 0)), (q_2, hcI k 20 (fun _ => 0))] : va_W)) hP hD rfl
  refine lv_aload_n hx hb dX0_init_20 rfl (lv_at hl 0 rfl) ?_
  refine lv_bipush (v := 20) hx hb dX0_init_21 (by decide) ?_
  refine hc_newI hx hb (hts (.arrayClass .int) (by decide +kernel)) hG hA hP hD hS 20 (by decide) ⟨Nat.le_of_ble_eq_true rfl, Nat.le_of_ble_eq_true rfl⟩ dX0_init_23 (fun q_3 H hP hD hS => ?_)
  refine va_putF (D := D) (ci := 0) (v := .ref q_3) (C := RX0) (T := TX0) (N := 5) hx hb hts in0 tyX0 tyX0_ok nmX0 hown hG.1 hP hD hS 0 rfl rfl 2 (by decide) (hts (.fieldLink RX0 18 "ChairCane$Acts" "canes" "[I") (by decide +kernel)) (fun _ h9 => h9) rfl hin rfl (tyX0_ok 2 (by decide)) rfl rfl (Nat.le_of_ble_eq_true rfl) dX0_init_25 (fun H locs hP hD hS => ?_)
  obtain ⟨hP, hD⟩ := cv (w' := ([(h0, .inr (0, [.ref q_1, .ref q_2, .ref q_3, .int 0, .int 0])), (q_1, hcI k 20 (fun _ => 0)), (q_2, hcI k 20 (fun _ => 0)), (q_3, hcI k 20 (fun _ => 0))] : va_W)) hP hD rfl
  refine lv_aload_n hx hb dX0_init_28 rfl (lv_at hl 0 rfl) ?_
  refine lv_iconst (v := 0) hx hb dX0_init_29 (by decide) ?_
  refine va_put (D := D) (ci := 0) (v := .int 0) (C := RX0) (T := TX0) (N := 5) hx hb hts in0 tyX0 tyX0_ok nmX0 hown hG.1 hP hD hS 0 rfl rfl 3 (by decide) (hts (.fieldLink RX0 21 "ChairCane$Acts" "next" "I") (by decide +kernel)) (fun _ h9 => h9) rfl (tyX0_ok 3 (by decide)) rfl rfl (Nat.le_of_ble_eq_true rfl) dX0_init_30 (fun H locs hP hD hS => ?_)
  obtain ⟨hP, hD⟩ := cv (w' := ([(h0, .inr (0, [.ref q_1, .ref q_2, .ref q_3, .int 0, .int 0])), (q_1, hcI k 20 (fun _ => 0)), (q_2, hcI k 20 (fun _ => 0)), (q_3, hcI k 20 (fun _ => 0))] : va_W)) hP hD rfl
  refine lv_aload_n hx hb dX0_init_33 rfl (lv_at hl 0 rfl) ?_
  refine lv_iconst (v := 0) hx hb dX0_init_34 (by decide) ?_
  refine va_put (D := D) (ci := 0) (v := .int 0) (C := RX0) (T := TX0) (N := 5) hx hb hts in0 tyX0 tyX0_ok nmX0 hown hG.1 hP hD hS 0 rfl rfl 4 (by decide) (hts (.fieldLink RX0 25 "ChairCane$Acts" "kept" "I") (by decide +kernel)) (fun _ h9 => h9) rfl (tyX0_ok 4 (by decide)) rfl rfl (Nat.le_of_ble_eq_true rfl) dX0_init_35 (fun H locs hP hD hS => ?_)
  obtain ⟨hP, hD⟩ := cv (w' := ([(h0, .inr (0, [.ref q_1, .ref q_2, .ref q_3, .int 0, .int 0])), (q_1, hcI k 20 (fun _ => 0)), (q_2, hcI k 20 (fun _ => 0)), (q_3, hcI k 20 (fun _ => 0))] : va_W)) hP hD rfl
  exact hc_endV hx hb hr hlocks (fun i => [q_1, q_2, q_3].getD i 0) trivial (hP.sub [0, 1, 2, 3] rfl) (hD.sub [0, 1, 2, 3] (by decide +kernel) rfl) hS dX0_init_38
set_option maxHeartbeats 4000000 in
set_option maxRecDepth 100000 in
theorem c_X2_init (l : Launch) (D : va_G) (k : Nat → ClassId) (sz : Nat) (h0 : Nat) : CtV l yX2_init wsX2_init (rmK 1 3 30) [.ref h0] D k sz (([(h0, .inr (1, [.null, .null, .null, .int 0]))] : va_W)) (fun _ : Nat → Nat => True) (fun q : Nat → Nat => notesZ k h0 q) 3 30 := by
  refine CtV.mk (cc := cX2_init) (maxL := 1) (ret := none) (by decide) rfl (Nat.le_of_ble_eq_true rfl) ?_
  intro p e s m below meth c A ls E hP hD hS hl
  obtain ⟨hx, hb, hr, hml, hown, hts, hlocks, hin, hG, hA⟩ := E
  have hown : s.vm.findClass RX2 = some m.cls := hown
  have in2 : ∀ w ∈ u_ws RX2 TX2 4, w ∈ wsX2_init := fun _ h => List.mem_cons_of_mem _ (List.mem_append_right _ h)
  have hl : lv_has ls 1 [(0, .ref h0)] := hl
  refine lv_aload_n hx hb dX2_init_0 rfl (lv_at hl 0 rfl) ?_
  refine W.objInit hx hb hown (hts (.methodLink RX2 3 objectInit) (by decide +kernel)) (hts (.instanceMethod objectInit) (by decide +kernel)) (hts (.code objectInit ⟨#[0xb1]⟩ 1 none) (by decide +kernel)) rfl (by rw [hml]; exact hl.1) rfl dX2_init_1 (Nat.le_of_ble_eq_true rfl) (Nat.le_of_ble_eq_true rfl) ?_
  refine W.eq (g2 := F0 m 4 ls []) rfl ?_
  refine lv_aload_n hx hb dX2_init_4 rfl (lv_at hl 0 rfl) ?_
  refine lv_bipush (v := 10) hx hb dX2_init_5 (by decide) ?_
  refine hc_newI hx hb (hts (.arrayClass .int) (by decide +kernel)) hG hA hP hD hS 10 (by decide) ⟨Nat.le_of_ble_eq_true rfl, Nat.le_of_ble_eq_true rfl⟩ dX2_init_7 (fun q_1 H hP hD hS => ?_)
  refine va_putF (D := D) (ci := 1) (v := .ref q_1) (C := RX2) (T := TX2) (N := 4) hx hb hts in2 tyX2 tyX2_ok nmX2 hown hG.1 hP hD hS 0 rfl rfl 0 (by decide) (hts (.fieldLink RX2 9 "ChairCane$Notes" "minutes" "[I") (by decide +kernel)) (fun _ h9 => h9) rfl hin rfl (tyX2_ok 0 (by decide)) rfl rfl (Nat.le_of_ble_eq_true rfl) dX2_init_9 (fun H locs hP hD hS => ?_)
  obtain ⟨hP, hD⟩ := cv (w' := ([(h0, .inr (1, [.ref q_1, .null, .null, .int 0])), (q_1, hcI k 10 (fun _ => 0))] : va_W)) hP hD rfl
  refine lv_aload_n hx hb dX2_init_12 rfl (lv_at hl 0 rfl) ?_
  refine lv_bipush (v := 10) hx hb dX2_init_13 (by decide) ?_
  refine hc_newI hx hb (hts (.arrayClass .int) (by decide +kernel)) hG hA hP hD hS 10 (by decide) ⟨Nat.le_of_ble_eq_true rfl, Nat.le_of_ble_eq_true rfl⟩ dX2_init_15 (fun q_2 H hP hD hS => ?_)
  refine va_putF (D := D) (ci := 1) (v := .ref q_2) (C := RX2) (T := TX2) (N := 4) hx hb hts in2 tyX2 tyX2_ok nmX2 hown hG.1 hP hD hS 0 rfl rfl 1 (by decide) (hts (.fieldLink RX2 15 "ChairCane$Notes" "whose" "[I") (by decide +kernel)) (fun _ h9 => h9) rfl hin rfl (tyX2_ok 1 (by decide)) rfl rfl (Nat.le_of_ble_eq_true rfl) dX2_init_17 (fun H locs hP hD hS => ?_)
  obtain ⟨hP, hD⟩ := cv (w' := ([(h0, .inr (1, [.ref q_1, .ref q_2, .null, .int 0])), (q_1, hcI k 10 (fun _ => 0)), (q_2, hcI k 10 (fun _ => 0))] : va_W)) hP hD rfl
  refine lv_aload_n hx hb dX2_init_20 rfl (lv_at hl 0 rfl) ?_
  refine lv_bipush (v := 10) hx hb dX2_init_21 (by decide) ?_
  refine hc_newI hx hb (hts (.arrayClass .int) (by decide +kernel)) hG hA hP hD hS 10 (by decide) ⟨Nat.le_of_ble_eq_true rfl, Nat.le_of_ble_eq_true rfl⟩ dX2_init_23 (fun q_3 H hP hD hS => ?_)
  refine va_putF (D := D) (ci := 1) (v := .ref q_3) (C := RX2) (T := TX2) (N := 4) hx hb hts in2 tyX2 tyX2_ok nmX2 hown hG.1 hP hD hS 0 rfl rfl 2 (by decide) (hts (.fieldLink RX2 18 "ChairCane$Notes" "states" "[I") (by decide +kernel)) (fun _ h9 => h9) rfl hin rfl (tyX2_ok 2 (by decide)) rfl rfl (Nat.le_of_ble_eq_true rfl) dX2_init_25 (fun H locs hP hD hS => ?_)
  obtain ⟨hP, hD⟩ := cv (w' := ([(h0, .inr (1, [.ref q_1, .ref q_2, .ref q_3, .int 0])), (q_1, hcI k 10 (fun _ => 0)), (q_2, hcI k 10 (fun _ => 0)), (q_3, hcI k 10 (fun _ => 0))] : va_W)) hP hD rfl
  refine lv_aload_n hx hb dX2_init_28 rfl (lv_at hl 0 rfl) ?_
  refine lv_iconst (v := 0) hx hb dX2_init_29 (by decide) ?_
  refine va_put (D := D) (ci := 1) (v := .int 0) (C := RX2) (T := TX2) (N := 4) hx hb hts in2 tyX2 tyX2_ok nmX2 hown hG.1 hP hD hS 0 rfl rfl 3 (by decide) (hts (.fieldLink RX2 21 "ChairCane$Notes" "many" "I") (by decide +kernel)) (fun _ h9 => h9) rfl (tyX2_ok 3 (by decide)) rfl rfl (Nat.le_of_ble_eq_true rfl) dX2_init_30 (fun H locs hP hD hS => ?_)
  obtain ⟨hP, hD⟩ := cv (w' := ([(h0, .inr (1, [.ref q_1, .ref q_2, .ref q_3, .int 0])), (q_1, hcI k 10 (fun _ => 0)), (q_2, hcI k 10 (fun _ => 0)), (q_3, hcI k 10 (fun _ => 0))] : va_W)) hP hD rfl
  exact hc_endV hx hb hr hlocks (fun i => [q_1, q_2, q_3].getD i 0) trivial (hP.sub [0, 1, 2, 3] rfl) (hD.sub [0, 1, 2, 3] (by decide +kernel) rfl) hS dX2_init_33
set_option maxHeartbeats 4000000 in
set_option maxRecDepth 100000 in
theorem c_X3_init (l : Launch) (D : va_G) (k : Nat → ClassId) (sz : Nat) (h0 : Nat) : CtV l yX3_init wsX3_init (rmK 1 8 48) [.ref h0] D k sz (([(h0, .inr (2, [.int 0, .int 0, .int 0, .int 0, .null, .null, .null, .null, .null, .null, .int 0, .int 0, .int 0, .null, .null, .int 0, .int 0]))] : va_W)) (fun _ : Nat → Nat => True) (fun q : Nat → Nat => roomZ k h0 q) 8 48 := by
  refine CtV.mk (cc := cX3_init) (maxL := 1) (ret := none) (by decide) rfl (Nat.le_of_ble_eq_true rfl) ?_
  intro p e s m below meth c A ls E hP hD hS hl
  obtain ⟨hx, hb, hr, hml, hown, hts, hlocks, hin, hG, hA⟩ := E
  have hown : s.vm.findClass RX3 = some m.cls := hown
  have in3 : ∀ w ∈ u_ws RX3 TX3 17, w ∈ wsX3_init := fun _ h => List.mem_cons_of_mem _ (List.mem_append_right _ h)
  have hl : lv_has ls 1 [(0, .ref h0)] := hl
  refine lv_aload_n hx hb dX3_init_0 rfl (lv_at hl 0 rfl) ?_
  refine W.objInit hx hb hown (hts (.methodLink RX3 3 objectInit) (by decide +kernel)) (hts (.instanceMethod objectInit) (by decide +kernel)) (hts (.code objectInit ⟨#[0xb1]⟩ 1 none) (by decide +kernel)) rfl (by rw [hml]; exact hl.1) rfl dX3_init_1 (Nat.le_of_ble_eq_true rfl) (Nat.le_of_ble_eq_true rfl) ?_
  refine W.eq (g2 := F0 m 4 ls []) rfl ?_
  refine lv_aload_n hx hb dX3_init_4 rfl (lv_at hl 0 rfl) ?_
  refine lv_iconst (v := 0) hx hb dX3_init_5 (by decide) ?_
  refine va_put (D := D) (ci := 2) (v := .int 0) (C := RX3) (T := TX3) (N := 17) hx hb hts in3 tyX3 tyX3_ok nmX3 hown hG.1 hP hD hS 0 rfl rfl 0 (by decide) (hts (.fieldLink RX3 9 "ChairCane$Room" "told" "Z") (by decide +kernel)) (fun _ h9 => h9) rfl (tyX3_ok 0 (by decide)) rfl rfl (Nat.le_of_ble_eq_true rfl) dX3_init_6 (fun H locs hP hD hS => ?_)
  obtain ⟨hP, hD⟩ := cv (w' := ([(h0, .inr (2, [.int 0, .int 0, .int 0, .int 0, .null, .null, .null, .null, .null, .null, .int 0, .int 0, .int 0, .null, .null, .int 0, .int 0]))] : va_W)) hP hD rfl
  refine lv_aload_n hx hb dX3_init_9 rfl (lv_at hl 0 rfl) ?_
  refine lv_iconst (v := 0) hx hb dX3_init_10 (by decide) ?_
  refine va_put (D := D) (ci := 2) (v := .int 0) (C := RX3) (T := TX3) (N := 17) hx hb hts in3 tyX3 tyX3_ok nmX3 hown hG.1 hP hD hS 0 rfl rfl 1 (by decide) (hts (.fieldLink RX3 15 "ChairCane$Room" "strands" "I") (by decide +kernel)) (fun _ h9 => h9) rfl (tyX3_ok 1 (by decide)) rfl rfl (Nat.le_of_ble_eq_true rfl) dX3_init_11 (fun H locs hP hD hS => ?_)
  obtain ⟨hP, hD⟩ := cv (w' := ([(h0, .inr (2, [.int 0, .int 0, .int 0, .int 0, .null, .null, .null, .null, .null, .null, .int 0, .int 0, .int 0, .null, .null, .int 0, .int 0]))] : va_W)) hP hD rfl
  refine lv_aload_n hx hb dX3_init_14 rfl (lv_at hl 0 rfl) ?_
  refine lv_iconst (v := 0) hx hb dX3_init_15 (by decide) ?_
  refine va_put (D := D) (ci := 2) (v := .int 0) (C := RX3) (T := TX3) (N := 17) hx hb hts in3 tyX3 tyX3_ok nmX3 hown hG.1 hP hD hS 0 rfl rfl 2 (by decide) (hts (.fieldLink RX3 19 "ChairCane$Room" "chairs" "I") (by decide +kernel)) (fun _ h9 => h9) rfl (tyX3_ok 2 (by decide)) rfl rfl (Nat.le_of_ble_eq_true rfl) dX3_init_16 (fun H locs hP hD hS => ?_)
  obtain ⟨hP, hD⟩ := cv (w' := ([(h0, .inr (2, [.int 0, .int 0, .int 0, .int 0, .null, .null, .null, .null, .null, .null, .int 0, .int 0, .int 0, .null, .null, .int 0, .int 0]))] : va_W)) hP hD rfl
  refine lv_aload_n hx hb dX3_init_19 rfl (lv_at hl 0 rfl) ?_
  refine lv_iconst (v := 0) hx hb dX3_init_20 (by decide) ?_
  refine va_put (D := D) (ci := 2) (v := .int 0) (C := RX3) (T := TX3) (N := 17) hx hb hts in3 tyX3 tyX3_ok nmX3 hown hG.1 hP hD hS 0 rfl rfl 3 (by decide) (hts (.fieldLink RX3 22 "ChairCane$Room" "sitters" "I") (by decide +kernel)) (fun _ h9 => h9) rfl (tyX3_ok 3 (by decide)) rfl rfl (Nat.le_of_ble_eq_true rfl) dX3_init_21 (fun H locs hP hD hS => ?_)
  obtain ⟨hP, hD⟩ := cv (w' := ([(h0, .inr (2, [.int 0, .int 0, .int 0, .int 0, .null, .null, .null, .null, .null, .null, .int 0, .int 0, .int 0, .null, .null, .int 0, .int 0]))] : va_W)) hP hD rfl
  refine lv_aload_n hx hb dX3_init_24 rfl (lv_at hl 0 rfl) ?_
  refine lv_iconst (v := 4) hx hb dX3_init_25 (by decide) ?_
  refine hc_newI hx hb (hts (.arrayClass .int) (by decide +kernel)) hG hA hP hD hS 4 (by decide) ⟨Nat.le_of_ble_eq_true rfl, Nat.le_of_ble_eq_true rfl⟩ dX3_init_26 (fun q_1 H hP hD hS => ?_)
  refine va_putF (D := D) (ci := 2) (v := .ref q_1) (C := RX3) (T := TX3) (N := 17) hx hb hts in3 tyX3 tyX3_ok nmX3 hown hG.1 hP hD hS 0 rfl rfl 4 (by decide) (hts (.fieldLink RX3 25 "ChairCane$Room" "toldCane" "[I") (by decide +kernel)) (fun _ h9 => h9) rfl hin rfl (tyX3_ok 4 (by decide)) rfl rfl (Nat.le_of_ble_eq_true rfl) dX3_init_28 (fun H locs hP hD hS => ?_)
  obtain ⟨hP, hD⟩ := cv (w' := ([(h0, .inr (2, [.int 0, .int 0, .int 0, .int 0, .ref q_1, .null, .null, .null, .null, .null, .int 0, .int 0, .int 0, .null, .null, .int 0, .int 0])), (q_1, hcI k 4 (fun _ => 0))] : va_W)) hP hD rfl
  refine lv_aload_n hx hb dX3_init_31 rfl (lv_at hl 0 rfl) ?_
  refine lv_bipush (v := 8) hx hb dX3_init_32 (by decide) ?_
  refine hc_newI hx hb (hts (.arrayClass .int) (by decide +kernel)) hG hA hP hD hS 8 (by decide) ⟨Nat.le_of_ble_eq_true rfl, Nat.le_of_ble_eq_true rfl⟩ dX3_init_34 (fun q_2 H hP hD hS => ?_)
  refine va_putF (D := D) (ci := 2) (v := .ref q_2) (C := RX3) (T := TX3) (N := 17) hx hb hts in3 tyX3 tyX3_ok nmX3 hown hG.1 hP hD hS 0 rfl rfl 5 (by decide) (hts (.fieldLink RX3 29 "ChairCane$Room" "height" "[I") (by decide +kernel)) (fun _ h9 => h9) rfl hin rfl (tyX3_ok 5 (by decide)) rfl rfl (Nat.le_of_ble_eq_true rfl) dX3_init_36 (fun H locs hP hD hS => ?_)
  obtain ⟨hP, hD⟩ := cv (w' := ([(h0, .inr (2, [.int 0, .int 0, .int 0, .int 0, .ref q_1, .ref q_2, .null, .null, .null, .null, .int 0, .int 0, .int 0, .null, .null, .int 0, .int 0])), (q_1, hcI k 4 (fun _ => 0)), (q_2, hcI k 8 (fun _ => 0))] : va_W)) hP hD rfl
  refine lv_aload_n hx hb dX3_init_39 rfl (lv_at hl 0 rfl) ?_
  refine lv_bipush (v := 8) hx hb dX3_init_40 (by decide) ?_
  refine hc_newI hx hb (hts (.arrayClass .int) (by decide +kernel)) hG hA hP hD hS 8 (by decide) ⟨Nat.le_of_ble_eq_true rfl, Nat.le_of_ble_eq_true rfl⟩ dX3_init_42 (fun q_3 H hP hD hS => ?_)
  refine va_putF (D := D) (ci := 2) (v := .ref q_3) (C := RX3) (T := TX3) (N := 17) hx hb hts in3 tyX3 tyX3_ok nmX3 hown hG.1 hP hD hS 0 rfl rfl 6 (by decide) (hts (.fieldLink RX3 32 "ChairCane$Room" "strandOf" "[I") (by decide +kernel)) (fun _ h9 => h9) rfl hin rfl (tyX3_ok 6 (by decide)) rfl rfl (Nat.le_of_ble_eq_true rfl) dX3_init_44 (fun H locs hP hD hS => ?_)
  obtain ⟨hP, hD⟩ := cv (w' := ([(h0, .inr (2, [.int 0, .int 0, .int 0, .int 0, .ref q_1, .ref q_2, .ref q_3, .null, .null, .null, .int 0, .int 0, .int 0, .null, .null, .int 0, .int 0])), (q_1, hcI k 4 (fun _ => 0)), (q_2, hcI k 8 (fun _ => 0)), (q_3, hcI k 8 (fun _ => 0))] : va_W)) hP hD rfl
  refine lv_aload_n hx hb dX3_init_47 rfl (lv_at hl 0 rfl) ?_
  refine lv_bipush (v := 8) hx hb dX3_init_48 (by decide) ?_
  refine hc_newI hx hb (hts (.arrayClass .int) (by decide +kernel)) hG hA hP hD hS 8 (by decide) ⟨Nat.le_of_ble_eq_true rfl, Nat.le_of_ble_eq_true rfl⟩ dX3_init_50 (fun q_4 H hP hD hS => ?_)
  refine va_putF (D := D) (ci := 2) (v := .ref q_4) (C := RX3) (T := TX3) (N := 17) hx hb hts in3 tyX3 tyX3_ok nmX3 hown hG.1 hP hD hS 0 rfl rfl 7 (by decide) (hts (.fieldLink RX3 35 "ChairCane$Room" "chairOf" "[I") (by decide +kernel)) (fun _ h9 => h9) rfl hin rfl (tyX3_ok 7 (by decide)) rfl rfl (Nat.le_of_ble_eq_true rfl) dX3_init_52 (fun H locs hP hD hS => ?_)
  obtain ⟨hP, hD⟩ := cv (w' := ([(h0, .inr (2, [.int 0, .int 0, .int 0, .int 0, .ref q_1, .ref q_2, .ref q_3, .ref q_4, .null, .null, .int 0, .int 0, .int 0, .null, .null, .int 0, .int 0])), (q_1, hcI k 4 (fun _ => 0)), (q_2, hcI k 8 (fun _ => 0)), (q_3, hcI k 8 (fun _ => 0)), (q_4, hcI k 8 (fun _ => 0))] : va_W)) hP hD rfl
  refine lv_aload_n hx hb dX3_init_55 rfl (lv_at hl 0 rfl) ?_
  refine lv_bipush (v := 8) hx hb dX3_init_56 (by decide) ?_
  refine hc_newI hx hb (hts (.arrayClass .int) (by decide +kernel)) hG hA hP hD hS 8 (by decide) ⟨Nat.le_of_ble_eq_true rfl, Nat.le_of_ble_eq_true rfl⟩ dX3_init_58 (fun q_5 H hP hD hS => ?_)
  refine va_putF (D := D) (ci := 2) (v := .ref q_5) (C := RX3) (T := TX3) (N := 17) hx hb hts in3 tyX3 tyX3_ok nmX3 hown hG.1 hP hD hS 0 rfl rfl 8 (by decide) (hts (.fieldLink RX3 38 "ChairCane$Room" "weight" "[I") (by decide +kernel)) (fun _ h9 => h9) rfl hin rfl (tyX3_ok 8 (by decide)) rfl rfl (Nat.le_of_ble_eq_true rfl) dX3_init_60 (fun H locs hP hD hS => ?_)
  obtain ⟨hP, hD⟩ := cv (w' := ([(h0, .inr (2, [.int 0, .int 0, .int 0, .int 0, .ref q_1, .ref q_2, .ref q_3, .ref q_4, .ref q_5, .null, .int 0, .int 0, .int 0, .null, .null, .int 0, .int 0])), (q_1, hcI k 4 (fun _ => 0)), (q_2, hcI k 8 (fun _ => 0)), (q_3, hcI k 8 (fun _ => 0)), (q_4, hcI k 8 (fun _ => 0)), (q_5, hcI k 8 (fun _ => 0))] : va_W)) hP hD rfl
  refine lv_aload_n hx hb dX3_init_63 rfl (lv_at hl 0 rfl) ?_
  refine lv_iconst (v := 4) hx hb dX3_init_64 (by decide) ?_
  refine hc_newI hx hb (hts (.arrayClass .int) (by decide +kernel)) hG hA hP hD hS 4 (by decide) ⟨Nat.le_of_ble_eq_true rfl, Nat.le_of_ble_eq_true rfl⟩ dX3_init_65 (fun q_6 H hP hD hS => ?_)
  refine va_putF (D := D) (ci := 2) (v := .ref q_6) (C := RX3) (T := TX3) (N := 17) hx hb hts in3 tyX3 tyX3_ok nmX3 hown hG.1 hP hD hS 0 rfl rfl 9 (by decide) (hts (.fieldLink RX3 41 "ChairCane$Room" "cane" "[I") (by decide +kernel)) (fun _ h9 => h9) rfl hin rfl (tyX3_ok 9 (by decide)) rfl rfl (Nat.le_of_ble_eq_true rfl) dX3_init_67 (fun H locs hP hD hS => ?_)
  obtain ⟨hP, hD⟩ := cv (w' := ([(h0, .inr (2, [.int 0, .int 0, .int 0, .int 0, .ref q_1, .ref q_2, .ref q_3, .ref q_4, .ref q_5, .ref q_6, .int 0, .int 0, .int 0, .null, .null, .int 0, .int 0])), (q_1, hcI k 4 (fun _ => 0)), (q_2, hcI k 8 (fun _ => 0)), (q_3, hcI k 8 (fun _ => 0)), (q_4, hcI k 8 (fun _ => 0)), (q_5, hcI k 8 (fun _ => 0)), (q_6, hcI k 4 (fun _ => 0))] : va_W)) hP hD rfl
  refine lv_aload_n hx hb dX3_init_70 rfl (lv_at hl 0 rfl) ?_
  refine lv_iconst (v := 0) hx hb dX3_init_71 (by decide) ?_
  refine va_put (D := D) (ci := 2) (v := .int 0) (C := RX3) (T := TX3) (N := 17) hx hb hts in3 tyX3 tyX3_ok nmX3 hown hG.1 hP hD hS 0 rfl rfl 10 (by decide) (hts (.fieldLink RX3 44 "ChairCane$Room" "sits" "I") (by decide +kernel)) (fun _ h9 => h9) rfl (tyX3_ok 10 (by decide)) rfl rfl (Nat.le_of_ble_eq_true rfl) dX3_init_72 (fun H locs hP hD hS => ?_)
  obtain ⟨hP, hD⟩ := cv (w' := ([(h0, .inr (2, [.int 0, .int 0, .int 0, .int 0, .ref q_1, .ref q_2, .ref q_3, .ref q_4, .ref q_5, .ref q_6, .int 0, .int 0, .int 0, .null, .null, .int 0, .int 0])), (q_1, hcI k 4 (fun _ => 0)), (q_2, hcI k 8 (fun _ => 0)), (q_3, hcI k 8 (fun _ => 0)), (q_4, hcI k 8 (fun _ => 0)), (q_5, hcI k 8 (fun _ => 0)), (q_6, hcI k 4 (fun _ => 0))] : va_W)) hP hD rfl
  refine lv_aload_n hx hb dX3_init_75 rfl (lv_at hl 0 rfl) ?_
  refine lv_iconst (v := 0) hx hb dX3_init_76 (by decide) ?_
  refine va_put (D := D) (ci := 2) (v := .int 0) (C := RX3) (T := TX3) (N := 17) hx hb hts in3 tyX3 tyX3_ok nmX3 hown hG.1 hP hD hS 0 rfl rfl 11 (by decide) (hts (.fieldLink RX3 47 "ChairCane$Room" "dropped" "I") (by decide +kernel)) (fun _ h9 => h9) rfl (tyX3_ok 11 (by decide)) rfl rfl (Nat.le_of_ble_eq_true rfl) dX3_init_77 (fun H locs hP hD hS => ?_)
  obtain ⟨hP, hD⟩ := cv (w' := ([(h0, .inr (2, [.int 0, .int 0, .int 0, .int 0, .ref q_1, .ref q_2, .ref q_3, .ref q_4, .ref q_5, .ref q_6, .int 0, .int 0, .int 0, .null, .null, .int 0, .int 0])), (q_1, hcI k 4 (fun _ => 0)), (q_2, hcI k 8 (fun _ => 0)), (q_3, hcI k 8 (fun _ => 0)), (q_4, hcI k 8 (fun _ => 0)), (q_5, hcI k 8 (fun _ => 0)), (q_6, hcI k 4 (fun _ => 0))] : va_W)) hP hD rfl
  refine lv_aload_n hx hb dX3_init_80 rfl (lv_at hl 0 rfl) ?_
  refine lv_iconst (v := 0) hx hb dX3_init_81 (by decide) ?_
  refine va_put (D := D) (ci := 2) (v := .int 0) (C := RX3) (T := TX3) (N := 17) hx hb hts in3 tyX3 tyX3_ok nmX3 hown hG.1 hP hD hS 0 rfl rfl 12 (by decide) (hts (.fieldLink RX3 50 "ChairCane$Room" "minute" "I") (by decide +kernel)) (fun _ h9 => h9) rfl (tyX3_ok 12 (by decide)) rfl rfl (Nat.le_of_ble_eq_true rfl) dX3_init_82 (fun H locs hP hD hS => ?_)
  obtain ⟨hP, hD⟩ := cv (w' := ([(h0, .inr (2, [.int 0, .int 0, .int 0, .int 0, .ref q_1, .ref q_2, .ref q_3, .ref q_4, .ref q_5, .ref q_6, .int 0, .int 0, .int 0, .null, .null, .int 0, .int 0])), (q_1, hcI k 4 (fun _ => 0)), (q_2, hcI k 8 (fun _ => 0)), (q_3, hcI k 8 (fun _ => 0)), (q_4, hcI k 8 (fun _ => 0)), (q_5, hcI k 8 (fun _ => 0)), (q_6, hcI k 4 (fun _ => 0))] : va_W)) hP hD rfl
  refine lv_aload_n hx hb dX3_init_85 rfl (lv_at hl 0 rfl) ?_
  refine lv_iconst (v := 4) hx hb dX3_init_86 (by decide) ?_
  refine hc_newI hx hb (hts (.arrayClass .int) (by decide +kernel)) hG hA hP hD hS 4 (by decide) ⟨Nat.le_of_ble_eq_true rfl, Nat.le_of_ble_eq_true rfl⟩ dX3_init_87 (fun q_7 H hP hD hS => ?_)
  refine va_putF (D := D) (ci := 2) (v := .ref q_7) (C := RX3) (T := TX3) (N := 17) hx hb hts in3 tyX3 tyX3_ok nmX3 hown hG.1 hP hD hS 0 rfl rfl 13 (by decide) (hts (.fieldLink RX3 53 "ChairCane$Room" "load" "[I") (by decide +kernel)) (fun _ h9 => h9) rfl hin rfl (tyX3_ok 13 (by decide)) rfl rfl (Nat.le_of_ble_eq_true rfl) dX3_init_89 (fun H locs hP hD hS => ?_)
  obtain ⟨hP, hD⟩ := cv (w' := ([(h0, .inr (2, [.int 0, .int 0, .int 0, .int 0, .ref q_1, .ref q_2, .ref q_3, .ref q_4, .ref q_5, .ref q_6, .int 0, .int 0, .int 0, .ref q_7, .null, .int 0, .int 0])), (q_1, hcI k 4 (fun _ => 0)), (q_2, hcI k 8 (fun _ => 0)), (q_3, hcI k 8 (fun _ => 0)), (q_4, hcI k 8 (fun _ => 0)), (q_5, hcI k 8 (fun _ => 0)), (q_6, hcI k 4 (fun _ => 0)), (q_7, hcI k 4 (fun _ => 0))] : va_W)) hP hD rfl
  refine lv_aload_n hx hb dX3_init_92 rfl (lv_at hl 0 rfl) ?_
  refine lv_iconst (v := 4) hx hb dX3_init_93 (by decide) ?_
  refine hc_newI hx hb (hts (.arrayClass .int) (by decide +kernel)) hG hA hP hD hS 4 (by decide) ⟨Nat.le_of_ble_eq_true rfl, Nat.le_of_ble_eq_true rfl⟩ dX3_init_94 (fun q_8 H hP hD hS => ?_)
  refine va_putF (D := D) (ci := 2) (v := .ref q_8) (C := RX3) (T := TX3) (N := 17) hx hb hts in3 tyX3 tyX3_ok nmX3 hown hG.1 hP hD hS 0 rfl rfl 14 (by decide) (hts (.fieldLink RX3 56 "ChairCane$Room" "heads" "[I") (by decide +kernel)) (fun _ h9 => h9) rfl hin rfl (tyX3_ok 14 (by decide)) rfl rfl (Nat.le_of_ble_eq_true rfl) dX3_init_96 (fun H locs hP hD hS => ?_)
  obtain ⟨hP, hD⟩ := cv (w' := ([(h0, .inr (2, [.int 0, .int 0, .int 0, .int 0, .ref q_1, .ref q_2, .ref q_3, .ref q_4, .ref q_5, .ref q_6, .int 0, .int 0, .int 0, .ref q_7, .ref q_8, .int 0, .int 0])), (q_1, hcI k 4 (fun _ => 0)), (q_2, hcI k 8 (fun _ => 0)), (q_3, hcI k 8 (fun _ => 0)), (q_4, hcI k 8 (fun _ => 0)), (q_5, hcI k 8 (fun _ => 0)), (q_6, hcI k 4 (fun _ => 0)), (q_7, hcI k 4 (fun _ => 0)), (q_8, hcI k 4 (fun _ => 0))] : va_W)) hP hD rfl
  refine lv_aload_n hx hb dX3_init_99 rfl (lv_at hl 0 rfl) ?_
  refine lv_iconst (v := 0) hx hb dX3_init_100 (by decide) ?_
  refine va_put (D := D) (ci := 2) (v := .int 0) (C := RX3) (T := TX3) (N := 17) hx hb hts in3 tyX3 tyX3_ok nmX3 hown hG.1 hP hD hS 0 rfl rfl 15 (by decide) (hts (.fieldLink RX3 59 "ChairCane$Room" "held" "I") (by decide +kernel)) (fun _ h9 => h9) rfl (tyX3_ok 15 (by decide)) rfl rfl (Nat.le_of_ble_eq_true rfl) dX3_init_101 (fun H locs hP hD hS => ?_)
  obtain ⟨hP, hD⟩ := cv (w' := ([(h0, .inr (2, [.int 0, .int 0, .int 0, .int 0, .ref q_1, .ref q_2, .ref q_3, .ref q_4, .ref q_5, .ref q_6, .int 0, .int 0, .int 0, .ref q_7, .ref q_8, .int 0, .int 0])), (q_1, hcI k 4 (fun _ => 0)), (q_2, hcI k 8 (fun _ => 0)), (q_3, hcI k 8 (fun _ => 0)), (q_4, hcI k 8 (fun _ => 0)), (q_5, hcI k 8 (fun _ => 0)), (q_6, hcI k 4 (fun _ => 0)), (q_7, hcI k 4 (fun _ => 0)), (q_8, hcI k 4 (fun _ => 0))] : va_W)) hP hD rfl
  refine lv_aload_n hx hb dX3_init_104 rfl (lv_at hl 0 rfl) ?_
  refine lv_iconst (v := 0) hx hb dX3_init_105 (by decide) ?_
  refine va_put (D := D) (ci := 2) (v := .int 0) (C := RX3) (T := TX3) (N := 17) hx hb hts in3 tyX3 tyX3_ok nmX3 hown hG.1 hP hD hS 0 rfl rfl 16 (by decide) (hts (.fieldLink RX3 62 "ChairCane$Room" "heldDown" "I") (by decide +kernel)) (fun _ h9 => h9) rfl (tyX3_ok 16 (by decide)) rfl rfl (Nat.le_of_ble_eq_true rfl) dX3_init_106 (fun H locs hP hD hS => ?_)
  obtain ⟨hP, hD⟩ := cv (w' := ([(h0, .inr (2, [.int 0, .int 0, .int 0, .int 0, .ref q_1, .ref q_2, .ref q_3, .ref q_4, .ref q_5, .ref q_6, .int 0, .int 0, .int 0, .ref q_7, .ref q_8, .int 0, .int 0])), (q_1, hcI k 4 (fun _ => 0)), (q_2, hcI k 8 (fun _ => 0)), (q_3, hcI k 8 (fun _ => 0)), (q_4, hcI k 8 (fun _ => 0)), (q_5, hcI k 8 (fun _ => 0)), (q_6, hcI k 4 (fun _ => 0)), (q_7, hcI k 4 (fun _ => 0)), (q_8, hcI k 4 (fun _ => 0))] : va_W)) hP hD rfl
  exact hc_endV hx hb hr hlocks (fun i => [q_1, q_2, q_3, q_4, q_5, q_6, q_7, q_8].getD i 0) trivial (hP.sub [0, 1, 2, 3, 4, 5, 6, 7, 8] rfl) (hD.sub [0, 1, 2, 3, 4, 5, 6, 7, 8] (by decide +kernel) rfl) hS dX3_init_109
set_option maxHeartbeats 4000000 in
set_option maxRecDepth 100000 in
theorem c_X4_init (l : Launch) (D : va_G) (k : Nat → ClassId) (sz : Nat) (h0 : Nat) : CtV l yX4_init wsX4_init (rmK 1 5 496) [.ref h0] D k sz (([(h0, .inr (3, [.null, .null, .null, .null, .null, .int 0, .int 0, .int 0]))] : va_W)) (fun _ : Nat → Nat => True) (fun q : Nat → Nat => ruleZ k h0 q) 5 496 := by
  refine CtV.mk (cc := cX4_init) (maxL := 1) (ret := none) (by decide) rfl (Nat.le_of_ble_eq_true rfl) ?_
  intro p e s m below meth c A ls E hP hD hS hl
  obtain ⟨hx, hb, hr, hml, hown, hts, hlocks, hin, hG, hA⟩ := E
  have hown : s.vm.findClass RX4 = some m.cls := hown
  have in4 : ∀ w ∈ u_ws RX4 TX4 8, w ∈ wsX4_init := fun _ h => List.mem_cons_of_mem _ (List.mem_append_right _ h)
  have hl : lv_has ls 1 [(0, .ref h0)] := hl
  refine lv_aload_n hx hb dX4_init_0 rfl (lv_at hl 0 rfl) ?_
  refine W.objInit hx hb hown (hts (.methodLink RX4 3 objectInit) (by decide +kernel)) (hts (.instanceMethod objectInit) (by decide +kernel)) (hts (.code objectInit ⟨#[0xb1]⟩ 1 none) (by decide +kernel)) rfl (by rw [hml]; exact hl.1) rfl dX4_init_1 (Nat.le_of_ble_eq_true rfl) (Nat.le_of_ble_eq_true rfl) ?_
  refine W.eq (g2 := F0 m 4 ls []) rfl ?_
  refine lv_aload_n hx hb dX4_init_4 rfl (lv_at hl 0 rfl) ?_
  refine lv_sipush (v := 400) hx hb dX4_init_5 (by decide) ?_
  refine hc_newI hx hb (hts (.arrayClass .int) (by decide +kernel)) hG hA hP hD hS 400 (by decide) ⟨Nat.le_of_ble_eq_true rfl, Nat.le_of_ble_eq_true rfl⟩ dX4_init_8 (fun q_1 H hP hD hS => ?_)
  refine va_putF (D := D) (ci := 3) (v := .ref q_1) (C := RX4) (T := TX4) (N := 8) hx hb hts in4 tyX4 tyX4_ok nmX4 hown hG.1 hP hD hS 0 rfl rfl 0 (by decide) (hts (.fieldLink RX4 9 "ChairCane$Rule" "steps" "[I") (by decide +kernel)) (fun _ h9 => h9) rfl hin rfl (tyX4_ok 0 (by decide)) rfl rfl (Nat.le_of_ble_eq_true rfl) dX4_init_10 (fun H locs hP hD hS => ?_)
  obtain ⟨hP, hD⟩ := cv (w' := ([(h0, .inr (3, [.ref q_1, .null, .null, .null, .null, .int 0, .int 0, .int 0])), (q_1, hcI k 400 (fun _ => 0))] : va_W)) hP hD rfl
  refine lv_aload_n hx hb dX4_init_13 rfl (lv_at hl 0 rfl) ?_
  refine lv_bipush (v := 12) hx hb dX4_init_14 (by decide) ?_
  refine hc_newI hx hb (hts (.arrayClass .int) (by decide +kernel)) hG hA hP hD hS 12 (by decide) ⟨Nat.le_of_ble_eq_true rfl, Nat.le_of_ble_eq_true rfl⟩ dX4_init_16 (fun q_2 H hP hD hS => ?_)
  refine va_putF (D := D) (ci := 3) (v := .ref q_2) (C := RX4) (T := TX4) (N := 8) hx hb hts in4 tyX4 tyX4_ok nmX4 hown hG.1 hP hD hS 0 rfl rfl 1 (by decide) (hts (.fieldLink RX4 15 "ChairCane$Rule" "sumFrom" "[I") (by decide +kernel)) (fun _ h9 => h9) rfl hin rfl (tyX4_ok 1 (by decide)) rfl rfl (Nat.le_of_ble_eq_true rfl) dX4_init_18 (fun H locs hP hD hS => ?_)
  obtain ⟨hP, hD⟩ := cv (w' := ([(h0, .inr (3, [.ref q_1, .ref q_2, .null, .null, .null, .int 0, .int 0, .int 0])), (q_1, hcI k 400 (fun _ => 0)), (q_2, hcI k 12 (fun _ => 0))] : va_W)) hP hD rfl
  refine lv_aload_n hx hb dX4_init_21 rfl (lv_at hl 0 rfl) ?_
  refine lv_bipush (v := 12) hx hb dX4_init_22 (by decide) ?_
  refine hc_newI hx hb (hts (.arrayClass .int) (by decide +kernel)) hG hA hP hD hS 12 (by decide) ⟨Nat.le_of_ble_eq_true rfl, Nat.le_of_ble_eq_true rfl⟩ dX4_init_24 (fun q_3 H hP hD hS => ?_)
  refine va_putF (D := D) (ci := 3) (v := .ref q_3) (C := RX4) (T := TX4) (N := 8) hx hb hts in4 tyX4 tyX4_ok nmX4 hown hG.1 hP hD hS 0 rfl rfl 2 (by decide) (hts (.fieldLink RX4 18 "ChairCane$Rule" "sumTo" "[I") (by decide +kernel)) (fun _ h9 => h9) rfl hin rfl (tyX4_ok 2 (by decide)) rfl rfl (Nat.le_of_ble_eq_true rfl) dX4_init_26 (fun H locs hP hD hS => ?_)
  obtain ⟨hP, hD⟩ := cv (w' := ([(h0, .inr (3, [.ref q_1, .ref q_2, .ref q_3, .null, .null, .int 0, .int 0, .int 0])), (q_1, hcI k 400 (fun _ => 0)), (q_2, hcI k 12 (fun _ => 0)), (q_3, hcI k 12 (fun _ => 0))] : va_W)) hP hD rfl
  refine lv_aload_n hx hb dX4_init_29 rfl (lv_at hl 0 rfl) ?_
  refine lv_bipush (v := 12) hx hb dX4_init_30 (by decide) ?_
  refine hc_newI hx hb (hts (.arrayClass .int) (by decide +kernel)) hG hA hP hD hS 12 (by decide) ⟨Nat.le_of_ble_eq_true rfl, Nat.le_of_ble_eq_true rfl⟩ dX4_init_32 (fun q_4 H hP hD hS => ?_)
  refine va_putF (D := D) (ci := 3) (v := .ref q_4) (C := RX4) (T := TX4) (N := 8) hx hb hts in4 tyX4 tyX4_ok nmX4 hown hG.1 hP hD hS 0 rfl rfl 3 (by decide) (hts (.fieldLink RX4 21 "ChairCane$Rule" "testTo" "[I") (by decide +kernel)) (fun _ h9 => h9) rfl hin rfl (tyX4_ok 3 (by decide)) rfl rfl (Nat.le_of_ble_eq_true rfl) dX4_init_34 (fun H locs hP hD hS => ?_)
  obtain ⟨hP, hD⟩ := cv (w' := ([(h0, .inr (3, [.ref q_1, .ref q_2, .ref q_3, .ref q_4, .null, .int 0, .int 0, .int 0])), (q_1, hcI k 400 (fun _ => 0)), (q_2, hcI k 12 (fun _ => 0)), (q_3, hcI k 12 (fun _ => 0)), (q_4, hcI k 12 (fun _ => 0))] : va_W)) hP hD rfl
  refine lv_aload_n hx hb dX4_init_37 rfl (lv_at hl 0 rfl) ?_
  refine lv_bipush (v := 60) hx hb dX4_init_38 (by decide) ?_
  refine hc_newJ hx hb (hts (.arrayClass .long) (by decide +kernel)) hG hA hP hD hS 60 (by decide) ⟨Nat.le_of_ble_eq_true rfl, Nat.le_of_ble_eq_true rfl⟩ dX4_init_40 (fun q_5 H hP hD hS => ?_)
  refine va_putF (D := D) (ci := 3) (v := .ref q_5) (C := RX4) (T := TX4) (N := 8) hx hb hts in4 tyX4 tyX4_ok nmX4 hown hG.1 hP hD hS 0 rfl rfl 4 (by decide) (hts (.fieldLink RX4 24 "ChairCane$Rule" "stack" "[J") (by decide +kernel)) (fun _ h9 => h9) rfl hin rfl (tyX4_ok 4 (by decide)) rfl rfl (Nat.le_of_ble_eq_true rfl) dX4_init_42 (fun H locs hP hD hS => ?_)
  obtain ⟨hP, hD⟩ := cv (w' := ([(h0, .inr (3, [.ref q_1, .ref q_2, .ref q_3, .ref q_4, .ref q_5, .int 0, .int 0, .int 0])), (q_1, hcI k 400 (fun _ => 0)), (q_2, hcI k 12 (fun _ => 0)), (q_3, hcI k 12 (fun _ => 0)), (q_4, hcI k 12 (fun _ => 0)), (q_5, hcJ k 60 (fun _ => 0))] : va_W)) hP hD rfl
  refine lv_aload_n hx hb dX4_init_45 rfl (lv_at hl 0 rfl) ?_
  refine lv_iconst (v := 0) hx hb dX4_init_46 (by decide) ?_
  refine va_put (D := D) (ci := 3) (v := .int 0) (C := RX4) (T := TX4) (N := 8) hx hb hts in4 tyX4 tyX4_ok nmX4 hown hG.1 hP hD hS 0 rfl rfl 5 (by decide) (hts (.fieldLink RX4 28 "ChairCane$Rule" "length" "I") (by decide +kernel)) (fun _ h9 => h9) rfl (tyX4_ok 5 (by decide)) rfl rfl (Nat.le_of_ble_eq_true rfl) dX4_init_47 (fun H locs hP hD hS => ?_)
  obtain ⟨hP, hD⟩ := cv (w' := ([(h0, .inr (3, [.ref q_1, .ref q_2, .ref q_3, .ref q_4, .ref q_5, .int 0, .int 0, .int 0])), (q_1, hcI k 400 (fun _ => 0)), (q_2, hcI k 12 (fun _ => 0)), (q_3, hcI k 12 (fun _ => 0)), (q_4, hcI k 12 (fun _ => 0)), (q_5, hcJ k 60 (fun _ => 0))] : va_W)) hP hD rfl
  refine lv_aload_n hx hb dX4_init_50 rfl (lv_at hl 0 rfl) ?_
  refine lv_iconst (v := 0) hx hb dX4_init_51 (by decide) ?_
  refine va_put (D := D) (ci := 3) (v := .int 0) (C := RX4) (T := TX4) (N := 8) hx hb hts in4 tyX4 tyX4_ok nmX4 hown hG.1 hP hD hS 0 rfl rfl 6 (by decide) (hts (.fieldLink RX4 32 "ChairCane$Rule" "clauses" "I") (by decide +kernel)) (fun _ h9 => h9) rfl (tyX4_ok 6 (by decide)) rfl rfl (Nat.le_of_ble_eq_true rfl) dX4_init_52 (fun H locs hP hD hS => ?_)
  obtain ⟨hP, hD⟩ := cv (w' := ([(h0, .inr (3, [.ref q_1, .ref q_2, .ref q_3, .ref q_4, .ref q_5, .int 0, .int 0, .int 0])), (q_1, hcI k 400 (fun _ => 0)), (q_2, hcI k 12 (fun _ => 0)), (q_3, hcI k 12 (fun _ => 0)), (q_4, hcI k 12 (fun _ => 0)), (q_5, hcJ k 60 (fun _ => 0))] : va_W)) hP hD rfl
  refine lv_aload_n hx hb dX4_init_55 rfl (lv_at hl 0 rfl) ?_
  refine lv_iconst (v := 0) hx hb dX4_init_56 (by decide) ?_
  refine va_put (D := D) (ci := 3) (v := .int 0) (C := RX4) (T := TX4) (N := 8) hx hb hts in4 tyX4 tyX4_ok nmX4 hown hG.1 hP hD hS 0 rfl rfl 7 (by decide) (hts (.fieldLink RX4 35 "ChairCane$Rule" "units" "I") (by decide +kernel)) (fun _ h9 => h9) rfl (tyX4_ok 7 (by decide)) rfl rfl (Nat.le_of_ble_eq_true rfl) dX4_init_57 (fun H locs hP hD hS => ?_)
  obtain ⟨hP, hD⟩ := cv (w' := ([(h0, .inr (3, [.ref q_1, .ref q_2, .ref q_3, .ref q_4, .ref q_5, .int 0, .int 0, .int 0])), (q_1, hcI k 400 (fun _ => 0)), (q_2, hcI k 12 (fun _ => 0)), (q_3, hcI k 12 (fun _ => 0)), (q_4, hcI k 12 (fun _ => 0)), (q_5, hcJ k 60 (fun _ => 0))] : va_W)) hP hD rfl
  exact hc_endV hx hb hr hlocks (fun i => [q_1, q_2, q_3, q_4, q_5].getD i 0) trivial (hP.sub [0, 1, 2, 3, 4, 5] rfl) (hD.sub [0, 1, 2, 3, 4, 5] (by decide +kernel) rfl) hS dX4_init_60
set_option maxHeartbeats 4000000 in
set_option maxRecDepth 100000 in
theorem c_X7_init (l : Launch) (D : va_G) (k : Nat → ClassId) (sz : Nat) (h0 : Nat) : CtV l yX7_init wsX7_init (rmK 1 4 1603) [.ref h0] D k sz (([(h0, .inr (5, [.null, .int 0, .null, .null, .null, .int 0, .int 0, .int 0]))] : va_W)) (fun _ : Nat → Nat => True) (fun q : Nat → Nat => tapeZ k h0 q) 4 1603 := by
  refine CtV.mk (cc := cX7_init) (maxL := 1) (ret := none) (by decide) rfl (Nat.le_of_ble_eq_true rfl) ?_
  intro p e s m below meth c A ls E hP hD hS hl
  obtain ⟨hx, hb, hr, hml, hown, hts, hlocks, hin, hG, hA⟩ := E
  have hown : s.vm.findClass RX7 = some m.cls := hown
  have in7 : ∀ w ∈ u_ws RX7 TX7 8, w ∈ wsX7_init := fun _ h => List.mem_cons_of_mem _ (List.mem_append_right _ h)
  have hl : lv_has ls 1 [(0, .ref h0)] := hl
  refine lv_aload_n hx hb dX7_init_0 rfl (lv_at hl 0 rfl) ?_
  refine W.objInit hx hb hown (hts (.methodLink RX7 3 objectInit) (by decide +kernel)) (hts (.instanceMethod objectInit) (by decide +kernel)) (hts (.code objectInit ⟨#[0xb1]⟩ 1 none) (by decide +kernel)) rfl (by rw [hml]; exact hl.1) rfl dX7_init_1 (Nat.le_of_ble_eq_true rfl) (Nat.le_of_ble_eq_true rfl) ?_
  refine W.eq (g2 := F0 m 4 ls []) rfl ?_
  refine lv_aload_n hx hb dX7_init_4 rfl (lv_at hl 0 rfl) ?_
  refine lv_sipush (v := 400) hx hb dX7_init_5 (by decide) ?_
  refine hc_newB hx hb (hts (.arrayClass .byte) (by decide +kernel)) hG hA hP hD hS 400 (by decide) ⟨Nat.le_of_ble_eq_true rfl, Nat.le_of_ble_eq_true rfl⟩ dX7_init_8 (fun q_1 H hP hD hS => ?_)
  refine va_putF (D := D) (ci := 5) (v := .ref q_1) (C := RX7) (T := TX7) (N := 8) hx hb hts in7 tyX7 tyX7_ok nmX7 hown hG.1 hP hD hS 0 rfl rfl 0 (by decide) (hts (.fieldLink RX7 9 "ChairCane$Tape" "bytes" "[B") (by decide +kernel)) (fun _ h9 => h9) rfl hin rfl (tyX7_ok 0 (by decide)) rfl rfl (Nat.le_of_ble_eq_true rfl) dX7_init_10 (fun H locs hP hD hS => ?_)
  obtain ⟨hP, hD⟩ := cv (w' := ([(h0, .inr (5, [.ref q_1, .int 0, .null, .null, .null, .int 0, .int 0, .int 0])), (q_1, hcY k 400 (fun _ => 0))] : va_W)) hP hD rfl
  refine lv_aload_n hx hb dX7_init_13 rfl (lv_at hl 0 rfl) ?_
  refine lv_iconst (v := 0) hx hb dX7_init_14 (by decide) ?_
  refine va_put (D := D) (ci := 5) (v := .int 0) (C := RX7) (T := TX7) (N := 8) hx hb hts in7 tyX7 tyX7_ok nmX7 hown hG.1 hP hD hS 0 rfl rfl 1 (by decide) (hts (.fieldLink RX7 15 "ChairCane$Tape" "length" "I") (by decide +kernel)) (fun _ h9 => h9) rfl (tyX7_ok 1 (by decide)) rfl rfl (Nat.le_of_ble_eq_true rfl) dX7_init_15 (fun H locs hP hD hS => ?_)
  obtain ⟨hP, hD⟩ := cv (w' := ([(h0, .inr (5, [.ref q_1, .int 0, .null, .null, .null, .int 0, .int 0, .int 0])), (q_1, hcY k 400 (fun _ => 0))] : va_W)) hP hD rfl
  refine lv_aload_n hx hb dX7_init_18 rfl (lv_at hl 0 rfl) ?_
  refine lv_sipush (v := 401) hx hb dX7_init_19 (by decide) ?_
  refine hc_newI hx hb (hts (.arrayClass .int) (by decide +kernel)) hG hA hP hD hS 401 (by decide) ⟨Nat.le_of_ble_eq_true rfl, Nat.le_of_ble_eq_true rfl⟩ dX7_init_22 (fun q_2 H hP hD hS => ?_)
  refine va_putF (D := D) (ci := 5) (v := .ref q_2) (C := RX7) (T := TX7) (N := 8) hx hb hts in7 tyX7 tyX7_ok nmX7 hown hG.1 hP hD hS 0 rfl rfl 2 (by decide) (hts (.fieldLink RX7 19 "ChairCane$Tape" "kinds" "[I") (by decide +kernel)) (fun _ h9 => h9) rfl hin rfl (tyX7_ok 2 (by decide)) rfl rfl (Nat.le_of_ble_eq_true rfl) dX7_init_24 (fun H locs hP hD hS => ?_)
  obtain ⟨hP, hD⟩ := cv (w' := ([(h0, .inr (5, [.ref q_1, .int 0, .ref q_2, .null, .null, .int 0, .int 0, .int 0])), (q_1, hcY k 400 (fun _ => 0)), (q_2, hcI k 401 (fun _ => 0))] : va_W)) hP hD rfl
  refine lv_aload_n hx hb dX7_init_27 rfl (lv_at hl 0 rfl) ?_
  refine lv_sipush (v := 401) hx hb dX7_init_28 (by decide) ?_
  refine hc_newI hx hb (hts (.arrayClass .int) (by decide +kernel)) hG hA hP hD hS 401 (by decide) ⟨Nat.le_of_ble_eq_true rfl, Nat.le_of_ble_eq_true rfl⟩ dX7_init_31 (fun q_3 H hP hD hS => ?_)
  refine va_putF (D := D) (ci := 5) (v := .ref q_3) (C := RX7) (T := TX7) (N := 8) hx hb hts in7 tyX7 tyX7_ok nmX7 hown hG.1 hP hD hS 0 rfl rfl 3 (by decide) (hts (.fieldLink RX7 23 "ChairCane$Tape" "places" "[I") (by decide +kernel)) (fun _ h9 => h9) rfl hin rfl (tyX7_ok 3 (by decide)) rfl rfl (Nat.le_of_ble_eq_true rfl) dX7_init_33 (fun H locs hP hD hS => ?_)
  obtain ⟨hP, hD⟩ := cv (w' := ([(h0, .inr (5, [.ref q_1, .int 0, .ref q_2, .ref q_3, .null, .int 0, .int 0, .int 0])), (q_1, hcY k 400 (fun _ => 0)), (q_2, hcI k 401 (fun _ => 0)), (q_3, hcI k 401 (fun _ => 0))] : va_W)) hP hD rfl
  refine lv_aload_n hx hb dX7_init_36 rfl (lv_at hl 0 rfl) ?_
  refine lv_sipush (v := 401) hx hb dX7_init_37 (by decide) ?_
  refine hc_newI hx hb (hts (.arrayClass .int) (by decide +kernel)) hG hA hP hD hS 401 (by decide) ⟨Nat.le_of_ble_eq_true rfl, Nat.le_of_ble_eq_true rfl⟩ dX7_init_40 (fun q_4 H hP hD hS => ?_)
  refine va_putF (D := D) (ci := 5) (v := .ref q_4) (C := RX7) (T := TX7) (N := 8) hx hb hts in7 tyX7 tyX7_ok nmX7 hown hG.1 hP hD hS 0 rfl rfl 4 (by decide) (hts (.fieldLink RX7 26 "ChairCane$Tape" "values" "[I") (by decide +kernel)) (fun _ h9 => h9) rfl hin rfl (tyX7_ok 4 (by decide)) rfl rfl (Nat.le_of_ble_eq_true rfl) dX7_init_42 (fun H locs hP hD hS => ?_)
  obtain ⟨hP, hD⟩ := cv (w' := ([(h0, .inr (5, [.ref q_1, .int 0, .ref q_2, .ref q_3, .ref q_4, .int 0, .int 0, .int 0])), (q_1, hcY k 400 (fun _ => 0)), (q_2, hcI k 401 (fun _ => 0)), (q_3, hcI k 401 (fun _ => 0)), (q_4, hcI k 401 (fun _ => 0))] : va_W)) hP hD rfl
  refine lv_aload_n hx hb dX7_init_45 rfl (lv_at hl 0 rfl) ?_
  refine lv_iconst (v := 0) hx hb dX7_init_46 (by decide) ?_
  refine va_put (D := D) (ci := 5) (v := .int 0) (C := RX7) (T := TX7) (N := 8) hx hb hts in7 tyX7 tyX7_ok nmX7 hown hG.1 hP hD hS 0 rfl rfl 5 (by decide) (hts (.fieldLink RX7 29 "ChairCane$Tape" "pieces" "I") (by decide +kernel)) (fun _ h9 => h9) rfl (tyX7_ok 5 (by decide)) rfl rfl (Nat.le_of_ble_eq_true rfl) dX7_init_47 (fun H locs hP hD hS => ?_)
  obtain ⟨hP, hD⟩ := cv (w' := ([(h0, .inr (5, [.ref q_1, .int 0, .ref q_2, .ref q_3, .ref q_4, .int 0, .int 0, .int 0])), (q_1, hcY k 400 (fun _ => 0)), (q_2, hcI k 401 (fun _ => 0)), (q_3, hcI k 401 (fun _ => 0)), (q_4, hcI k 401 (fun _ => 0))] : va_W)) hP hD rfl
  refine lv_aload_n hx hb dX7_init_50 rfl (lv_at hl 0 rfl) ?_
  refine lv_iconst (v := 0) hx hb dX7_init_51 (by decide) ?_
  refine va_put (D := D) (ci := 5) (v := .int 0) (C := RX7) (T := TX7) (N := 8) hx hb hts in7 tyX7 tyX7_ok nmX7 hown hG.1 hP hD hS 0 rfl rfl 6 (by decide) (hts (.fieldLink RX7 32 "ChairCane$Tape" "at" "I") (by decide +kernel)) (fun _ h9 => h9) rfl (tyX7_ok 6 (by decide)) rfl rfl (Nat.le_of_ble_eq_true rfl) dX7_init_52 (fun H locs hP hD hS => ?_)
  obtain ⟨hP, hD⟩ := cv (w' := ([(h0, .inr (5, [.ref q_1, .int 0, .ref q_2, .ref q_3, .ref q_4, .int 0, .int 0, .int 0])), (q_1, hcY k 400 (fun _ => 0)), (q_2, hcI k 401 (fun _ => 0)), (q_3, hcI k 401 (fun _ => 0)), (q_4, hcI k 401 (fun _ => 0))] : va_W)) hP hD rfl
  refine lv_aload_n hx hb dX7_init_55 rfl (lv_at hl 0 rfl) ?_
  refine lv_iconst (v := 0) hx hb dX7_init_56 (by decide) ?_
  refine va_put (D := D) (ci := 5) (v := .int 0) (C := RX7) (T := TX7) (N := 8) hx hb hts in7 tyX7 tyX7_ok nmX7 hown hG.1 hP hD hS 0 rfl rfl 7 (by decide) (hts (.fieldLink RX7 35 "ChairCane$Tape" "fault" "I") (by decide +kernel)) (fun _ h9 => h9) rfl (tyX7_ok 7 (by decide)) rfl rfl (Nat.le_of_ble_eq_true rfl) dX7_init_57 (fun H locs hP hD hS => ?_)
  obtain ⟨hP, hD⟩ := cv (w' := ([(h0, .inr (5, [.ref q_1, .int 0, .ref q_2, .ref q_3, .ref q_4, .int 0, .int 0, .int 0])), (q_1, hcY k 400 (fun _ => 0)), (q_2, hcI k 401 (fun _ => 0)), (q_3, hcI k 401 (fun _ => 0)), (q_4, hcI k 401 (fun _ => 0))] : va_W)) hP hD rfl
  exact hc_endV hx hb hr hlocks (fun i => [q_1, q_2, q_3, q_4].getD i 0) trivial (hP.sub [0, 1, 2, 3, 4] rfl) (hD.sub [0, 1, 2, 3, 4] (by decide +kernel) rfl) hS dX7_init_60
set_option maxHeartbeats 4000000 in
set_option maxRecDepth 100000 in
theorem c_X6_init (l : Launch) (D : va_G) (k : Nat → ClassId) (sz : Nat) (h0 : Nat) : CtV l yX6_init wsX6_init (rmK 2 17 164) [.ref h0] D k sz (([(h0, .inr (4, [.null, .null, .null, .int 0, .int 0]))] : va_W)) (fun _ : Nat → Nat => True) (fun q : Nat → Nat => standZ k h0 q) 17 164 := by
  refine CtV.mk (cc := cX6_init) (maxL := 1) (ret := none) (by decide) rfl (Nat.le_of_ble_eq_true rfl) ?_
  intro p e s m below meth c A ls E hP hD hS hl
  obtain ⟨hx, hb, hr, hml, hown, hts, hlocks, hin, hG, hA⟩ := E
  have hown : s.vm.findClass RX6 = some m.cls := hown
  have in0 : ∀ w ∈ u_ws RX0 TX0 5, w ∈ wsX6_init := fun _ h => List.mem_cons_of_mem _ (List.mem_append_left _ (List.mem_append_right _ h))
  have in2 : ∀ w ∈ u_ws RX2 TX2 4, w ∈ wsX6_init := fun _ h => List.mem_cons_of_mem _ (List.mem_append_right _ h)
  have in3 : ∀ w ∈ u_ws RX3 TX3 17, w ∈ wsX6_init := fun _ h => List.mem_cons_of_mem _ (List.mem_append_left _ (List.mem_append_left _ (List.mem_append_left _ (List.mem_append_right _ h))))
  have in6 : ∀ w ∈ u_ws RX6 TX6 5, w ∈ wsX6_init := fun _ h => List.mem_cons_of_mem _ (List.mem_append_left _ (List.mem_append_left _ (List.mem_append_right _ h)))
  have hl : lv_has ls 1 [(0, .ref h0)] := hl
  refine lv_aload_n hx hb dX6_init_0 rfl (lv_at hl 0 rfl) ?_
  refine W.objInit hx hb hown (hts (.methodLink RX6 3 objectInit) (by decide +kernel)) (hts (.instanceMethod objectInit) (by decide +kernel)) (hts (.code objectInit ⟨#[0xb1]⟩ 1 none) (by decide +kernel)) rfl (by rw [hml]; exact hl.1) rfl dX6_init_1 (Nat.le_of_ble_eq_true rfl) (Nat.le_of_ble_eq_true rfl) ?_
  refine W.eq (g2 := F0 m 4 ls []) rfl ?_
  refine lv_aload_n hx hb dX6_init_4 rfl (lv_at hl 0 rfl) ?_
  refine va_new (ci := 2) (fs := [.int 0, .int 0, .int 0, .int 0, .null, .null, .null, .null, .null, .null, .int 0, .int 0, .int 0, .null, .null, .int 0, .int 0]) (C := RX3) (T := TX3) (N := 17) hx hb hts in3 tyX3 tyX3_ok hown (hts (.classLink RX6 9 RX3) (by decide +kernel)) (hts (.instantiable RX3 17) (by decide +kernel)) (hts (.initialized RX3) (by decide +kernel)) hG.1 hP hD hS hA rfl (fun j hj => match j, hj with | 0, _ => rfl | 1, _ => rfl | 2, _ => rfl | 3, _ => rfl | 4, _ => rfl | 5, _ => rfl | 6, _ => rfl | 7, _ => rfl | 8, _ => rfl | 9, _ => rfl | 10, _ => rfl | 11, _ => rfl | 12, _ => rfl | 13, _ => rfl | 14, _ => rfl | 15, _ => rfl | 16, _ => rfl | n + 17, h => absurd h (by omega)) (Nat.le_of_ble_eq_true rfl) (Nat.le_of_ble_eq_true rfl) dX6_init_5 (fun q_1 H hP hD hS => ?_)
  refine lv_dup hx hb dX6_init_8 rfl ?_
  refine hc_N (As := []) (rest := [.ref q_1, .ref h0]) (n := 0) (host := RX8) hx hb hml hown hts hG hA hP hD hS hl.1 _ _ (c_X3_init l D k _ q_1) gX6_init_X3_init_n11 rfl ⟨rfl, rfl, Nat.le_of_ble_eq_true rfl, Nat.le_of_ble_eq_true rfl⟩ hG.2.2.2.2.2.1 (hts (.initialized RX3) (by decide +kernel)) (hts (.instanceMethod yX3_init) (by decide +kernel)) rfl (by decide +kernel) (q_r _ _) (q_l _ _) (q_nd2 _ _) ⟨rfl, rfl, Nat.le_of_ble_eq_true rfl, Nat.le_of_ble_eq_true rfl, Nat.le_of_ble_eq_true rfl⟩ dX6_init_9 (fun u_2 H locs hw hP hD hS => ?_)
  obtain ⟨hP, hD⟩ := cv (w' := ([(h0, .inr (4, [.null, .null, .null, .int 0, .int 0]))] : va_W) ++ (roomZ k q_1 u_2)) hP hD rfl
  refine va_putF (D := D) (ci := 4) (v := .ref q_1) (C := RX6) (T := TX6) (N := 5) hx hb hts in6 tyX6 tyX6_ok nmX6 hown hG.1 hP hD hS 0 rfl rfl 0 (by decide) (hts (.fieldLink RX6 12 "ChairCane$Standing" "room" "LChairCane$Room;") (by decide +kernel)) (fun _ h9 => h9) rfl hin rfl (tyX6_ok 0 (by decide)) rfl rfl (Nat.le_of_ble_eq_true rfl) dX6_init_12 (fun H locs hP hD hS => ?_)
  obtain ⟨hP, hD⟩ := cv (w' := ([(h0, .inr (4, [.ref q_1, .null, .null, .int 0, .int 0]))] : va_W) ++ (roomZ k q_1 u_2)) hP hD rfl
  refine lv_aload_n hx hb dX6_init_15 rfl (lv_at hl 0 rfl) ?_
  refine va_new (ci := 0) (fs := [.null, .null, .null, .int 0, .int 0]) (C := RX0) (T := TX0) (N := 5) hx hb hts in0 tyX0 tyX0_ok hown (hts (.classLink RX6 18 RX0) (by decide +kernel)) (hts (.instantiable RX0 5) (by decide +kernel)) (hts (.initialized RX0) (by decide +kernel)) hG.1 hP hD hS hA rfl (fun j hj => match j, hj with | 0, _ => rfl | 1, _ => rfl | 2, _ => rfl | 3, _ => rfl | 4, _ => rfl | n + 5, h => absurd h (by omega)) (Nat.le_of_ble_eq_true rfl) (Nat.le_of_ble_eq_true rfl) dX6_init_16 (fun q_4 H hP hD hS => ?_)
  refine lv_dup hx hb dX6_init_19 rfl ?_
  refine hc_N (As := []) (rest := [.ref q_4, .ref h0]) (n := 0) (host := RX8) hx hb hml hown hts hG hA hP hD hS hl.1 _ _ (c_X0_init l D k _ q_4) gX6_init_X0_init_n20 rfl ⟨rfl, rfl, Nat.le_of_ble_eq_true rfl, Nat.le_of_ble_eq_true rfl⟩ hG.2.2.2.2.2.2.1 (hts (.initialized RX0) (by decide +kernel)) (hts (.instanceMethod yX0_init) (by decide +kernel)) rfl (by decide +kernel) (q_r _ _) (q_l _ _) (q_nd2 _ _) ⟨rfl, rfl, Nat.le_of_ble_eq_true rfl, Nat.le_of_ble_eq_true rfl, Nat.le_of_ble_eq_true rfl⟩ dX6_init_20 (fun u_5 H locs hw hP hD hS => ?_)
  obtain ⟨hP, hD⟩ := cv (w' := ([(h0, .inr (4, [.ref q_1, .null, .null, .int 0, .int 0]))] : va_W) ++ (roomZ k q_1 u_2 ++ (actsZ k q_4 u_5))) hP hD rfl
  refine va_putF (D := D) (ci := 4) (v := .ref q_4) (C := RX6) (T := TX6) (N := 5) hx hb hts in6 tyX6 tyX6_ok nmX6 hown hG.1 hP hD hS 0 rfl rfl 1 (by decide) (hts (.fieldLink RX6 21 "ChairCane$Standing" "acts" "LChairCane$Acts;") (by decide +kernel)) (fun _ h9 => h9) rfl hin rfl (tyX6_ok 1 (by decide)) rfl rfl (Nat.le_of_ble_eq_true rfl) dX6_init_23 (fun H locs hP hD hS => ?_)
  obtain ⟨hP, hD⟩ := cv (w' := ([(h0, .inr (4, [.ref q_1, .ref q_4, .null, .int 0, .int 0]))] : va_W) ++ (roomZ k q_1 u_2 ++ (actsZ k q_4 u_5))) hP hD rfl
  refine lv_aload_n hx hb dX6_init_26 rfl (lv_at hl 0 rfl) ?_
  refine va_new (ci := 1) (fs := [.null, .null, .null, .int 0]) (C := RX2) (T := TX2) (N := 4) hx hb hts in2 tyX2 tyX2_ok hown (hts (.classLink RX6 25 RX2) (by decide +kernel)) (hts (.instantiable RX2 4) (by decide +kernel)) (hts (.initialized RX2) (by decide +kernel)) hG.1 hP hD hS hA rfl (fun j hj => match j, hj with | 0, _ => rfl | 1, _ => rfl | 2, _ => rfl | 3, _ => rfl | n + 4, h => absurd h (by omega)) (Nat.le_of_ble_eq_true rfl) (Nat.le_of_ble_eq_true rfl) dX6_init_27 (fun q_7 H hP hD hS => ?_)
  refine lv_dup hx hb dX6_init_30 rfl ?_
  refine hc_N (As := []) (rest := [.ref q_7, .ref h0]) (n := 0) (host := RX8) hx hb hml hown hts hG hA hP hD hS hl.1 _ _ (c_X2_init l D k _ q_7) gX6_init_X2_init_n27 rfl ⟨rfl, rfl, Nat.le_of_ble_eq_true rfl, Nat.le_of_ble_eq_true rfl⟩ hG.2.2.2.2.2.2.2.1 (hts (.initialized RX2) (by decide +kernel)) (hts (.instanceMethod yX2_init) (by decide +kernel)) rfl (by decide +kernel) (q_r _ _) (q_l _ _) (q_nd2 _ _) ⟨rfl, rfl, Nat.le_of_ble_eq_true rfl, Nat.le_of_ble_eq_true rfl, Nat.le_of_ble_eq_true rfl⟩ dX6_init_31 (fun u_8 H locs hw hP hD hS => ?_)
  obtain ⟨hP, hD⟩ := cv (w' := ([(h0, .inr (4, [.ref q_1, .ref q_4, .null, .int 0, .int 0]))] : va_W) ++ (roomZ k q_1 u_2 ++ (actsZ k q_4 u_5 ++ (notesZ k q_7 u_8)))) hP hD rfl
  refine va_putF (D := D) (ci := 4) (v := .ref q_7) (C := RX6) (T := TX6) (N := 5) hx hb hts in6 tyX6 tyX6_ok nmX6 hown hG.1 hP hD hS 0 rfl rfl 2 (by decide) (hts (.fieldLink RX6 28 "ChairCane$Standing" "notes" "LChairCane$Notes;") (by decide +kernel)) (fun _ h9 => h9) rfl hin rfl (tyX6_ok 2 (by decide)) rfl rfl (Nat.le_of_ble_eq_true rfl) dX6_init_34 (fun H locs hP hD hS => ?_)
  obtain ⟨hP, hD⟩ := cv (w' := ([(h0, .inr (4, [.ref q_1, .ref q_4, .ref q_7, .int 0, .int 0]))] : va_W) ++ (roomZ k q_1 u_2 ++ (actsZ k q_4 u_5 ++ (notesZ k q_7 u_8)))) hP hD rfl
  refine lv_aload_n hx hb dX6_init_37 rfl (lv_at hl 0 rfl) ?_
  refine lv_iconst (v := (-1)) hx hb dX6_init_38 (by decide) ?_
  refine va_put (D := D) (ci := 4) (v := .int (-1)) (C := RX6) (T := TX6) (N := 5) hx hb hts in6 tyX6 tyX6_ok nmX6 hown hG.1 hP hD hS 0 rfl rfl 3 (by decide) (hts (.fieldLink RX6 32 "ChairCane$Standing" "inForce" "I") (by decide +kernel)) (fun _ h9 => h9) rfl (tyX6_ok 3 (by decide)) rfl rfl (Nat.le_of_ble_eq_true rfl) dX6_init_39 (fun H locs hP hD hS => ?_)
  obtain ⟨hP, hD⟩ := cv (w' := ([(h0, .inr (4, [.ref q_1, .ref q_4, .ref q_7, .int (-1), .int 0]))] : va_W) ++ (roomZ k q_1 u_2 ++ (actsZ k q_4 u_5 ++ (notesZ k q_7 u_8)))) hP hD rfl
  refine lv_aload_n hx hb dX6_init_42 rfl (lv_at hl 0 rfl) ?_
  refine lv_iconst (v := 0) hx hb dX6_init_43 (by decide) ?_
  refine va_put (D := D) (ci := 4) (v := .int 0) (C := RX6) (T := TX6) (N := 5) hx hb hts in6 tyX6 tyX6_ok nmX6 hown hG.1 hP hD hS 0 rfl rfl 4 (by decide) (hts (.fieldLink RX6 36 "ChairCane$Standing" "x" "I") (by decide +kernel)) (fun _ h9 => h9) rfl (tyX6_ok 4 (by decide)) rfl rfl (Nat.le_of_ble_eq_true rfl) dX6_init_44 (fun H locs hP hD hS => ?_)
  obtain ⟨hP, hD⟩ := cv (w' := ([(h0, .inr (4, [.ref q_1, .ref q_4, .ref q_7, .int (-1), .int 0]))] : va_W) ++ (roomZ k q_1 u_2 ++ (actsZ k q_4 u_5 ++ (notesZ k q_7 u_8)))) hP hD rfl
  exact hc_endV hx hb hr hlocks (fun i => [q_1, q_4, q_7, (u_2 0), (u_2 1), (u_2 2), (u_2 3), (u_2 4), (u_2 5), (u_2 6), (u_2 7), (u_5 0), (u_5 1), (u_5 2), (u_8 0), (u_8 1), (u_8 2)].getD i 0) trivial (hP.sub [0, 1, 2, 3, 4, 5, 6, 7, 8, 9, 10, 11, 12, 13, 14, 15, 16, 17] rfl) (hD.sub [0, 1, 2, 3, 4, 5, 6, 7, 8, 9, 10, 11, 12, 13, 14, 15, 16, 17] (by decide +kernel) rfl) hS dX6_init_47
