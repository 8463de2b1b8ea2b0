/-! the reference: sets, gives, acts -/
theorem dX9_allGive_0 : decode cX9_allGive 0 = .ok (.iconst 0, 1) := by decide +kernel
theorem dX9_allGive_1 : decode cX9_allGive 1 = .ok (.istore_n 1, 1) := by decide +kernel
theorem dX9_allGive_2 : decode cX9_allGive 2 = .ok (.iconst 0, 1) := by decide +kernel
theorem dX9_allGive_3 : decode cX9_allGive 3 = .ok (.istore_n 2, 1) := by decide +kernel
theorem dX9_allGive_4 : decode cX9_allGive 4 = .ok (.iload_n 2, 1) := by decide +kernel
theorem dX9_allGive_5 : decode cX9_allGive 5 = .ok (.aload_n 0, 1) := by decide +kernel
theorem dX9_allGive_6 : decode cX9_allGive 6 = .ok (.getfield 9, 3) := by decide +kernel
theorem dX9_allGive_9 : decode cX9_allGive 9 = .ok (.iconst 3, 1) := by decide +kernel
theorem dX9_allGive_10 : decode cX9_allGive 10 = .ok (.iaload, 1) := by decide +kernel
theorem dX9_allGive_11 : decode cX9_allGive 11 = .ok (.if_icmp .ge 17, 3) := by decide +kernel
theorem dX9_allGive_14 : decode cX9_allGive 14 = .ok (.iload_n 1, 1) := by decide +kernel
theorem dX9_allGive_15 : decode cX9_allGive 15 = .ok (.aload_n 0, 1) := by decide +kernel
theorem dX9_allGive_16 : decode cX9_allGive 16 = .ok (.iload_n 2, 1) := by decide +kernel
theorem dX9_allGive_17 : decode cX9_allGive 17 = .ok (.invokevirtual 359, 3) := by decide +kernel
theorem dX9_allGive_20 : decode cX9_allGive 20 = .ok (.iadd, 1) := by decide +kernel
theorem dX9_allGive_21 : decode cX9_allGive 21 = .ok (.istore_n 1, 1) := by decide +kernel
theorem dX9_allGive_22 : decode cX9_allGive 22 = .ok (.iinc 2 1, 3) := by decide +kernel
theorem dX9_allGive_25 : decode cX9_allGive 25 = .ok (.goto (-21), 3) := by decide +kernel
theorem dX9_allGive_28 : decode cX9_allGive 28 = .ok (.iload_n 1, 1) := by decide +kernel
theorem dX9_allGive_29 : decode cX9_allGive 29 = .ok (.ireturn, 1) := by decide +kernel
theorem dX9_earns_0 : decode cX9_earns 0 = .ok (.aload_n 0, 1) := by decide +kernel
theorem dX9_earns_1 : decode cX9_earns 1 = .ok (.getfield 16, 3) := by decide +kernel
theorem dX9_earns_4 : decode cX9_earns 4 = .ok (.iload_n 1, 1) := by decide +kernel
theorem dX9_earns_5 : decode cX9_earns 5 = .ok (.iaload, 1) := by decide +kernel
theorem dX9_earns_6 : decode cX9_earns 6 = .ok (.iconst 1, 1) := by decide +kernel
theorem dX9_earns_7 : decode cX9_earns 7 = .ok (.if_icmp .ne 16, 3) := by decide +kernel
theorem dX9_earns_10 : decode cX9_earns 10 = .ok (.iconst 1, 1) := by decide +kernel
theorem dX9_earns_11 : decode cX9_earns 11 = .ok (.aload_n 0, 1) := by decide +kernel
theorem dX9_earns_12 : decode cX9_earns 12 = .ok (.iload_n 1, 1) := by decide +kernel
theorem dX9_earns_13 : decode cX9_earns 13 = .ok (.invokevirtual 359, 3) := by decide +kernel
theorem dX9_earns_16 : decode cX9_earns 16 = .ok (.bipush 10, 2) := by decide +kernel
theorem dX9_earns_18 : decode cX9_earns 18 = .ok (.idiv, 1) := by decide +kernel
theorem dX9_earns_19 : decode cX9_earns 19 = .ok (.iadd, 1) := by decide +kernel
theorem dX9_earns_20 : decode cX9_earns 20 = .ok (.goto 4, 3) := by decide +kernel
theorem dX9_earns_23 : decode cX9_earns 23 = .ok (.iconst 0, 1) := by decide +kernel
theorem dX9_earns_24 : decode cX9_earns 24 = .ok (.ireturn, 1) := by decide +kernel
theorem dX9_ease_0 : decode cX9_ease 0 = .ok (.aload_n 0, 1) := by decide +kernel
theorem dX9_ease_1 : decode cX9_ease 1 = .ok (.invokevirtual 404, 3) := by decide +kernel
theorem dX9_ease_4 : decode cX9_ease 4 = .ok (.ifCond .eq 13, 3) := by decide +kernel
theorem dX9_ease_7 : decode cX9_ease 7 = .ok (.iload_n 1, 1) := by decide +kernel
theorem dX9_ease_8 : decode cX9_ease 8 = .ok (.i2l, 1) := by decide +kernel
theorem dX9_ease_9 : decode cX9_ease 9 = .ok (.lconst 0, 1) := by decide +kernel
theorem dX9_ease_10 : decode cX9_ease 10 = .ok (.lconst 1, 1) := by decide +kernel
theorem dX9_ease_11 : decode cX9_ease 11 = .ok (.invokestatic 131, 3) := by decide +kernel
theorem dX9_ease_14 : decode cX9_ease 14 = .ok (.ifCond .ne 5, 3) := by decide +kernel
theorem dX9_ease_17 : decode cX9_ease 17 = .ok (.iconst (-1), 1) := by decide +kernel
theorem dX9_ease_18 : decode cX9_ease 18 = .ok (.ireturn, 1) := by decide +kernel
theorem dX9_ease_19 : decode cX9_ease 19 = .ok (.aload_n 0, 1) := by decide +kernel
theorem dX9_ease_20 : decode cX9_ease 20 = .ok (.iconst 0, 1) := by decide +kernel
theorem dX9_ease_21 : decode cX9_ease 21 = .ok (.invokevirtual 341, 3) := by decide +kernel
theorem dX9_ease_24 : decode cX9_ease 24 = .ok (.istore_n 2, 1) := by decide +kernel
theorem dX9_ease_25 : decode cX9_ease 25 = .ok (.aload_n 0, 1) := by decide +kernel
theorem dX9_ease_26 : decode cX9_ease 26 = .ok (.iconst 1, 1) := by decide +kernel
theorem dX9_ease_27 : decode cX9_ease 27 = .ok (.invokevirtual 341, 3) := by decide +kernel
theorem dX9_ease_30 : decode cX9_ease 30 = .ok (.istore_n 3, 1) := by decide +kernel
theorem dX9_ease_31 : decode cX9_ease 31 = .ok (.iconst 0, 1) := by decide +kernel
theorem dX9_ease_32 : decode cX9_ease 32 = .ok (.istore 4, 2) := by decide +kernel
theorem dX9_ease_34 : decode cX9_ease 34 = .ok (.iconst 0, 1) := by decide +kernel
theorem dX9_ease_35 : decode cX9_ease 35 = .ok (.istore 5, 2) := by decide +kernel
theorem dX9_ease_37 : decode cX9_ease 37 = .ok (.iload 5, 2) := by decide +kernel
theorem dX9_ease_39 : decode cX9_ease 39 = .ok (.iload_n 2, 1) := by decide +kernel
theorem dX9_ease_40 : decode cX9_ease 40 = .ok (.if_icmp .gt 46, 3) := by decide +kernel
theorem dX9_ease_43 : decode cX9_ease 43 = .ok (.iload 5, 2) := by decide +kernel
theorem dX9_ease_45 : decode cX9_ease 45 = .ok (.iload_n 2, 1) := by decide +kernel
theorem dX9_ease_46 : decode cX9_ease 46 = .ok (.iconst (-1), 1) := by decide +kernel
theorem dX9_ease_47 : decode cX9_ease 47 = .ok (.ixor, 1) := by decide +kernel
theorem dX9_ease_48 : decode cX9_ease 48 = .ok (.iand, 1) := by decide +kernel
theorem dX9_ease_49 : decode cX9_ease 49 = .ok (.ifCond .ne 31, 3) := by decide +kernel
theorem dX9_ease_52 : decode cX9_ease 52 = .ok (.iload 5, 2) := by decide +kernel
theorem dX9_ease_54 : decode cX9_ease 54 = .ok (.invokestatic 370, 3) := by decide +kernel
theorem dX9_ease_57 : decode cX9_ease 57 = .ok (.iload 4, 2) := by decide +kernel
theorem dX9_ease_59 : decode cX9_ease 59 = .ok (.invokestatic 370, 3) := by decide +kernel
theorem dX9_ease_62 : decode cX9_ease 62 = .ok (.if_icmp .le 18, 3) := by decide +kernel
theorem dX9_ease_65 : decode cX9_ease 65 = .ok (.aload_n 0, 1) := by decide +kernel
theorem dX9_ease_66 : decode cX9_ease 66 = .ok (.iload_n 3, 1) := by decide +kernel
theorem dX9_ease_67 : decode cX9_ease 67 = .ok (.iload 5, 2) := by decide +kernel
theorem dX9_ease_69 : decode cX9_ease 69 = .ok (.ior, 1) := by decide +kernel
theorem dX9_ease_70 : decode cX9_ease 70 = .ok (.invokevirtual 367, 3) := by decide +kernel
theorem dX9_ease_73 : decode cX9_ease 73 = .ok (.ifCond .ne 7, 3) := by decide +kernel
theorem dX9_ease_76 : decode cX9_ease 76 = .ok (.iload 5, 2) := by decide +kernel
theorem dX9_ease_78 : decode cX9_ease 78 = .ok (.istore 4, 2) := by decide +kernel
theorem dX9_ease_80 : decode cX9_ease 80 = .ok (.iinc 5 1, 3) := by decide +kernel
theorem dX9_ease_83 : decode cX9_ease 83 = .ok (.goto (-46), 3) := by decide +kernel
theorem dX9_ease_86 : decode cX9_ease 86 = .ok (.iload_n 1, 1) := by decide +kernel
theorem dX9_ease_87 : decode cX9_ease 87 = .ok (.ifCond .ne 11, 3) := by decide +kernel
theorem dX9_ease_90 : decode cX9_ease 90 = .ok (.iload 4, 2) := by decide +kernel
theorem dX9_ease_92 : decode cX9_ease 92 = .ok (.invokestatic 370, 3) := by decide +kernel
theorem dX9_ease_95 : decode cX9_ease 95 = .ok (.goto 5, 3) := by decide +kernel
theorem dX9_ease_98 : decode cX9_ease 98 = .ok (.iload 4, 2) := by decide +kernel
theorem dX9_ease_100 : decode cX9_ease 100 = .ok (.ireturn, 1) := by decide +kernel
theorem dX9_help_0 : decode cX9_help 0 = .ok (.aload_n 0, 1) := by decide +kernel
theorem dX9_help_1 : decode cX9_help 1 = .ok (.iload_n 1, 1) := by decide +kernel
theorem dX9_help_2 : decode cX9_help 2 = .ok (.iconst 2, 1) := by decide +kernel
theorem dX9_help_3 : decode cX9_help 3 = .ok (.invokevirtual 410, 3) := by decide +kernel
theorem dX9_help_6 : decode cX9_help 6 = .ok (.ifCond .ne 5, 3) := by decide +kernel
theorem dX9_help_9 : decode cX9_help 9 = .ok (.iconst (-1), 1) := by decide +kernel
theorem dX9_help_10 : decode cX9_help 10 = .ok (.ireturn, 1) := by decide +kernel
theorem dX9_help_11 : decode cX9_help 11 = .ok (.aload_n 0, 1) := by decide +kernel
theorem dX9_help_12 : decode cX9_help 12 = .ok (.invokevirtual 407, 3) := by decide +kernel
theorem dX9_help_15 : decode cX9_help 15 = .ok (.aload_n 0, 1) := by decide +kernel
theorem dX9_help_16 : decode cX9_help 16 = .ok (.getfield 16, 3) := by decide +kernel
theorem dX9_help_19 : decode cX9_help 19 = .ok (.iload_n 1, 1) := by decide +kernel
theorem dX9_help_20 : decode cX9_help 20 = .ok (.iconst 0, 1) := by decide +kernel
theorem dX9_help_21 : decode cX9_help 21 = .ok (.iastore, 1) := by decide +kernel
theorem dX9_help_22 : decode cX9_help 22 = .ok (.aload_n 0, 1) := by decide +kernel
theorem dX9_help_23 : decode cX9_help 23 = .ok (.iconst 2, 1) := by decide +kernel
theorem dX9_help_24 : decode cX9_help 24 = .ok (.invokevirtual 341, 3) := by decide +kernel
theorem dX9_help_27 : decode cX9_help 27 = .ok (.invokestatic 370, 3) := by decide +kernel
theorem dX9_help_30 : decode cX9_help 30 = .ok (.ireturn, 1) := by decide +kernel
theorem dX9_isSo_0 : decode cX9_isSo 0 = .ok (.aload_n 0, 1) := by decide +kernel
theorem dX9_isSo_1 : decode cX9_isSo 1 = .ok (.iload_n 1, 1) := by decide +kernel
theorem dX9_isSo_2 : decode cX9_isSo 2 = .ok (.invokevirtual 362, 3) := by decide +kernel
theorem dX9_isSo_5 : decode cX9_isSo 5 = .ok (.ifCond .eq 17, 3) := by decide +kernel
theorem dX9_isSo_8 : decode cX9_isSo 8 = .ok (.aload_n 0, 1) := by decide +kernel
theorem dX9_isSo_9 : decode cX9_isSo 9 = .ok (.getfield 16, 3) := by decide +kernel
theorem dX9_isSo_12 : decode cX9_isSo 12 = .ok (.iload_n 1, 1) := by decide +kernel
theorem dX9_isSo_13 : decode cX9_isSo 13 = .ok (.iaload, 1) := by decide +kernel
theorem dX9_isSo_14 : decode cX9_isSo 14 = .ok (.iload_n 2, 1) := by decide +kernel
theorem dX9_isSo_15 : decode cX9_isSo 15 = .ok (.if_icmp .ne 7, 3) := by decide +kernel
theorem dX9_isSo_18 : decode cX9_isSo 18 = .ok (.iconst 1, 1) := by decide +kernel
theorem dX9_isSo_19 : decode cX9_isSo 19 = .ok (.goto 4, 3) := by decide +kernel
theorem dX9_isSo_22 : decode cX9_isSo 22 = .ok (.iconst 0, 1) := by decide +kernel
theorem dX9_isSo_23 : decode cX9_isSo 23 = .ok (.ireturn, 1) := by decide +kernel
theorem dX9_keepsAct_0 : decode cX9_keepsAct 0 = .ok (.aload_n 0, 1) := by decide +kernel
theorem dX9_keepsAct_1 : decode cX9_keepsAct 1 = .ok (.getfield 299, 3) := by decide +kernel
theorem dX9_keepsAct_4 : decode cX9_keepsAct 4 = .ok (.bipush 20, 2) := by decide +kernel
theorem dX9_keepsAct_6 : decode cX9_keepsAct 6 = .ok (.if_icmp .ne 44, 3) := by decide +kernel
theorem dX9_keepsAct_9 : decode cX9_keepsAct 9 = .ok (.bipush 13, 2) := by decide +kernel
theorem dX9_keepsAct_11 : decode cX9_keepsAct 11 = .ok (.istore_n 1, 1) := by decide +kernel
theorem dX9_keepsAct_12 : decode cX9_keepsAct 12 = .ok (.iload_n 1, 1) := by decide +kernel
theorem dX9_keepsAct_13 : decode cX9_keepsAct 13 = .ok (.sipush 260, 3) := by decide +kernel
theorem dX9_keepsAct_16 : decode cX9_keepsAct 16 = .ok (.if_icmp .ge 24, 3) := by decide +kernel
theorem dX9_keepsAct_19 : decode cX9_keepsAct 19 = .ok (.aload_n 0, 1) := by decide +kernel
theorem dX9_keepsAct_20 : decode cX9_keepsAct 20 = .ok (.getfield 100, 3) := by decide +kernel
theorem dX9_keepsAct_23 : decode cX9_keepsAct 23 = .ok (.iload_n 1, 1) := by decide +kernel
theorem dX9_keepsAct_24 : decode cX9_keepsAct 24 = .ok (.bipush 13, 2) := by decide +kernel
theorem dX9_keepsAct_26 : decode cX9_keepsAct 26 = .ok (.isub, 1) := by decide +kernel
theorem dX9_keepsAct_27 : decode cX9_keepsAct 27 = .ok (.aload_n 0, 1) := by decide +kernel
theorem dX9_keepsAct_28 : decode cX9_keepsAct 28 = .ok (.getfield 100, 3) := by decide +kernel
theorem dX9_keepsAct_31 : decode cX9_keepsAct 31 = .ok (.iload_n 1, 1) := by decide +kernel
theorem dX9_keepsAct_32 : decode cX9_keepsAct 32 = .ok (.iaload, 1) := by decide +kernel
theorem dX9_keepsAct_33 : decode cX9_keepsAct 33 = .ok (.iastore, 1) := by decide +kernel
theorem dX9_keepsAct_34 : decode cX9_keepsAct 34 = .ok (.iinc 1 1, 3) := by decide +kernel
theorem dX9_keepsAct_37 : decode cX9_keepsAct 37 = .ok (.goto (-25), 3) := by decide +kernel
theorem dX9_keepsAct_40 : decode cX9_keepsAct 40 = .ok (.aload_n 0, 1) := by decide +kernel
theorem dX9_keepsAct_41 : decode cX9_keepsAct 41 = .ok (.dup, 1) := by decide +kernel
theorem dX9_keepsAct_42 : decode cX9_keepsAct 42 = .ok (.getfield 299, 3) := by decide +kernel
theorem dX9_keepsAct_45 : decode cX9_keepsAct 45 = .ok (.iconst 1, 1) := by decide +kernel
theorem dX9_keepsAct_46 : decode cX9_keepsAct 46 = .ok (.isub, 1) := by decide +kernel
theorem dX9_keepsAct_47 : decode cX9_keepsAct 47 = .ok (.putfield 299, 3) := by decide +kernel
theorem dX9_keepsAct_50 : decode cX9_keepsAct 50 = .ok (.aload_n 0, 1) := by decide +kernel
theorem dX9_keepsAct_51 : decode cX9_keepsAct 51 = .ok (.aload_n 0, 1) := by decide +kernel
theorem dX9_keepsAct_52 : decode cX9_keepsAct 52 = .ok (.getfield 299, 3) := by decide +kernel
theorem dX9_keepsAct_55 : decode cX9_keepsAct 55 = .ok (.iconst 0, 1) := by decide +kernel
theorem dX9_keepsAct_56 : decode cX9_keepsAct 56 = .ok (.invokevirtual 400, 3) := by decide +kernel
theorem dX9_keepsAct_59 : decode cX9_keepsAct 59 = .ok (.aload_n 0, 1) := by decide +kernel
theorem dX9_keepsAct_60 : decode cX9_keepsAct 60 = .ok (.dup, 1) := by decide +kernel
theorem dX9_keepsAct_61 : decode cX9_keepsAct 61 = .ok (.getfield 299, 3) := by decide +kernel
theorem dX9_keepsAct_64 : decode cX9_keepsAct 64 = .ok (.iconst 1, 1) := by decide +kernel
theorem dX9_keepsAct_65 : decode cX9_keepsAct 65 = .ok (.iadd, 1) := by decide +kernel
theorem dX9_keepsAct_66 : decode cX9_keepsAct 66 = .ok (.putfield 299, 3) := by decide +kernel
theorem dX9_keepsAct_69 : decode cX9_keepsAct 69 = .ok (.return_, 1) := by decide +kernel
theorem dX9_let_0 : decode cX9_let 0 = .ok (.aload_n 0, 1) := by decide +kernel
theorem dX9_let_1 : decode cX9_let 1 = .ok (.iload_n 1, 1) := by decide +kernel
theorem dX9_let_2 : decode cX9_let 2 = .ok (.invokevirtual 347, 3) := by decide +kernel
theorem dX9_let_5 : decode cX9_let 5 = .ok (.ifCond .eq 25, 3) := by decide +kernel
theorem dX9_let_8 : decode cX9_let 8 = .ok (.iload_n 2, 1) := by decide +kernel
theorem dX9_let_9 : decode cX9_let 9 = .ok (.i2l, 1) := by decide +kernel
theorem dX9_let_10 : decode cX9_let 10 = .ok (.lconst 0, 1) := by decide +kernel
theorem dX9_let_11 : decode cX9_let 11 = .ok (.ldc2_w 413, 3) := by decide +kernel
theorem dX9_let_14 : decode cX9_let 14 = .ok (.invokestatic 131, 3) := by decide +kernel
theorem dX9_let_17 : decode cX9_let 17 = .ok (.ifCond .eq 13, 3) := by decide +kernel
theorem dX9_let_20 : decode cX9_let 20 = .ok (.aload_n 0, 1) := by decide +kernel
theorem dX9_let_21 : decode cX9_let 21 = .ok (.getfield 13, 3) := by decide +kernel
theorem dX9_let_24 : decode cX9_let 24 = .ok (.iload_n 1, 1) := by decide +kernel
theorem dX9_let_25 : decode cX9_let 25 = .ok (.iaload, 1) := by decide +kernel
theorem dX9_let_26 : decode cX9_let 26 = .ok (.iload_n 2, 1) := by decide +kernel
theorem dX9_let_27 : decode cX9_let 27 = .ok (.if_icmp .ne 5, 3) := by decide +kernel
theorem dX9_let_30 : decode cX9_let 30 = .ok (.iconst (-1), 1) := by decide +kernel
theorem dX9_let_31 : decode cX9_let 31 = .ok (.ireturn, 1) := by decide +kernel
theorem dX9_let_32 : decode cX9_let 32 = .ok (.aload_n 0, 1) := by decide +kernel
theorem dX9_let_33 : decode cX9_let 33 = .ok (.invokevirtual 407, 3) := by decide +kernel
theorem dX9_let_36 : decode cX9_let 36 = .ok (.aload_n 0, 1) := by decide +kernel
theorem dX9_let_37 : decode cX9_let 37 = .ok (.getfield 13, 3) := by decide +kernel
theorem dX9_let_40 : decode cX9_let 40 = .ok (.iload_n 1, 1) := by decide +kernel
theorem dX9_let_41 : decode cX9_let 41 = .ok (.iload_n 2, 1) := by decide +kernel
theorem dX9_let_42 : decode cX9_let 42 = .ok (.iastore, 1) := by decide +kernel
theorem dX9_let_43 : decode cX9_let 43 = .ok (.aload_n 0, 1) := by decide +kernel
theorem dX9_let_44 : decode cX9_let 44 = .ok (.invokevirtual 380, 3) := by decide +kernel
theorem dX9_let_47 : decode cX9_let 47 = .ok (.ireturn, 1) := by decide +kernel
theorem dX9_most_0 : decode cX9_most 0 = .ok (.aload_n 0, 1) := by decide +kernel
theorem dX9_most_1 : decode cX9_most 1 = .ok (.iload_n 1, 1) := by decide +kernel
theorem dX9_most_2 : decode cX9_most 2 = .ok (.invokevirtual 347, 3) := by decide +kernel
theorem dX9_most_5 : decode cX9_most 5 = .ok (.ifCond .ne 5, 3) := by decide +kernel
theorem dX9_most_8 : decode cX9_most 8 = .ok (.iconst (-1), 1) := by decide +kernel
theorem dX9_most_9 : decode cX9_most 9 = .ok (.ireturn, 1) := by decide +kernel
theorem dX9_most_10 : decode cX9_most 10 = .ok (.aload_n 0, 1) := by decide +kernel
theorem dX9_most_11 : decode cX9_most 11 = .ok (.getfield 13, 3) := by decide +kernel
theorem dX9_most_14 : decode cX9_most 14 = .ok (.iload_n 1, 1) := by decide +kernel
theorem dX9_most_15 : decode cX9_most 15 = .ok (.iaload, 1) := by decide +kernel
theorem dX9_most_16 : decode cX9_most 16 = .ok (.istore_n 2, 1) := by decide +kernel
theorem dX9_most_17 : decode cX9_most 17 = .ok (.aload_n 0, 1) := by decide +kernel
theorem dX9_most_18 : decode cX9_most 18 = .ok (.iconst 1, 1) := by decide +kernel
theorem dX9_most_19 : decode cX9_most 19 = .ok (.invokevirtual 341, 3) := by decide +kernel
theorem dX9_most_22 : decode cX9_most 22 = .ok (.istore_n 3, 1) := by decide +kernel
theorem dX9_most_23 : decode cX9_most 23 = .ok (.bipush (-2), 2) := by decide +kernel
theorem dX9_most_25 : decode cX9_most 25 = .ok (.istore 4, 2) := by decide +kernel
theorem dX9_most_27 : decode cX9_most 27 = .ok (.iconst 0, 1) := by decide +kernel
theorem dX9_most_28 : decode cX9_most 28 = .ok (.istore 5, 2) := by decide +kernel
theorem dX9_most_30 : decode cX9_most 30 = .ok (.iload 5, 2) := by decide +kernel
theorem dX9_most_32 : decode cX9_most 32 = .ok (.bipush 99, 2) := by decide +kernel
theorem dX9_most_34 : decode cX9_most 34 = .ok (.if_icmp .gt 34, 3) := by decide +kernel
theorem dX9_most_37 : decode cX9_most 37 = .ok (.aload_n 0, 1) := by decide +kernel
theorem dX9_most_38 : decode cX9_most 38 = .ok (.getfield 13, 3) := by decide +kernel
theorem dX9_most_41 : decode cX9_most 41 = .ok (.iload_n 1, 1) := by decide +kernel
theorem dX9_most_42 : decode cX9_most 42 = .ok (.iload 5, 2) := by decide +kernel
theorem dX9_most_44 : decode cX9_most 44 = .ok (.iastore, 1) := by decide +kernel
theorem dX9_most_45 : decode cX9_most 45 = .ok (.aload_n 0, 1) := by decide +kernel
theorem dX9_most_46 : decode cX9_most 46 = .ok (.iload_n 3, 1) := by decide +kernel
theorem dX9_most_47 : decode cX9_most 47 = .ok (.invokevirtual 367, 3) := by decide +kernel
theorem dX9_most_50 : decode cX9_most 50 = .ok (.ifCond .ne 8, 3) := by decide +kernel
theorem dX9_most_53 : decode cX9_most 53 = .ok (.iload 5, 2) := by decide +kernel
theorem dX9_most_55 : decode cX9_most 55 = .ok (.goto 5, 3) := by decide +kernel
theorem dX9_most_58 : decode cX9_most 58 = .ok (.iload 4, 2) := by decide +kernel
theorem dX9_most_60 : decode cX9_most 60 = .ok (.istore 4, 2) := by decide +kernel
theorem dX9_most_62 : decode cX9_most 62 = .ok (.iinc 5 1, 3) := by decide +kernel
theorem dX9_most_65 : decode cX9_most 65 = .ok (.goto (-35), 3) := by decide +kernel
theorem dX9_most_68 : decode cX9_most 68 = .ok (.aload_n 0, 1) := by decide +kernel
theorem dX9_most_69 : decode cX9_most 69 = .ok (.getfield 13, 3) := by decide +kernel
theorem dX9_most_72 : decode cX9_most 72 = .ok (.iload_n 1, 1) := by decide +kernel
theorem dX9_most_73 : decode cX9_most 73 = .ok (.iload_n 2, 1) := by decide +kernel
theorem dX9_most_74 : decode cX9_most 74 = .ok (.iastore, 1) := by decide +kernel
theorem dX9_most_75 : decode cX9_most 75 = .ok (.iload 4, 2) := by decide +kernel
theorem dX9_most_77 : decode cX9_most 77 = .ok (.ireturn, 1) := by decide +kernel
theorem dX9_moves_0 : decode cX9_moves 0 = .ok (.aload_n 0, 1) := by decide +kernel
theorem dX9_moves_1 : decode cX9_moves 1 = .ok (.getfield 386, 3) := by decide +kernel
theorem dX9_moves_4 : decode cX9_moves 4 = .ok (.ifCond .eq 15, 3) := by decide +kernel
theorem dX9_moves_7 : decode cX9_moves 7 = .ok (.aload_n 0, 1) := by decide +kernel
theorem dX9_moves_8 : decode cX9_moves 8 = .ok (.getfield 100, 3) := by decide +kernel
theorem dX9_moves_11 : decode cX9_moves 11 = .ok (.aload_n 0, 1) := by decide +kernel
theorem dX9_moves_12 : decode cX9_moves 12 = .ok (.getfield 390, 3) := by decide +kernel
theorem dX9_moves_15 : decode cX9_moves 15 = .ok (.iaload, 1) := by decide +kernel
theorem dX9_moves_16 : decode cX9_moves 16 = .ok (.goto 4, 3) := by decide +kernel
theorem dX9_moves_19 : decode cX9_moves 19 = .ok (.iload_n 1, 1) := by decide +kernel
theorem dX9_moves_20 : decode cX9_moves 20 = .ok (.istore_n 2, 1) := by decide +kernel
theorem dX9_moves_21 : decode cX9_moves 21 = .ok (.aload_n 0, 1) := by decide +kernel
theorem dX9_moves_22 : decode cX9_moves 22 = .ok (.getfield 100, 3) := by decide +kernel
theorem dX9_moves_25 : decode cX9_moves 25 = .ok (.aload_n 0, 1) := by decide +kernel
theorem dX9_moves_26 : decode cX9_moves 26 = .ok (.getfield 390, 3) := by decide +kernel
theorem dX9_moves_29 : decode cX9_moves 29 = .ok (.iload_n 2, 1) := by decide +kernel
theorem dX9_moves_30 : decode cX9_moves 30 = .ok (.iastore, 1) := by decide +kernel
theorem dX9_moves_31 : decode cX9_moves 31 = .ok (.aload_n 0, 1) := by decide +kernel
theorem dX9_moves_32 : decode cX9_moves 32 = .ok (.dup, 1) := by decide +kernel
theorem dX9_moves_33 : decode cX9_moves 33 = .ok (.getfield 390, 3) := by decide +kernel
theorem dX9_moves_36 : decode cX9_moves 36 = .ok (.iconst 1, 1) := by decide +kernel
theorem dX9_moves_37 : decode cX9_moves 37 = .ok (.iadd, 1) := by decide +kernel
theorem dX9_moves_38 : decode cX9_moves 38 = .ok (.putfield 390, 3) := by decide +kernel
theorem dX9_moves_41 : decode cX9_moves 41 = .ok (.iload_n 2, 1) := by decide +kernel
theorem dX9_moves_42 : decode cX9_moves 42 = .ok (.ireturn, 1) := by decide +kernel
theorem dX9_movesAll_0 : decode cX9_movesAll 0 = .ok (.aload_n 0, 1) := by decide +kernel
theorem dX9_movesAll_1 : decode cX9_movesAll 1 = .ok (.bipush 13, 2) := by decide +kernel
theorem dX9_movesAll_3 : decode cX9_movesAll 3 = .ok (.iload_n 1, 1) := by decide +kernel
theorem dX9_movesAll_4 : decode cX9_movesAll 4 = .ok (.imul, 1) := by decide +kernel
theorem dX9_movesAll_5 : decode cX9_movesAll 5 = .ok (.putfield 390, 3) := by decide +kernel
theorem dX9_movesAll_8 : decode cX9_movesAll 8 = .ok (.aload_n 0, 1) := by decide +kernel
theorem dX9_movesAll_9 : decode cX9_movesAll 9 = .ok (.iload_n 2, 1) := by decide +kernel
theorem dX9_movesAll_10 : decode cX9_movesAll 10 = .ok (.putfield 386, 3) := by decide +kernel
theorem dX9_movesAll_13 : decode cX9_movesAll 13 = .ok (.aload_n 0, 1) := by decide +kernel
theorem dX9_movesAll_14 : decode cX9_movesAll 14 = .ok (.getfield 9, 3) := by decide +kernel
theorem dX9_movesAll_17 : decode cX9_movesAll 17 = .ok (.iconst 4, 1) := by decide +kernel
theorem dX9_movesAll_18 : decode cX9_movesAll 18 = .ok (.aload_n 0, 1) := by decide +kernel
theorem dX9_movesAll_19 : decode cX9_movesAll 19 = .ok (.aload_n 0, 1) := by decide +kernel
theorem dX9_movesAll_20 : decode cX9_movesAll 20 = .ok (.getfield 9, 3) := by decide +kernel
theorem dX9_movesAll_23 : decode cX9_movesAll 23 = .ok (.iconst 4, 1) := by decide +kernel
theorem dX9_movesAll_24 : decode cX9_movesAll 24 = .ok (.iaload, 1) := by decide +kernel
theorem dX9_movesAll_25 : decode cX9_movesAll 25 = .ok (.invokevirtual 393, 3) := by decide +kernel
theorem dX9_movesAll_28 : decode cX9_movesAll 28 = .ok (.iastore, 1) := by decide +kernel
theorem dX9_movesAll_29 : decode cX9_movesAll 29 = .ok (.aload_n 0, 1) := by decide +kernel
theorem dX9_movesAll_30 : decode cX9_movesAll 30 = .ok (.aload_n 0, 1) := by decide +kernel
theorem dX9_movesAll_31 : decode cX9_movesAll 31 = .ok (.getfield 13, 3) := by decide +kernel
theorem dX9_movesAll_34 : decode cX9_movesAll 34 = .ok (.invokevirtual 396, 3) := by decide +kernel
theorem dX9_movesAll_37 : decode cX9_movesAll 37 = .ok (.aload_n 0, 1) := by decide +kernel
theorem dX9_movesAll_38 : decode cX9_movesAll 38 = .ok (.aload_n 0, 1) := by decide +kernel
theorem dX9_movesAll_39 : decode cX9_movesAll 39 = .ok (.getfield 16, 3) := by decide +kernel
theorem dX9_movesAll_42 : decode cX9_movesAll 42 = .ok (.invokevirtual 396, 3) := by decide +kernel
theorem dX9_movesAll_45 : decode cX9_movesAll 45 = .ok (.return_, 1) := by decide +kernel
theorem dX9_movesRow_0 : decode cX9_movesRow 0 = .ok (.iconst 0, 1) := by decide +kernel
theorem dX9_movesRow_1 : decode cX9_movesRow 1 = .ok (.istore_n 2, 1) := by decide +kernel
theorem dX9_movesRow_2 : decode cX9_movesRow 2 = .ok (.iload_n 2, 1) := by decide +kernel
theorem dX9_movesRow_3 : decode cX9_movesRow 3 = .ok (.aload_n 1, 1) := by decide +kernel
theorem dX9_movesRow_4 : decode cX9_movesRow 4 = .ok (.arraylength, 1) := by decide +kernel
theorem dX9_movesRow_5 : decode cX9_movesRow 5 = .ok (.if_icmp .ge 19, 3) := by decide +kernel
theorem dX9_movesRow_8 : decode cX9_movesRow 8 = .ok (.aload_n 1, 1) := by decide +kernel
theorem dX9_movesRow_9 : decode cX9_movesRow 9 = .ok (.iload_n 2, 1) := by decide +kernel
theorem dX9_movesRow_10 : decode cX9_movesRow 10 = .ok (.aload_n 0, 1) := by decide +kernel
theorem dX9_movesRow_11 : decode cX9_movesRow 11 = .ok (.aload_n 1, 1) := by decide +kernel
theorem dX9_movesRow_12 : decode cX9_movesRow 12 = .ok (.iload_n 2, 1) := by decide +kernel
theorem dX9_movesRow_13 : decode cX9_movesRow 13 = .ok (.iaload, 1) := by decide +kernel
theorem dX9_movesRow_14 : decode cX9_movesRow 14 = .ok (.invokevirtual 393, 3) := by decide +kernel
theorem dX9_movesRow_17 : decode cX9_movesRow 17 = .ok (.iastore, 1) := by decide +kernel
theorem dX9_movesRow_18 : decode cX9_movesRow 18 = .ok (.iinc 2 1, 3) := by decide +kernel
theorem dX9_movesRow_21 : decode cX9_movesRow 21 = .ok (.goto (-19), 3) := by decide +kernel
theorem dX9_movesRow_24 : decode cX9_movesRow 24 = .ok (.return_, 1) := by decide +kernel
theorem dX9_nextOf_0 : decode cX9_nextOf 0 = .ok (.iconst 0, 1) := by decide +kernel
theorem dX9_nextOf_1 : decode cX9_nextOf 1 = .ok (.istore_n 2, 1) := by decide +kernel
theorem dX9_nextOf_2 : decode cX9_nextOf 2 = .ok (.iload_n 2, 1) := by decide +kernel
theorem dX9_nextOf_3 : decode cX9_nextOf 3 = .ok (.aload_n 0, 1) := by decide +kernel
theorem dX9_nextOf_4 : decode cX9_nextOf 4 = .ok (.getfield 9, 3) := by decide +kernel
theorem dX9_nextOf_7 : decode cX9_nextOf 7 = .ok (.iconst 3, 1) := by decide +kernel
theorem dX9_nextOf_8 : decode cX9_nextOf 8 = .ok (.iaload, 1) := by decide +kernel
theorem dX9_nextOf_9 : decode cX9_nextOf 9 = .ok (.if_icmp .ge 44, 3) := by decide +kernel
theorem dX9_nextOf_12 : decode cX9_nextOf 12 = .ok (.iload_n 1, 1) := by decide +kernel
theorem dX9_nextOf_13 : decode cX9_nextOf 13 = .ok (.iconst 1, 1) := by decide +kernel
theorem dX9_nextOf_14 : decode cX9_nextOf 14 = .ok (.iload_n 2, 1) := by decide +kernel
theorem dX9_nextOf_15 : decode cX9_nextOf 15 = .ok (.ishl, 1) := by decide +kernel
theorem dX9_nextOf_16 : decode cX9_nextOf 16 = .ok (.iconst (-1), 1) := by decide +kernel
theorem dX9_nextOf_17 : decode cX9_nextOf 17 = .ok (.ixor, 1) := by decide +kernel
theorem dX9_nextOf_18 : decode cX9_nextOf 18 = .ok (.iand, 1) := by decide +kernel
theorem dX9_nextOf_19 : decode cX9_nextOf 19 = .ok (.istore_n 3, 1) := by decide +kernel
theorem dX9_nextOf_20 : decode cX9_nextOf 20 = .ok (.iload_n 1, 1) := by decide +kernel
theorem dX9_nextOf_21 : decode cX9_nextOf 21 = .ok (.iload_n 2, 1) := by decide +kernel
theorem dX9_nextOf_22 : decode cX9_nextOf 22 = .ok (.invokestatic 332, 3) := by decide +kernel
theorem dX9_nextOf_25 : decode cX9_nextOf 25 = .ok (.ifCond .eq 22, 3) := by decide +kernel
theorem dX9_nextOf_28 : decode cX9_nextOf 28 = .ok (.aload_n 0, 1) := by decide +kernel
theorem dX9_nextOf_29 : decode cX9_nextOf 29 = .ok (.iload_n 3, 1) := by decide +kernel
theorem dX9_nextOf_30 : decode cX9_nextOf 30 = .ok (.invokevirtual 367, 3) := by decide +kernel
theorem dX9_nextOf_33 : decode cX9_nextOf 33 = .ok (.ifCond .ne 14, 3) := by decide +kernel
theorem dX9_nextOf_36 : decode cX9_nextOf 36 = .ok (.aload_n 0, 1) := by decide +kernel
theorem dX9_nextOf_37 : decode cX9_nextOf 37 = .ok (.getfield 106, 3) := by decide +kernel
theorem dX9_nextOf_40 : decode cX9_nextOf 40 = .ok (.iload_n 3, 1) := by decide +kernel
theorem dX9_nextOf_41 : decode cX9_nextOf 41 = .ok (.baload, 1) := by decide +kernel
theorem dX9_nextOf_42 : decode cX9_nextOf 42 = .ok (.ifCond .eq 5, 3) := by decide +kernel
theorem dX9_nextOf_45 : decode cX9_nextOf 45 = .ok (.iload_n 2, 1) := by decide +kernel
theorem dX9_nextOf_46 : decode cX9_nextOf 46 = .ok (.ireturn, 1) := by decide +kernel
theorem dX9_nextOf_47 : decode cX9_nextOf 47 = .ok (.iinc 2 1, 3) := by decide +kernel
theorem dX9_nextOf_50 : decode cX9_nextOf 50 = .ok (.goto (-48), 3) := by decide +kernel
theorem dX9_nextOf_53 : decode cX9_nextOf 53 = .ok (.iconst (-1), 1) := by decide +kernel
theorem dX9_nextOf_54 : decode cX9_nextOf 54 = .ok (.ireturn, 1) := by decide +kernel
theorem dX9_note_0 : decode cX9_note 0 = .ok (.iload_n 1, 1) := by decide +kernel
theorem dX9_note_1 : decode cX9_note 1 = .ok (.iconst (-1), 1) := by decide +kernel
theorem dX9_note_2 : decode cX9_note 2 = .ok (.if_icmp .ne 12, 3) := by decide +kernel
theorem dX9_note_5 : decode cX9_note 5 = .ok (.aload_n 0, 1) := by decide +kernel
theorem dX9_note_6 : decode cX9_note 6 = .ok (.getfield 9, 3) := by decide +kernel
theorem dX9_note_9 : decode cX9_note 9 = .ok (.iconst 5, 1) := by decide +kernel
theorem dX9_note_10 : decode cX9_note 10 = .ok (.iconst 0, 1) := by decide +kernel
theorem dX9_note_11 : decode cX9_note 11 = .ok (.iastore, 1) := by decide +kernel
theorem dX9_note_12 : decode cX9_note 12 = .ok (.iconst 0, 1) := by decide +kernel
theorem dX9_note_13 : decode cX9_note 13 = .ok (.ireturn, 1) := by decide +kernel
theorem dX9_note_14 : decode cX9_note 14 = .ok (.aload_n 0, 1) := by decide +kernel
theorem dX9_note_15 : decode cX9_note 15 = .ok (.getfield 9, 3) := by decide +kernel
theorem dX9_note_18 : decode cX9_note 18 = .ok (.iconst 5, 1) := by decide +kernel
theorem dX9_note_19 : decode cX9_note 19 = .ok (.iaload, 1) := by decide +kernel
theorem dX9_note_20 : decode cX9_note 20 = .ok (.istore 4, 2) := by decide +kernel
theorem dX9_note_22 : decode cX9_note 22 = .ok (.iload_n 1, 1) := by decide +kernel
theorem dX9_note_23 : decode cX9_note 23 = .ok (.i2l, 1) := by decide +kernel
theorem dX9_note_24 : decode cX9_note 24 = .ok (.lconst 0, 1) := by decide +kernel
theorem dX9_note_25 : decode cX9_note 25 = .ok (.ldc2_w 457, 3) := by decide +kernel
theorem dX9_note_28 : decode cX9_note 28 = .ok (.invokestatic 131, 3) := by decide +kernel
theorem dX9_note_31 : decode cX9_note 31 = .ok (.ifCond .eq 30, 3) := by decide +kernel
theorem dX9_note_34 : decode cX9_note 34 = .ok (.aload_n 0, 1) := by decide +kernel
theorem dX9_note_35 : decode cX9_note 35 = .ok (.iload_n 2, 1) := by decide +kernel
theorem dX9_note_36 : decode cX9_note 36 = .ok (.invokevirtual 362, 3) := by decide +kernel
theorem dX9_note_39 : decode cX9_note 39 = .ok (.ifCond .eq 22, 3) := by decide +kernel
theorem dX9_note_42 : decode cX9_note 42 = .ok (.iload_n 3, 1) := by decide +kernel
theorem dX9_note_43 : decode cX9_note 43 = .ok (.i2l, 1) := by decide +kernel
theorem dX9_note_44 : decode cX9_note 44 = .ok (.lconst 0, 1) := by decide +kernel
theorem dX9_note_45 : decode cX9_note 45 = .ok (.ldc2_w 365, 3) := by decide +kernel
theorem dX9_note_48 : decode cX9_note 48 = .ok (.invokestatic 131, 3) := by decide +kernel
theorem dX9_note_51 : decode cX9_note 51 = .ok (.ifCond .eq 10, 3) := by decide +kernel
theorem dX9_note_54 : decode cX9_note 54 = .ok (.iload 4, 2) := by decide +kernel
theorem dX9_note_56 : decode cX9_note 56 = .ok (.bipush 10, 2) := by decide +kernel
theorem dX9_note_58 : decode cX9_note 58 = .ok (.if_icmp .ne 6, 3) := by decide +kernel
theorem dX9_note_61 : decode cX9_note 61 = .ok (.bipush (-2), 2) := by decide +kernel
theorem dX9_note_63 : decode cX9_note 63 = .ok (.ireturn, 1) := by decide +kernel
theorem dX9_note_64 : decode cX9_note 64 = .ok (.aload_n 0, 1) := by decide +kernel
theorem dX9_note_65 : decode cX9_note 65 = .ok (.getfield 31, 3) := by decide +kernel
theorem dX9_note_68 : decode cX9_note 68 = .ok (.iload 4, 2) := by decide +kernel
theorem dX9_note_70 : decode cX9_note 70 = .ok (.iload_n 1, 1) := by decide +kernel
theorem dX9_note_71 : decode cX9_note 71 = .ok (.iastore, 1) := by decide +kernel
theorem dX9_note_72 : decode cX9_note 72 = .ok (.aload_n 0, 1) := by decide +kernel
theorem dX9_note_73 : decode cX9_note 73 = .ok (.getfield 34, 3) := by decide +kernel
theorem dX9_note_76 : decode cX9_note 76 = .ok (.iload 4, 2) := by decide +kernel
theorem dX9_note_78 : decode cX9_note 78 = .ok (.iload_n 2, 1) := by decide +kernel
theorem dX9_note_79 : decode cX9_note 79 = .ok (.iastore, 1) := by decide +kernel
theorem dX9_note_80 : decode cX9_note 80 = .ok (.aload_n 0, 1) := by decide +kernel
theorem dX9_note_81 : decode cX9_note 81 = .ok (.getfield 37, 3) := by decide +kernel
theorem dX9_note_84 : decode cX9_note 84 = .ok (.iload 4, 2) := by decide +kernel
theorem dX9_note_86 : decode cX9_note 86 = .ok (.iload_n 3, 1) := by decide +kernel
theorem dX9_note_87 : decode cX9_note 87 = .ok (.iastore, 1) := by decide +kernel
theorem dX9_note_88 : decode cX9_note 88 = .ok (.aload_n 0, 1) := by decide +kernel
theorem dX9_note_89 : decode cX9_note 89 = .ok (.getfield 9, 3) := by decide +kernel
theorem dX9_note_92 : decode cX9_note 92 = .ok (.iconst 5, 1) := by decide +kernel
theorem dX9_note_93 : decode cX9_note 93 = .ok (.dup2, 1) := by decide +kernel
theorem dX9_note_94 : decode cX9_note 94 = .ok (.iaload, 1) := by decide +kernel
theorem dX9_note_95 : decode cX9_note 95 = .ok (.iconst 1, 1) := by decide +kernel
theorem dX9_note_96 : decode cX9_note 96 = .ok (.iadd, 1) := by decide +kernel
theorem dX9_note_97 : decode cX9_note 97 = .ok (.iastore, 1) := by decide +kernel
theorem dX9_note_98 : decode cX9_note 98 = .ok (.iload 4, 2) := by decide +kernel
theorem dX9_note_100 : decode cX9_note 100 = .ok (.iconst 1, 1) := by decide +kernel
theorem dX9_note_101 : decode cX9_note 101 = .ok (.iadd, 1) := by decide +kernel
theorem dX9_note_102 : decode cX9_note 102 = .ok (.ireturn, 1) := by decide +kernel
theorem dX9_pence_0 : decode cX9_pence 0 = .ok (.aload_n 0, 1) := by decide +kernel
theorem dX9_pence_1 : decode cX9_pence 1 = .ok (.iload_n 2, 1) := by decide +kernel
theorem dX9_pence_2 : decode cX9_pence 2 = .ok (.invokevirtual 362, 3) := by decide +kernel
theorem dX9_pence_5 : decode cX9_pence 5 = .ok (.ifCond .eq 15, 3) := by decide +kernel
theorem dX9_pence_8 : decode cX9_pence 8 = .ok (.iload_n 1, 1) := by decide +kernel
theorem dX9_pence_9 : decode cX9_pence 9 = .ok (.i2l, 1) := by decide +kernel
theorem dX9_pence_10 : decode cX9_pence 10 = .ok (.lconst 0, 1) := by decide +kernel
theorem dX9_pence_11 : decode cX9_pence 11 = .ok (.ldc2_w 452, 3) := by decide +kernel
theorem dX9_pence_14 : decode cX9_pence 14 = .ok (.invokestatic 131, 3) := by decide +kernel
theorem dX9_pence_17 : decode cX9_pence 17 = .ok (.ifCond .ne 5, 3) := by decide +kernel
theorem dX9_pence_20 : decode cX9_pence 20 = .ok (.iconst (-1), 1) := by decide +kernel
theorem dX9_pence_21 : decode cX9_pence 21 = .ok (.ireturn, 1) := by decide +kernel
theorem dX9_pence_22 : decode cX9_pence 22 = .ok (.aload_n 0, 1) := by decide +kernel
theorem dX9_pence_23 : decode cX9_pence 23 = .ok (.invokevirtual 454, 3) := by decide +kernel
theorem dX9_pence_26 : decode cX9_pence 26 = .ok (.istore_n 3, 1) := by decide +kernel
theorem dX9_pence_27 : decode cX9_pence 27 = .ok (.iload_n 3, 1) := by decide +kernel
theorem dX9_pence_28 : decode cX9_pence 28 = .ok (.ifCond .ne 5, 3) := by decide +kernel
theorem dX9_pence_31 : decode cX9_pence 31 = .ok (.iconst 0, 1) := by decide +kernel
theorem dX9_pence_32 : decode cX9_pence 32 = .ok (.ireturn, 1) := by decide +kernel
theorem dX9_pence_33 : decode cX9_pence 33 = .ok (.iload_n 1, 1) := by decide +kernel
theorem dX9_pence_34 : decode cX9_pence 34 = .ok (.istore 4, 2) := by decide +kernel
theorem dX9_pence_36 : decode cX9_pence 36 = .ok (.iconst 0, 1) := by decide +kernel
theorem dX9_pence_37 : decode cX9_pence 37 = .ok (.istore 5, 2) := by decide +kernel
theorem dX9_pence_39 : decode cX9_pence 39 = .ok (.iload_n 1, 1) := by decide +kernel
theorem dX9_pence_40 : decode cX9_pence 40 = .ok (.aload_n 0, 1) := by decide +kernel
theorem dX9_pence_41 : decode cX9_pence 41 = .ok (.iload_n 2, 1) := by decide +kernel
theorem dX9_pence_42 : decode cX9_pence 42 = .ok (.invokevirtual 359, 3) := by decide +kernel
theorem dX9_pence_45 : decode cX9_pence 45 = .ok (.imul, 1) := by decide +kernel
theorem dX9_pence_46 : decode cX9_pence 46 = .ok (.istore 6, 2) := by decide +kernel
theorem dX9_pence_48 : decode cX9_pence 48 = .ok (.iconst 0, 1) := by decide +kernel
theorem dX9_pence_49 : decode cX9_pence 49 = .ok (.istore 7, 2) := by decide +kernel
theorem dX9_pence_51 : decode cX9_pence 51 = .ok (.iload 7, 2) := by decide +kernel
theorem dX9_pence_53 : decode cX9_pence 53 = .ok (.aload_n 0, 1) := by decide +kernel
theorem dX9_pence_54 : decode cX9_pence 54 = .ok (.getfield 9, 3) := by decide +kernel
theorem dX9_pence_57 : decode cX9_pence 57 = .ok (.iconst 3, 1) := by decide +kernel
theorem dX9_pence_58 : decode cX9_pence 58 = .ok (.iaload, 1) := by decide +kernel
theorem dX9_pence_59 : decode cX9_pence 59 = .ok (.if_icmp .ge 65, 3) := by decide +kernel
theorem dX9_pence_62 : decode cX9_pence 62 = .ok (.iload_n 1, 1) := by decide +kernel
theorem dX9_pence_63 : decode cX9_pence 63 = .ok (.aload_n 0, 1) := by decide +kernel
theorem dX9_pence_64 : decode cX9_pence 64 = .ok (.iload 7, 2) := by decide +kernel
theorem dX9_pence_66 : decode cX9_pence 66 = .ok (.invokevirtual 359, 3) := by decide +kernel
theorem dX9_pence_69 : decode cX9_pence 69 = .ok (.imul, 1) := by decide +kernel
theorem dX9_pence_70 : decode cX9_pence 70 = .ok (.istore 8, 2) := by decide +kernel
theorem dX9_pence_72 : decode cX9_pence 72 = .ok (.iload 4, 2) := by decide +kernel
theorem dX9_pence_74 : decode cX9_pence 74 = .ok (.iload 8, 2) := by decide +kernel
theorem dX9_pence_76 : decode cX9_pence 76 = .ok (.iload_n 3, 1) := by decide +kernel
theorem dX9_pence_77 : decode cX9_pence 77 = .ok (.idiv, 1) := by decide +kernel
theorem dX9_pence_78 : decode cX9_pence 78 = .ok (.isub, 1) := by decide +kernel
theorem dX9_pence_79 : decode cX9_pence 79 = .ok (.istore 4, 2) := by decide +kernel
theorem dX9_pence_81 : decode cX9_pence 81 = .ok (.iload 8, 2) := by decide +kernel
theorem dX9_pence_83 : decode cX9_pence 83 = .ok (.iload_n 3, 1) := by decide +kernel
theorem dX9_pence_84 : decode cX9_pence 84 = .ok (.irem, 1) := by decide +kernel
theorem dX9_pence_85 : decode cX9_pence 85 = .ok (.iload 6, 2) := by decide +kernel
theorem dX9_pence_87 : decode cX9_pence 87 = .ok (.iload_n 3, 1) := by decide +kernel
theorem dX9_pence_88 : decode cX9_pence 88 = .ok (.irem, 1) := by decide +kernel
theorem dX9_pence_89 : decode cX9_pence 89 = .ok (.isub, 1) := by decide +kernel
theorem dX9_pence_90 : decode cX9_pence 90 = .ok (.istore 9, 2) := by decide +kernel
theorem dX9_pence_92 : decode cX9_pence 92 = .ok (.iload 5, 2) := by decide +kernel
theorem dX9_pence_94 : decode cX9_pence 94 = .ok (.iload 9, 2) := by decide +kernel
theorem dX9_pence_96 : decode cX9_pence 96 = .ok (.ifCond .gt 14, 3) := by decide +kernel
theorem dX9_pence_99 : decode cX9_pence 99 = .ok (.iload 9, 2) := by decide +kernel
theorem dX9_pence_101 : decode cX9_pence 101 = .ok (.ifCond .ne 13, 3) := by decide +kernel
theorem dX9_pence_104 : decode cX9_pence 104 = .ok (.iload 7, 2) := by decide +kernel
theorem dX9_pence_106 : decode cX9_pence 106 = .ok (.iload_n 2, 1) := by decide +kernel
theorem dX9_pence_107 : decode cX9_pence 107 = .ok (.if_icmp .ge 7, 3) := by decide +kernel
theorem dX9_pence_110 : decode cX9_pence 110 = .ok (.iconst 1, 1) := by decide +kernel
theorem dX9_pence_111 : decode cX9_pence 111 = .ok (.goto 4, 3) := by decide +kernel
theorem dX9_pence_114 : decode cX9_pence 114 = .ok (.iconst 0, 1) := by decide +kernel
theorem dX9_pence_115 : decode cX9_pence 115 = .ok (.iadd, 1) := by decide +kernel
theorem dX9_pence_116 : decode cX9_pence 116 = .ok (.istore 5, 2) := by decide +kernel
theorem dX9_pence_118 : decode cX9_pence 118 = .ok (.iinc 7 1, 3) := by decide +kernel
theorem dX9_pence_121 : decode cX9_pence 121 = .ok (.goto (-70), 3) := by decide +kernel
theorem dX9_pence_124 : decode cX9_pence 124 = .ok (.iload 6, 2) := by decide +kernel
theorem dX9_pence_126 : decode cX9_pence 126 = .ok (.iload_n 3, 1) := by decide +kernel
theorem dX9_pence_127 : decode cX9_pence 127 = .ok (.idiv, 1) := by decide +kernel
theorem dX9_pence_128 : decode cX9_pence 128 = .ok (.iload 5, 2) := by decide +kernel
theorem dX9_pence_130 : decode cX9_pence 130 = .ok (.iload 4, 2) := by decide +kernel
theorem dX9_pence_132 : decode cX9_pence 132 = .ok (.if_icmp .ge 7, 3) := by decide +kernel
theorem dX9_pence_135 : decode cX9_pence 135 = .ok (.iconst 1, 1) := by decide +kernel
theorem dX9_pence_136 : decode cX9_pence 136 = .ok (.goto 4, 3) := by decide +kernel
theorem dX9_pence_139 : decode cX9_pence 139 = .ok (.iconst 0, 1) := by decide +kernel
theorem dX9_pence_140 : decode cX9_pence 140 = .ok (.iadd, 1) := by decide +kernel
theorem dX9_pence_141 : decode cX9_pence 141 = .ok (.ireturn, 1) := by decide +kernel
theorem dX9_rise_0 : decode cX9_rise 0 = .ok (.aload_n 0, 1) := by decide +kernel
theorem dX9_rise_1 : decode cX9_rise 1 = .ok (.iload_n 1, 1) := by decide +kernel
theorem dX9_rise_2 : decode cX9_rise 2 = .ok (.iconst 1, 1) := by decide +kernel
theorem dX9_rise_3 : decode cX9_rise 3 = .ok (.invokevirtual 410, 3) := by decide +kernel
theorem dX9_rise_6 : decode cX9_rise 6 = .ok (.ifCond .ne 5, 3) := by decide +kernel
theorem dX9_rise_9 : decode cX9_rise 9 = .ok (.iconst (-1), 1) := by decide +kernel
theorem dX9_rise_10 : decode cX9_rise 10 = .ok (.ireturn, 1) := by decide +kernel
theorem dX9_rise_11 : decode cX9_rise 11 = .ok (.aload_n 0, 1) := by decide +kernel
theorem dX9_rise_12 : decode cX9_rise 12 = .ok (.invokevirtual 407, 3) := by decide +kernel
theorem dX9_rise_15 : decode cX9_rise 15 = .ok (.aload_n 0, 1) := by decide +kernel
theorem dX9_rise_16 : decode cX9_rise 16 = .ok (.getfield 16, 3) := by decide +kernel
theorem dX9_rise_19 : decode cX9_rise 19 = .ok (.iload_n 1, 1) := by decide +kernel
theorem dX9_rise_20 : decode cX9_rise 20 = .ok (.iconst 0, 1) := by decide +kernel
theorem dX9_rise_21 : decode cX9_rise 21 = .ok (.iastore, 1) := by decide +kernel
theorem dX9_rise_22 : decode cX9_rise 22 = .ok (.aload_n 0, 1) := by decide +kernel
theorem dX9_rise_23 : decode cX9_rise 23 = .ok (.invokevirtual 380, 3) := by decide +kernel
theorem dX9_rise_26 : decode cX9_rise 26 = .ok (.ireturn, 1) := by decide +kernel
theorem dX9_sit_0 : decode cX9_sit 0 = .ok (.aload_n 0, 1) := by decide +kernel
theorem dX9_sit_1 : decode cX9_sit 1 = .ok (.iload_n 1, 1) := by decide +kernel
theorem dX9_sit_2 : decode cX9_sit 2 = .ok (.iconst 0, 1) := by decide +kernel
theorem dX9_sit_3 : decode cX9_sit 3 = .ok (.invokevirtual 410, 3) := by decide +kernel
theorem dX9_sit_6 : decode cX9_sit 6 = .ok (.ifCond .ne 5, 3) := by decide +kernel
theorem dX9_sit_9 : decode cX9_sit 9 = .ok (.iconst (-1), 1) := by decide +kernel
theorem dX9_sit_10 : decode cX9_sit 10 = .ok (.ireturn, 1) := by decide +kernel
theorem dX9_sit_11 : decode cX9_sit 11 = .ok (.aload_n 0, 1) := by decide +kernel
theorem dX9_sit_12 : decode cX9_sit 12 = .ok (.invokevirtual 407, 3) := by decide +kernel
theorem dX9_sit_15 : decode cX9_sit 15 = .ok (.aload_n 0, 1) := by decide +kernel
theorem dX9_sit_16 : decode cX9_sit 16 = .ok (.getfield 16, 3) := by decide +kernel
theorem dX9_sit_19 : decode cX9_sit 19 = .ok (.iload_n 1, 1) := by decide +kernel
theorem dX9_sit_20 : decode cX9_sit 20 = .ok (.iconst 1, 1) := by decide +kernel
theorem dX9_sit_21 : decode cX9_sit 21 = .ok (.iastore, 1) := by decide +kernel
theorem dX9_sit_22 : decode cX9_sit 22 = .ok (.aload_n 0, 1) := by decide +kernel
theorem dX9_sit_23 : decode cX9_sit 23 = .ok (.invokevirtual 380, 3) := by decide +kernel
theorem dX9_sit_26 : decode cX9_sit 26 = .ok (.ireturn, 1) := by decide +kernel
theorem dX9_undo_0 : decode cX9_undo 0 = .ok (.aload_n 0, 1) := by decide +kernel
theorem dX9_undo_1 : decode cX9_undo 1 = .ok (.getfield 299, 3) := by decide +kernel
theorem dX9_undo_4 : decode cX9_undo 4 = .ok (.ifCond .ne 6, 3) := by decide +kernel
theorem dX9_undo_7 : decode cX9_undo 7 = .ok (.bipush (-2), 2) := by decide +kernel
theorem dX9_undo_9 : decode cX9_undo 9 = .ok (.ireturn, 1) := by decide +kernel
theorem dX9_undo_10 : decode cX9_undo 10 = .ok (.aload_n 0, 1) := by decide +kernel
theorem dX9_undo_11 : decode cX9_undo 11 = .ok (.dup, 1) := by decide +kernel
theorem dX9_undo_12 : decode cX9_undo 12 = .ok (.getfield 299, 3) := by decide +kernel
theorem dX9_undo_15 : decode cX9_undo 15 = .ok (.iconst 1, 1) := by decide +kernel
theorem dX9_undo_16 : decode cX9_undo 16 = .ok (.isub, 1) := by decide +kernel
theorem dX9_undo_17 : decode cX9_undo 17 = .ok (.putfield 299, 3) := by decide +kernel
theorem dX9_undo_20 : decode cX9_undo 20 = .ok (.aload_n 0, 1) := by decide +kernel
theorem dX9_undo_21 : decode cX9_undo 21 = .ok (.aload_n 0, 1) := by decide +kernel
theorem dX9_undo_22 : decode cX9_undo 22 = .ok (.getfield 299, 3) := by decide +kernel
theorem dX9_undo_25 : decode cX9_undo 25 = .ok (.iconst 1, 1) := by decide +kernel
theorem dX9_undo_26 : decode cX9_undo 26 = .ok (.invokevirtual 400, 3) := by decide +kernel
theorem dX9_undo_29 : decode cX9_undo 29 = .ok (.aload_n 0, 1) := by decide +kernel
theorem dX9_undo_30 : decode cX9_undo 30 = .ok (.getfield 299, 3) := by decide +kernel
theorem dX9_undo_33 : decode cX9_undo 33 = .ok (.ireturn, 1) := by decide +kernel
theorem dX9_way_0 : decode cX9_way 0 = .ok (.aload_n 0, 1) := by decide +kernel
theorem dX9_way_1 : decode cX9_way 1 = .ok (.invokevirtual 404, 3) := by decide +kernel
theorem dX9_way_4 : decode cX9_way 4 = .ok (.ifCond .eq 15, 3) := by decide +kernel
theorem dX9_way_7 : decode cX9_way 7 = .ok (.iload_n 1, 1) := by decide +kernel
theorem dX9_way_8 : decode cX9_way 8 = .ok (.i2l, 1) := by decide +kernel
theorem dX9_way_9 : decode cX9_way 9 = .ok (.lconst 0, 1) := by decide +kernel
theorem dX9_way_10 : decode cX9_way 10 = .ok (.ldc2_w 432, 3) := by decide +kernel
theorem dX9_way_13 : decode cX9_way 13 = .ok (.invokestatic 131, 3) := by decide +kernel
theorem dX9_way_16 : decode cX9_way 16 = .ok (.ifCond .ne 6, 3) := by decide +kernel
theorem dX9_way_19 : decode cX9_way 19 = .ok (.bipush (-3), 2) := by decide +kernel
theorem dX9_way_21 : decode cX9_way 21 = .ok (.ireturn, 1) := by decide +kernel
theorem dX9_way_22 : decode cX9_way 22 = .ok (.aload_n 0, 1) := by decide +kernel
theorem dX9_way_23 : decode cX9_way 23 = .ok (.iconst 1, 1) := by decide +kernel
theorem dX9_way_24 : decode cX9_way 24 = .ok (.invokevirtual 341, 3) := by decide +kernel
theorem dX9_way_27 : decode cX9_way 27 = .ok (.istore_n 2, 1) := by decide +kernel
theorem dX9_way_28 : decode cX9_way 28 = .ok (.iconst 0, 1) := by decide +kernel
theorem dX9_way_29 : decode cX9_way 29 = .ok (.istore_n 3, 1) := by decide +kernel
theorem dX9_way_30 : decode cX9_way 30 = .ok (.iload_n 3, 1) := by decide +kernel
theorem dX9_way_31 : decode cX9_way 31 = .ok (.iload_n 2, 1) := by decide +kernel
theorem dX9_way_32 : decode cX9_way 32 = .ok (.if_icmp .gt 41, 3) := by decide +kernel
theorem dX9_way_35 : decode cX9_way 35 = .ok (.iload_n 3, 1) := by decide +kernel
theorem dX9_way_36 : decode cX9_way 36 = .ok (.iload_n 2, 1) := by decide +kernel
theorem dX9_way_37 : decode cX9_way 37 = .ok (.iconst (-1), 1) := by decide +kernel
theorem dX9_way_38 : decode cX9_way 38 = .ok (.ixor, 1) := by decide +kernel
theorem dX9_way_39 : decode cX9_way 39 = .ok (.iand, 1) := by decide +kernel
theorem dX9_way_40 : decode cX9_way 40 = .ok (.ifCond .ne 27, 3) := by decide +kernel
theorem dX9_way_43 : decode cX9_way 43 = .ok (.aload_n 0, 1) := by decide +kernel
theorem dX9_way_44 : decode cX9_way 44 = .ok (.getfield 106, 3) := by decide +kernel
theorem dX9_way_47 : decode cX9_way 47 = .ok (.iload_n 3, 1) := by decide +kernel
theorem dX9_way_48 : decode cX9_way 48 = .ok (.iload_n 3, 1) := by decide +kernel
theorem dX9_way_49 : decode cX9_way 49 = .ok (.ifCond .eq 12, 3) := by decide +kernel
theorem dX9_way_52 : decode cX9_way 52 = .ok (.aload_n 0, 1) := by decide +kernel
theorem dX9_way_53 : decode cX9_way 53 = .ok (.iload_n 3, 1) := by decide +kernel
theorem dX9_way_54 : decode cX9_way 54 = .ok (.invokevirtual 434, 3) := by decide +kernel
theorem dX9_way_57 : decode cX9_way 57 = .ok (.iconst (-1), 1) := by decide +kernel
theorem dX9_way_58 : decode cX9_way 58 = .ok (.if_icmp .eq 7, 3) := by decide +kernel
theorem dX9_way_61 : decode cX9_way 61 = .ok (.iconst 1, 1) := by decide +kernel
theorem dX9_way_62 : decode cX9_way 62 = .ok (.goto 4, 3) := by decide +kernel
theorem dX9_way_65 : decode cX9_way 65 = .ok (.iconst 0, 1) := by decide +kernel
theorem dX9_way_66 : decode cX9_way 66 = .ok (.bastore, 1) := by decide +kernel
theorem dX9_way_67 : decode cX9_way 67 = .ok (.iinc 3 1, 3) := by decide +kernel
theorem dX9_way_70 : decode cX9_way 70 = .ok (.goto (-40), 3) := by decide +kernel
theorem dX9_way_73 : decode cX9_way 73 = .ok (.aload_n 0, 1) := by decide +kernel
theorem dX9_way_74 : decode cX9_way 74 = .ok (.getfield 106, 3) := by decide +kernel
theorem dX9_way_77 : decode cX9_way 77 = .ok (.iload_n 2, 1) := by decide +kernel
theorem dX9_way_78 : decode cX9_way 78 = .ok (.baload, 1) := by decide +kernel
theorem dX9_way_79 : decode cX9_way 79 = .ok (.ifCond .ne 6, 3) := by decide +kernel
theorem dX9_way_82 : decode cX9_way 82 = .ok (.bipush (-2), 2) := by decide +kernel
theorem dX9_way_84 : decode cX9_way 84 = .ok (.ireturn, 1) := by decide +kernel
theorem dX9_way_85 : decode cX9_way 85 = .ok (.iload_n 2, 1) := by decide +kernel
theorem dX9_way_86 : decode cX9_way 86 = .ok (.istore_n 3, 1) := by decide +kernel
theorem dX9_way_87 : decode cX9_way 87 = .ok (.iconst 0, 1) := by decide +kernel
theorem dX9_way_88 : decode cX9_way 88 = .ok (.istore 4, 2) := by decide +kernel
theorem dX9_way_90 : decode cX9_way 90 = .ok (.iload 4, 2) := by decide +kernel
theorem dX9_way_92 : decode cX9_way 92 = .ok (.iload_n 1, 1) := by decide +kernel
theorem dX9_way_93 : decode cX9_way 93 = .ok (.if_icmp .ge 25, 3) := by decide +kernel
theorem dX9_way_96 : decode cX9_way 96 = .ok (.iload_n 3, 1) := by decide +kernel
theorem dX9_way_97 : decode cX9_way 97 = .ok (.ifCond .eq 21, 3) := by decide +kernel
theorem dX9_way_100 : decode cX9_way 100 = .ok (.iload_n 3, 1) := by decide +kernel
theorem dX9_way_101 : decode cX9_way 101 = .ok (.iconst 1, 1) := by decide +kernel
theorem dX9_way_102 : decode cX9_way 102 = .ok (.aload_n 0, 1) := by decide +kernel
theorem dX9_way_103 : decode cX9_way 103 = .ok (.iload_n 3, 1) := by decide +kernel
theorem dX9_way_104 : decode cX9_way 104 = .ok (.invokevirtual 434, 3) := by decide +kernel
theorem dX9_way_107 : decode cX9_way 107 = .ok (.ishl, 1) := by decide +kernel
theorem dX9_way_108 : decode cX9_way 108 = .ok (.iconst (-1), 1) := by decide +kernel
theorem dX9_way_109 : decode cX9_way 109 = .ok (.ixor, 1) := by decide +kernel
theorem dX9_way_110 : decode cX9_way 110 = .ok (.iand, 1) := by decide +kernel
theorem dX9_way_111 : decode cX9_way 111 = .ok (.istore_n 3, 1) := by decide +kernel
theorem dX9_way_112 : decode cX9_way 112 = .ok (.iinc 4 1, 3) := by decide +kernel
theorem dX9_way_115 : decode cX9_way 115 = .ok (.goto (-25), 3) := by decide +kernel
theorem dX9_way_118 : decode cX9_way 118 = .ok (.iload_n 3, 1) := by decide +kernel
theorem dX9_way_119 : decode cX9_way 119 = .ok (.ifCond .ne 7, 3) := by decide +kernel
theorem dX9_way_122 : decode cX9_way 122 = .ok (.iconst (-1), 1) := by decide +kernel
theorem dX9_way_123 : decode cX9_way 123 = .ok (.goto 8, 3) := by decide +kernel
theorem dX9_way_126 : decode cX9_way 126 = .ok (.aload_n 0, 1) := by decide +kernel
theorem dX9_way_127 : decode cX9_way 127 = .ok (.iload_n 3, 1) := by decide +kernel
theorem dX9_way_128 : decode cX9_way 128 = .ok (.invokevirtual 434, 3) := by decide +kernel
theorem dX9_way_131 : decode cX9_way 131 = .ok (.ireturn, 1) := by decide +kernel
set_option maxRecDepth 20000 in
theorem ggX9_allGive_X9_givesNow : GoodIn wsX9_allGive wsX9_givesNow := goodIn_r _ [6, 7, 8, 9, 5, 10, 1, 11, 12, 13, 14, 15, 16, 17, 18, 19, 20, 21, 22, 23, 24, 25, 26, 27, 28, 29, 30, 31, 32, 33, 34, 35, 36, 37, 38, 39, 40, 41, 42, 43, 44, 45, 46, 47, 48, 49, 50, 51, 52, 53, 54, 55, 56, 57, 58, 59, 60, 61, 62, 63, 64, 65, 66, 67, 68, 69, 70, 71, 72, 73, 74, 75, 76, 77, 78, 79, 80, 81, 82, 83] (by decide +kernel) (by decide +kernel)
set_option maxRecDepth 20000 in
theorem gX9_allGive_X9_givesNow : GoodIn wsX9_allGive (wsV RX9 359 RX9 yX9_givesNow wsX9_givesNow) := goodIn_app (goodIn_of _ (by decide +kernel)) ggX9_allGive_X9_givesNow
set_option maxRecDepth 20000 in
theorem ggX9_earns_X9_givesNow : GoodIn wsX9_earns wsX9_givesNow := goodIn_r _ [6, 7, 8, 9, 5, 10, 11, 1, 12, 13, 14, 15, 16, 17, 18, 19, 20, 21, 22, 23, 24, 25, 26, 27, 28, 29, 30, 31, 32, 33, 34, 35, 36, 37, 38, 39, 40, 41, 42, 43, 44, 45, 46, 47, 48, 49, 50, 51, 52, 53, 54, 55, 56, 57, 58, 59, 60, 61, 62, 63, 64, 65, 66, 67, 68, 69, 70, 71, 72, 73, 74, 75, 76, 77, 78, 79, 80, 81, 82, 83] (by decide +kernel) (by decide +kernel)
set_option maxRecDepth 20000 in
theorem gX9_earns_X9_givesNow : GoodIn wsX9_earns (wsV RX9 359 RX9 yX9_givesNow wsX9_givesNow) := goodIn_app (goodIn_of _ (by decide +kernel)) ggX9_earns_X9_givesNow
set_option maxRecDepth 20000 in
theorem ggX9_ease_X9_bits : GoodIn wsX9_ease wsX9_bits := goodIn_r _ [17] (by decide +kernel) (by decide +kernel)
set_option maxRecDepth 20000 in
theorem gX9_ease_X9_bits : GoodIn wsX9_ease (va_wsS RX9 370 yX9_bits wsX9_bits) := goodIn_app (goodIn_of _ (by decide +kernel)) ggX9_ease_X9_bits
set_option maxRecDepth 20000 in
theorem ggX9_ease_X9_dropsOf : GoodIn wsX9_ease wsX9_dropsOf := goodIn_r _ [21, 6, 22, 23, 24, 25, 4, 26, 27, 28, 29, 30, 31, 32, 33, 34, 35, 36, 37, 38, 39, 40, 41, 42, 43, 44, 45, 46, 47, 48, 49, 50, 51, 52, 53, 54, 55, 56, 57, 58, 59, 60, 61, 62, 63, 64, 65, 66, 67, 68, 69, 70, 71, 72, 73, 74, 75, 76, 77, 78, 79, 80, 81, 82, 83, 84, 85, 86, 87, 88, 89, 90, 91, 92, 93, 94] (by decide +kernel) (by decide +kernel)
set_option maxRecDepth 20000 in
theorem gX9_ease_X9_dropsOf : GoodIn wsX9_ease (wsV RX9 367 RX9 yX9_dropsOf wsX9_dropsOf) := goodIn_app (goodIn_of _ (by decide +kernel)) ggX9_ease_X9_dropsOf
set_option maxRecDepth 20000 in
theorem ggX9_ease_X9_in : GoodIn wsX9_ease wsX9_in := goodIn_r _ [9] (by decide +kernel) (by decide +kernel)
set_option maxRecDepth 20000 in
theorem gX9_ease_X9_in : GoodIn wsX9_ease (va_wsS RX9 131 yX9_in wsX9_in) := goodIn_app (goodIn_of _ (by decide +kernel)) ggX9_ease_X9_in
set_option maxRecDepth 20000 in
theorem ggX9_ease_X9_isHall : GoodIn wsX9_ease wsX9_isHall := goodIn_r _ [5, 6, 42, 43, 44, 45, 46, 47, 48, 49, 50, 51, 52, 53, 54, 55, 56, 57, 58, 59, 60, 61, 62, 63, 64, 65, 66, 67, 68, 69, 70, 71, 72, 73, 74, 75, 76, 77, 78, 79, 80, 81, 82, 83, 84, 85, 86, 87, 88, 89, 90, 91, 92, 93, 94] (by decide +kernel) (by decide +kernel)
set_option maxRecDepth 20000 in
theorem gX9_ease_X9_isHall : GoodIn wsX9_ease (wsV RX9 404 RX9 yX9_isHall wsX9_isHall) := goodIn_app (goodIn_of _ (by decide +kernel)) ggX9_ease_X9_isHall
set_option maxRecDepth 20000 in
theorem ggX9_ease_X9_those : GoodIn wsX9_ease wsX9_those := goodIn_r _ [13, 6, 14, 42, 43, 44, 45, 46, 47, 48, 49, 50, 51, 52, 53, 54, 55, 56, 57, 58, 59, 60, 61, 62, 63, 64, 65, 66, 67, 68, 69, 70, 71, 72, 73, 74, 75, 76, 77, 78, 79, 80, 81, 82, 83, 84, 85, 86, 87, 88, 89, 90, 91, 92, 93, 94] (by decide +kernel) (by decide +kernel)
set_option maxRecDepth 20000 in
theorem gX9_ease_X9_those : GoodIn wsX9_ease (wsV RX9 341 RX9 yX9_those wsX9_those) := goodIn_app (goodIn_of _ (by decide +kernel)) ggX9_ease_X9_those
set_option maxRecDepth 20000 in
theorem ggX9_help_X9_bits : GoodIn wsX9_help wsX9_bits := goodIn_r _ [42] (by decide +kernel) (by decide +kernel)
set_option maxRecDepth 20000 in
theorem gX9_help_X9_bits : GoodIn wsX9_help (va_wsS RX9 370 yX9_bits wsX9_bits) := goodIn_app (goodIn_of _ (by decide +kernel)) ggX9_help_X9_bits
set_option maxRecDepth 20000 in
theorem ggX9_help_X9_isSo : GoodIn wsX9_help wsX9_isSo := goodIn_r _ [6, 1, 7, 8, 9, 5, 10, 11, 12, 13, 14, 43, 44, 45, 46, 47, 48, 49, 50, 51, 52, 53, 54, 55, 56, 57, 58, 59, 60, 61, 62, 63, 64, 65, 66, 67, 68, 69, 70, 71, 72, 73, 74, 75, 76, 77, 78, 79, 80, 81, 82, 83, 84, 85, 86, 87, 88, 89, 90, 91, 92, 93, 94, 95] (by decide +kernel) (by decide +kernel)
set_option maxRecDepth 20000 in
theorem gX9_help_X9_isSo : GoodIn wsX9_help (wsV RX9 410 RX9 yX9_isSo wsX9_isSo) := goodIn_app (goodIn_of _ (by decide +kernel)) ggX9_help_X9_isSo
set_option maxRecDepth 20000 in
theorem ggX9_help_X9_keepsAct : GoodIn wsX9_help wsX9_keepsAct := goodIn_r _ [18, 19, 20, 21, 22, 23, 5, 24, 25, 26, 11, 27, 1, 28, 29, 30, 31, 32, 33, 34, 35, 43, 44, 45, 46, 47, 48, 49, 50, 51, 52, 53, 54, 55, 56, 57, 58, 59, 60, 61, 62, 63, 64, 65, 66, 67, 68, 69, 70, 71, 72, 73, 74, 75, 76, 77, 78, 79, 80, 81, 82, 83, 84, 85, 86, 87, 88, 89, 90, 91, 92, 93, 94, 95] (by decide +kernel) (by decide +kernel)
set_option maxRecDepth 20000 in
theorem gX9_help_X9_keepsAct : GoodIn wsX9_help (wsV RX9 407 RX9 yX9_keepsAct wsX9_keepsAct) := goodIn_app (goodIn_of _ (by decide +kernel)) ggX9_help_X9_keepsAct
set_option maxRecDepth 20000 in
theorem ggX9_help_X9_those : GoodIn wsX9_help wsX9_those := goodIn_r _ [39, 11, 1, 43, 44, 45, 46, 47, 48, 49, 50, 51, 52, 53, 54, 55, 56, 57, 58, 59, 60, 61, 62, 63, 64, 65, 66, 67, 68, 69, 70, 71, 72, 73, 74, 75, 76, 77, 78, 79, 80, 81, 82, 83, 84, 85, 86, 87, 88, 89, 90, 91, 92, 93, 94, 95] (by decide +kernel) (by decide +kernel)
set_option maxRecDepth 20000 in
theorem gX9_help_X9_those : GoodIn wsX9_help (wsV RX9 341 RX9 yX9_those wsX9_those) := goodIn_app (goodIn_of _ (by decide +kernel)) ggX9_help_X9_those
set_option maxRecDepth 20000 in
theorem ggX9_isSo_X9_isSitter : GoodIn wsX9_isSo wsX9_isSitter := goodIn_r _ [6, 7, 8, 9, 5, 10, 11, 12, 13, 14, 15, 16, 17, 18, 19, 20, 21, 22, 23, 24, 25, 26, 27, 28, 29, 30, 31, 32, 33, 34, 35, 36, 37, 38, 39, 40, 41, 42, 43, 44, 45, 46, 47, 48, 49, 50, 51, 52, 53, 54, 55, 56, 57, 58, 59, 60, 61, 62, 63] (by decide +kernel) (by decide +kernel)
set_option maxRecDepth 20000 in
theorem gX9_isSo_X9_isSitter : GoodIn wsX9_isSo (wsV RX9 362 RX9 yX9_isSitter wsX9_isSitter) := goodIn_app (goodIn_of _ (by decide +kernel)) ggX9_isSo_X9_isSitter
set_option maxRecDepth 20000 in
theorem ggX9_keepsAct_X9_movesAll : GoodIn wsX9_keepsAct wsX9_movesAll := goodIn_r _ [7, 8, 9, 10, 11, 12, 13, 14, 15, 6, 16, 2, 17, 18, 19, 20, 21, 22, 23, 24, 25, 26, 27, 28, 29, 30, 31, 32, 33, 34, 35, 36, 37, 38, 39, 40, 41, 42, 43, 44, 45, 46, 47, 48, 49, 50, 51, 52, 53, 54, 55, 56, 57, 58, 59, 60, 61, 62, 63, 64, 65, 66, 67, 68, 69, 70, 71, 72, 73] (by decide +kernel) (by decide +kernel)
set_option maxRecDepth 20000 in
theorem gX9_keepsAct_X9_movesAll : GoodIn wsX9_keepsAct (wsV RX9 400 RX9 yX9_movesAll wsX9_movesAll) := goodIn_app (goodIn_of _ (by decide +kernel)) ggX9_keepsAct_X9_movesAll
set_option maxRecDepth 20000 in
theorem ggX9_let_X9_in : GoodIn wsX9_let wsX9_in := goodIn_r _ [11] (by decide +kernel) (by decide +kernel)
set_option maxRecDepth 20000 in
theorem gX9_let_X9_in : GoodIn wsX9_let (va_wsS RX9 131 yX9_in wsX9_in) := goodIn_app (goodIn_of _ (by decide +kernel)) ggX9_let_X9_in
set_option maxRecDepth 20000 in
theorem ggX9_let_X9_isStrand : GoodIn wsX9_let wsX9_isStrand := goodIn_r _ [7, 8, 9, 10, 6, 11, 64, 65, 66, 67, 68, 69, 70, 71, 72, 73, 74, 75, 76, 77, 78, 79, 80, 81, 82, 83, 84, 85, 86, 87, 88, 89, 90, 91, 92, 93, 94, 95, 96, 97, 98, 99, 100, 101, 102, 103, 104, 105, 106, 107, 108, 109, 110, 111, 112, 113, 114, 115, 116] (by decide +kernel) (by decide +kernel)
set_option maxRecDepth 20000 in
theorem gX9_let_X9_isStrand : GoodIn wsX9_let (wsV RX9 347 RX9 yX9_isStrand wsX9_isStrand) := goodIn_app (goodIn_of _ (by decide +kernel)) ggX9_let_X9_isStrand
set_option maxRecDepth 20000 in
theorem ggX9_let_X9_keepsAct : GoodIn wsX9_let wsX9_keepsAct := goodIn_r _ [15, 16, 17, 18, 19, 20, 6, 21, 22, 23, 8, 2, 24, 25, 26, 27, 28, 29, 30, 31, 32, 64, 65, 66, 67, 68, 69, 70, 71, 72, 73, 74, 75, 76, 77, 78, 79, 80, 81, 82, 83, 84, 85, 86, 87, 88, 89, 90, 91, 92, 93, 94, 95, 96, 97, 98, 99, 100, 101, 102, 103, 104, 105, 106, 107, 108, 109, 110, 111, 112, 113, 114, 115, 116] (by decide +kernel) (by decide +kernel)
set_option maxRecDepth 20000 in
theorem gX9_let_X9_keepsAct : GoodIn wsX9_let (wsV RX9 407 RX9 yX9_keepsAct wsX9_keepsAct) := goodIn_app (goodIn_of _ (by decide +kernel)) ggX9_let_X9_keepsAct
set_option maxRecDepth 20000 in
theorem ggX9_let_X9_settles : GoodIn wsX9_let wsX9_settles := goodIn_r _ [36, 8, 24, 37, 38, 39, 6, 40, 41, 42, 43, 44, 45, 46, 47, 48, 49, 50, 51, 52, 53, 54, 2, 55, 56, 57, 58, 59, 60, 61, 62, 63, 64, 65, 66, 67, 68, 69, 70, 71, 72, 73, 74, 75, 76, 77, 78, 79, 80, 81, 82, 83, 84, 85, 86, 87, 88, 89, 90, 91, 92, 93, 94, 95, 96, 97, 98, 99, 100, 101, 102, 103, 104, 105, 106, 107, 108, 109, 110, 111, 112, 113, 114, 115, 116] (by decide +kernel) (by decide +kernel)
set_option maxRecDepth 20000 in
theorem gX9_let_X9_settles : GoodIn wsX9_let (wsV RX9 380 RX9 yX9_settles wsX9_settles) := goodIn_app (goodIn_of _ (by decide +kernel)) ggX9_let_X9_settles
set_option maxRecDepth 20000 in
theorem ggX9_most_X9_dropsOf : GoodIn wsX9_most wsX9_dropsOf := goodIn_r _ [19, 7, 20, 21, 22, 23, 5, 24, 25, 26, 27, 28, 29, 1, 30, 31, 32, 33, 34, 35, 36, 37, 38, 39, 40, 41, 42, 43, 44, 45, 46, 47, 48, 49, 50, 51, 52, 53, 54, 55, 56, 57, 58, 59, 60, 61, 62, 63, 64, 65, 66, 67, 68, 69, 70, 71, 72, 73, 74, 75, 76, 77, 78, 79, 80, 81, 82, 83, 84, 85, 86, 87, 88, 89, 90, 91] (by decide +kernel) (by decide +kernel)
set_option maxRecDepth 20000 in
theorem gX9_most_X9_dropsOf : GoodIn wsX9_most (wsV RX9 367 RX9 yX9_dropsOf wsX9_dropsOf) := goodIn_app (goodIn_of _ (by decide +kernel)) ggX9_most_X9_dropsOf
set_option maxRecDepth 20000 in
theorem ggX9_most_X9_isStrand : GoodIn wsX9_most wsX9_isStrand := goodIn_r _ [6, 7, 8, 9, 5, 10, 39, 40, 41, 42, 43, 44, 45, 46, 47, 48, 49, 50, 51, 52, 53, 54, 55, 56, 57, 58, 59, 60, 61, 62, 63, 64, 65, 66, 67, 68, 69, 70, 71, 72, 73, 74, 75, 76, 77, 78, 79, 80, 81, 82, 83, 84, 85, 86, 87, 88, 89, 90, 91] (by decide +kernel) (by decide +kernel)
set_option maxRecDepth 20000 in
theorem gX9_most_X9_isStrand : GoodIn wsX9_most (wsV RX9 347 RX9 yX9_isStrand wsX9_isStrand) := goodIn_app (goodIn_of _ (by decide +kernel)) ggX9_most_X9_isStrand
set_option maxRecDepth 20000 in
theorem ggX9_most_X9_those : GoodIn wsX9_most wsX9_those := goodIn_r _ [14, 7, 15, 39, 40, 41, 42, 43, 44, 45, 46, 47, 48, 49, 50, 51, 52, 53, 54, 55, 56, 57, 58, 59, 60, 61, 62, 63, 64, 65, 66, 67, 68, 69, 70, 71, 72, 73, 74, 75, 76, 77, 78, 79, 80, 81, 82, 83, 84, 85, 86, 87, 88, 89, 90, 91] (by decide +kernel) (by decide +kernel)
set_option maxRecDepth 20000 in
theorem gX9_most_X9_those : GoodIn wsX9_most (wsV RX9 341 RX9 yX9_those wsX9_those) := goodIn_app (goodIn_of _ (by decide +kernel)) ggX9_most_X9_those
set_option maxRecDepth 20000 in
theorem ggX9_movesAll_X9_moves : GoodIn wsX9_movesAll wsX9_moves := goodIn_r _ [10, 2, 11, 1, 16, 17, 18, 19, 20, 21, 22, 23, 24, 25, 26, 27, 28, 29, 30, 31, 32, 33, 34, 35, 36, 37, 38, 39, 40, 41, 42, 43, 44, 45, 46, 47, 48, 49, 50, 51, 52, 53, 54, 55, 56, 57, 58, 59, 60, 61, 62, 63, 64, 65, 66, 67, 68] (by decide +kernel) (by decide +kernel)
set_option maxRecDepth 20000 in
theorem gX9_movesAll_X9_moves : GoodIn wsX9_movesAll (wsV RX9 393 RX9 yX9_moves wsX9_moves) := goodIn_app (goodIn_of _ (by decide +kernel)) ggX9_movesAll_X9_moves
set_option maxRecDepth 20000 in
theorem ggX9_movesAll_X9_movesRow : GoodIn wsX9_movesAll wsX9_movesRow := goodIn_r _ [15, 6, 7, 8, 9, 10, 2, 11, 1, 16, 17, 18, 19, 20, 21, 22, 23, 24, 25, 26, 27, 28, 29, 30, 31, 32, 33, 34, 35, 36, 37, 38, 39, 40, 41, 42, 43, 44, 45, 46, 47, 48, 49, 50, 51, 52, 53, 54, 55, 56, 57, 58, 59, 60, 61, 62, 63, 64, 65, 66, 67, 68] (by decide +kernel) (by decide +kernel)
set_option maxRecDepth 20000 in
theorem gX9_movesAll_X9_movesRow : GoodIn wsX9_movesAll (wsV RX9 396 RX9 yX9_movesRow wsX9_movesRow) := goodIn_app (goodIn_of _ (by decide +kernel)) ggX9_movesAll_X9_movesRow
set_option maxRecDepth 20000 in
theorem ggX9_movesRow_X9_moves : GoodIn wsX9_movesRow wsX9_moves := goodIn_r _ [5, 6, 7, 8, 9, 10, 11, 12, 13, 14, 15, 16, 17, 18, 19, 20, 21, 22, 23, 24, 25, 26, 27, 28, 29, 30, 31, 32, 33, 34, 35, 36, 37, 38, 39, 40, 41, 42, 43, 44, 45, 46, 47, 48, 49, 50, 51, 52, 53, 54, 55, 56, 57, 58, 59, 60, 61] (by decide +kernel) (by decide +kernel)
set_option maxRecDepth 20000 in
theorem gX9_movesRow_X9_moves : GoodIn wsX9_movesRow (wsV RX9 393 RX9 yX9_moves wsX9_moves) := goodIn_app (goodIn_of _ (by decide +kernel)) ggX9_movesRow_X9_moves
set_option maxRecDepth 20000 in
theorem ggX9_nextOf_X9_dropsOf : GoodIn wsX9_nextOf wsX9_dropsOf := goodIn_r _ [10, 1, 11, 12, 3, 4, 5, 6, 13, 14, 15, 16, 17, 18, 19, 20, 21, 22, 23, 24, 25, 26, 27, 28, 29, 30, 31, 32, 33, 34, 35, 36, 37, 38, 39, 40, 41, 42, 43, 44, 45, 46, 47, 48, 49, 50, 51, 52, 53, 54, 55, 56, 57, 58, 59, 60, 61, 62, 63, 64, 65, 66, 67, 68, 69, 70, 71, 72, 73, 74, 75, 76, 77, 78, 79, 80] (by decide +kernel) (by decide +kernel)
set_option maxRecDepth 20000 in
theorem gX9_nextOf_X9_dropsOf : GoodIn wsX9_nextOf (wsV RX9 367 RX9 yX9_dropsOf wsX9_dropsOf) := goodIn_app (goodIn_of _ (by decide +kernel)) ggX9_nextOf_X9_dropsOf
set_option maxRecDepth 20000 in
theorem ggX9_nextOf_X9_has : GoodIn wsX9_nextOf wsX9_has := goodIn_r _ [6] (by decide +kernel) (by decide +kernel)
set_option maxRecDepth 20000 in
theorem gX9_nextOf_X9_has : GoodIn wsX9_nextOf (va_wsS RX9 332 yX9_has wsX9_has) := goodIn_app (goodIn_of _ (by decide +kernel)) ggX9_nextOf_X9_has
set_option maxRecDepth 20000 in
theorem ggX9_note_X9_in : GoodIn wsX9_note wsX9_in := goodIn_r _ [10] (by decide +kernel) (by decide +kernel)
set_option maxRecDepth 20000 in
theorem gX9_note_X9_in : GoodIn wsX9_note (va_wsS RX9 131 yX9_in wsX9_in) := goodIn_app (goodIn_of _ (by decide +kernel)) ggX9_note_X9_in
set_option maxRecDepth 20000 in
theorem ggX9_note_X9_isSitter : GoodIn wsX9_note wsX9_isSitter := goodIn_r _ [14, 1, 7, 8, 9, 10, 15, 16, 17, 18, 19, 20, 21, 22, 23, 24, 25, 26, 27, 28, 29, 30, 31, 32, 33, 34, 35, 36, 37, 38, 39, 40, 41, 42, 43, 44, 45, 46, 47, 48, 49, 50, 51, 52, 53, 54, 55, 56, 57, 58, 59, 60, 61, 62, 63, 64, 65, 66, 67] (by decide +kernel) (by decide +kernel)
set_option maxRecDepth 20000 in
theorem gX9_note_X9_isSitter : GoodIn wsX9_note (wsV RX9 362 RX9 yX9_isSitter wsX9_isSitter) := goodIn_app (goodIn_of _ (by decide +kernel)) ggX9_note_X9_isSitter
set_option maxRecDepth 20000 in
theorem ggX9_pence_X9_allGive : GoodIn wsX9_pence wsX9_allGive := goodIn_r _ [14, 2, 15, 16, 17, 6, 18, 19, 20, 21, 22, 23, 24, 25, 26, 27, 28, 29, 30, 31, 32, 33, 34, 35, 36, 37, 38, 39, 40, 41, 42, 43, 44, 45, 46, 47, 48, 49, 50, 51, 52, 53, 54, 55, 56, 57, 58, 59, 60, 61, 62, 63, 64, 65, 66, 67, 68, 69, 70, 71, 72, 73, 74, 75, 76, 77, 78, 79, 80, 81, 82, 83, 84, 85, 86, 87, 88, 89, 90, 91, 92, 93, 94, 95] (by decide +kernel) (by decide +kernel)
set_option maxRecDepth 20000 in
theorem gX9_pence_X9_allGive : GoodIn wsX9_pence (wsV RX9 454 RX9 yX9_allGive wsX9_allGive) := goodIn_app (goodIn_of _ (by decide +kernel)) ggX9_pence_X9_allGive
set_option maxRecDepth 20000 in
theorem ggX9_pence_X9_givesNow : GoodIn wsX9_pence wsX9_givesNow := goodIn_r _ [18, 19, 20, 21, 6, 22, 2, 23, 24, 25, 26, 27, 28, 29, 30, 31, 32, 33, 34, 35, 36, 37, 38, 39, 40, 41, 42, 43, 44, 45, 46, 47, 48, 49, 50, 51, 52, 53, 54, 55, 56, 57, 58, 59, 60, 61, 62, 63, 64, 65, 66, 67, 68, 69, 70, 71, 72, 73, 74, 75, 76, 77, 78, 79, 80, 81, 82, 83, 84, 85, 86, 87, 88, 89, 90, 91, 92, 93, 94, 95] (by decide +kernel) (by decide +kernel)
set_option maxRecDepth 20000 in
theorem gX9_pence_X9_givesNow : GoodIn wsX9_pence (wsV RX9 359 RX9 yX9_givesNow wsX9_givesNow) := goodIn_app (goodIn_of _ (by decide +kernel)) ggX9_pence_X9_givesNow
set_option maxRecDepth 20000 in
theorem ggX9_pence_X9_in : GoodIn wsX9_pence wsX9_in := goodIn_r _ [10] (by decide +kernel) (by decide +kernel)
set_option maxRecDepth 20000 in
theorem gX9_pence_X9_in : GoodIn wsX9_pence (va_wsS RX9 131 yX9_in wsX9_in) := goodIn_app (goodIn_of _ (by decide +kernel)) ggX9_pence_X9_in
set_option maxRecDepth 20000 in
theorem ggX9_pence_X9_isSitter : GoodIn wsX9_pence wsX9_isSitter := goodIn_r _ [7, 2, 8, 9, 6, 10, 43, 44, 45, 46, 47, 48, 49, 50, 51, 52, 53, 54, 55, 56, 57, 58, 59, 60, 61, 62, 63, 64, 65, 66, 67, 68, 69, 70, 71, 72, 73, 74, 75, 76, 77, 78, 79, 80, 81, 82, 83, 84, 85, 86, 87, 88, 89, 90, 91, 92, 93, 94, 95] (by decide +kernel) (by decide +kernel)
set_option maxRecDepth 20000 in
theorem gX9_pence_X9_isSitter : GoodIn wsX9_pence (wsV RX9 362 RX9 yX9_isSitter wsX9_isSitter) := goodIn_app (goodIn_of _ (by decide +kernel)) ggX9_pence_X9_isSitter
set_option maxRecDepth 20000 in
theorem ggX9_rise_X9_isSo : GoodIn wsX9_rise wsX9_isSo := goodIn_r _ [6, 1, 7, 8, 9, 5, 10, 11, 12, 13, 14, 67, 68, 69, 70, 71, 72, 73, 74, 75, 76, 77, 78, 79, 80, 81, 82, 83, 84, 85, 86, 87, 88, 89, 90, 91, 92, 93, 94, 95, 96, 97, 98, 99, 100, 101, 102, 103, 104, 105, 106, 107, 108, 109, 110, 111, 112, 113, 114, 115, 116, 117, 118, 119] (by decide +kernel) (by decide +kernel)
set_option maxRecDepth 20000 in
theorem gX9_rise_X9_isSo : GoodIn wsX9_rise (wsV RX9 410 RX9 yX9_isSo wsX9_isSo) := goodIn_app (goodIn_of _ (by decide +kernel)) ggX9_rise_X9_isSo
set_option maxRecDepth 20000 in
theorem ggX9_rise_X9_keepsAct : GoodIn wsX9_rise wsX9_keepsAct := goodIn_r _ [18, 19, 20, 21, 22, 23, 5, 24, 25, 26, 11, 27, 1, 28, 29, 30, 31, 32, 33, 34, 35, 67, 68, 69, 70, 71, 72, 73, 74, 75, 76, 77, 78, 79, 80, 81, 82, 83, 84, 85, 86, 87, 88, 89, 90, 91, 92, 93, 94, 95, 96, 97, 98, 99, 100, 101, 102, 103, 104, 105, 106, 107, 108, 109, 110, 111, 112, 113, 114, 115, 116, 117, 118, 119] (by decide +kernel) (by decide +kernel)
set_option maxRecDepth 20000 in
theorem gX9_rise_X9_keepsAct : GoodIn wsX9_rise (wsV RX9 407 RX9 yX9_keepsAct wsX9_keepsAct) := goodIn_app (goodIn_of _ (by decide +kernel)) ggX9_rise_X9_keepsAct
set_option maxRecDepth 20000 in
theorem ggX9_rise_X9_settles : GoodIn wsX9_rise wsX9_settles := goodIn_r _ [39, 11, 1, 40, 41, 42, 5, 43, 44, 45, 46, 47, 48, 49, 50, 51, 52, 53, 54, 55, 56, 57, 27, 58, 59, 60, 61, 62, 63, 64, 65, 66, 67, 68, 69, 70, 71, 72, 73, 74, 75, 76, 77, 78, 79, 80, 81, 82, 83, 84, 85, 86, 87, 88, 89, 90, 91, 92, 93, 94, 95, 96, 97, 98, 99, 100, 101, 102, 103, 104, 105, 106, 107, 108, 109, 110, 111, 112, 113, 114, 115, 116, 117, 118, 119] (by decide +kernel) (by decide +kernel)
set_option maxRecDepth 20000 in
theorem gX9_rise_X9_settles : GoodIn wsX9_rise (wsV RX9 380 RX9 yX9_settles wsX9_settles) := goodIn_app (goodIn_of _ (by decide +kernel)) ggX9_rise_X9_settles
set_option maxRecDepth 20000 in
theorem ggX9_sit_X9_isSo : GoodIn wsX9_sit wsX9_isSo := goodIn_r _ [6, 1, 7, 8, 9, 5, 10, 11, 12, 13, 14, 67, 68, 69, 70, 71, 72, 73, 74, 75, 76, 77, 78, 79, 80, 81, 82, 83, 84, 85, 86, 87, 88, 89, 90, 91, 92, 93, 94, 95, 96, 97, 98, 99, 100, 101, 102, 103, 104, 105, 106, 107, 108, 109, 110, 111, 112, 113, 114, 115, 116, 117, 118, 119] (by decide +kernel) (by decide +kernel)
set_option maxRecDepth 20000 in
theorem gX9_sit_X9_isSo : GoodIn wsX9_sit (wsV RX9 410 RX9 yX9_isSo wsX9_isSo) := goodIn_app (goodIn_of _ (by decide +kernel)) ggX9_sit_X9_isSo
set_option maxRecDepth 20000 in
theorem ggX9_sit_X9_keepsAct : GoodIn wsX9_sit wsX9_keepsAct := goodIn_r _ [18, 19, 20, 21, 22, 23, 5, 24, 25, 26, 11, 27, 1, 28, 29, 30, 31, 32, 33, 34, 35, 67, 68, 69, 70, 71, 72, 73, 74, 75, 76, 77, 78, 79, 80, 81, 82, 83, 84, 85, 86, 87, 88, 89, 90, 91, 92, 93, 94, 95, 96, 97, 98, 99, 100, 101, 102, 103, 104, 105, 106, 107, 108, 109, 110, 111, 112, 113, 114, 115, 116, 117, 118, 119] (by decide +kernel) (by decide +kernel)
set_option maxRecDepth 20000 in
theorem gX9_sit_X9_keepsAct : GoodIn wsX9_sit (wsV RX9 407 RX9 yX9_keepsAct wsX9_keepsAct) := goodIn_app (goodIn_of _ (by decide +kernel)) ggX9_sit_X9_keepsAct
set_option maxRecDepth 20000 in
theorem ggX9_sit_X9_settles : GoodIn wsX9_sit wsX9_settles := goodIn_r _ [39, 11, 1, 40, 41, 42, 5, 43, 44, 45, 46, 47, 48, 49, 50, 51, 52, 53, 54, 55, 56, 57, 27, 58, 59, 60, 61, 62, 63, 64, 65, 66, 67, 68, 69, 70, 71, 72, 73, 74, 75, 76, 77, 78, 79, 80, 81, 82, 83, 84, 85, 86, 87, 88, 89, 90, 91, 92, 93, 94, 95, 96, 97, 98, 99, 100, 101, 102, 103, 104, 105, 106, 107, 108, 109, 110, 111, 112, 113, 114, 115, 116, 117, 118, 119] (by decide +kernel) (by decide +kernel)
set_option maxRecDepth 20000 in
theorem gX9_sit_X9_settles : GoodIn wsX9_sit (wsV RX9 380 RX9 yX9_settles wsX9_settles) := goodIn_app (goodIn_of _ (by decide +kernel)) ggX9_sit_X9_settles
set_option maxRecDepth 20000 in
theorem ggX9_undo_X9_movesAll : GoodIn wsX9_undo wsX9_movesAll := goodIn_r _ [6, 7, 8, 9, 10, 11, 12, 13, 14, 5, 15, 16, 17, 18, 19, 20, 21, 22, 23, 24, 25, 26, 27, 28, 29, 30, 31, 32, 33, 34, 35, 36, 37, 38, 39, 40, 41, 42, 43, 44, 45, 46, 47, 48, 49, 50, 51, 52, 53, 54, 55, 56, 57, 58, 59, 60, 61, 62, 63, 64, 65, 66, 67, 68, 69, 70, 71, 72, 73] (by decide +kernel) (by decide +kernel)
set_option maxRecDepth 20000 in
theorem gX9_undo_X9_movesAll : GoodIn wsX9_undo (wsV RX9 400 RX9 yX9_movesAll wsX9_movesAll) := goodIn_app (goodIn_of _ (by decide +kernel)) ggX9_undo_X9_movesAll
set_option maxRecDepth 20000 in
theorem ggX9_way_X9_in : GoodIn wsX9_way wsX9_in := goodIn_r _ [11] (by decide +kernel) (by decide +kernel)
set_option maxRecDepth 20000 in
theorem gX9_way_X9_in : GoodIn wsX9_way (va_wsS RX9 131 yX9_in wsX9_in) := goodIn_app (goodIn_of _ (by decide +kernel)) ggX9_way_X9_in
set_option maxRecDepth 20000 in
theorem ggX9_way_X9_isHall : GoodIn wsX9_way wsX9_isHall := goodIn_r _ [7, 8, 45, 46, 47, 48, 49, 50, 51, 52, 53, 54, 55, 56, 57, 58, 59, 60, 61, 62, 63, 64, 65, 66, 67, 68, 69, 70, 71, 72, 73, 74, 75, 76, 77, 78, 79, 80, 81, 82, 83, 84, 85, 86, 87, 88, 89, 90, 91, 92, 93, 94, 95, 96, 97] (by decide +kernel) (by decide +kernel)
set_option maxRecDepth 20000 in
theorem gX9_way_X9_isHall : GoodIn wsX9_way (wsV RX9 404 RX9 yX9_isHall wsX9_isHall) := goodIn_app (goodIn_of _ (by decide +kernel)) ggX9_way_X9_isHall
set_option maxRecDepth 20000 in
theorem ggX9_way_X9_nextOf : GoodIn wsX9_way wsX9_nextOf := goodIn_r _ [20, 8, 2, 21, 22, 6, 23, 24, 25, 26, 27, 28, 29, 30, 31, 32, 33, 34, 35, 36, 37, 38, 39, 40, 41, 42, 43, 44, 45, 46, 47, 48, 49, 50, 51, 52, 53, 54, 55, 56, 57, 58, 59, 60, 61, 62, 63, 64, 65, 66, 67, 68, 69, 70, 71, 72, 73, 74, 75, 76, 77, 78, 79, 80, 81, 82, 83, 84, 85, 86, 87, 88, 89, 90, 91, 92, 93, 94, 95, 96, 97] (by decide +kernel) (by decide +kernel)
set_option maxRecDepth 20000 in
theorem gX9_way_X9_nextOf : GoodIn wsX9_way (wsV RX9 434 RX9 yX9_nextOf wsX9_nextOf) := goodIn_app (goodIn_of _ (by decide +kernel)) ggX9_way_X9_nextOf
set_option maxRecDepth 20000 in
theorem ggX9_way_X9_those : GoodIn wsX9_way wsX9_those := goodIn_r _ [15, 8, 16, 45, 46, 47, 48, 49, 50, 51, 52, 53, 54, 55, 56, 57, 58, 59, 60, 61, 62, 63, 64, 65, 66, 67, 68, 69, 70, 71, 72, 73, 74, 75, 76, 77, 78, 79, 80, 81, 82, 83, 84, 85, 86, 87, 88, 89, 90, 91, 92, 93, 94, 95, 96, 97] (by decide +kernel) (by decide +kernel)
set_option maxRecDepth 20000 in
theorem gX9_way_X9_those : GoodIn wsX9_way (wsV RX9 341 RX9 yX9_those wsX9_those) := goodIn_app (goodIn_of _ (by decide +kernel)) ggX9_way_X9_those
set_option maxHeartbeats 4000000 in
set_option maxRecDepth 100000 in
theorem i_X9_in (l : Launch) (D : va_G) (k : Nat → ClassId) (sz : Nat) (y1 : Int64) (y2 : Int64) (y3 : Int64)  : CtI l yX9_in wsX9_in (rmK 1 0 0) [.long y1, .long y2, .long y3] D k sz ([]) (fun (r : Int32) (u : Unit) => iv (0) (1) r ∧ ((r.toInt = 1 ∧ y2.toInt ≤ y1.toInt ∧ y1.toInt ≤ y3.toInt) ∨ (r.toInt = 0 ∧ (y1.toInt < y2.toInt ∨ y3.toInt < y1.toInt)))) (fun u : Unit => []) 0 0 := by
  refine CtI.mk (cc := cX9_in) (maxL := 6) (ret := (some .boolean)) (by decide) rfl (Nat.le_of_ble_eq_true rfl) ?_
  intro p e s m below meth c A ls E hP hD hS hl
  obtain ⟨hx, hb, hr, hml, hown, hts, hlocks, hin, hG, hA⟩ := E
  have hown : s.vm.findClass RX9 = some m.cls := hown
  have hl : lv_has ls 6 [(0, .long y1), (2, .long y2), (4, .long y3)] := hl
  refine lv_lload_n hx hb dX9_in_0 rfl (lv_at hl 0 rfl) ?_
  refine lv_lload_n hx hb dX9_in_1 rfl (lv_at hl 1 rfl) ?_
  refine W.lcmp hx hb dX9_in_2 ?_
  refine lv_topi (fun z1 ez1 => ?_)
  have tz1 := lcmp_rel (a := y1.toInt) (b := y2.toInt) rfl rfl ez1
  refine lv_if_lt (tgt := 17) hx hb dX9_in_3 (by decide) (fun c2 => ?_) (fun c2 => ?_)
  · have fc2 := cx_lt_t (a := z1.toInt) (b := 0) rfl (by decide) c2
    refine lv_iconst (v := 0) hx hb dX9_in_17 (by decide) ?_
    exact hc_endZ hx hb hr hlocks rfl () ⟨iv_lit (by decide) (by decide), (by have q9 : (0 : Int32).toInt = 0 := (by decide); omega)⟩ hP hD hS dX9_in_18
  · have fc2 := cx_lt_f (a := z1.toInt) (b := 0) rfl (by decide) c2
    refine lv_lload_n hx hb dX9_in_6 rfl (lv_at hl 0 rfl) ?_
    refine lv_lload hx hb dX9_in_7 (lv_at hl 2 rfl) ?_
    refine W.lcmp hx hb dX9_in_9 ?_
    refine lv_topi (fun z3 ez3 => ?_)
    have tz3 := lcmp_rel (a := y1.toInt) (b := y3.toInt) rfl rfl ez3
    refine lv_if_gt (tgt := 17) hx hb dX9_in_10 (by decide) (fun c4 => ?_) (fun c4 => ?_)
    · have fc4 := cx_gt_t (a := z3.toInt) (b := 0) rfl (by decide) c4
      refine lv_iconst (v := 0) hx hb dX9_in_17 (by decide) ?_
      exact hc_endZ hx hb hr hlocks rfl () ⟨iv_lit (by decide) (by decide), (by have q9 : (0 : Int32).toInt = 0 := (by decide); omega)⟩ hP hD hS dX9_in_18
    · have fc4 := cx_gt_f (a := z3.toInt) (b := 0) rfl (by decide) c4
      refine lv_iconst (v := 1) hx hb dX9_in_13 (by decide) ?_
      refine lv_goto (tgt := 18) hx hb dX9_in_14 (by decide) ?_
      exact hc_endZ hx hb hr hlocks rfl () ⟨iv_lit (by decide) (by decide), (by have q9 : (1 : Int32).toInt = 1 := (by decide); omega)⟩ hP hD hS dX9_in_18
set_option maxHeartbeats 4000000 in
set_option maxRecDepth 100000 in
theorem i_X9_bits (l : Launch) (D : va_G) (k : Nat → ClassId) (sz : Nat) (x1 : Int32)  : CtI l yX9_bits wsX9_bits (rmK 1 0 0) [.int x1] D k sz ([]) (fun (r : Int32) (u : Unit) => iv (0) (16) r) (fun u : Unit => []) 0 0 := by
  refine CtI.mk (cc := cX9_bits) (maxL := 3) (ret := (some .int)) (by decide) rfl (Nat.le_of_ble_eq_true rfl) ?_
  intro p e s m below meth c A ls E hP hD hS hl
  obtain ⟨hx, hb, hr, hml, hown, hts, hlocks, hin, hG, hA⟩ := E
  have hown : s.vm.findClass RX9 = some m.cls := hown
  have hl : lv_has ls 3 [(0, .int x1)] := hl
  refine lv_iconst (v := 0) hx hb dX9_bits_0 (by decide) ?_
  refine lv_istore_n (lv' := [(1, .int 0), (0, .int x1)]) hx hb dX9_bits_1 rfl hl (by decide) rfl (fun ls hl => ?_)
  refine lv_iconst (v := 0) hx hb dX9_bits_2 (by decide) ?_
  refine lv_istore_n (lv' := [(2, .int 0), (1, .int 0), (0, .int x1)]) hx hb dX9_bits_3 rfl hl (by decide) rfl (fun ls hl => ?_)
  refine lv_iload_n hx hb dX9_bits_4 rfl (lv_at hl 0 rfl) ?_
  refine lv_bipush (v := 16) hx hb dX9_bits_5 (by decide) ?_
  refine lv_icmp_ge (tgt := 24) hx hb dX9_bits_7 (by decide) (fun h => absurd h (by decide)) (fun _ => ?_)
  refine lv_iload_n hx hb dX9_bits_10 rfl (lv_at hl 1 rfl) ?_
  refine lv_iload_n hx hb dX9_bits_11 rfl (lv_at hl 2 rfl) ?_
  refine lv_iload_n hx hb dX9_bits_12 rfl (lv_at hl 0 rfl) ?_
  refine lv_ishr hx hb dX9_bits_13 ?_
  refine lv_topi (fun z1 ez1 => ?_)
  refine lv_iconst (v := 1) hx hb dX9_bits_14 (by decide) ?_
  refine lv_iand hx hb dX9_bits_15 ?_
  refine lv_topi (fun z2 ez2 => ?_)
  have bz2 : iv (0) (1) z2 := ai_mask 1 (by decide) (by decide) ez2
  have bz2_l := bz2.1
  have bz2_u := bz2.2
  refine lv_iadd hx hb dX9_bits_16 ?_
  refine lv_topi (fun z3 ez3 => ?_)
  have tz3 : z3.toInt = 0 + z2.toInt := ai_add (by decide) rfl ez3 (by omega) (by omega)
  refine lv_istore_n (lv' := [(1, .int z3), (2, .int 0), (0, .int x1)]) hx hb dX9_bits_17 rfl hl (by decide) rfl (fun ls hl => ?_)
  refine lv_iinc (v := 1) (lv' := [(2, .int 1), (1, .int z3), (0, .int x1)]) hx hb dX9_bits_18 hl (k := 1) rfl (by decide) (by decide) rfl (fun ls hl => ?_)
  refine lv_goto (tgt := 4) hx hb dX9_bits_21 (by decide) ?_
  refine lv_iload_n hx hb dX9_bits_4 rfl (lv_at hl 0 rfl) ?_
  refine lv_bipush (v := 16) hx hb dX9_bits_5 (by decide) ?_
  refine lv_icmp_ge (tgt := 24) hx hb dX9_bits_7 (by decide) (fun h => absurd h (by decide)) (fun _ => ?_)
  refine lv_iload_n hx hb dX9_bits_10 rfl (lv_at hl 1 rfl) ?_
  refine lv_iload_n hx hb dX9_bits_11 rfl (lv_at hl 2 rfl) ?_
  refine lv_iload_n hx hb dX9_bits_12 rfl (lv_at hl 0 rfl) ?_
  refine lv_ishr hx hb dX9_bits_13 ?_
  refine lv_topi (fun z4 ez4 => ?_)
  refine lv_iconst (v := 1) hx hb dX9_bits_14 (by decide) ?_
  refine lv_iand hx hb dX9_bits_15 ?_
  refine lv_topi (fun z5 ez5 => ?_)
  have bz5 : iv (0) (1) z5 := ai_mask 1 (by decide) (by decide) ez5
  have bz5_l := bz5.1
  have bz5_u := bz5.2
  refine lv_iadd hx hb dX9_bits_16 ?_
  refine lv_topi (fun z6 ez6 => ?_)
  have tz6 : z6.toInt = z3.toInt + z5.toInt := ai_add rfl rfl ez6 (by omega) (by omega)
  refine lv_istore_n (lv' := [(1, .int z6), (2, .int 1), (0, .int x1)]) hx hb dX9_bits_17 rfl hl (by decide) rfl (fun ls hl => ?_)
  refine lv_iinc (v := 2) (lv' := [(2, .int 2), (1, .int z6), (0, .int x1)]) hx hb dX9_bits_18 hl (k := 1) rfl (by decide) (by decide) rfl (fun ls hl => ?_)
  refine lv_goto (tgt := 4) hx hb dX9_bits_21 (by decide) ?_
  refine lv_iload_n hx hb dX9_bits_4 rfl (lv_at hl 0 rfl) ?_
  refine lv_bipush (v := 16) hx hb dX9_bits_5 (by decide) ?_
  refine lv_icmp_ge (tgt := 24) hx hb dX9_bits_7 (by decide) (fun h => absurd h (by decide)) (fun _ => ?_)
  refine lv_iload_n hx hb dX9_bits_10 rfl (lv_at hl 1 rfl) ?_
  refine lv_iload_n hx hb dX9_bits_11 rfl (lv_at hl 2 rfl) ?_
  refine lv_iload_n hx hb dX9_bits_12 rfl (lv_at hl 0 rfl) ?_
  refine lv_ishr hx hb dX9_bits_13 ?_
  refine lv_topi (fun z7 ez7 => ?_)
  refine lv_iconst (v := 1) hx hb dX9_bits_14 (by decide) ?_
  refine lv_iand hx hb dX9_bits_15 ?_
  refine lv_topi (fun z8 ez8 => ?_)
  have bz8 : iv (0) (1) z8 := ai_mask 1 (by decide) (by decide) ez8
  have bz8_l := bz8.1
  have bz8_u := bz8.2
  refine lv_iadd hx hb dX9_bits_16 ?_
  refine lv_topi (fun z9 ez9 => ?_)
  have tz9 : z9.toInt = z6.toInt + z8.toInt := ai_add rfl rfl ez9 (by omega) (by omega)
  refine lv_istore_n (lv' := [(1, .int z9), (2, .int 2), (0, .int x1)]) hx hb dX9_bits_17 rfl hl (by decide) rfl (fun ls hl => ?_)
  refine lv_iinc (v := 3) (lv' := [(2, .int 3), (1, .int z9), (0, .int x1)]) hx hb dX9_bits_18 hl (k := 1) rfl (by decide) (by decide) rfl (fun ls hl => ?_)
  refine lv_goto (tgt := 4) hx hb dX9_bits_21 (by decide) ?_
  refine lv_iload_n hx hb dX9_bits_4 rfl (lv_at hl 0 rfl) ?_
  refine lv_bipush (v := 16) hx hb dX9_bits_5 (by decide) ?_
  refine lv_icmp_ge (tgt := 24) hx hb dX9_bits_7 (by decide) (fun h => absurd h (by decide)) (fun _ => ?_)
  refine lv_iload_n hx hb dX9_bits_10 rfl (lv_at hl 1 rfl) ?_
  refine lv_iload_n hx hb dX9_bits_11 rfl (lv_at hl 2 rfl) ?_
  refine lv_iload_n hx hb dX9_bits_12 rfl (lv_at hl 0 rfl) ?_
  refine lv_ishr hx hb dX9_bits_13 ?_
  refine lv_topi (fun z10 ez10 => ?_)
  refine lv_iconst (v := 1) hx hb dX9_bits_14 (by decide) ?_
  refine lv_iand hx hb dX9_bits_15 ?_
  refine lv_topi (fun z11 ez11 => ?_)
  have bz11 : iv (0) (1) z11 := ai_mask 1 (by decide) (by decide) ez11
  have bz11_l := bz11.1
  have bz11_u := bz11.2
  refine lv_iadd hx hb dX9_bits_16 ?_
  refine lv_topi (fun z12 ez12 => ?_)
  have tz12 : z12.toInt = z9.toInt + z11.toInt := ai_add rfl rfl ez12 (by omega) (by omega)
  refine lv_istore_n (lv' := [(1, .int z12), (2, .int 3), (0, .int x1)]) hx hb dX9_bits_17 rfl hl (by decide) rfl (fun ls hl => ?_)
  refine lv_iinc (v := 4) (lv' := [(2, .int 4), (1, .int z12), (0, .int x1)]) hx hb dX9_bits_18 hl (k := 1) rfl (by decide) (by decide) rfl (fun ls hl => ?_)
  refine lv_goto (tgt := 4) hx hb dX9_bits_21 (by decide) ?_
  refine lv_iload_n hx hb dX9_bits_4 rfl (lv_at hl 0 rfl) ?_
  refine lv_bipush (v := 16) hx hb dX9_bits_5 (by decide) ?_
  refine lv_icmp_ge (tgt := 24) hx hb dX9_bits_7 (by decide) (fun h => absurd h (by decide)) (fun _ => ?_)
  refine lv_iload_n hx hb dX9_bits_10 rfl (lv_at hl 1 rfl) ?_
  refine lv_iload_n hx hb dX9_bits_11 rfl (lv_at hl 2 rfl) ?_
  refine lv_iload_n hx hb dX9_bits_12 rfl (lv_at hl 0 rfl) ?_
  refine lv_ishr hx hb dX9_bits_13 ?_
  refine lv_topi (fun z13 ez13 => ?_)
  refine lv_iconst (v := 1) hx hb dX9_bits_14 (by decide) ?_
  refine lv_iand hx hb dX9_bits_15 ?_
  refine lv_topi (fun z14 ez14 => ?_)
  have bz14 : iv (0) (1) z14 := ai_mask 1 (by decide) (by decide) ez14
  have bz14_l := bz14.1
  have bz14_u := bz14.2
  refine lv_iadd hx hb dX9_bits_16 ?_
  refine lv_topi (fun z15 ez15 => ?_)
  have tz15 : z15.toInt = z12.toInt + z14.toInt := ai_add rfl rfl ez15 (by omega) (by omega)
  refine lv_istore_n (lv' := [(1, .int z15), (2, .int 4), (0, .int x1)]) hx hb dX9_bits_17 rfl hl (by decide) rfl (fun ls hl => ?_)
  refine lv_iinc (v := 5) (lv' := [(2, .int 5), (1, .int z15), (0, .int x1)]) hx hb dX9_bits_18 hl (k := 1) rfl (by decide) (by decide) rfl (fun ls hl => ?_)
  refine lv_goto (tgt := 4) hx hb dX9_bits_21 (by decide) ?_
  refine lv_iload_n hx hb dX9_bits_4 rfl (lv_at hl 0 rfl) ?_
  refine lv_bipush (v := 16) hx hb dX9_bits_5 (by decide) ?_
  refine lv_icmp_ge (tgt := 24) hx hb dX9_bits_7 (by decide) (fun h => absurd h (by decide)) (fun _ => ?_)
  refine lv_iload_n hx hb dX9_bits_10 rfl (lv_at hl 1 rfl) ?_
  refine lv_iload_n hx hb dX9_bits_11 rfl (lv_at hl 2 rfl) ?_
  refine lv_iload_n hx hb dX9_bits_12 rfl (lv_at hl 0 rfl) ?_
  refine lv_ishr hx hb dX9_bits_13 ?_
  refine lv_topi (fun z16 ez16 => ?_)
  refine lv_iconst (v := 1) hx hb dX9_bits_14 (by decide) ?_
  refine lv_iand hx hb dX9_bits_15 ?_
  refine lv_topi (fun z17 ez17 => ?_)
  have bz17 : iv (0) (1) z17 := ai_mask 1 (by decide) (by decide) ez17
  have bz17_l := bz17.1
  have bz17_u := bz17.2
  refine lv_iadd hx hb dX9_bits_16 ?_
  refine lv_topi (fun z18 ez18 => ?_)
  have tz18 : z18.toInt = z15.toInt + z17.toInt := ai_add rfl rfl ez18 (by omega) (by omega)
  refine lv_istore_n (lv' := [(1, .int z18), (2, .int 5), (0, .int x1)]) hx hb dX9_bits_17 rfl hl (by decide) rfl (fun ls hl => ?_)
  refine lv_iinc (v := 6) (lv' := [(2, .int 6), (1, .int z18), (0, .int x1)]) hx hb dX9_bits_18 hl (k := 1) rfl (by decide) (by decide) rfl (fun ls hl => ?_)
  refine lv_goto (tgt := 4) hx hb dX9_bits_21 (by decide) ?_
  refine lv_iload_n hx hb dX9_bits_4 rfl (lv_at hl 0 rfl) ?_
  refine lv_bipush (v := 16) hx hb dX9_bits_5 (by decide) ?_
  refine lv_icmp_ge (tgt := 24) hx hb dX9_bits_7 (by decide) (fun h => absurd h (by decide)) (fun _ => ?_)
  refine lv_iload_n hx hb dX9_bits_10 rfl (lv_at hl 1 rfl) ?_
  refine lv_iload_n hx hb dX9_bits_11 rfl (lv_at hl 2 rfl) ?_
  refine lv_iload_n hx hb dX9_bits_12 rfl (lv_at hl 0 rfl) ?_
  refine lv_ishr hx hb dX9_bits_13 ?_
  refine lv_topi (fun z19 ez19 => ?_)
  refine lv_iconst (v := 1) hx hb dX9_bits_14 (by decide) ?_
  refine lv_iand hx hb dX9_bits_15 ?_
  refine lv_topi (fun z20 ez20 => ?_)
  have bz20 : iv (0) (1) z20 := ai_mask 1 (by decide) (by decide) ez20
  have bz20_l := bz20.1
  have bz20_u := bz20.2
  refine lv_iadd hx hb dX9_bits_16 ?_
  refine lv_topi (fun z21 ez21 => ?_)
  have tz21 : z21.toInt = z18.toInt + z20.toInt := ai_add rfl rfl ez21 (by omega) (by omega)
  refine lv_istore_n (lv' := [(1, .int z21), (2, .int 6), (0, .int x1)]) hx hb dX9_bits_17 rfl hl (by decide) rfl (fun ls hl => ?_)
  refine lv_iinc (v := 7) (lv' := [(2, .int 7), (1, .int z21), (0, .int x1)]) hx hb dX9_bits_18 hl (k := 1) rfl (by decide) (by decide) rfl (fun ls hl => ?_)
  refine lv_goto (tgt := 4) hx hb dX9_bits_21 (by decide) ?_
  refine lv_iload_n hx hb dX9_bits_4 rfl (lv_at hl 0 rfl) ?_
  refine lv_bipush (v := 16) hx hb dX9_bits_5 (by decide) ?_
  refine lv_icmp_ge (tgt := 24) hx hb dX9_bits_7 (by decide) (fun h => absurd h (by decide)) (fun _ => ?_)
  refine lv_iload_n hx hb dX9_bits_10 rfl (lv_at hl 1 rfl) ?_
  refine lv_iload_n hx hb dX9_bits_11 rfl (lv_at hl 2 rfl) ?_
  refine lv_iload_n hx hb dX9_bits_12 rfl (lv_at hl 0 rfl) ?_
  refine lv_ishr hx hb dX9_bits_13 ?_
  refine lv_topi (fun z22 ez22 => ?_)
  refine lv_iconst (v := 1) hx hb dX9_bits_14 (by decide) ?_
  refine lv_iand hx hb dX9_bits_15 ?_
  refine lv_topi (fun z23 ez23 => ?_)
  have bz23 : iv (0) (1) z23 := ai_mask 1 (by decide) (by decide) ez23
  have bz23_l := bz23.1
  have bz23_u := bz23.2
  refine lv_iadd hx hb dX9_bits_16 ?_
  refine lv_topi (fun z24 ez24 => ?_)
  have tz24 : z24.toInt = z21.toInt + z23.toInt := ai_add rfl rfl ez24 (by omega) (by omega)
  refine lv_istore_n (lv' := [(1, .int z24), (2, .int 7), (0, .int x1)]) hx hb dX9_bits_17 rfl hl (by decide) rfl (fun ls hl => ?_)
  refine lv_iinc (v := 8) (lv' := [(2, .int 8), (1, .int z24), (0, .int x1)]) hx hb dX9_bits_18 hl (k := 1) rfl (by decide) (by decide) rfl (fun ls hl => ?_)
  refine lv_goto (tgt := 4) hx hb dX9_bits_21 (by decide) ?_
  refine lv_iload_n hx hb dX9_bits_4 rfl (lv_at hl 0 rfl) ?_
  refine lv_bipush (v := 16) hx hb dX9_bits_5 (by decide) ?_
  refine lv_icmp_ge (tgt := 24) hx hb dX9_bits_7 (by decide) (fun h => absurd h (by decide)) (fun _ => ?_)
  refine lv_iload_n hx hb dX9_bits_10 rfl (lv_at hl 1 rfl) ?_
  refine lv_iload_n hx hb dX9_bits_11 rfl (lv_at hl 2 rfl) ?_
  refine lv_iload_n hx hb dX9_bits_12 rfl (lv_at hl 0 rfl) ?_
  refine lv_ishr hx hb dX9_bits_13 ?_
  refine lv_topi (fun z25 ez25 => ?_)
  refine lv_iconst (v := 1) hx hb dX9_bits_14 (by decide) ?_
  refine lv_iand hx hb dX9_bits_15 ?_
  refine lv_topi (fun z26 ez26 => ?_)
  have bz26 : iv (0) (1) z26 := ai_mask 1 (by decide) (by decide) ez26
  have bz26_l := bz26.1
  have bz26_u := bz26.2
  refine lv_iadd hx hb dX9_bits_16 ?_
  refine lv_topi (fun z27 ez27 => ?_)
  have tz27 : z27.toInt = z24.toInt + z26.toInt := ai_add rfl rfl ez27 (by omega) (by omega)
  refine lv_istore_n (lv' := [(1, .int z27), (2, .int 8), (0, .int x1)]) hx hb dX9_bits_17 rfl hl (by decide) rfl (fun ls hl => ?_)
  refine lv_iinc (v := 9) (lv' := [(2, .int 9), (1, .int z27), (0, .int x1)]) hx hb dX9_bits_18 hl (k := 1) rfl (by decide) (by decide) rfl (fun ls hl => ?_)
  refine lv_goto (tgt := 4) hx hb dX9_bits_21 (by decide) ?_
  refine lv_iload_n hx hb dX9_bits_4 rfl (lv_at hl 0 rfl) ?_
  refine lv_bipush (v := 16) hx hb dX9_bits_5 (by decide) ?_
  refine lv_icmp_ge (tgt := 24) hx hb dX9_bits_7 (by decide) (fun h => absurd h (by decide)) (fun _ => ?_)
  refine lv_iload_n hx hb dX9_bits_10 rfl (lv_at hl 1 rfl) ?_
  refine lv_iload_n hx hb dX9_bits_11 rfl (lv_at hl 2 rfl) ?_
  refine lv_iload_n hx hb dX9_bits_12 rfl (lv_at hl 0 rfl) ?_
  refine lv_ishr hx hb dX9_bits_13 ?_
  refine lv_topi (fun z28 ez28 => ?_)
  refine lv_iconst (v := 1) hx hb dX9_bits_14 (by decide) ?_
  refine lv_iand hx hb dX9_bits_15 ?_
  refine lv_topi (fun z29 ez29 => ?_)
  have bz29 : iv (0) (1) z29 := ai_mask 1 (by decide) (by decide) ez29
  have bz29_l := bz29.1
  have bz29_u := bz29.2
  refine lv_iadd hx hb dX9_bits_16 ?_
  refine lv_topi (fun z30 ez30 => ?_)
  have tz30 : z30.toInt = z27.toInt + z29.toInt := ai_add rfl rfl ez30 (by omega) (by omega)
  refine lv_istore_n (lv' := [(1, .int z30), (2, .int 9), (0, .int x1)]) hx hb dX9_bits_17 rfl hl (by decide) rfl (fun ls hl => ?_)
  refine lv_iinc (v := 10) (lv' := [(2, .int 10), (1, .int z30), (0, .int x1)]) hx hb dX9_bits_18 hl (k := 1) rfl (by decide) (by decide) rfl (fun ls hl => ?_)
  refine lv_goto (tgt := 4) hx hb dX9_bits_21 (by decide) ?_
  refine lv_iload_n hx hb dX9_bits_4 rfl (lv_at hl 0 rfl) ?_
  refine lv_bipush (v := 16) hx hb dX9_bits_5 (by decide) ?_
  refine lv_icmp_ge (tgt := 24) hx hb dX9_bits_7 (by decide) (fun h => absurd h (by decide)) (fun _ => ?_)
  refine lv_iload_n hx hb dX9_bits_10 rfl (lv_at hl 1 rfl) ?_
  refine lv_iload_n hx hb dX9_bits_11 rfl (lv_at hl 2 rfl) ?_
  refine lv_iload_n hx hb dX9_bits_12 rfl (lv_at hl 0 rfl) ?_
  refine lv_ishr hx hb dX9_bits_13 ?_
  refine lv_topi (fun z31 ez31 => ?_)
  refine lv_iconst (v := 1) hx hb dX9_bits_14 (by decide) ?_
  refine lv_iand hx hb dX9_bits_15 ?_
  refine lv_topi (fun z32 ez32 => ?_)
  have bz32 : iv (0) (1) z32 := ai_mask 1 (by decide) (by decide) ez32
  have bz32_l := bz32.1
  have bz32_u := bz32.2
  refine lv_iadd hx hb dX9_bits_16 ?_
  refine lv_topi (fun z33 ez33 => ?_)
  have tz33 : z33.toInt = z30.toInt + z32.toInt := ai_add rfl rfl ez33 (by omega) (by omega)
  refine lv_istore_n (lv' := [(1, .int z33), (2, .int 10), (0, .int x1)]) hx hb dX9_bits_17 rfl hl (by decide) rfl (fun ls hl => ?_)
  refine lv_iinc (v := 11) (lv' := [(2, .int 11), (1, .int z33), (0, .int x1)]) hx hb dX9_bits_18 hl (k := 1) rfl (by decide) (by decide) rfl (fun ls hl => ?_)
  refine lv_goto (tgt := 4) hx hb dX9_bits_21 (by decide) ?_
  refine lv_iload_n hx hb dX9_bits_4 rfl (lv_at hl 0 rfl) ?_
  refine lv_bipush (v := 16) hx hb dX9_bits_5 (by decide) ?_
  refine lv_icmp_ge (tgt := 24) hx hb dX9_bits_7 (by decide) (fun h => absurd h (by decide)) (fun _ => ?_)
  refine lv_iload_n hx hb dX9_bits_10 rfl (lv_at hl 1 rfl) ?_
  refine lv_iload_n hx hb dX9_bits_11 rfl (lv_at hl 2 rfl) ?_
  refine lv_iload_n hx hb dX9_bits_12 rfl (lv_at hl 0 rfl) ?_
  refine lv_ishr hx hb dX9_bits_13 ?_
  refine lv_topi (fun z34 ez34 => ?_)
  refine lv_iconst (v := 1) hx hb dX9_bits_14 (by decide) ?_
  refine lv_iand hx hb dX9_bits_15 ?_
  refine lv_topi (fun z35 ez35 => ?_)
  have bz35 : iv (0) (1) z35 := ai_mask 1 (by decide) (by decide) ez35
  have bz35_l := bz35.1
  have bz35_u := bz35.2
  refine lv_iadd hx hb dX9_bits_16 ?_
  refine lv_topi (fun z36 ez36 => ?_)
  have tz36 : z36.toInt = z33.toInt + z35.toInt := ai_add rfl rfl ez36 (by omega) (by omega)
  refine lv_istore_n (lv' := [(1, .int z36), (2, .int 11), (0, .int x1)]) hx hb dX9_bits_17 rfl hl (by decide) rfl (fun ls hl => ?_)
  refine lv_iinc (v := 12) (lv' := [(2, .int 12), (1, .int z36), (0, .int x1)]) hx hb dX9_bits_18 hl (k := 1) rfl (by decide) (by decide) rfl (fun ls hl => ?_)
  refine lv_goto (tgt := 4) hx hb dX9_bits_21 (by decide) ?_
  refine lv_iload_n hx hb dX9_bits_4 rfl (lv_at hl 0 rfl) ?_
  refine lv_bipush (v := 16) hx hb dX9_bits_5 (by decide) ?_
  refine lv_icmp_ge (tgt := 24) hx hb dX9_bits_7 (by decide) (fun h => absurd h (by decide)) (fun _ => ?_)
  refine lv_iload_n hx hb dX9_bits_10 rfl (lv_at hl 1 rfl) ?_
  refine lv_iload_n hx hb dX9_bits_11 rfl (lv_at hl 2 rfl) ?_
  refine lv_iload_n hx hb dX9_bits_12 rfl (lv_at hl 0 rfl) ?_
  refine lv_ishr hx hb dX9_bits_13 ?_
  refine lv_topi (fun z37 ez37 => ?_)
  refine lv_iconst (v := 1) hx hb dX9_bits_14 (by decide) ?_
  refine lv_iand hx hb dX9_bits_15 ?_
  refine lv_topi (fun z38 ez38 => ?_)
  have bz38 : iv (0) (1) z38 := ai_mask 1 (by decide) (by decide) ez38
  have bz38_l := bz38.1
  have bz38_u := bz38.2
  refine lv_iadd hx hb dX9_bits_16 ?_
  refine lv_topi (fun z39 ez39 => ?_)
  have tz39 : z39.toInt = z36.toInt + z38.toInt := ai_add rfl rfl ez39 (by omega) (by omega)
  refine lv_istore_n (lv' := [(1, .int z39), (2, .int 12), (0, .int x1)]) hx hb dX9_bits_17 rfl hl (by decide) rfl (fun ls hl => ?_)
  refine lv_iinc (v := 13) (lv' := [(2, .int 13), (1, .int z39), (0, .int x1)]) hx hb dX9_bits_18 hl (k := 1) rfl (by decide) (by decide) rfl (fun ls hl => ?_)
  refine lv_goto (tgt := 4) hx hb dX9_bits_21 (by decide) ?_
  refine lv_iload_n hx hb dX9_bits_4 rfl (lv_at hl 0 rfl) ?_
  refine lv_bipush (v := 16) hx hb dX9_bits_5 (by decide) ?_
  refine lv_icmp_ge (tgt := 24) hx hb dX9_bits_7 (by decide) (fun h => absurd h (by decide)) (fun _ => ?_)
  refine lv_iload_n hx hb dX9_bits_10 rfl (lv_at hl 1 rfl) ?_
  refine lv_iload_n hx hb dX9_bits_11 rfl (lv_at hl 2 rfl) ?_
  refine lv_iload_n hx hb dX9_bits_12 rfl (lv_at hl 0 rfl) ?_
  refine lv_ishr hx hb dX9_bits_13 ?_
  refine lv_topi (fun z40 ez40 => ?_)
  refine lv_iconst (v := 1) hx hb dX9_bits_14 (by decide) ?_
  refine lv_iand hx hb dX9_bits_15 ?_
  refine lv_topi (fun z41 ez41 => ?_)
  have bz41 : iv (0) (1) z41 := ai_mask 1 (by decide) (by decide) ez41
  have bz41_l := bz41.1
  have bz41_u := bz41.2
  refine lv_iadd hx hb dX9_bits_16 ?_
  refine lv_topi (fun z42 ez42 => ?_)
  have tz42 : z42.toInt = z39.toInt + z41.toInt := ai_add rfl rfl ez42 (by omega) (by omega)
  refine lv_istore_n (lv' := [(1, .int z42), (2, .int 13), (0, .int x1)]) hx hb dX9_bits_17 rfl hl (by decide) rfl (fun ls hl => ?_)
  refine lv_iinc (v := 14) (lv' := [(2, .int 14), (1, .int z42), (0, .int x1)]) hx hb dX9_bits_18 hl (k := 1) rfl (by decide) (by decide) rfl (fun ls hl => ?_)
  refine lv_goto (tgt := 4) hx hb dX9_bits_21 (by decide) ?_
  refine lv_iload_n hx hb dX9_bits_4 rfl (lv_at hl 0 rfl) ?_
  refine lv_bipush (v := 16) hx hb dX9_bits_5 (by decide) ?_
  refine lv_icmp_ge (tgt := 24) hx hb dX9_bits_7 (by decide) (fun h => absurd h (by decide)) (fun _ => ?_)
  refine lv_iload_n hx hb dX9_bits_10 rfl (lv_at hl 1 rfl) ?_
  refine lv_iload_n hx hb dX9_bits_11 rfl (lv_at hl 2 rfl) ?_
  refine lv_iload_n hx hb dX9_bits_12 rfl (lv_at hl 0 rfl) ?_
  refine lv_ishr hx hb dX9_bits_13 ?_
  refine lv_topi (fun z43 ez43 => ?_)
  refine lv_iconst (v := 1) hx hb dX9_bits_14 (by decide) ?_
  refine lv_iand hx hb dX9_bits_15 ?_
  refine lv_topi (fun z44 ez44 => ?_)
  have bz44 : iv (0) (1) z44 := ai_mask 1 (by decide) (by decide) ez44
  have bz44_l := bz44.1
  have bz44_u := bz44.2
  refine lv_iadd hx hb dX9_bits_16 ?_
  refine lv_topi (fun z45 ez45 => ?_)
  have tz45 : z45.toInt = z42.toInt + z44.toInt := ai_add rfl rfl ez45 (by omega) (by omega)
  refine lv_istore_n (lv' := [(1, .int z45), (2, .int 14), (0, .int x1)]) hx hb dX9_bits_17 rfl hl (by decide) rfl (fun ls hl => ?_)
  refine lv_iinc (v := 15) (lv' := [(2, .int 15), (1, .int z45), (0, .int x1)]) hx hb dX9_bits_18 hl (k := 1) rfl (by decide) (by decide) rfl (fun ls hl => ?_)
  refine lv_goto (tgt := 4) hx hb dX9_bits_21 (by decide) ?_
  refine lv_iload_n hx hb dX9_bits_4 rfl (lv_at hl 0 rfl) ?_
  refine lv_bipush (v := 16) hx hb dX9_bits_5 (by decide) ?_
  refine lv_icmp_ge (tgt := 24) hx hb dX9_bits_7 (by decide) (fun h => absurd h (by decide)) (fun _ => ?_)
  refine lv_iload_n hx hb dX9_bits_10 rfl (lv_at hl 1 rfl) ?_
  refine lv_iload_n hx hb dX9_bits_11 rfl (lv_at hl 2 rfl) ?_
  refine lv_iload_n hx hb dX9_bits_12 rfl (lv_at hl 0 rfl) ?_
  refine lv_ishr hx hb dX9_bits_13 ?_
  refine lv_topi (fun z46 ez46 => ?_)
  refine lv_iconst (v := 1) hx hb dX9_bits_14 (by decide) ?_
  refine lv_iand hx hb dX9_bits_15 ?_
  refine lv_topi (fun z47 ez47 => ?_)
  have bz47 : iv (0) (1) z47 := ai_mask 1 (by decide) (by decide) ez47
  have bz47_l := bz47.1
  have bz47_u := bz47.2
  refine lv_iadd hx hb dX9_bits_16 ?_
  refine lv_topi (fun z48 ez48 => ?_)
  have tz48 : z48.toInt = z45.toInt + z47.toInt := ai_add rfl rfl ez48 (by omega) (by omega)
  refine lv_istore_n (lv' := [(1, .int z48), (2, .int 15), (0, .int x1)]) hx hb dX9_bits_17 rfl hl (by decide) rfl (fun ls hl => ?_)
  refine lv_iinc (v := 16) (lv' := [(2, .int 16), (1, .int z48), (0, .int x1)]) hx hb dX9_bits_18 hl (k := 1) rfl (by decide) (by decide) rfl (fun ls hl => ?_)
  refine lv_goto (tgt := 4) hx hb dX9_bits_21 (by decide) ?_
  refine lv_iload_n hx hb dX9_bits_4 rfl (lv_at hl 0 rfl) ?_
  refine lv_bipush (v := 16) hx hb dX9_bits_5 (by decide) ?_
  refine lv_icmp_ge (tgt := 24) hx hb dX9_bits_7 (by decide) (fun _ => ?_) (fun h => absurd (by decide) h)
  refine lv_iload_n hx hb dX9_bits_24 rfl (lv_at hl 1 rfl) ?_
  exact hc_end hx hb hr hlocks () (⟨by omega, by omega⟩) hP hD hS dX9_bits_25
set_option maxHeartbeats 4000000 in
set_option maxRecDepth 100000 in
theorem i_X9_has (l : Launch) (D : va_G) (k : Nat → ClassId) (sz : Nat) (x1 : Int32) (x2 : Int32) (h_x2 : iv (0) (31) x2) : CtI l yX9_has wsX9_has (rmK 1 0 0) [.int x1, .int x2] D k sz ([]) (fun (r : Int32) (u : Unit) => iv (0) (1) r ∧ ((r.toInt = 1 ∧ bt x1 (Int32.toNatClampNeg x2) = true) ∨ (r.toInt = 0 ∧ bt x1 (Int32.toNatClampNeg x2) = false))) (fun u : Unit => []) 0 0 := by
  have h_x2_l := h_x2.1
  have h_x2_u := h_x2.2
  refine CtI.mk (cc := cX9_has) (maxL := 2) (ret := (some .boolean)) (by decide) rfl (Nat.le_of_ble_eq_true rfl) ?_
  intro p e s m below meth c A ls E hP hD hS hl
  obtain ⟨hx, hb, hr, hml, hown, hts, hlocks, hin, hG, hA⟩ := E
  have hown : s.vm.findClass RX9 = some m.cls := hown
  have hl : lv_has ls 2 [(0, .int x1), (1, .int x2)] := hl
  refine lv_iload_n hx hb dX9_has_0 rfl (lv_at hl 0 rfl) ?_
  refine lv_iload_n hx hb dX9_has_1 rfl (lv_at hl 1 rfl) ?_
  refine lv_ishr hx hb dX9_has_2 ?_
  refine lv_topi (fun z1 ez1 => ?_)
  refine lv_iconst (v := 1) hx hb dX9_has_3 (by decide) ?_
  refine lv_iand hx hb dX9_has_4 ?_
  refine lv_topi (fun z2 ez2 => ?_)
  have bz2 : iv (0) (1) z2 := ai_mask 1 (by decide) (by decide) ez2
  have bz2_l := bz2.1
  have bz2_u := bz2.2
  refine lv_iconst (v := 1) hx hb dX9_has_5 (by decide) ?_
  refine lv_icmp_ne (tgt := 13) hx hb dX9_has_6 (by decide) (fun c3 => ?_) (fun c3 => ?_)
  · have fc3 := cx_ne_t (a := z2.toInt) (b := 1) rfl (by decide) c3
    refine lv_iconst (v := 0) hx hb dX9_has_13 (by decide) ?_
    exact hc_endZ hx hb hr hlocks rfl () ⟨iv_lit (by decide) (by decide), (by (try dsimp only); exact (Or.inr ⟨by decide, has_f (by omega) (by omega) ez1 ez2 fc3⟩))⟩ hP hD hS dX9_has_14
  · have fc3 := cx_ne_f (a := z2.toInt) (b := 1) rfl (by decide) c3
    refine lv_iconst (v := 1) hx hb dX9_has_9 (by decide) ?_
    refine lv_goto (tgt := 14) hx hb dX9_has_10 (by decide) ?_
    exact hc_endZ hx hb hr hlocks rfl () ⟨iv_lit (by decide) (by decide), (by (try dsimp only); exact (Or.inl ⟨by decide, has_t (by omega) (by omega) ez1 ez2 fc3⟩))⟩ hP hD hS dX9_has_14
set_option maxHeartbeats 4000000 in
set_option maxRecDepth 100000 in
theorem i_X9_isHall (l : Launch) (D : va_G) (k : Nat → ClassId) (sz : Nat) (mo : Nat) (mo_thrown : Int32) (mo_ascalar : Nat) (mo_acane : Nat) (mo_ais : Nat) (mo_astrandOf : Nat) (mo_aweight : Nat) (mo_aheight : Nat) (mo_achairOf : Nat) (mo_anoteMinute : Nat) (mo_anoteWho : Nat) (mo_anoteIs : Nat) (mo_atoldCane : Nat) (mo_anewScalar : Nat) (mo_anewCane : Nat) (mo_anewHeight : Nat) (mo_anewStrand : Nat) (mo_anewChair : Nat) (mo_anewWeight : Nat) (mo_taped : Int32) (mo_p : Int32) (mo_fault : Int32) (mo_slot : Int32) (mo_rules : Int32) (mo_entries : Int32) (mo_deep : Int32) (mo_counted : Int32) (mo_opened : Int32) (mo_words : Int32) (mo_atape : Nat) (mo_asort : Nat) (mo_anumber : Nat) (mo_aclauses : Nat) (mo_asumAt : Nat) (mo_atestAt : Nat) (mo_aendAt : Nat) (mo_aopen : Nat) (mo_aasked : Nat) (mo_astack : Nat) (mo_amust : Nat) (mo_apast : Nat) (mo_apastOf : Nat) (mo_pastMany : Int32) (mo_pastAt : Int32) (mo_takesBack : Int32) (mo_acanRise : Nat) (mo_afirstHas : Nat) (mo_asecondHas : Nat) (mo_alay : Nat) (mo_ashows : Nat) (mo_aimages : Nat) (mo_aisMade : Nat) (mo_imageAt : Int32) (mo_goesBack : Int32) (mo_s0 : Int32) (mo_s1 : Int32) (mo_s2 : Int32) (mo_s3 : Int32) (mo_s4 : Int32) (mo_s5 : Int32) (mo_s6 : Int32) (mo_s7 : Int32) (h_mo_taped : iv (0) (400) mo_taped) (h_mo_p : iv (0) (402) mo_p) (h_mo_fault : iv (0) (4000) mo_fault) (h_mo_slot : iv (0) (5) mo_slot) (h_mo_rules : iv (0) (6) mo_rules) (h_mo_entries : iv (0) (300) mo_entries) (h_mo_counted : iv (0) (70) mo_counted) (h_mo_opened : iv (0) (402) mo_opened) (h_mo_words : iv (11) (11) mo_words) (h_mo_pastMany : iv (0) (20) mo_pastMany) (h_mo_pastAt : iv (0) (260) mo_pastAt) (h_mo_takesBack : iv (0) (1) mo_takesBack) (h_mo_imageAt : iv (0) (2000) mo_imageAt) (h_mo_goesBack : iv (0) (1) mo_goesBack) (h_mo_s1 : iv (0) (4) mo_s1) (h_mo_s2 : iv (0) (8) mo_s2) (h_mo_s3 : iv (0) (8) mo_s3) (h_mo_s5 : iv (0) (10) mo_s5) (h_mo_s7 : iv (-1) (5) mo_s7) : CtI l yX9_isHall wsX9_isHall (rmK 2 0 0) [.ref mo] D k sz ([(mo, .inr (7, [.int mo_thrown, .ref mo_ascalar, .ref mo_acane, .ref mo_ais, .ref mo_astrandOf, .ref mo_aweight, .ref mo_aheight, .ref mo_achairOf, .ref mo_anoteMinute, .ref mo_anoteWho, .ref mo_anoteIs, .ref mo_atoldCane, .ref mo_anewScalar, .ref mo_anewCane, .ref mo_anewHeight, .ref mo_anewStrand, .ref mo_anewChair, .ref mo_anewWeight, .int mo_taped, .int mo_p, .int mo_fault, .int mo_slot, .int mo_rules, .int mo_entries, .int mo_deep, .int mo_counted, .int mo_opened, .int mo_words, .ref mo_atape, .ref mo_asort, .ref mo_anumber, .ref mo_aclauses, .ref mo_asumAt, .ref mo_atestAt, .ref mo_aendAt, .ref mo_aopen, .ref mo_aasked, .ref mo_astack, .ref mo_amust, .ref mo_apast, .ref mo_apastOf, .int mo_pastMany, .int mo_pastAt, .int mo_takesBack, .ref mo_acanRise, .ref mo_afirstHas, .ref mo_asecondHas, .ref mo_alay, .ref mo_ashows, .ref mo_aimages, .ref mo_aisMade, .int mo_imageAt, .int mo_goesBack])), (mo_ascalar, hcI k 8 (sc8 mo_s0 mo_s1 mo_s2 mo_s3 mo_s4 mo_s5 mo_s6 mo_s7))]) (fun (r : Int32) (u : Unit) => iv (0) (1) r) (fun u : Unit => [(mo, .inr (7, [.int mo_thrown, .ref mo_ascalar, .ref mo_acane, .ref mo_ais, .ref mo_astrandOf, .ref mo_aweight, .ref mo_aheight, .ref mo_achairOf, .ref mo_anoteMinute, .ref mo_anoteWho, .ref mo_anoteIs, .ref mo_atoldCane, .ref mo_anewScalar, .ref mo_anewCane, .ref mo_anewHeight, .ref mo_anewStrand, .ref mo_anewChair, .ref mo_anewWeight, .int mo_taped, .int mo_p, .int mo_fault, .int mo_slot, .int mo_rules, .int mo_entries, .int mo_deep, .int mo_counted, .int mo_opened, .int mo_words, .ref mo_atape, .ref mo_asort, .ref mo_anumber, .ref mo_aclauses, .ref mo_asumAt, .ref mo_atestAt, .ref mo_aendAt, .ref mo_aopen, .ref mo_aasked, .ref mo_astack, .ref mo_amust, .ref mo_apast, .ref mo_apastOf, .int mo_pastMany, .int mo_pastAt, .int mo_takesBack, .ref mo_acanRise, .ref mo_afirstHas, .ref mo_asecondHas, .ref mo_alay, .ref mo_ashows, .ref mo_aimages, .ref mo_aisMade, .int mo_imageAt, .int mo_goesBack])), (mo_ascalar, hcI k 8 (sc8 mo_s0 mo_s1 mo_s2 mo_s3 mo_s4 mo_s5 mo_s6 mo_s7))]) 0 0 := by
  have h_mo_taped_l := h_mo_taped.1
  have h_mo_taped_u := h_mo_taped.2
  have h_mo_p_l := h_mo_p.1
  have h_mo_p_u := h_mo_p.2
  have h_mo_fault_l := h_mo_fault.1
  have h_mo_fault_u := h_mo_fault.2
  have h_mo_slot_l := h_mo_slot.1
  have h_mo_slot_u := h_mo_slot.2
  have h_mo_rules_l := h_mo_rules.1
  have h_mo_rules_u := h_mo_rules.2
  have h_mo_entries_l := h_mo_entries.1
  have h_mo_entries_u := h_mo_entries.2
  have h_mo_counted_l := h_mo_counted.1
  have h_mo_counted_u := h_mo_counted.2
  have h_mo_opened_l := h_mo_opened.1
  have h_mo_opened_u := h_mo_opened.2
  have h_mo_words_l := h_mo_words.1
  have h_mo_words_u := h_mo_words.2
  have h_mo_pastMany_l := h_mo_pastMany.1
  have h_mo_pastMany_u := h_mo_pastMany.2
  have h_mo_pastAt_l := h_mo_pastAt.1
  have h_mo_pastAt_u := h_mo_pastAt.2
  have h_mo_takesBack_l := h_mo_takesBack.1
  have h_mo_takesBack_u := h_mo_takesBack.2
  have h_mo_imageAt_l := h_mo_imageAt.1
  have h_mo_imageAt_u := h_mo_imageAt.2
  have h_mo_goesBack_l := h_mo_goesBack.1
  have h_mo_goesBack_u := h_mo_goesBack.2
  have h_mo_s1_l := h_mo_s1.1
  have h_mo_s1_u := h_mo_s1.2
  have h_mo_s2_l := h_mo_s2.1
  have h_mo_s2_u := h_mo_s2.2
  have h_mo_s3_l := h_mo_s3.1
  have h_mo_s3_u := h_mo_s3.2
  have h_mo_s5_l := h_mo_s5.1
  have h_mo_s5_u := h_mo_s5.2
  have h_mo_s7_l := h_mo_s7.1
  have h_mo_s7_u := h_mo_s7.2
  refine CtI.mk (cc := cX9_isHall) (maxL := 1) (ret := (some .boolean)) (by decide) rfl (Nat.le_of_ble_eq_true rfl) ?_
  intro p e s m below meth c A ls E hP hD hS hl
  obtain ⟨hx, hb, hr, hml, hown, hts, hlocks, hin, hG, hA⟩ := E
  have hown : s.vm.findClass RX9 = some m.cls := hown
  have in9 : ∀ w ∈ u_ws RX9 TX9 53, w ∈ wsX9_isHall := fun _ h => List.mem_cons_of_mem _ (List.mem_append_right _ h)
  have hl : lv_has ls 1 [(0, .ref mo)] := hl
  refine lv_aload_n hx hb dX9_isHall_0 rfl (lv_at hl 0 rfl) ?_
  refine va_get (D := D) (ci := 7) (v := .ref mo_ascalar) (C := RX9) (T := TX9) (N := 53) hx hb hts in9 hown hG.1 hP 0 rfl rfl 1 (by decide) (hts (.fieldLink RX9 9 "ChairCaneModel" "scalar" "[I") (by decide +kernel)) (fun _ h9 => h9) rfl dX9_isHall_1 ?_
  refine lv_iconst (v := 0) hx hb dX9_isHall_4 (by decide) ?_
  refine va_iald hx hb hG.1 hP 1 0 rfl rfl (by unfold vp_in; decide) dX9_isHall_5 ?_
  refine hc_is (z := mo_s0) (by rw [show Int32.toNatClampNeg 0 = 0 from by decide]; rfl) ?_
  refine lv_iconst (v := 1) hx hb dX9_isHall_6 (by decide) ?_
  refine lv_icmp_ne (tgt := 14) hx hb dX9_isHall_7 (by decide) (fun c1 => ?_) (fun c1 => ?_)
  · have fc1 := cx_ne_t (a := mo_s0.toInt) (b := 1) rfl (by decide) c1
    refine lv_iconst (v := 0) hx hb dX9_isHall_14 (by decide) ?_
    exact hc_endZ hx hb hr hlocks rfl () (iv_lit (by decide) (by decide)) hP hD hS dX9_isHall_15
  · have fc1 := cx_ne_f (a := mo_s0.toInt) (b := 1) rfl (by decide) c1
    refine lv_iconst (v := 1) hx hb dX9_isHall_10 (by decide) ?_
    refine lv_goto (tgt := 15) hx hb dX9_isHall_11 (by decide) ?_
    exact hc_endZ hx hb hr hlocks rfl () (iv_lit (by decide) (by decide)) hP hD hS dX9_isHall_15
set_option maxHeartbeats 4000000 in
set_option maxRecDepth 100000 in
theorem i_X9_isStrand (l : Launch) (D : va_G) (k : Nat → ClassId) (sz : Nat) (x1 : Int32) (mo : Nat) (mo_thrown : Int32) (mo_ascalar : Nat) (mo_acane : Nat) (mo_ais : Nat) (mo_astrandOf : Nat) (mo_aweight : Nat) (mo_aheight : Nat) (mo_achairOf : Nat) (mo_anoteMinute : Nat) (mo_anoteWho : Nat) (mo_anoteIs : Nat) (mo_atoldCane : Nat) (mo_anewScalar : Nat) (mo_anewCane : Nat) (mo_anewHeight : Nat) (mo_anewStrand : Nat) (mo_anewChair : Nat) (mo_anewWeight : Nat) (mo_taped : Int32) (mo_p : Int32) (mo_fault : Int32) (mo_slot : Int32) (mo_rules : Int32) (mo_entries : Int32) (mo_deep : Int32) (mo_counted : Int32) (mo_opened : Int32) (mo_words : Int32) (mo_atape : Nat) (mo_asort : Nat) (mo_anumber : Nat) (mo_aclauses : Nat) (mo_asumAt : Nat) (mo_atestAt : Nat) (mo_aendAt : Nat) (mo_aopen : Nat) (mo_aasked : Nat) (mo_astack : Nat) (mo_amust : Nat) (mo_apast : Nat) (mo_apastOf : Nat) (mo_pastMany : Int32) (mo_pastAt : Int32) (mo_takesBack : Int32) (mo_acanRise : Nat) (mo_afirstHas : Nat) (mo_asecondHas : Nat) (mo_alay : Nat) (mo_ashows : Nat) (mo_aimages : Nat) (mo_aisMade : Nat) (mo_imageAt : Int32) (mo_goesBack : Int32) (mo_s0 : Int32) (mo_s1 : Int32) (mo_s2 : Int32) (mo_s3 : Int32) (mo_s4 : Int32) (mo_s5 : Int32) (mo_s6 : Int32) (mo_s7 : Int32) (h_mo_taped : iv (0) (400) mo_taped) (h_mo_p : iv (0) (402) mo_p) (h_mo_fault : iv (0) (4000) mo_fault) (h_mo_slot : iv (0) (5) mo_slot) (h_mo_rules : iv (0) (6) mo_rules) (h_mo_entries : iv (0) (300) mo_entries) (h_mo_counted : iv (0) (70) mo_counted) (h_mo_opened : iv (0) (402) mo_opened) (h_mo_words : iv (11) (11) mo_words) (h_mo_pastMany : iv (0) (20) mo_pastMany) (h_mo_pastAt : iv (0) (260) mo_pastAt) (h_mo_takesBack : iv (0) (1) mo_takesBack) (h_mo_imageAt : iv (0) (2000) mo_imageAt) (h_mo_goesBack : iv (0) (1) mo_goesBack) (h_mo_s1 : iv (0) (4) mo_s1) (h_mo_s2 : iv (0) (8) mo_s2) (h_mo_s3 : iv (0) (8) mo_s3) (h_mo_s5 : iv (0) (10) mo_s5) (h_mo_s7 : iv (-1) (5) mo_s7) : CtI l yX9_isStrand wsX9_isStrand (rmK 2 0 0) [.ref mo, .int x1] D k sz ([(mo, .inr (7, [.int mo_thrown, .ref mo_ascalar, .ref mo_acane, .ref mo_ais, .ref mo_astrandOf, .ref mo_aweight, .ref mo_aheight, .ref mo_achairOf, .ref mo_anoteMinute, .ref mo_anoteWho, .ref mo_anoteIs, .ref mo_atoldCane, .ref mo_anewScalar, .ref mo_anewCane, .ref mo_anewHeight, .ref mo_anewStrand, .ref mo_anewChair, .ref mo_anewWeight, .int mo_taped, .int mo_p, .int mo_fault, .int mo_slot, .int mo_rules, .int mo_entries, .int mo_deep, .int mo_counted, .int mo_opened, .int mo_words, .ref mo_atape, .ref mo_asort, .ref mo_anumber, .ref mo_aclauses, .ref mo_asumAt, .ref mo_atestAt, .ref mo_aendAt, .ref mo_aopen, .ref mo_aasked, .ref mo_astack, .ref mo_amust, .ref mo_apast, .ref mo_apastOf, .int mo_pastMany, .int mo_pastAt, .int mo_takesBack, .ref mo_acanRise, .ref mo_afirstHas, .ref mo_asecondHas, .ref mo_alay, .ref mo_ashows, .ref mo_aimages, .ref mo_aisMade, .int mo_imageAt, .int mo_goesBack])), (mo_ascalar, hcI k 8 (sc8 mo_s0 mo_s1 mo_s2 mo_s3 mo_s4 mo_s5 mo_s6 mo_s7))]) (fun (r : Int32) (u : Unit) => iv (0) (1) r ∧ ((r.toInt = 1 ∧ 0 ≤ x1.toInt ∧ x1.toInt < mo_s1.toInt) ∨ (r.toInt = 0 ∧ (x1.toInt < 0 ∨ mo_s1.toInt ≤ x1.toInt)))) (fun u : Unit => [(mo, .inr (7, [.int mo_thrown, .ref mo_ascalar, .ref mo_acane, .ref mo_ais, .ref mo_astrandOf, .ref mo_aweight, .ref mo_aheight, .ref mo_achairOf, .ref mo_anoteMinute, .ref mo_anoteWho, .ref mo_anoteIs, .ref mo_atoldCane, .ref mo_anewScalar, .ref mo_anewCane, .ref mo_anewHeight, .ref mo_anewStrand, .ref mo_anewChair, .ref mo_anewWeight, .int mo_taped, .int mo_p, .int mo_fault, .int mo_slot, .int mo_rules, .int mo_entries, .int mo_deep, .int mo_counted, .int mo_opened, .int mo_words, .ref mo_atape, .ref mo_asort, .ref mo_anumber, .ref mo_aclauses, .ref mo_asumAt, .ref mo_atestAt, .ref mo_aendAt, .ref mo_aopen, .ref mo_aasked, .ref mo_astack, .ref mo_amust, .ref mo_apast, .ref mo_apastOf, .int mo_pastMany, .int mo_pastAt, .int mo_takesBack, .ref mo_acanRise, .ref mo_afirstHas, .ref mo_asecondHas, .ref mo_alay, .ref mo_ashows, .ref mo_aimages, .ref mo_aisMade, .int mo_imageAt, .int mo_goesBack])), (mo_ascalar, hcI k 8 (sc8 mo_s0 mo_s1 mo_s2 mo_s3 mo_s4 mo_s5 mo_s6 mo_s7))]) 0 0 := by
  have h_mo_taped_l := h_mo_taped.1
  have h_mo_taped_u := h_mo_taped.2
  have h_mo_p_l := h_mo_p.1
  have h_mo_p_u := h_mo_p.2
  have h_mo_fault_l := h_mo_fault.1
  have h_mo_fault_u := h_mo_fault.2
  have h_mo_slot_l := h_mo_slot.1
  have h_mo_slot_u := h_mo_slot.2
  have h_mo_rules_l := h_mo_rules.1
  have h_mo_rules_u := h_mo_rules.2
  have h_mo_entries_l := h_mo_entries.1
  have h_mo_entries_u := h_mo_entries.2
  have h_mo_counted_l := h_mo_counted.1
  have h_mo_counted_u := h_mo_counted.2
  have h_mo_opened_l := h_mo_opened.1
  have h_mo_opened_u := h_mo_opened.2
  have h_mo_words_l := h_mo_words.1
  have h_mo_words_u := h_mo_words.2
  have h_mo_pastMany_l := h_mo_pastMany.1
  have h_mo_pastMany_u := h_mo_pastMany.2
  have h_mo_pastAt_l := h_mo_pastAt.1
  have h_mo_pastAt_u := h_mo_pastAt.2
  have h_mo_takesBack_l := h_mo_takesBack.1
  have h_mo_takesBack_u := h_mo_takesBack.2
  have h_mo_imageAt_l := h_mo_imageAt.1
  have h_mo_imageAt_u := h_mo_imageAt.2
  have h_mo_goesBack_l := h_mo_goesBack.1
  have h_mo_goesBack_u := h_mo_goesBack.2
  have h_mo_s1_l := h_mo_s1.1
  have h_mo_s1_u := h_mo_s1.2
  have h_mo_s2_l := h_mo_s2.1
  have h_mo_s2_u := h_mo_s2.2
  have h_mo_s3_l := h_mo_s3.1
  have h_mo_s3_u := h_mo_s3.2
  have h_mo_s5_l := h_mo_s5.1
  have h_mo_s5_u := h_mo_s5.2
  have h_mo_s7_l := h_mo_s7.1
  have h_mo_s7_u := h_mo_s7.2
  refine CtI.mk (cc := cX9_isStrand) (maxL := 2) (ret := (some .boolean)) (by decide) rfl (Nat.le_of_ble_eq_true rfl) ?_
  intro p e s m below meth c A ls E hP hD hS hl
  obtain ⟨hx, hb, hr, hml, hown, hts, hlocks, hin, hG, hA⟩ := E
  have hown : s.vm.findClass RX9 = some m.cls := hown
  have in9 : ∀ w ∈ u_ws RX9 TX9 53, w ∈ wsX9_isStrand := fun _ h => List.mem_cons_of_mem _ (List.mem_append_right _ h)
  have hl : lv_has ls 2 [(0, .ref mo), (1, .int x1)] := hl
  refine lv_iload_n hx hb dX9_isStrand_0 rfl (lv_at hl 1 rfl) ?_
  refine lv_i2l hx hb dX9_isStrand_1 rfl ?_
  refine lv_topl (fun y1 ey1 => ?_)
  have ty1 : y1.toInt = x1.toInt := ai_i2l rfl ey1
  refine lv_lconst (v := 0) hx hb dX9_isStrand_2 (by decide) ?_
  refine lv_aload_n hx hb dX9_isStrand_3 rfl (lv_at hl 0 rfl) ?_
  refine va_get (D := D) (ci := 7) (v := .ref mo_ascalar) (C := RX9) (T := TX9) (N := 53) hx hb hts in9 hown hG.1 hP 0 rfl rfl 1 (by decide) (hts (.fieldLink RX9 9 "ChairCaneModel" "scalar" "[I") (by decide +kernel)) (fun _ h9 => h9) rfl dX9_isStrand_4 ?_
  refine lv_iconst (v := 1) hx hb dX9_isStrand_7 (by decide) ?_
  refine va_iald hx hb hG.1 hP 1 0 rfl rfl (by unfold vp_in; decide) dX9_isStrand_8 ?_
  refine hc_is (z := mo_s1) (by rw [show Int32.toNatClampNeg 1 = 1 from by decide]; rfl) ?_
  refine lv_iconst (v := 1) hx hb dX9_isStrand_9 (by decide) ?_
  refine lv_isub hx hb dX9_isStrand_10 ?_
  refine lv_topi (fun z2 ez2 => ?_)
  have tz2 : z2.toInt = mo_s1.toInt - 1 := ai_sub rfl (by decide) ez2 (by omega) (by omega)
  refine lv_i2l hx hb dX9_isStrand_11 rfl ?_
  refine lv_topl (fun y3 ey3 => ?_)
  have ty3 : y3.toInt = z2.toInt := ai_i2l rfl ey3
  have ql4 : (0 : Int64).toInt = 0 := by decide
  refine hc_Si (As := [.long y1, .long 0, .long y3]) (rest := []) (n := 3) (wr := [(mo, .inr (7, [.int mo_thrown, .ref mo_ascalar, .ref mo_acane, .ref mo_ais, .ref mo_astrandOf, .ref mo_aweight, .ref mo_aheight, .ref mo_achairOf, .ref mo_anoteMinute, .ref mo_anoteWho, .ref mo_anoteIs, .ref mo_atoldCane, .ref mo_anewScalar, .ref mo_anewCane, .ref mo_anewHeight, .ref mo_anewStrand, .ref mo_anewChair, .ref mo_anewWeight, .int mo_taped, .int mo_p, .int mo_fault, .int mo_slot, .int mo_rules, .int mo_entries, .int mo_deep, .int mo_counted, .int mo_opened, .int mo_words, .ref mo_atape, .ref mo_asort, .ref mo_anumber, .ref mo_aclauses, .ref mo_asumAt, .ref mo_atestAt, .ref mo_aendAt, .ref mo_aopen, .ref mo_aasked, .ref mo_astack, .ref mo_amust, .ref mo_apast, .ref mo_apastOf, .int mo_pastMany, .int mo_pastAt, .int mo_takesBack, .ref mo_acanRise, .ref mo_afirstHas, .ref mo_asecondHas, .ref mo_alay, .ref mo_ashows, .ref mo_aimages, .ref mo_aisMade, .int mo_imageAt, .int mo_goesBack])), (mo_ascalar, hcI k 8 (sc8 mo_s0 mo_s1 mo_s2 mo_s3 mo_s4 mo_s5 mo_s6 mo_s7))]) hx hb hml hown hts hG hA hP hD hS hl.1 [] [0, 1] (i_X9_in l D k _ y1 0 y3 ) gX9_isStrand_X9_in rfl ⟨rfl, rfl, Nat.le_of_ble_eq_true rfl, Nat.le_of_ble_eq_true rfl⟩ (by decide +kernel) rfl rfl ⟨by decide, by decide, by decide⟩ ⟨rfl, rfl, Nat.le_of_ble_eq_true rfl, Nat.le_of_ble_eq_true rfl, Nat.le_of_ble_eq_true rfl⟩ dX9_isStrand_12 (fun r6 u5 H locs hw hP hD hS => ?_)
  have hP : va_P D vwCl ([(mo, .inr (7, [.int mo_thrown, .ref mo_ascalar, .ref mo_acane, .ref mo_ais, .ref mo_astrandOf, .ref mo_aweight, .ref mo_aheight, .ref mo_achairOf, .ref mo_anoteMinute, .ref mo_anoteWho, .ref mo_anoteIs, .ref mo_atoldCane, .ref mo_anewScalar, .ref mo_anewCane, .ref mo_anewHeight, .ref mo_anewStrand, .ref mo_anewChair, .ref mo_anewWeight, .int mo_taped, .int mo_p, .int mo_fault, .int mo_slot, .int mo_rules, .int mo_entries, .int mo_deep, .int mo_counted, .int mo_opened, .int mo_words, .ref mo_atape, .ref mo_asort, .ref mo_anumber, .ref mo_aclauses, .ref mo_asumAt, .ref mo_atestAt, .ref mo_aendAt, .ref mo_aopen, .ref mo_aasked, .ref mo_astack, .ref mo_amust, .ref mo_apast, .ref mo_apastOf, .int mo_pastMany, .int mo_pastAt, .int mo_takesBack, .ref mo_acanRise, .ref mo_afirstHas, .ref mo_asecondHas, .ref mo_alay, .ref mo_ashows, .ref mo_aimages, .ref mo_aisMade, .int mo_imageAt, .int mo_goesBack])), (mo_ascalar, hcI k 8 (sc8 mo_s0 mo_s1 mo_s2 mo_s3 mo_s4 mo_s5 mo_s6 mo_s7))]) H := hP
  have hD : va_D A ([(mo, .inr (7, [.int mo_thrown, .ref mo_ascalar, .ref mo_acane, .ref mo_ais, .ref mo_astrandOf, .ref mo_aweight, .ref mo_aheight, .ref mo_achairOf, .ref mo_anoteMinute, .ref mo_anoteWho, .ref mo_anoteIs, .ref mo_atoldCane, .ref mo_anewScalar, .ref mo_anewCane, .ref mo_anewHeight, .ref mo_anewStrand, .ref mo_anewChair, .ref mo_anewWeight, .int mo_taped, .int mo_p, .int mo_fault, .int mo_slot, .int mo_rules, .int mo_entries, .int mo_deep, .int mo_counted, .int mo_opened, .int mo_words, .ref mo_atape, .ref mo_asort, .ref mo_anumber, .ref mo_aclauses, .ref mo_asumAt, .ref mo_atestAt, .ref mo_aendAt, .ref mo_aopen, .ref mo_aasked, .ref mo_astack, .ref mo_amust, .ref mo_apast, .ref mo_apastOf, .int mo_pastMany, .int mo_pastAt, .int mo_takesBack, .ref mo_acanRise, .ref mo_afirstHas, .ref mo_asecondHas, .ref mo_alay, .ref mo_ashows, .ref mo_aimages, .ref mo_aisMade, .int mo_imageAt, .int mo_goesBack])), (mo_ascalar, hcI k 8 (sc8 mo_s0 mo_s1 mo_s2 mo_s3 mo_s4 mo_s5 mo_s6 mo_s7))]) := hD
  obtain ⟨br6, rel7⟩ := hw
  have br6 : iv (0) (1) r6 := br6
  have br6_l := br6.1
  have br6_u := br6.2
  exact hc_endZ hx hb hr hlocks (iv_z ⟨by omega, by omega⟩) () ⟨⟨by omega, by omega⟩, (by omega)⟩ hP hD hS dX9_isStrand_15
set_option maxHeartbeats 4000000 in
set_option maxRecDepth 100000 in
theorem i_X9_isChair (l : Launch) (D : va_G) (k : Nat → ClassId) (sz : Nat) (x1 : Int32) (mo : Nat) (mo_thrown : Int32) (mo_ascalar : Nat) (mo_acane : Nat) (mo_ais : Nat) (mo_astrandOf : Nat) (mo_aweight : Nat) (mo_aheight : Nat) (mo_achairOf : Nat) (mo_anoteMinute : Nat) (mo_anoteWho : Nat) (mo_anoteIs : Nat) (mo_atoldCane : Nat) (mo_anewScalar : Nat) (mo_anewCane : Nat) (mo_anewHeight : Nat) (mo_anewStrand : Nat) (mo_anewChair : Nat) (mo_anewWeight : Nat) (mo_taped : Int32) (mo_p : Int32) (mo_fault : Int32) (mo_slot : Int32) (mo_rules : Int32) (mo_entries : Int32) (mo_deep : Int32) (mo_counted : Int32) (mo_opened : Int32) (mo_words : Int32) (mo_atape : Nat) (mo_asort : Nat) (mo_anumber : Nat) (mo_aclauses : Nat) (mo_asumAt : Nat) (mo_atestAt : Nat) (mo_aendAt : Nat) (mo_aopen : Nat) (mo_aasked : Nat) (mo_astack : Nat) (mo_amust : Nat) (mo_apast : Nat) (mo_apastOf : Nat) (mo_pastMany : Int32) (mo_pastAt : Int32) (mo_takesBack : Int32) (mo_acanRise : Nat) (mo_afirstHas : Nat) (mo_asecondHas : Nat) (mo_alay : Nat) (mo_ashows : Nat) (mo_aimages : Nat) (mo_aisMade : Nat) (mo_imageAt : Int32) (mo_goesBack : Int32) (mo_s0 : Int32) (mo_s1 : Int32) (mo_s2 : Int32) (mo_s3 : Int32) (mo_s4 : Int32) (mo_s5 : Int32) (mo_s6 : Int32) (mo_s7 : Int32) (h_mo_taped : iv (0) (400) mo_taped) (h_mo_p : iv (0) (402) mo_p) (h_mo_fault : iv (0) (4000) mo_fault) (h_mo_slot : iv (0) (5) mo_slot) (h_mo_rules : iv (0) (6) mo_rules) (h_mo_entries : iv (0) (300) mo_entries) (h_mo_counted : iv (0) (70) mo_counted) (h_mo_opened : iv (0) (402) mo_opened) (h_mo_words : iv (11) (11) mo_words) (h_mo_pastMany : iv (0) (20) mo_pastMany) (h_mo_pastAt : iv (0) (260) mo_pastAt) (h_mo_takesBack : iv (0) (1) mo_takesBack) (h_mo_imageAt : iv (0) (2000) mo_imageAt) (h_mo_goesBack : iv (0) (1) mo_goesBack) (h_mo_s1 : iv (0) (4) mo_s1) (h_mo_s2 : iv (0) (8) mo_s2) (h_mo_s3 : iv (0) (8) mo_s3) (h_mo_s5 : iv (0) (10) mo_s5) (h_mo_s7 : iv (-1) (5) mo_s7) : CtI l yX9_isChair wsX9_isChair (rmK 2 0 0) [.ref mo, .int x1] D k sz ([(mo, .inr (7, [.int mo_thrown, .ref mo_ascalar, .ref mo_acane, .ref mo_ais, .ref mo_astrandOf, .ref mo_aweight, .ref mo_aheight, .ref mo_achairOf, .ref mo_anoteMinute, .ref mo_anoteWho, .ref mo_anoteIs, .ref mo_atoldCane, .ref mo_anewScalar, .ref mo_anewCane, .ref mo_anewHeight, .ref mo_anewStrand, .ref mo_anewChair, .ref mo_anewWeight, .int mo_taped, .int mo_p, .int mo_fault, .int mo_slot, .int mo_rules, .int mo_entries, .int mo_deep, .int mo_counted, .int mo_opened, .int mo_words, .ref mo_atape, .ref mo_asort, .ref mo_anumber, .ref mo_aclauses, .ref mo_asumAt, .ref mo_atestAt, .ref mo_aendAt, .ref mo_aopen, .ref mo_aasked, .ref mo_astack, .ref mo_amust, .ref mo_apast, .ref mo_apastOf, .int mo_pastMany, .int mo_pastAt, .int mo_takesBack, .ref mo_acanRise, .ref mo_afirstHas, .ref mo_asecondHas, .ref mo_alay, .ref mo_ashows, .ref mo_aimages, .ref mo_aisMade, .int mo_imageAt, .int mo_goesBack])), (mo_ascalar, hcI k 8 (sc8 mo_s0 mo_s1 mo_s2 mo_s3 mo_s4 mo_s5 mo_s6 mo_s7))]) (fun (r : Int32) (u : Unit) => iv (0) (1) r ∧ ((r.toInt = 1 ∧ 0 ≤ x1.toInt ∧ x1.toInt < mo_s2.toInt) ∨ (r.toInt = 0 ∧ (x1.toInt < 0 ∨ mo_s2.toInt ≤ x1.toInt)))) (fun u : Unit => [(mo, .inr (7, [.int mo_thrown, .ref mo_ascalar, .ref mo_acane, .ref mo_ais, .ref mo_astrandOf, .ref mo_aweight, .ref mo_aheight, .ref mo_achairOf, .ref mo_anoteMinute, .ref mo_anoteWho, .ref mo_anoteIs, .ref mo_atoldCane, .ref mo_anewScalar, .ref mo_anewCane, .ref mo_anewHeight, .ref mo_anewStrand, .ref mo_anewChair, .ref mo_anewWeight, .int mo_taped, .int mo_p, .int mo_fault, .int mo_slot, .int mo_rules, .int mo_entries, .int mo_deep, .int mo_counted, .int mo_opened, .int mo_words, .ref mo_atape, .ref mo_asort, .ref mo_anumber, .ref mo_aclauses, .ref mo_asumAt, .ref mo_atestAt, .ref mo_aendAt, .ref mo_aopen, .ref mo_aasked, .ref mo_astack, .ref mo_amust, .ref mo_apast, .ref mo_apastOf, .int mo_pastMany, .int mo_pastAt, .int mo_takesBack, .ref mo_acanRise, .ref mo_afirstHas, .ref mo_asecondHas, .ref mo_alay, .ref mo_ashows, .ref mo_aimages, .ref mo_aisMade, .int mo_imageAt, .int mo_goesBack])), (mo_ascalar, hcI k 8 (sc8 mo_s0 mo_s1 mo_s2 mo_s3 mo_s4 mo_s5 mo_s6 mo_s7))]) 0 0 := by
  have h_mo_taped_l := h_mo_taped.1
  have h_mo_taped_u := h_mo_taped.2
  have h_mo_p_l := h_mo_p.1
  have h_mo_p_u := h_mo_p.2
  have h_mo_fault_l := h_mo_fault.1
  have h_mo_fault_u := h_mo_fault.2
  have h_mo_slot_l := h_mo_slot.1
  have h_mo_slot_u := h_mo_slot.2
  have h_mo_rules_l := h_mo_rules.1
  have h_mo_rules_u := h_mo_rules.2
  have h_mo_entries_l := h_mo_entries.1
  have h_mo_entries_u := h_mo_entries.2
  have h_mo_counted_l := h_mo_counted.1
  have h_mo_counted_u := h_mo_counted.2
  have h_mo_opened_l := h_mo_opened.1
  have h_mo_opened_u := h_mo_opened.2
  have h_mo_words_l := h_mo_words.1
  have h_mo_words_u := h_mo_words.2
  have h_mo_pastMany_l := h_mo_pastMany.1
  have h_mo_pastMany_u := h_mo_pastMany.2
  have h_mo_pastAt_l := h_mo_pastAt.1
  have h_mo_pastAt_u := h_mo_pastAt.2
  have h_mo_takesBack_l := h_mo_takesBack.1
  have h_mo_takesBack_u := h_mo_takesBack.2
  have h_mo_imageAt_l := h_mo_imageAt.1
  have h_mo_imageAt_u := h_mo_imageAt.2
  have h_mo_goesBack_l := h_mo_goesBack.1
  have h_mo_goesBack_u := h_mo_goesBack.2
  have h_mo_s1_l := h_mo_s1.1
  have h_mo_s1_u := h_mo_s1.2
  have h_mo_s2_l := h_mo_s2.1
  have h_mo_s2_u := h_mo_s2.2
  have h_mo_s3_l := h_mo_s3.1
  have h_mo_s3_u := h_mo_s3.2
  have h_mo_s5_l := h_mo_s5.1
  have h_mo_s5_u := h_mo_s5.2
  have h_mo_s7_l := h_mo_s7.1
  have h_mo_s7_u := h_mo_s7.2
  refine CtI.mk (cc := cX9_isChair) (maxL := 2) (ret := (some .boolean)) (by decide) rfl (Nat.le_of_ble_eq_true rfl) ?_
  intro p e s m below meth c A ls E hP hD hS hl
  obtain ⟨hx, hb, hr, hml, hown, hts, hlocks, hin, hG, hA⟩ := E
  have hown : s.vm.findClass RX9 = some m.cls := hown
  have in9 : ∀ w ∈ u_ws RX9 TX9 53, w ∈ wsX9_isChair := fun _ h => List.mem_cons_of_mem _ (List.mem_append_right _ h)
  have hl : lv_has ls 2 [(0, .ref mo), (1, .int x1)] := hl
  refine lv_iload_n hx hb dX9_isChair_0 rfl (lv_at hl 1 rfl) ?_
  refine lv_i2l hx hb dX9_isChair_1 rfl ?_
  refine lv_topl (fun y1 ey1 => ?_)
  have ty1 : y1.toInt = x1.toInt := ai_i2l rfl ey1
  refine lv_lconst (v := 0) hx hb dX9_isChair_2 (by decide) ?_
  refine lv_aload_n hx hb dX9_isChair_3 rfl (lv_at hl 0 rfl) ?_
  refine va_get (D := D) (ci := 7) (v := .ref mo_ascalar) (C := RX9) (T := TX9) (N := 53) hx hb hts in9 hown hG.1 hP 0 rfl rfl 1 (by decide) (hts (.fieldLink RX9 9 "ChairCaneModel" "scalar" "[I") (by decide +kernel)) (fun _ h9 => h9) rfl dX9_isChair_4 ?_
  refine lv_iconst (v := 2) hx hb dX9_isChair_7 (by decide) ?_
  refine va_iald hx hb hG.1 hP 1 0 rfl rfl (by unfold vp_in; decide) dX9_isChair_8 ?_
  refine hc_is (z := mo_s2) (by rw [show Int32.toNatClampNeg 2 = 2 from by decide]; rfl) ?_
  refine lv_iconst (v := 1) hx hb dX9_isChair_9 (by decide) ?_
  refine lv_isub hx hb dX9_isChair_10 ?_
  refine lv_topi (fun z2 ez2 => ?_)
  have tz2 : z2.toInt = mo_s2.toInt - 1 := ai_sub rfl (by decide) ez2 (by omega) (by omega)
  refine lv_i2l hx hb dX9_isChair_11 rfl ?_
  refine lv_topl (fun y3 ey3 => ?_)
  have ty3 : y3.toInt = z2.toInt := ai_i2l rfl ey3
  have ql4 : (0 : Int64).toInt = 0 := by decide
  refine hc_Si (As := [.long y1, .long 0, .long y3]) (rest := []) (n := 3) (wr := [(mo, .inr (7, [.int mo_thrown, .ref mo_ascalar, .ref mo_acane, .ref mo_ais, .ref mo_astrandOf, .ref mo_aweight, .ref mo_aheight, .ref mo_achairOf, .ref mo_anoteMinute, .ref mo_anoteWho, .ref mo_anoteIs, .ref mo_atoldCane, .ref mo_anewScalar, .ref mo_anewCane, .ref mo_anewHeight, .ref mo_anewStrand, .ref mo_anewChair, .ref mo_anewWeight, .int mo_taped, .int mo_p, .int mo_fault, .int mo_slot, .int mo_rules, .int mo_entries, .int mo_deep, .int mo_counted, .int mo_opened, .int mo_words, .ref mo_atape, .ref mo_asort, .ref mo_anumber, .ref mo_aclauses, .ref mo_asumAt, .ref mo_atestAt, .ref mo_aendAt, .ref mo_aopen, .ref mo_aasked, .ref mo_astack, .ref mo_amust, .ref mo_apast, .ref mo_apastOf, .int mo_pastMany, .int mo_pastAt, .int mo_takesBack, .ref mo_acanRise, .ref mo_afirstHas, .ref mo_asecondHas, .ref mo_alay, .ref mo_ashows, .ref mo_aimages, .ref mo_aisMade, .int mo_imageAt, .int mo_goesBack])), (mo_ascalar, hcI k 8 (sc8 mo_s0 mo_s1 mo_s2 mo_s3 mo_s4 mo_s5 mo_s6 mo_s7))]) hx hb hml hown hts hG hA hP hD hS hl.1 [] [0, 1] (i_X9_in l D k _ y1 0 y3 ) gX9_isChair_X9_in rfl ⟨rfl, rfl, Nat.le_of_ble_eq_true rfl, Nat.le_of_ble_eq_true rfl⟩ (by decide +kernel) rfl rfl ⟨by decide, by decide, by decide⟩ ⟨rfl, rfl, Nat.le_of_ble_eq_true rfl, Nat.le_of_ble_eq_true rfl, Nat.le_of_ble_eq_true rfl⟩ dX9_isChair_12 (fun r6 u5 H locs hw hP hD hS => ?_)
  have hP : va_P D vwCl ([(mo, .inr (7, [.int mo_thrown, .ref mo_ascalar, .ref mo_acane, .ref mo_ais, .ref mo_astrandOf, .ref mo_aweight, .ref mo_aheight, .ref mo_achairOf, .ref mo_anoteMinute, .ref mo_anoteWho, .ref mo_anoteIs, .ref mo_atoldCane, .ref mo_anewScalar, .ref mo_anewCane, .ref mo_anewHeight, .ref mo_anewStrand, .ref mo_anewChair, .ref mo_anewWeight, .int mo_taped, .int mo_p, .int mo_fault, .int mo_slot, .int mo_rules, .int mo_entries, .int mo_deep, .int mo_counted, .int mo_opened, .int mo_words, .ref mo_atape, .ref mo_asort, .ref mo_anumber, .ref mo_aclauses, .ref mo_asumAt, .ref mo_atestAt, .ref mo_aendAt, .ref mo_aopen, .ref mo_aasked, .ref mo_astack, .ref mo_amust, .ref mo_apast, .ref mo_apastOf, .int mo_pastMany, .int mo_pastAt, .int mo_takesBack, .ref mo_acanRise, .ref mo_afirstHas, .ref mo_asecondHas, .ref mo_alay, .ref mo_ashows, .ref mo_aimages, .ref mo_aisMade, .int mo_imageAt, .int mo_goesBack])), (mo_ascalar, hcI k 8 (sc8 mo_s0 mo_s1 mo_s2 mo_s3 mo_s4 mo_s5 mo_s6 mo_s7))]) H := hP
  have hD : va_D A ([(mo, .inr (7, [.int mo_thrown, .ref mo_ascalar, .ref mo_acane, .ref mo_ais, .ref mo_astrandOf, .ref mo_aweight, .ref mo_aheight, .ref mo_achairOf, .ref mo_anoteMinute, .ref mo_anoteWho, .ref mo_anoteIs, .ref mo_atoldCane, .ref mo_anewScalar, .ref mo_anewCane, .ref mo_anewHeight, .ref mo_anewStrand, .ref mo_anewChair, .ref mo_anewWeight, .int mo_taped, .int mo_p, .int mo_fault, .int mo_slot, .int mo_rules, .int mo_entries, .int mo_deep, .int mo_counted, .int mo_opened, .int mo_words, .ref mo_atape, .ref mo_asort, .ref mo_anumber, .ref mo_aclauses, .ref mo_asumAt, .ref mo_atestAt, .ref mo_aendAt, .ref mo_aopen, .ref mo_aasked, .ref mo_astack, .ref mo_amust, .ref mo_apast, .ref mo_apastOf, .int mo_pastMany, .int mo_pastAt, .int mo_takesBack, .ref mo_acanRise, .ref mo_afirstHas, .ref mo_asecondHas, .ref mo_alay, .ref mo_ashows, .ref mo_aimages, .ref mo_aisMade, .int mo_imageAt, .int mo_goesBack])), (mo_ascalar, hcI k 8 (sc8 mo_s0 mo_s1 mo_s2 mo_s3 mo_s4 mo_s5 mo_s6 mo_s7))]) := hD
  obtain ⟨br6, rel7⟩ := hw
  have br6 : iv (0) (1) r6 := br6
  have br6_l := br6.1
  have br6_u := br6.2
  exact hc_endZ hx hb hr hlocks (iv_z ⟨by omega, by omega⟩) () ⟨⟨by omega, by omega⟩, (by omega)⟩ hP hD hS dX9_isChair_15
set_option maxHeartbeats 4000000 in
set_option maxRecDepth 100000 in
theorem i_X9_isSitter (l : Launch) (D : va_G) (k : Nat → ClassId) (sz : Nat) (x1 : Int32) (mo : Nat) (mo_thrown : Int32) (mo_ascalar : Nat) (mo_acane : Nat) (mo_ais : Nat) (mo_astrandOf : Nat) (mo_aweight : Nat) (mo_aheight : Nat) (mo_achairOf : Nat) (mo_anoteMinute : Nat) (mo_anoteWho : Nat) (mo_anoteIs : Nat) (mo_atoldCane : Nat) (mo_anewScalar : Nat) (mo_anewCane : Nat) (mo_anewHeight : Nat) (mo_anewStrand : Nat) (mo_anewChair : Nat) (mo_anewWeight : Nat) (mo_taped : Int32) (mo_p : Int32) (mo_fault : Int32) (mo_slot : Int32) (mo_rules : Int32) (mo_entries : Int32) (mo_deep : Int32) (mo_counted : Int32) (mo_opened : Int32) (mo_words : Int32) (mo_atape : Nat) (mo_asort : Nat) (mo_anumber : Nat) (mo_aclauses : Nat) (mo_asumAt : Nat) (mo_atestAt : Nat) (mo_aendAt : Nat) (mo_aopen : Nat) (mo_aasked : Nat) (mo_astack : Nat) (mo_amust : Nat) (mo_apast : Nat) (mo_apastOf : Nat) (mo_pastMany : Int32) (mo_pastAt : Int32) (mo_takesBack : Int32) (mo_acanRise : Nat) (mo_afirstHas : Nat) (mo_asecondHas : Nat) (mo_alay : Nat) (mo_ashows : Nat) (mo_aimages : Nat) (mo_aisMade : Nat) (mo_imageAt : Int32) (mo_goesBack : Int32) (mo_s0 : Int32) (mo_s1 : Int32) (mo_s2 : Int32) (mo_s3 : Int32) (mo_s4 : Int32) (mo_s5 : Int32) (mo_s6 : Int32) (mo_s7 : Int32) (h_mo_taped : iv (0) (400) mo_taped) (h_mo_p : iv (0) (402) mo_p) (h_mo_fault : iv (0) (4000) mo_fault) (h_mo_slot : iv (0) (5) mo_slot) (h_mo_rules : iv (0) (6) mo_rules) (h_mo_entries : iv (0) (300) mo_entries) (h_mo_counted : iv (0) (70) mo_counted) (h_mo_opened : iv (0) (402) mo_opened) (h_mo_words : iv (11) (11) mo_words) (h_mo_pastMany : iv (0) (20) mo_pastMany) (h_mo_pastAt : iv (0) (260) mo_pastAt) (h_mo_takesBack : iv (0) (1) mo_takesBack) (h_mo_imageAt : iv (0) (2000) mo_imageAt) (h_mo_goesBack : iv (0) (1) mo_goesBack) (h_mo_s1 : iv (0) (4) mo_s1) (h_mo_s2 : iv (0) (8) mo_s2) (h_mo_s3 : iv (0) (8) mo_s3) (h_mo_s5 : iv (0) (10) mo_s5) (h_mo_s7 : iv (-1) (5) mo_s7) : CtI l yX9_isSitter wsX9_isSitter (rmK 2 0 0) [.ref mo, .int x1] D k sz ([(mo, .inr (7, [.int mo_thrown, .ref mo_ascalar, .ref mo_acane, .ref mo_ais, .ref mo_astrandOf, .ref mo_aweight, .ref mo_aheight, .ref mo_achairOf, .ref mo_anoteMinute, .ref mo_anoteWho, .ref mo_anoteIs, .ref mo_atoldCane, .ref mo_anewScalar, .ref mo_anewCane, .ref mo_anewHeight, .ref mo_anewStrand, .ref mo_anewChair, .ref mo_anewWeight, .int mo_taped, .int mo_p, .int mo_fault, .int mo_slot, .int mo_rules, .int mo_entries, .int mo_deep, .int mo_counted, .int mo_opened, .int mo_words, .ref mo_atape, .ref mo_asort, .ref mo_anumber, .ref mo_aclauses, .ref mo_asumAt, .ref mo_atestAt, .ref mo_aendAt, .ref mo_aopen, .ref mo_aasked, .ref mo_astack, .ref mo_amust, .ref mo_apast, .ref mo_apastOf, .int mo_pastMany, .int mo_pastAt, .int mo_takesBack, .ref mo_acanRise, .ref mo_afirstHas, .ref mo_asecondHas, .ref mo_alay, .ref mo_ashows, .ref mo_aimages, .ref mo_aisMade, .int mo_imageAt, .int mo_goesBack])), (mo_ascalar, hcI k 8 (sc8 mo_s0 mo_s1 mo_s2 mo_s3 mo_s4 mo_s5 mo_s6 mo_s7))]) (fun (r : Int32) (u : Unit) => iv (0) (1) r ∧ ((r.toInt = 1 ∧ 0 ≤ x1.toInt ∧ x1.toInt < mo_s3.toInt) ∨ (r.toInt = 0 ∧ (x1.toInt < 0 ∨ mo_s3.toInt ≤ x1.toInt)))) (fun u : Unit => [(mo, .inr (7, [.int mo_thrown, .ref mo_ascalar, .ref mo_acane, .ref mo_ais, .ref mo_astrandOf, .ref mo_aweight, .ref mo_aheight, .ref mo_achairOf, .ref mo_anoteMinute, .ref mo_anoteWho, .ref mo_anoteIs, .ref mo_atoldCane, .ref mo_anewScalar, .ref mo_anewCane, .ref mo_anewHeight, .ref mo_anewStrand, .ref mo_anewChair, .ref mo_anewWeight, .int mo_taped, .int mo_p, .int mo_fault, .int mo_slot, .int mo_rules, .int mo_entries, .int mo_deep, .int mo_counted, .int mo_opened, .int mo_words, .ref mo_atape, .ref mo_asort, .ref mo_anumber, .ref mo_aclauses, .ref mo_asumAt, .ref mo_atestAt, .ref mo_aendAt, .ref mo_aopen, .ref mo_aasked, .ref mo_astack, .ref mo_amust, .ref mo_apast, .ref mo_apastOf, .int mo_pastMany, .int mo_pastAt, .int mo_takesBack, .ref mo_acanRise, .ref mo_afirstHas, .ref mo_asecondHas, .ref mo_alay, .ref mo_ashows, .ref mo_aimages, .ref mo_aisMade, .int mo_imageAt, .int mo_goesBack])), (mo_ascalar, hcI k 8 (sc8 mo_s0 mo_s1 mo_s2 mo_s3 mo_s4 mo_s5 mo_s6 mo_s7))]) 0 0 := by
  have h_mo_taped_l := h_mo_taped.1
  have h_mo_taped_u := h_mo_taped.2
  have h_mo_p_l := h_mo_p.1
  have h_mo_p_u := h_mo_p.2
  have h_mo_fault_l := h_mo_fault.1
  have h_mo_fault_u := h_mo_fault.2
  have h_mo_slot_l := h_mo_slot.1
  have h_mo_slot_u := h_mo_slot.2
  have h_mo_rules_l := h_mo_rules.1
  have h_mo_rules_u := h_mo_rules.2
  have h_mo_entries_l := h_mo_entries.1
  have h_mo_entries_u := h_mo_entries.2
  have h_mo_counted_l := h_mo_counted.1
  have h_mo_counted_u := h_mo_counted.2
  have h_mo_opened_l := h_mo_opened.1
  have h_mo_opened_u := h_mo_opened.2
  have h_mo_words_l := h_mo_words.1
  have h_mo_words_u := h_mo_words.2
  have h_mo_pastMany_l := h_mo_pastMany.1
  have h_mo_pastMany_u := h_mo_pastMany.2
  have h_mo_pastAt_l := h_mo_pastAt.1
  have h_mo_pastAt_u := h_mo_pastAt.2
  have h_mo_takesBack_l := h_mo_takesBack.1
  have h_mo_takesBack_u := h_mo_takesBack.2
  have h_mo_imageAt_l := h_mo_imageAt.1
  have h_mo_imageAt_u := h_mo_imageAt.2
  have h_mo_goesBack_l := h_mo_goesBack.1
  have h_mo_goesBack_u := h_mo_goesBack.2
  have h_mo_s1_l := h_mo_s1.1
  have h_mo_s1_u := h_mo_s1.2
  have h_mo_s2_l := h_mo_s2.1
  have h_mo_s2_u := h_mo_s2.2
  have h_mo_s3_l := h_mo_s3.1
  have h_mo_s3_u := h_mo_s3.2
  have h_mo_s5_l := h_mo_s5.1
  have h_mo_s5_u := h_mo_s5.2
  have h_mo_s7_l := h_mo_s7.1
  have h_mo_s7_u := h_mo_s7.2
  refine CtI.mk (cc := cX9_isSitter) (maxL := 2) (ret := (some .boolean)) (by decide) rfl (Nat.le_of_ble_eq_true rfl) ?_
  intro p e s m below meth c A ls E hP hD hS hl
  obtain ⟨hx, hb, hr, hml, hown, hts, hlocks, hin, hG, hA⟩ := E
  have hown : s.vm.findClass RX9 = some m.cls := hown
  have in9 : ∀ w ∈ u_ws RX9 TX9 53, w ∈ wsX9_isSitter := fun _ h => List.mem_cons_of_mem _ (List.mem_append_right _ h)
  have hl : lv_has ls 2 [(0, .ref mo), (1, .int x1)] := hl
  refine lv_iload_n hx hb dX9_isSitter_0 rfl (lv_at hl 1 rfl) ?_
  refine lv_i2l hx hb dX9_isSitter_1 rfl ?_
  refine lv_topl (fun y1 ey1 => ?_)
  have ty1 : y1.toInt = x1.toInt := ai_i2l rfl ey1
  refine lv_lconst (v := 0) hx hb dX9_isSitter_2 (by decide) ?_
  refine lv_aload_n hx hb dX9_isSitter_3 rfl (lv_at hl 0 rfl) ?_
  refine va_get (D := D) (ci := 7) (v := .ref mo_ascalar) (C := RX9) (T := TX9) (N := 53) hx hb hts in9 hown hG.1 hP 0 rfl rfl 1 (by decide) (hts (.fieldLink RX9 9 "ChairCaneModel" "scalar" "[I") (by decide +kernel)) (fun _ h9 => h9) rfl dX9_isSitter_4 ?_
  refine lv_iconst (v := 3) hx hb dX9_isSitter_7 (by decide) ?_
  refine va_iald hx hb hG.1 hP 1 0 rfl rfl (by unfold vp_in; decide) dX9_isSitter_8 ?_
  refine hc_is (z := mo_s3) (by rw [show Int32.toNatClampNeg 3 = 3 from by decide]; rfl) ?_
  refine lv_iconst (v := 1) hx hb dX9_isSitter_9 (by decide) ?_
  refine lv_isub hx hb dX9_isSitter_10 ?_
  refine lv_topi (fun z2 ez2 => ?_)
  have tz2 : z2.toInt = mo_s3.toInt - 1 := ai_sub rfl (by decide) ez2 (by omega) (by omega)
  refine lv_i2l hx hb dX9_isSitter_11 rfl ?_
  refine lv_topl (fun y3 ey3 => ?_)
  have ty3 : y3.toInt = z2.toInt := ai_i2l rfl ey3
  have ql4 : (0 : Int64).toInt = 0 := by decide
  refine hc_Si (As := [.long y1, .long 0, .long y3]) (rest := []) (n := 3) (wr := [(mo, .inr (7, [.int mo_thrown, .ref mo_ascalar, .ref mo_acane, .ref mo_ais, .ref mo_astrandOf, .ref mo_aweight, .ref mo_aheight, .ref mo_achairOf, .ref mo_anoteMinute, .ref mo_anoteWho, .ref mo_anoteIs, .ref mo_atoldCane, .ref mo_anewScalar, .ref mo_anewCane, .ref mo_anewHeight, .ref mo_anewStrand, .ref mo_anewChair, .ref mo_anewWeight, .int mo_taped, .int mo_p, .int mo_fault, .int mo_slot, .int mo_rules, .int mo_entries, .int mo_deep, .int mo_counted, .int mo_opened, .int mo_words, .ref mo_atape, .ref mo_asort, .ref mo_anumber, .ref mo_aclauses, .ref mo_asumAt, .ref mo_atestAt, .ref mo_aendAt, .ref mo_aopen, .ref mo_aasked, .ref mo_astack, .ref mo_amust, .ref mo_apast, .ref mo_apastOf, .int mo_pastMany, .int mo_pastAt, .int mo_takesBack, .ref mo_acanRise, .ref mo_afirstHas, .ref mo_asecondHas, .ref mo_alay, .ref mo_ashows, .ref mo_aimages, .ref mo_aisMade, .int mo_imageAt, .int mo_goesBack])), (mo_ascalar, hcI k 8 (sc8 mo_s0 mo_s1 mo_s2 mo_s3 mo_s4 mo_s5 mo_s6 mo_s7))]) hx hb hml hown hts hG hA hP hD hS hl.1 [] [0, 1] (i_X9_in l D k _ y1 0 y3 ) gX9_isSitter_X9_in rfl ⟨rfl, rfl, Nat.le_of_ble_eq_true rfl, Nat.le_of_ble_eq_true rfl⟩ (by decide +kernel) rfl rfl ⟨by decide, by decide, by decide⟩ ⟨rfl, rfl, Nat.le_of_ble_eq_true rfl, Nat.le_of_ble_eq_true rfl, Nat.le_of_ble_eq_true rfl⟩ dX9_isSitter_12 (fun r6 u5 H locs hw hP hD hS => ?_)
  have hP : va_P D vwCl ([(mo, .inr (7, [.int mo_thrown, .ref mo_ascalar, .ref mo_acane, .ref mo_ais, .ref mo_astrandOf, .ref mo_aweight, .ref mo_aheight, .ref mo_achairOf, .ref mo_anoteMinute, .ref mo_anoteWho, .ref mo_anoteIs, .ref mo_atoldCane, .ref mo_anewScalar, .ref mo_anewCane, .ref mo_anewHeight, .ref mo_anewStrand, .ref mo_anewChair, .ref mo_anewWeight, .int mo_taped, .int mo_p, .int mo_fault, .int mo_slot, .int mo_rules, .int mo_entries, .int mo_deep, .int mo_counted, .int mo_opened, .int mo_words, .ref mo_atape, .ref mo_asort, .ref mo_anumber, .ref mo_aclauses, .ref mo_asumAt, .ref mo_atestAt, .ref mo_aendAt, .ref mo_aopen, .ref mo_aasked, .ref mo_astack, .ref mo_amust, .ref mo_apast, .ref mo_apastOf, .int mo_pastMany, .int mo_pastAt, .int mo_takesBack, .ref mo_acanRise, .ref mo_afirstHas, .ref mo_asecondHas, .ref mo_alay, .ref mo_ashows, .ref mo_aimages, .ref mo_aisMade, .int mo_imageAt, .int mo_goesBack])), (mo_ascalar, hcI k 8 (sc8 mo_s0 mo_s1 mo_s2 mo_s3 mo_s4 mo_s5 mo_s6 mo_s7))]) H := hP
  have hD : va_D A ([(mo, .inr (7, [.int mo_thrown, .ref mo_ascalar, .ref mo_acane, .ref mo_ais, .ref mo_astrandOf, .ref mo_aweight, .ref mo_aheight, .ref mo_achairOf, .ref mo_anoteMinute, .ref mo_anoteWho, .ref mo_anoteIs, .ref mo_atoldCane, .ref mo_anewScalar, .ref mo_anewCane, .ref mo_anewHeight, .ref mo_anewStrand, .ref mo_anewChair, .ref mo_anewWeight, .int mo_taped, .int mo_p, .int mo_fault, .int mo_slot, .int mo_rules, .int mo_entries, .int mo_deep, .int mo_counted, .int mo_opened, .int mo_words, .ref mo_atape, .ref mo_asort, .ref mo_anumber, .ref mo_aclauses, .ref mo_asumAt, .ref mo_atestAt, .ref mo_aendAt, .ref mo_aopen, .ref mo_aasked, .ref mo_astack, .ref mo_amust, .ref mo_apast, .ref mo_apastOf, .int mo_pastMany, .int mo_pastAt, .int mo_takesBack, .ref mo_acanRise, .ref mo_afirstHas, .ref mo_asecondHas, .ref mo_alay, .ref mo_ashows, .ref mo_aimages, .ref mo_aisMade, .int mo_imageAt, .int mo_goesBack])), (mo_ascalar, hcI k 8 (sc8 mo_s0 mo_s1 mo_s2 mo_s3 mo_s4 mo_s5 mo_s6 mo_s7))]) := hD
  obtain ⟨br6, rel7⟩ := hw
  have br6 : iv (0) (1) r6 := br6
  have br6_l := br6.1
  have br6_u := br6.2
  exact hc_endZ hx hb hr hlocks (iv_z ⟨by omega, by omega⟩) () ⟨⟨by omega, by omega⟩, (by omega)⟩ hP hD hS dX9_isSitter_15
set_option maxHeartbeats 4000000 in
set_option maxRecDepth 100000 in
theorem i_X9_those (l : Launch) (D : va_G) (k : Nat → ClassId) (sz : Nat) (x1 : Int32) (mo : Nat) (mo_thrown : Int32) (mo_ascalar : Nat) (mo_acane : Nat) (mo_ais : Nat) (mo_astrandOf : Nat) (mo_aweight : Nat) (mo_aheight : Nat) (mo_achairOf : Nat) (mo_anoteMinute : Nat) (mo_anoteWho : Nat) (mo_anoteIs : Nat) (mo_atoldCane : Nat) (mo_anewScalar : Nat) (mo_anewCane : Nat) (mo_anewHeight : Nat) (mo_anewStrand : Nat) (mo_anewChair : Nat) (mo_anewWeight : Nat) (mo_taped : Int32) (mo_p : Int32) (mo_fault : Int32) (mo_slot : Int32) (mo_rules : Int32) (mo_entries : Int32) (mo_deep : Int32) (mo_counted : Int32) (mo_opened : Int32) (mo_words : Int32) (mo_atape : Nat) (mo_asort : Nat) (mo_anumber : Nat) (mo_aclauses : Nat) (mo_asumAt : Nat) (mo_atestAt : Nat) (mo_aendAt : Nat) (mo_aopen : Nat) (mo_aasked : Nat) (mo_astack : Nat) (mo_amust : Nat) (mo_apast : Nat) (mo_apastOf : Nat) (mo_pastMany : Int32) (mo_pastAt : Int32) (mo_takesBack : Int32) (mo_acanRise : Nat) (mo_afirstHas : Nat) (mo_asecondHas : Nat) (mo_alay : Nat) (mo_ashows : Nat) (mo_aimages : Nat) (mo_aisMade : Nat) (mo_imageAt : Int32) (mo_goesBack : Int32) (mo_ris : Nat → Int32) (mo_s0 : Int32) (mo_s1 : Int32) (mo_s2 : Int32) (mo_s3 : Int32) (mo_s4 : Int32) (mo_s5 : Int32) (mo_s6 : Int32) (mo_s7 : Int32) (h_mo_taped : iv (0) (400) mo_taped) (h_mo_p : iv (0) (402) mo_p) (h_mo_fault : iv (0) (4000) mo_fault) (h_mo_slot : iv (0) (5) mo_slot) (h_mo_rules : iv (0) (6) mo_rules) (h_mo_entries : iv (0) (300) mo_entries) (h_mo_counted : iv (0) (70) mo_counted) (h_mo_opened : iv (0) (402) mo_opened) (h_mo_words : iv (11) (11) mo_words) (h_mo_pastMany : iv (0) (20) mo_pastMany) (h_mo_pastAt : iv (0) (260) mo_pastAt) (h_mo_takesBack : iv (0) (1) mo_takesBack) (h_mo_imageAt : iv (0) (2000) mo_imageAt) (h_mo_goesBack : iv (0) (1) mo_goesBack) (h_mo_s1 : iv (0) (4) mo_s1) (h_mo_s2 : iv (0) (8) mo_s2) (h_mo_s3 : iv (0) (8) mo_s3) (h_mo_s5 : iv (0) (10) mo_s5) (h_mo_s7 : iv (-1) (5) mo_s7) : CtI l yX9_those wsX9_those (rmK 2 0 0) [.ref mo, .int x1] D k sz ([(mo, .inr (7, [.int mo_thrown, .ref mo_ascalar, .ref mo_acane, .ref mo_ais, .ref mo_astrandOf, .ref mo_aweight, .ref mo_aheight, .ref mo_achairOf, .ref mo_anoteMinute, .ref mo_anoteWho, .ref mo_anoteIs, .ref mo_atoldCane, .ref mo_anewScalar, .ref mo_anewCane, .ref mo_anewHeight, .ref mo_anewStrand, .ref mo_anewChair, .ref mo_anewWeight, .int mo_taped, .int mo_p, .int mo_fault, .int mo_slot, .int mo_rules, .int mo_entries, .int mo_deep, .int mo_counted, .int mo_opened, .int mo_words, .ref mo_atape, .ref mo_asort, .ref mo_anumber, .ref mo_aclauses, .ref mo_asumAt, .ref mo_atestAt, .ref mo_aendAt, .ref mo_aopen, .ref mo_aasked, .ref mo_astack, .ref mo_amust, .ref mo_apast, .ref mo_apastOf, .int mo_pastMany, .int mo_pastAt, .int mo_takesBack, .ref mo_acanRise, .ref mo_afirstHas, .ref mo_asecondHas, .ref mo_alay, .ref mo_ashows, .ref mo_aimages, .ref mo_aisMade, .int mo_imageAt, .int mo_goesBack])), (mo_ais, hcI k 8 mo_ris), (mo_ascalar, hcI k 8 (sc8 mo_s0 mo_s1 mo_s2 mo_s3 mo_s4 mo_s5 mo_s6 mo_s7))]) (fun (r : Int32) (u : Unit) => (TI mo_s3 mo_ris x1 r ∧ 0 ≤ r.toInt ∧ r.toInt ≤ 255)) (fun u : Unit => [(mo, .inr (7, [.int mo_thrown, .ref mo_ascalar, .ref mo_acane, .ref mo_ais, .ref mo_astrandOf, .ref mo_aweight, .ref mo_aheight, .ref mo_achairOf, .ref mo_anoteMinute, .ref mo_anoteWho, .ref mo_anoteIs, .ref mo_atoldCane, .ref mo_anewScalar, .ref mo_anewCane, .ref mo_anewHeight, .ref mo_anewStrand, .ref mo_anewChair, .ref mo_anewWeight, .int mo_taped, .int mo_p, .int mo_fault, .int mo_slot, .int mo_rules, .int mo_entries, .int mo_deep, .int mo_counted, .int mo_opened, .int mo_words, .ref mo_atape, .ref mo_asort, .ref mo_anumber, .ref mo_aclauses, .ref mo_asumAt, .ref mo_atestAt, .ref mo_aendAt, .ref mo_aopen, .ref mo_aasked, .ref mo_astack, .ref mo_amust, .ref mo_apast, .ref mo_apastOf, .int mo_pastMany, .int mo_pastAt, .int mo_takesBack, .ref mo_acanRise, .ref mo_afirstHas, .ref mo_asecondHas, .ref mo_alay, .ref mo_ashows, .ref mo_aimages, .ref mo_aisMade, .int mo_imageAt, .int mo_goesBack])), (mo_ais, hcI k 8 mo_ris), (mo_ascalar, hcI k 8 (sc8 mo_s0 mo_s1 mo_s2 mo_s3 mo_s4 mo_s5 mo_s6 mo_s7))]) 0 0 := by
  have h_mo_taped_l := h_mo_taped.1
  have h_mo_taped_u := h_mo_taped.2
  have h_mo_p_l := h_mo_p.1
  have h_mo_p_u := h_mo_p.2
  have h_mo_fault_l := h_mo_fault.1
  have h_mo_fault_u := h_mo_fault.2
  have h_mo_slot_l := h_mo_slot.1
  have h_mo_slot_u := h_mo_slot.2
  have h_mo_rules_l := h_mo_rules.1
  have h_mo_rules_u := h_mo_rules.2
  have h_mo_entries_l := h_mo_entries.1
  have h_mo_entries_u := h_mo_entries.2
  have h_mo_counted_l := h_mo_counted.1
  have h_mo_counted_u := h_mo_counted.2
  have h_mo_opened_l := h_mo_opened.1
  have h_mo_opened_u := h_mo_opened.2
  have h_mo_words_l := h_mo_words.1
  have h_mo_words_u := h_mo_words.2
  have h_mo_pastMany_l := h_mo_pastMany.1
  have h_mo_pastMany_u := h_mo_pastMany.2
  have h_mo_pastAt_l := h_mo_pastAt.1
  have h_mo_pastAt_u := h_mo_pastAt.2
  have h_mo_takesBack_l := h_mo_takesBack.1
  have h_mo_takesBack_u := h_mo_takesBack.2
  have h_mo_imageAt_l := h_mo_imageAt.1
  have h_mo_imageAt_u := h_mo_imageAt.2
  have h_mo_goesBack_l := h_mo_goesBack.1
  have h_mo_goesBack_u := h_mo_goesBack.2
  have h_mo_s1_l := h_mo_s1.1
  have h_mo_s1_u := h_mo_s1.2
  have h_mo_s2_l := h_mo_s2.1
  have h_mo_s2_u := h_mo_s2.2
  have h_mo_s3_l := h_mo_s3.1
  have h_mo_s3_u := h_mo_s3.2
  have h_mo_s5_l := h_mo_s5.1
  have h_mo_s5_u := h_mo_s5.2
  have h_mo_s7_l := h_mo_s7.1
  have h_mo_s7_u := h_mo_s7.2
  refine CtI.mk (cc := cX9_those) (maxL := 4) (ret := (some .int)) (by decide) rfl (Nat.le_of_ble_eq_true rfl) ?_
  intro p e s m below meth c A ls E hP hD hS hl
  obtain ⟨hx, hb, hr, hml, hown, hts, hlocks, hin, hG, hA⟩ := E
  have hown : s.vm.findClass RX9 = some m.cls := hown
  have in9 : ∀ w ∈ u_ws RX9 TX9 53, w ∈ wsX9_those := fun _ h => List.mem_cons_of_mem _ (List.mem_append_right _ h)
  have hl : lv_has ls 4 [(0, .ref mo), (1, .int x1)] := hl
  refine lv_iconst (v := 0) hx hb dX9_those_0 (by decide) ?_
  refine lv_istore_n (lv' := [(2, .int 0), (0, .ref mo), (1, .int x1)]) hx hb dX9_those_1 rfl hl (by decide) rfl (fun ls hl => ?_)
  refine lv_iconst (v := 0) hx hb dX9_those_2 (by decide) ?_
  refine lv_istore_n (lv' := [(3, .int 0), (2, .int 0), (0, .ref mo), (1, .int x1)]) hx hb dX9_those_3 rfl hl (by decide) rfl (fun ls hl => ?_)
  have loop1 : ∀ (fu : Nat) (L2_1 : Int32) (L3_1 : Int32), iv (0) (8) L3_1 → L3_1.toInt ≤ mo_s3.toInt → TI L3_1 mo_ris x1 L2_1 → 9 - L3_1.toInt < (fu : Int) → ∀ (H : Heap) (locs : List Loc) (ls : Array Slot), va_P D vwCl ([(mo, .inr (7, [.int mo_thrown, .ref mo_ascalar, .ref mo_acane, .ref mo_ais, .ref mo_astrandOf, .ref mo_aweight, .ref mo_aheight, .ref mo_achairOf, .ref mo_anoteMinute, .ref mo_anoteWho, .ref mo_anoteIs, .ref mo_atoldCane, .ref mo_anewScalar, .ref mo_anewCane, .ref mo_anewHeight, .ref mo_anewStrand, .ref mo_anewChair, .ref mo_anewWeight, .int mo_taped, .int mo_p, .int mo_fault, .int mo_slot, .int mo_rules, .int mo_entries, .int mo_deep, .int mo_counted, .int mo_opened, .int mo_words, .ref mo_atape, .ref mo_asort, .ref mo_anumber, .ref mo_aclauses, .ref mo_asumAt, .ref mo_atestAt, .ref mo_aendAt, .ref mo_aopen, .ref mo_aasked, .ref mo_astack, .ref mo_amust, .ref mo_apast, .ref mo_apastOf, .int mo_pastMany, .int mo_pastAt, .int mo_takesBack, .ref mo_acanRise, .ref mo_afirstHas, .ref mo_asecondHas, .ref mo_alay, .ref mo_ashows, .ref mo_aimages, .ref mo_aisMade, .int mo_imageAt, .int mo_goesBack])), (mo_ais, hcI k 8 mo_ris), (mo_ascalar, hcI k 8 (sc8 mo_s0 mo_s1 mo_s2 mo_s3 mo_s4 mo_s5 mo_s6 mo_s7))]) H → va_D A ([(mo, .inr (7, [.int mo_thrown, .ref mo_ascalar, .ref mo_acane, .ref mo_ais, .ref mo_astrandOf, .ref mo_aweight, .ref mo_aheight, .ref mo_achairOf, .ref mo_anoteMinute, .ref mo_anoteWho, .ref mo_anoteIs, .ref mo_atoldCane, .ref mo_anewScalar, .ref mo_anewCane, .ref mo_anewHeight, .ref mo_anewStrand, .ref mo_anewChair, .ref mo_anewWeight, .int mo_taped, .int mo_p, .int mo_fault, .int mo_slot, .int mo_rules, .int mo_entries, .int mo_deep, .int mo_counted, .int mo_opened, .int mo_words, .ref mo_atape, .ref mo_asort, .ref mo_anumber, .ref mo_aclauses, .ref mo_asumAt, .ref mo_atestAt, .ref mo_aendAt, .ref mo_aopen, .ref mo_aasked, .ref mo_astack, .ref mo_amust, .ref mo_apast, .ref mo_apastOf, .int mo_pastMany, .int mo_pastAt, .int mo_takesBack, .ref mo_acanRise, .ref mo_afirstHas, .ref mo_asecondHas, .ref mo_alay, .ref mo_ashows, .ref mo_aimages, .ref mo_aisMade, .int mo_imageAt, .int mo_goesBack])), (mo_ais, hcI k 8 mo_ris), (mo_ascalar, hcI k 8 (sc8 mo_s0 mo_s1 mo_s2 mo_s3 mo_s4 mo_s5 mo_s6 mo_s7))]) → va_S A s.heap H locs → lv_has ls 4 [(3, .int L3_1), (2, .int L2_1), (0, .ref mo), (1, .int x1)] → W p l e (rmK 2 0 0) s m (List.toArray [.ref mo, .int x1]) below meth c H locs 0 0 (MQ below (va_Qi (fun (r : Int32) (u : Unit) => (TI mo_s3 mo_ris x1 r ∧ 0 ≤ r.toInt ∧ r.toInt ≤ 255)) (hcB D (fun u : Unit => [(mo, .inr (7, [.int mo_thrown, .ref mo_ascalar, .ref mo_acane, .ref mo_ais, .ref mo_astrandOf, .ref mo_aweight, .ref mo_aheight, .ref mo_achairOf, .ref mo_anoteMinute, .ref mo_anoteWho, .ref mo_anoteIs, .ref mo_atoldCane, .ref mo_anewScalar, .ref mo_anewCane, .ref mo_anewHeight, .ref mo_anewStrand, .ref mo_anewChair, .ref mo_anewWeight, .int mo_taped, .int mo_p, .int mo_fault, .int mo_slot, .int mo_rules, .int mo_entries, .int mo_deep, .int mo_counted, .int mo_opened, .int mo_words, .ref mo_atape, .ref mo_asort, .ref mo_anumber, .ref mo_aclauses, .ref mo_asumAt, .ref mo_atestAt, .ref mo_aendAt, .ref mo_aopen, .ref mo_aasked, .ref mo_astack, .ref mo_amust, .ref mo_apast, .ref mo_apastOf, .int mo_pastMany, .int mo_pastAt, .int mo_takesBack, .ref mo_acanRise, .ref mo_afirstHas, .ref mo_asecondHas, .ref mo_alay, .ref mo_ashows, .ref mo_aimages, .ref mo_aisMade, .int mo_imageAt, .int mo_goesBack])), (mo_ais, hcI k 8 mo_ris), (mo_ascalar, hcI k 8 (sc8 mo_s0 mo_s1 mo_s2 mo_s3 mo_s4 mo_s5 mo_s6 mo_s7))]) A) A) (List.toArray [.ref mo, .int x1]) s 0 0 A) (F0 m 4 ls []) := by
    intro fu
    induction fu with
    | zero =>
      intro L2_1 L3_1 bL3_1 hI1_1 hp1_1 hm
      have bL3_1_l := bL3_1.1
      have bL3_1_u := bL3_1.2
      exact absurd hm (by omega)
    | succ fu ih1 =>
      intro L2_1 L3_1 bL3_1 hI1_1 hp1_1 hm H locs ls hP hD hS hl
      have bL3_1_l := bL3_1.1
      have bL3_1_u := bL3_1.2
      refine lv_iload_n hx hb dX9_those_4 rfl (lv_at hl 0 rfl) ?_
      refine lv_aload_n hx hb dX9_those_5 rfl (lv_at hl 2 rfl) ?_
      refine va_get (D := D) (ci := 7) (v := .ref mo_ascalar) (C := RX9) (T := TX9) (N := 53) hx hb hts in9 hown hG.1 hP 0 rfl rfl 1 (by decide) (hts (.fieldLink RX9 9 "ChairCaneModel" "scalar" "[I") (by decide +kernel)) (fun _ h9 => h9) rfl dX9_those_6 ?_
      refine lv_iconst (v := 3) hx hb dX9_those_9 (by decide) ?_
      refine va_iald hx hb hG.1 hP 2 0 rfl rfl (by unfold vp_in; decide) dX9_those_10 ?_
      refine hc_is (z := mo_s3) (by rw [show Int32.toNatClampNeg 3 = 3 from by decide]; rfl) ?_
      refine lv_icmp_ge (tgt := 40) hx hb dX9_those_11 (by decide) (fun c2 => ?_) (fun c2 => ?_)
      · have fc2 := cx_ge_t (a := L3_1.toInt) (b := mo_s3.toInt) rfl rfl c2
        refine lv_iload_n hx hb dX9_those_40 rfl (lv_at hl 1 rfl) ?_
        exact hc_end hx hb hr hlocks () ((by (try dsimp only); exact (by have q7 := TI_le hp1_1 (q' := mo_s3) (by omega); have q8 := TI_255 q7 (by omega); exact ⟨q7, q8.1, q8.2⟩))) hP hD hS dX9_those_41
      · have fc2 := cx_ge_f (a := L3_1.toInt) (b := mo_s3.toInt) rfl rfl c2
        refine lv_iload_n hx hb dX9_those_14 rfl (lv_at hl 1 rfl) ?_
        refine lv_aload_n hx hb dX9_those_15 rfl (lv_at hl 2 rfl) ?_
        refine va_get (D := D) (ci := 7) (v := .ref mo_ais) (C := RX9) (T := TX9) (N := 53) hx hb hts in9 hown hG.1 hP 0 rfl rfl 3 (by decide) (hts (.fieldLink RX9 16 "ChairCaneModel" "is" "[I") (by decide +kernel)) (fun _ h9 => h9) rfl dX9_those_16 ?_
        refine lv_iload_n hx hb dX9_those_19 rfl (lv_at hl 0 rfl) ?_
        refine va_iald hx hb hG.1 hP 1 0 rfl rfl (vp_in_iff.mpr ⟨by omega, by omega⟩) dX9_those_20 ?_
        refine lv_topi (fun z3 ez3 => ?_)
        refine lv_iload_n hx hb dX9_those_21 rfl (lv_at hl 3 rfl) ?_
        refine lv_icmp_ne (tgt := 31) hx hb dX9_those_22 (by decide) (fun c4 => ?_) (fun c4 => ?_)
        · have fc4 := cx_ne_t (a := z3.toInt) (b := x1.toInt) rfl rfl c4
          refine lv_iconst (v := 0) hx hb dX9_those_31 (by decide) ?_
          refine lv_ior hx hb dX9_those_32 ?_
          refine lv_topi (fun z5 ez5 => ?_)
          refine lv_istore_n (lv' := [(2, .int z5), (3, .int L3_1), (0, .ref mo), (1, .int x1)]) hx hb dX9_those_33 rfl hl (by decide) rfl (fun ls hl => ?_)
          obtain ⟨z6, ez6⟩ : ∃ z : Int32, z = L3_1 + 1 := ⟨_, rfl⟩
          have tz6 : z6.toInt = L3_1.toInt + (1) := ai_add rfl (by decide) ez6 (by omega) (by omega)
          refine lv_iinc (v := z6) (lv' := [(3, .int z6), (2, .int z5), (0, .ref mo), (1, .int x1)]) hx hb dX9_those_34 hl (k := 1) rfl (by rw [ez6]; rfl) (by decide) rfl (fun ls hl => ?_)
          refine lv_goto (tgt := 4) hx hb dX9_those_37 (by decide) ?_
          exact ih1 z5 z6 ⟨by omega, by omega⟩ (by omega) (TI_f hp1_1 tz6 ez5) (by omega) _ _ _ hP hD hS (lv_sub hl [0, 1, 2, 3] rfl)
        · have fc4 := cx_ne_f (a := z3.toInt) (b := x1.toInt) rfl rfl c4
          refine lv_iconst (v := 1) hx hb dX9_those_25 (by decide) ?_
          refine lv_iload_n hx hb dX9_those_26 rfl (lv_at hl 0 rfl) ?_
          refine lv_ishl hx hb dX9_those_27 ?_
          refine lv_topi (fun z7 ez7 => ?_)
          have bz7 : iv (1) (256) z7 := ai_shl (by omega) (by omega) ez7
          have bz7_l := bz7.1
          have bz7_u := bz7.2
          refine lv_goto (tgt := 32) hx hb dX9_those_28 (by decide) ?_
          refine lv_ior hx hb dX9_those_32 ?_
          refine lv_topi (fun z8 ez8 => ?_)
          refine lv_istore_n (lv' := [(2, .int z8), (3, .int L3_1), (0, .ref mo), (1, .int x1)]) hx hb dX9_those_33 rfl hl (by decide) rfl (fun ls hl => ?_)
          obtain ⟨z9, ez9⟩ : ∃ z : Int32, z = L3_1 + 1 := ⟨_, rfl⟩
          have tz9 : z9.toInt = L3_1.toInt + (1) := ai_add rfl (by decide) ez9 (by omega) (by omega)
          refine lv_iinc (v := z9) (lv' := [(3, .int z9), (2, .int z8), (0, .ref mo), (1, .int x1)]) hx hb dX9_those_34 hl (k := 1) rfl (by rw [ez9]; rfl) (by decide) rfl (fun ls hl => ?_)
          refine lv_goto (tgt := 4) hx hb dX9_those_37 (by decide) ?_
          exact ih1 z8 z9 ⟨by omega, by omega⟩ (by omega) (TI_t hp1_1 (by omega) (by omega) tz9 ez3 fc4 ez7 ez8) (by omega) _ _ _ hP hD hS (lv_sub hl [0, 1, 2, 3] rfl)
  exact loop1 100 0 0 (iv_lit (by decide) (by decide)) (by have q0 : (0 : Int32).toInt = 0 := (by decide); have q1 : (0 : Int32).toInt = 0 := (by decide); omega) (TI_0) (by have q0 : (0 : Int32).toInt = 0 := (by decide); have q1 : (0 : Int32).toInt = 0 := (by decide); omega) _ _ _ hP hD hS hl
set_option maxHeartbeats 4000000 in
set_option maxRecDepth 100000 in
theorem i_X9_onStrand (l : Launch) (D : va_G) (k : Nat → ClassId) (sz : Nat) (x1 : Int32) (x2 : Int32) (mo : Nat) (mo_thrown : Int32) (mo_ascalar : Nat) (mo_acane : Nat) (mo_ais : Nat) (mo_astrandOf : Nat) (mo_aweight : Nat) (mo_aheight : Nat) (mo_achairOf : Nat) (mo_anoteMinute : Nat) (mo_anoteWho : Nat) (mo_anoteIs : Nat) (mo_atoldCane : Nat) (mo_anewScalar : Nat) (mo_anewCane : Nat) (mo_anewHeight : Nat) (mo_anewStrand : Nat) (mo_anewChair : Nat) (mo_anewWeight : Nat) (mo_taped : Int32) (mo_p : Int32) (mo_fault : Int32) (mo_slot : Int32) (mo_rules : Int32) (mo_entries : Int32) (mo_deep : Int32) (mo_counted : Int32) (mo_opened : Int32) (mo_words : Int32) (mo_atape : Nat) (mo_asort : Nat) (mo_anumber : Nat) (mo_aclauses : Nat) (mo_asumAt : Nat) (mo_atestAt : Nat) (mo_aendAt : Nat) (mo_aopen : Nat) (mo_aasked : Nat) (mo_astack : Nat) (mo_amust : Nat) (mo_apast : Nat) (mo_apastOf : Nat) (mo_pastMany : Int32) (mo_pastAt : Int32) (mo_takesBack : Int32) (mo_acanRise : Nat) (mo_afirstHas : Nat) (mo_asecondHas : Nat) (mo_alay : Nat) (mo_ashows : Nat) (mo_aimages : Nat) (mo_aisMade : Nat) (mo_imageAt : Int32) (mo_goesBack : Int32) (mo_rstrandOf : Nat → Int32) (mo_rweight : Nat → Int32) (mo_rchairOf : Nat → Int32) (mo_s0 : Int32) (mo_s1 : Int32) (mo_s2 : Int32) (mo_s3 : Int32) (mo_s4 : Int32) (mo_s5 : Int32) (mo_s6 : Int32) (mo_s7 : Int32) (h_mo_taped : iv (0) (400) mo_taped) (h_mo_p : iv (0) (402) mo_p) (h_mo_fault : iv (0) (4000) mo_fault) (h_mo_slot : iv (0) (5) mo_slot) (h_mo_rules : iv (0) (6) mo_rules) (h_mo_entries : iv (0) (300) mo_entries) (h_mo_counted : iv (0) (70) mo_counted) (h_mo_opened : iv (0) (402) mo_opened) (h_mo_words : iv (11) (11) mo_words) (h_mo_pastMany : iv (0) (20) mo_pastMany) (h_mo_pastAt : iv (0) (260) mo_pastAt) (h_mo_takesBack : iv (0) (1) mo_takesBack) (h_mo_imageAt : iv (0) (2000) mo_imageAt) (h_mo_goesBack : iv (0) (1) mo_goesBack) (h_mo_rweight : rowIn (0) (20) mo_rweight) (h_mo_rchairOf : rowIn (0) (7) mo_rchairOf) (h_mo_s1 : iv (0) (4) mo_s1) (h_mo_s2 : iv (0) (8) mo_s2) (h_mo_s3 : iv (0) (8) mo_s3) (h_mo_s5 : iv (0) (10) mo_s5) (h_mo_s7 : iv (-1) (5) mo_s7) (hh_HallOk : HallOk mo_s2 mo_s3 mo_rstrandOf mo_rchairOf mo_rweight) : CtI l yX9_onStrand wsX9_onStrand (rmK 2 0 0) [.ref mo, .int x1, .int x2] D k sz ([(mo, .inr (7, [.int mo_thrown, .ref mo_ascalar, .ref mo_acane, .ref mo_ais, .ref mo_astrandOf, .ref mo_aweight, .ref mo_aheight, .ref mo_achairOf, .ref mo_anoteMinute, .ref mo_anoteWho, .ref mo_anoteIs, .ref mo_atoldCane, .ref mo_anewScalar, .ref mo_anewCane, .ref mo_anewHeight, .ref mo_anewStrand, .ref mo_anewChair, .ref mo_anewWeight, .int mo_taped, .int mo_p, .int mo_fault, .int mo_slot, .int mo_rules, .int mo_entries, .int mo_deep, .int mo_counted, .int mo_opened, .int mo_words, .ref mo_atape, .ref mo_asort, .ref mo_anumber, .ref mo_aclauses, .ref mo_asumAt, .ref mo_atestAt, .ref mo_aendAt, .ref mo_aopen, .ref mo_aasked, .ref mo_astack, .ref mo_amust, .ref mo_apast, .ref mo_apastOf, .int mo_pastMany, .int mo_pastAt, .int mo_takesBack, .ref mo_acanRise, .ref mo_afirstHas, .ref mo_asecondHas, .ref mo_alay, .ref mo_ashows, .ref mo_aimages, .ref mo_aisMade, .int mo_imageAt, .int mo_goesBack])), (mo_astrandOf, hcI k 8 mo_rstrandOf), (mo_aweight, hcI k 8 mo_rweight), (mo_achairOf, hcI k 8 mo_rchairOf), (mo_ascalar, hcI k 8 (sc8 mo_s0 mo_s1 mo_s2 mo_s3 mo_s4 mo_s5 mo_s6 mo_s7))]) (fun (r : Int32) (u : Unit) => (∀ j : Nat, (j : Int) < mo_s3.toInt → bt x1 j = true → mo_rstrandOf (Int32.toNatClampNeg (mo_rchairOf j)) = x2 → bt r j = true)) (fun u : Unit => [(mo, .inr (7, [.int mo_thrown, .ref mo_ascalar, .ref mo_acane, .ref mo_ais, .ref mo_astrandOf, .ref mo_aweight, .ref mo_aheight, .ref mo_achairOf, .ref mo_anoteMinute, .ref mo_anoteWho, .ref mo_anoteIs, .ref mo_atoldCane, .ref mo_anewScalar, .ref mo_anewCane, .ref mo_anewHeight, .ref mo_anewStrand, .ref mo_anewChair, .ref mo_anewWeight, .int mo_taped, .int mo_p, .int mo_fault, .int mo_slot, .int mo_rules, .int mo_entries, .int mo_deep, .int mo_counted, .int mo_opened, .int mo_words, .ref mo_atape, .ref mo_asort, .ref mo_anumber, .ref mo_aclauses, .ref mo_asumAt, .ref mo_atestAt, .ref mo_aendAt, .ref mo_aopen, .ref mo_aasked, .ref mo_astack, .ref mo_amust, .ref mo_apast, .ref mo_apastOf, .int mo_pastMany, .int mo_pastAt, .int mo_takesBack, .ref mo_acanRise, .ref mo_afirstHas, .ref mo_asecondHas, .ref mo_alay, .ref mo_ashows, .ref mo_aimages, .ref mo_aisMade, .int mo_imageAt, .int mo_goesBack])), (mo_astrandOf, hcI k 8 mo_rstrandOf), (mo_aweight, hcI k 8 mo_rweight), (mo_achairOf, hcI k 8 mo_rchairOf), (mo_ascalar, hcI k 8 (sc8 mo_s0 mo_s1 mo_s2 mo_s3 mo_s4 mo_s5 mo_s6 mo_s7))]) 0 0 := by
  have h_mo_taped_l := h_mo_taped.1
  have h_mo_taped_u := h_mo_taped.2
  have h_mo_p_l := h_mo_p.1
  have h_mo_p_u := h_mo_p.2
  have h_mo_fault_l := h_mo_fault.1
  have h_mo_fault_u := h_mo_fault.2
  have h_mo_slot_l := h_mo_slot.1
  have h_mo_slot_u := h_mo_slot.2
  have h_mo_rules_l := h_mo_rules.1
  have h_mo_rules_u := h_mo_rules.2
  have h_mo_entries_l := h_mo_entries.1
  have h_mo_entries_u := h_mo_entries.2
  have h_mo_counted_l := h_mo_counted.1
  have h_mo_counted_u := h_mo_counted.2
  have h_mo_opened_l := h_mo_opened.1
  have h_mo_opened_u := h_mo_opened.2
  have h_mo_words_l := h_mo_words.1
  have h_mo_words_u := h_mo_words.2
  have h_mo_pastMany_l := h_mo_pastMany.1
  have h_mo_pastMany_u := h_mo_pastMany.2
  have h_mo_pastAt_l := h_mo_pastAt.1
  have h_mo_pastAt_u := h_mo_pastAt.2
  have h_mo_takesBack_l := h_mo_takesBack.1
  have h_mo_takesBack_u := h_mo_takesBack.2
  have h_mo_imageAt_l := h_mo_imageAt.1
  have h_mo_imageAt_u := h_mo_imageAt.2
  have h_mo_goesBack_l := h_mo_goesBack.1
  have h_mo_goesBack_u := h_mo_goesBack.2
  have h_mo_s1_l := h_mo_s1.1
  have h_mo_s1_u := h_mo_s1.2
  have h_mo_s2_l := h_mo_s2.1
  have h_mo_s2_u := h_mo_s2.2
  have h_mo_s3_l := h_mo_s3.1
  have h_mo_s3_u := h_mo_s3.2
  have h_mo_s5_l := h_mo_s5.1
  have h_mo_s5_u := h_mo_s5.2
  have h_mo_s7_l := h_mo_s7.1
  have h_mo_s7_u := h_mo_s7.2
  refine CtI.mk (cc := cX9_onStrand) (maxL := 5) (ret := (some .int)) (by decide) rfl (Nat.le_of_ble_eq_true rfl) ?_
  intro p e s m below meth c A ls E hP hD hS hl
  obtain ⟨hx, hb, hr, hml, hown, hts, hlocks, hin, hG, hA⟩ := E
  have hown : s.vm.findClass RX9 = some m.cls := hown
  have in9 : ∀ w ∈ u_ws RX9 TX9 53, w ∈ wsX9_onStrand := fun _ h => List.mem_cons_of_mem _ (List.mem_append_right _ h)
  have hl : lv_has ls 5 [(0, .ref mo), (1, .int x1), (2, .int x2)] := hl
  refine lv_iconst (v := 0) hx hb dX9_onStrand_0 (by decide) ?_
  refine lv_istore_n (lv' := [(3, .int 0), (0, .ref mo), (1, .int x1), (2, .int x2)]) hx hb dX9_onStrand_1 rfl hl (by decide) rfl (fun ls hl => ?_)
  refine lv_iconst (v := 0) hx hb dX9_onStrand_2 (by decide) ?_
  refine lv_istore (lv' := [(4, .int 0), (3, .int 0), (0, .ref mo), (1, .int x1), (2, .int x2)]) hx hb dX9_onStrand_3 hl (by decide) rfl (fun ls hl => ?_)
  have loop1 : ∀ (fu : Nat) (L3_1 : Int32) (L4_1 : Int32), iv (0) (8) L4_1 → L4_1.toInt ≤ mo_s3.toInt → OI mo_rstrandOf mo_rchairOf x1 x2 L4_1 L3_1 → 9 - L4_1.toInt < (fu : Int) → ∀ (H : Heap) (locs : List Loc) (ls : Array Slot), va_P D vwCl ([(mo, .inr (7, [.int mo_thrown, .ref mo_ascalar, .ref mo_acane, .ref mo_ais, .ref mo_astrandOf, .ref mo_aweight, .ref mo_aheight, .ref mo_achairOf, .ref mo_anoteMinute, .ref mo_anoteWho, .ref mo_anoteIs, .ref mo_atoldCane, .ref mo_anewScalar, .ref mo_anewCane, .ref mo_anewHeight, .ref mo_anewStrand, .ref mo_anewChair, .ref mo_anewWeight, .int mo_taped, .int mo_p, .int mo_fault, .int mo_slot, .int mo_rules, .int mo_entries, .int mo_deep, .int mo_counted, .int mo_opened, .int mo_words, .ref mo_atape, .ref mo_asort, .ref mo_anumber, .ref mo_aclauses, .ref mo_asumAt, .ref mo_atestAt, .ref mo_aendAt, .ref mo_aopen, .ref mo_aasked, .ref mo_astack, .ref mo_amust, .ref mo_apast, .ref mo_apastOf, .int mo_pastMany, .int mo_pastAt, .int mo_takesBack, .ref mo_acanRise, .ref mo_afirstHas, .ref mo_asecondHas, .ref mo_alay, .ref mo_ashows, .ref mo_aimages, .ref mo_aisMade, .int mo_imageAt, .int mo_goesBack])), (mo_astrandOf, hcI k 8 mo_rstrandOf), (mo_aweight, hcI k 8 mo_rweight), (mo_achairOf, hcI k 8 mo_rchairOf), (mo_ascalar, hcI k 8 (sc8 mo_s0 mo_s1 mo_s2 mo_s3 mo_s4 mo_s5 mo_s6 mo_s7))]) H → va_D A ([(mo, .inr (7, [.int mo_thrown, .ref mo_ascalar, .ref mo_acane, .ref mo_ais, .ref mo_astrandOf, .ref mo_aweight, .ref mo_aheight, .ref mo_achairOf, .ref mo_anoteMinute, .ref mo_anoteWho, .ref mo_anoteIs, .ref mo_atoldCane, .ref mo_anewScalar, .ref mo_anewCane, .ref mo_anewHeight, .ref mo_anewStrand, .ref mo_anewChair, .ref mo_anewWeight, .int mo_taped, .int mo_p, .int mo_fault, .int mo_slot, .int mo_rules, .int mo_entries, .int mo_deep, .int mo_counted, .int mo_opened, .int mo_words, .ref mo_atape, .ref mo_asort, .ref mo_anumber, .ref mo_aclauses, .ref mo_asumAt, .ref mo_atestAt, .ref mo_aendAt, .ref mo_aopen, .ref mo_aasked, .ref mo_astack, .ref mo_amust, .ref mo_apast, .ref mo_apastOf, .int mo_pastMany, .int mo_pastAt, .int mo_takesBack, .ref mo_acanRise, .ref mo_afirstHas, .ref mo_asecondHas, .ref mo_alay, .ref mo_ashows, .ref mo_aimages, .ref mo_aisMade, .int mo_imageAt, .int mo_goesBack])), (mo_astrandOf, hcI k 8 mo_rstrandOf), (mo_aweight, hcI k 8 mo_rweight), (mo_achairOf, hcI k 8 mo_rchairOf), (mo_ascalar, hcI k 8 (sc8 mo_s0 mo_s1 mo_s2 mo_s3 mo_s4 mo_s5 mo_s6 mo_s7))]) → va_S A s.heap H locs → lv_has ls 5 [(4, .int L4_1), (3, .int L3_1), (0, .ref mo), (1, .int x1), (2, .int x2)] → W p l e (rmK 2 0 0) s m (List.toArray [.ref mo, .int x1, .int x2]) below meth c H locs 0 0 (MQ below (va_Qi (fun (r : Int32) (u : Unit) => (∀ j : Nat, (j : Int) < mo_s3.toInt → bt x1 j = true → mo_rstrandOf (Int32.toNatClampNeg (mo_rchairOf j)) = x2 → bt r j = true)) (hcB D (fun u : Unit => [(mo, .inr (7, [.int mo_thrown, .ref mo_ascalar, .ref mo_acane, .ref mo_ais, .ref mo_astrandOf, .ref mo_aweight, .ref mo_aheight, .ref mo_achairOf, .ref mo_anoteMinute, .ref mo_anoteWho, .ref mo_anoteIs, .ref mo_atoldCane, .ref mo_anewScalar, .ref mo_anewCane, .ref mo_anewHeight, .ref mo_anewStrand, .ref mo_anewChair, .ref mo_anewWeight, .int mo_taped, .int mo_p, .int mo_fault, .int mo_slot, .int mo_rules, .int mo_entries, .int mo_deep, .int mo_counted, .int mo_opened, .int mo_words, .ref mo_atape, .ref mo_asort, .ref mo_anumber, .ref mo_aclauses, .ref mo_asumAt, .ref mo_atestAt, .ref mo_aendAt, .ref mo_aopen, .ref mo_aasked, .ref mo_astack, .ref mo_amust, .ref mo_apast, .ref mo_apastOf, .int mo_pastMany, .int mo_pastAt, .int mo_takesBack, .ref mo_acanRise, .ref mo_afirstHas, .ref mo_asecondHas, .ref mo_alay, .ref mo_ashows, .ref mo_aimages, .ref mo_aisMade, .int mo_imageAt, .int mo_goesBack])), (mo_astrandOf, hcI k 8 mo_rstrandOf), (mo_aweight, hcI k 8 mo_rweight), (mo_achairOf, hcI k 8 mo_rchairOf), (mo_ascalar, hcI k 8 (sc8 mo_s0 mo_s1 mo_s2 mo_s3 mo_s4 mo_s5 mo_s6 mo_s7))]) A) A) (List.toArray [.ref mo, .int x1, .int x2]) s 0 0 A) (F0 m 5 ls []) := by
    intro fu
    induction fu with
    | zero =>
      intro L3_1 L4_1 bL4_1 hI1_1 hp1_1 hm
      have bL4_1_l := bL4_1.1
      have bL4_1_u := bL4_1.2
      exact absurd hm (by omega)
    | succ fu ih1 =>
      intro L3_1 L4_1 bL4_1 hI1_1 hp1_1 hm H locs ls hP hD hS hl
      have bL4_1_l := bL4_1.1
      have bL4_1_u := bL4_1.2
      refine lv_iload hx hb dX9_onStrand_5 (lv_at hl 0 rfl) ?_
      refine lv_aload_n hx hb dX9_onStrand_7 rfl (lv_at hl 2 rfl) ?_
      refine va_get (D := D) (ci := 7) (v := .ref mo_ascalar) (C := RX9) (T := TX9) (N := 53) hx hb hts in9 hown hG.1 hP 0 rfl rfl 1 (by decide) (hts (.fieldLink RX9 9 "ChairCaneModel" "scalar" "[I") (by decide +kernel)) (fun _ h9 => h9) rfl dX9_onStrand_8 ?_
      refine lv_iconst (v := 3) hx hb dX9_onStrand_11 (by decide) ?_
      refine va_iald hx hb hG.1 hP 4 0 rfl rfl (by unfold vp_in; decide) dX9_onStrand_12 ?_
      refine hc_is (z := mo_s3) (by rw [show Int32.toNatClampNeg 3 = 3 from by decide]; rfl) ?_
      refine lv_icmp_ge (tgt := 58) hx hb dX9_onStrand_13 (by decide) (fun c2 => ?_) (fun c2 => ?_)
      · have fc2 := cx_ge_t (a := L4_1.toInt) (b := mo_s3.toInt) rfl rfl c2
        refine lv_iload_n hx hb dX9_onStrand_58 rfl (lv_at hl 1 rfl) ?_
        exact hc_end hx hb hr hlocks () ((by (try dsimp only); exact (fun j hj => hp1_1 j (by omega)))) hP hD hS dX9_onStrand_59
      · have fc2 := cx_ge_f (a := L4_1.toInt) (b := mo_s3.toInt) rfl rfl c2
        refine lv_iload_n hx hb dX9_onStrand_16 rfl (lv_at hl 1 rfl) ?_
        refine lv_iload_n hx hb dX9_onStrand_17 rfl (lv_at hl 3 rfl) ?_
        refine lv_iload hx hb dX9_onStrand_18 (lv_at hl 0 rfl) ?_
        refine hc_Si (As := [.int x1, .int L4_1]) (rest := [.int L3_1]) (n := 2) (wr := [(mo, .inr (7, [.int mo_thrown, .ref mo_ascalar, .ref mo_acane, .ref mo_ais, .ref mo_astrandOf, .ref mo_aweight, .ref mo_aheight, .ref mo_achairOf, .ref mo_anoteMinute, .ref mo_anoteWho, .ref mo_anoteIs, .ref mo_atoldCane, .ref mo_anewScalar, .ref mo_anewCane, .ref mo_anewHeight, .ref mo_anewStrand, .ref mo_anewChair, .ref mo_anewWeight, .int mo_taped, .int mo_p, .int mo_fault, .int mo_slot, .int mo_rules, .int mo_entries, .int mo_deep, .int mo_counted, .int mo_opened, .int mo_words, .ref mo_atape, .ref mo_asort, .ref mo_anumber, .ref mo_aclauses, .ref mo_asumAt, .ref mo_atestAt, .ref mo_aendAt, .ref mo_aopen, .ref mo_aasked, .ref mo_astack, .ref mo_amust, .ref mo_apast, .ref mo_apastOf, .int mo_pastMany, .int mo_pastAt, .int mo_takesBack, .ref mo_acanRise, .ref mo_afirstHas, .ref mo_asecondHas, .ref mo_alay, .ref mo_ashows, .ref mo_aimages, .ref mo_aisMade, .int mo_imageAt, .int mo_goesBack])), (mo_astrandOf, hcI k 8 mo_rstrandOf), (mo_aweight, hcI k 8 mo_rweight), (mo_achairOf, hcI k 8 mo_rchairOf), (mo_ascalar, hcI k 8 (sc8 mo_s0 mo_s1 mo_s2 mo_s3 mo_s4 mo_s5 mo_s6 mo_s7))]) hx hb hml hown hts hG hA hP hD hS hl.1 [] [0, 1, 2, 3, 4] (i_X9_has l D k _ x1 L4_1 ⟨by omega, by omega⟩) gX9_onStrand_X9_has rfl ⟨rfl, rfl, Nat.le_of_ble_eq_true rfl, Nat.le_of_ble_eq_true rfl⟩ (by decide +kernel) rfl rfl ⟨by decide, by decide, by decide⟩ ⟨rfl, rfl, Nat.le_of_ble_eq_true rfl, Nat.le_of_ble_eq_true rfl, Nat.le_of_ble_eq_true rfl⟩ dX9_onStrand_20 (fun r4 u3 H locs hw hP hD hS => ?_)
        have hP : va_P D vwCl ([(mo, .inr (7, [.int mo_thrown, .ref mo_ascalar, .ref mo_acane, .ref mo_ais, .ref mo_astrandOf, .ref mo_aweight, .ref mo_aheight, .ref mo_achairOf, .ref mo_anoteMinute, .ref mo_anoteWho, .ref mo_anoteIs, .ref mo_atoldCane, .ref mo_anewScalar, .ref mo_anewCane, .ref mo_anewHeight, .ref mo_anewStrand, .ref mo_anewChair, .ref mo_anewWeight, .int mo_taped, .int mo_p, .int mo_fault, .int mo_slot, .int mo_rules, .int mo_entries, .int mo_deep, .int mo_counted, .int mo_opened, .int mo_words, .ref mo_atape, .ref mo_asort, .ref mo_anumber, .ref mo_aclauses, .ref mo_asumAt, .ref mo_atestAt, .ref mo_aendAt, .ref mo_aopen, .ref mo_aasked, .ref mo_astack, .ref mo_amust, .ref mo_apast, .ref mo_apastOf, .int mo_pastMany, .int mo_pastAt, .int mo_takesBack, .ref mo_acanRise, .ref mo_afirstHas, .ref mo_asecondHas, .ref mo_alay, .ref mo_ashows, .ref mo_aimages, .ref mo_aisMade, .int mo_imageAt, .int mo_goesBack])), (mo_astrandOf, hcI k 8 mo_rstrandOf), (mo_aweight, hcI k 8 mo_rweight), (mo_achairOf, hcI k 8 mo_rchairOf), (mo_ascalar, hcI k 8 (sc8 mo_s0 mo_s1 mo_s2 mo_s3 mo_s4 mo_s5 mo_s6 mo_s7))]) H := hP
        have hD : va_D A ([(mo, .inr (7, [.int mo_thrown, .ref mo_ascalar, .ref mo_acane, .ref mo_ais, .ref mo_astrandOf, .ref mo_aweight, .ref mo_aheight, .ref mo_achairOf, .ref mo_anoteMinute, .ref mo_anoteWho, .ref mo_anoteIs, .ref mo_atoldCane, .ref mo_anewScalar, .ref mo_anewCane, .ref mo_anewHeight, .ref mo_anewStrand, .ref mo_anewChair, .ref mo_anewWeight, .int mo_taped, .int mo_p, .int mo_fault, .int mo_slot, .int mo_rules, .int mo_entries, .int mo_deep, .int mo_counted, .int mo_opened, .int mo_words, .ref mo_atape, .ref mo_asort, .ref mo_anumber, .ref mo_aclauses, .ref mo_asumAt, .ref mo_atestAt, .ref mo_aendAt, .ref mo_aopen, .ref mo_aasked, .ref mo_astack, .ref mo_amust, .ref mo_apast, .ref mo_apastOf, .int mo_pastMany, .int mo_pastAt, .int mo_takesBack, .ref mo_acanRise, .ref mo_afirstHas, .ref mo_asecondHas, .ref mo_alay, .ref mo_ashows, .ref mo_aimages, .ref mo_aisMade, .int mo_imageAt, .int mo_goesBack])), (mo_astrandOf, hcI k 8 mo_rstrandOf), (mo_aweight, hcI k 8 mo_rweight), (mo_achairOf, hcI k 8 mo_rchairOf), (mo_ascalar, hcI k 8 (sc8 mo_s0 mo_s1 mo_s2 mo_s3 mo_s4 mo_s5 mo_s6 mo_s7))]) := hD
        obtain ⟨br4, rel5⟩ := hw
        have br4 : iv (0) (1) r4 := br4
        have br4_l := br4.1
        have br4_u := br4.2
        refine lv_if_eq (tgt := 49) hx hb dX9_onStrand_23 (by decide) (fun c6 => ?_) (fun c6 => ?_)
        · have fc6 := cx_eq_t (a := r4.toInt) (b := 0) rfl (by decide) c6
          refine lv_iconst (v := 0) hx hb dX9_onStrand_49 (by decide) ?_
          refine lv_ior hx hb dX9_onStrand_50 ?_
          refine lv_topi (fun z7 ez7 => ?_)
          refine lv_istore_n (lv' := [(3, .int z7), (4, .int L4_1), (0, .ref mo), (1, .int x1), (2, .int x2)]) hx hb dX9_onStrand_51 rfl hl (by decide) rfl (fun ls hl => ?_)
          obtain ⟨z8, ez8⟩ : ∃ z : Int32, z = L4_1 + 1 := ⟨_, rfl⟩
          have tz8 : z8.toInt = L4_1.toInt + (1) := ai_add rfl (by decide) ez8 (by omega) (by omega)
          refine lv_iinc (v := z8) (lv' := [(4, .int z8), (3, .int z7), (0, .ref mo), (1, .int x1), (2, .int x2)]) hx hb dX9_onStrand_52 hl (k := 1) rfl (by rw [ez8]; rfl) (by decide) rfl (fun ls hl => ?_)
          refine lv_goto (tgt := 5) hx hb dX9_onStrand_55 (by decide) ?_
          exact ih1 z7 z8 ⟨by omega, by omega⟩ (by omega) (OI_f hp1_1 (by omega) tz8 ez7 (fun hb _ => by rcases rel5 with g | g; exact absurd g.1 (by omega); exact absurd (g.2.symm.trans hb) (by decide))) (by omega) _ _ _ hP hD hS (lv_sub hl [0, 1, 2, 3, 4] rfl)
        · have fc6 := cx_eq_f (a := r4.toInt) (b := 0) rfl (by decide) c6
          refine lv_aload_n hx hb dX9_onStrand_26 rfl (lv_at hl 2 rfl) ?_
          refine va_get (D := D) (ci := 7) (v := .ref mo_astrandOf) (C := RX9) (T := TX9) (N := 53) hx hb hts in9 hown hG.1 hP 0 rfl rfl 4 (by decide) (hts (.fieldLink RX9 19 "ChairCaneModel" "strandOf" "[I") (by decide +kernel)) (fun _ h9 => h9) rfl dX9_onStrand_27 ?_
          refine lv_aload_n hx hb dX9_onStrand_30 rfl (lv_at hl 2 rfl) ?_
          refine va_get (D := D) (ci := 7) (v := .ref mo_achairOf) (C := RX9) (T := TX9) (N := 53) hx hb hts in9 hown hG.1 hP 0 rfl rfl 7 (by decide) (hts (.fieldLink RX9 28 "ChairCaneModel" "chairOf" "[I") (by decide +kernel)) (fun _ h9 => h9) rfl dX9_onStrand_31 ?_
          refine lv_iload hx hb dX9_onStrand_34 (lv_at hl 0 rfl) ?_
          refine va_iald hx hb hG.1 hP 3 0 rfl rfl (vp_in_iff.mpr ⟨by omega, by omega⟩) dX9_onStrand_36 ?_
          refine lv_topi (fun z9 ez9 => ?_)
          have bz9 : iv (0) (7) z9 := by rw [ez9]; exact h_mo_rchairOf _
          have bz9_l := bz9.1
          have bz9_u := bz9.2
          refine va_iald hx hb hG.1 hP 1 0 rfl rfl (vp_in_iff.mpr ⟨by omega, by omega⟩) dX9_onStrand_37 ?_
          refine lv_topi (fun z10 ez10 => ?_)
          have bz10 : iv (0) (3) z10 := HallOk.str hh_HallOk (q := L4_1) (by omega) (by omega) ez9 (by omega) ez10
          have bz10_l := bz10.1
          have bz10_u := bz10.2
          refine lv_iload_n hx hb dX9_onStrand_38 rfl (lv_at hl 4 rfl) ?_
          refine lv_icmp_ne (tgt := 49) hx hb dX9_onStrand_39 (by decide) (fun c11 => ?_) (fun c11 => ?_)
          · have fc11 := cx_ne_t (a := z10.toInt) (b := x2.toInt) rfl rfl c11
            refine lv_iconst (v := 0) hx hb dX9_onStrand_49 (by decide) ?_
            refine lv_ior hx hb dX9_onStrand_50 ?_
            refine lv_topi (fun z12 ez12 => ?_)
            refine lv_istore_n (lv' := [(3, .int z12), (4, .int L4_1), (0, .ref mo), (1, .int x1), (2, .int x2)]) hx hb dX9_onStrand_51 rfl hl (by decide) rfl (fun ls hl => ?_)
            obtain ⟨z13, ez13⟩ : ∃ z : Int32, z = L4_1 + 1 := ⟨_, rfl⟩
            have tz13 : z13.toInt = L4_1.toInt + (1) := ai_add rfl (by decide) ez13 (by omega) (by omega)
            refine lv_iinc (v := z13) (lv' := [(4, .int z13), (3, .int z12), (0, .ref mo), (1, .int x1), (2, .int x2)]) hx hb dX9_onStrand_52 hl (k := 1) rfl (by rw [ez13]; rfl) (by decide) rfl (fun ls hl => ?_)
            refine lv_goto (tgt := 5) hx hb dX9_onStrand_55 (by decide) ?_
            exact ih1 z12 z13 ⟨by omega, by omega⟩ (by omega) (OI_f hp1_1 (by omega) tz13 ez12 (fun _ hs => by rw [← ez9, ← ez10] at hs; exact absurd (by rw [hs]) fc11)) (by omega) _ _ _ hP hD hS (lv_sub hl [0, 1, 2, 3, 4] rfl)
          · have fc11 := cx_ne_f (a := z10.toInt) (b := x2.toInt) rfl rfl c11
            refine lv_iconst (v := 1) hx hb dX9_onStrand_42 (by decide) ?_
            refine lv_iload hx hb dX9_onStrand_43 (lv_at hl 0 rfl) ?_
            refine lv_ishl hx hb dX9_onStrand_45 ?_
            refine lv_topi (fun z14 ez14 => ?_)
            have bz14 : iv (1) (256) z14 := ai_shl (by omega) (by omega) ez14
            have bz14_l := bz14.1
            have bz14_u := bz14.2
            refine lv_goto (tgt := 50) hx hb dX9_onStrand_46 (by decide) ?_
            refine lv_ior hx hb dX9_onStrand_50 ?_
            refine lv_topi (fun z15 ez15 => ?_)
            refine lv_istore_n (lv' := [(3, .int z15), (4, .int L4_1), (0, .ref mo), (1, .int x1), (2, .int x2)]) hx hb dX9_onStrand_51 rfl hl (by decide) rfl (fun ls hl => ?_)
            obtain ⟨z16, ez16⟩ : ∃ z : Int32, z = L4_1 + 1 := ⟨_, rfl⟩
            have tz16 : z16.toInt = L4_1.toInt + (1) := ai_add rfl (by decide) ez16 (by omega) (by omega)
            refine lv_iinc (v := z16) (lv' := [(4, .int z16), (3, .int z15), (0, .ref mo), (1, .int x1), (2, .int x2)]) hx hb dX9_onStrand_52 hl (k := 1) rfl (by rw [ez16]; rfl) (by decide) rfl (fun ls hl => ?_)
            refine lv_goto (tgt := 5) hx hb dX9_onStrand_55 (by decide) ?_
            exact ih1 z15 z16 ⟨by omega, by omega⟩ (by omega) (OI_t hp1_1 (by omega) (by omega) tz16 ez14 ez15) (by omega) _ _ _ hP hD hS (lv_sub hl [0, 1, 2, 3, 4] rfl)
  exact loop1 100 0 0 (iv_lit (by decide) (by decide)) (by have q0 : (0 : Int32).toInt = 0 := (by decide); have q1 : (0 : Int32).toInt = 0 := (by decide); omega) (OI_0) (by have q0 : (0 : Int32).toInt = 0 := (by decide); have q1 : (0 : Int32).toInt = 0 := (by decide); omega) _ _ _ hP hD hS hl
set_option maxHeartbeats 4000000 in
set_option maxRecDepth 100000 in
theorem i_X9_weightOf (l : Launch) (D : va_G) (k : Nat → ClassId) (sz : Nat) (x1 : Int32) (mo : Nat) (mo_thrown : Int32) (mo_ascalar : Nat) (mo_acane : Nat) (mo_ais : Nat) (mo_astrandOf : Nat) (mo_aweight : Nat) (mo_aheight : Nat) (mo_achairOf : Nat) (mo_anoteMinute : Nat) (mo_anoteWho : Nat) (mo_anoteIs : Nat) (mo_atoldCane : Nat) (mo_anewScalar : Nat) (mo_anewCane : Nat) (mo_anewHeight : Nat) (mo_anewStrand : Nat) (mo_anewChair : Nat) (mo_anewWeight : Nat) (mo_taped : Int32) (mo_p : Int32) (mo_fault : Int32) (mo_slot : Int32) (mo_rules : Int32) (mo_entries : Int32) (mo_deep : Int32) (mo_counted : Int32) (mo_opened : Int32) (mo_words : Int32) (mo_atape : Nat) (mo_asort : Nat) (mo_anumber : Nat) (mo_aclauses : Nat) (mo_asumAt : Nat) (mo_atestAt : Nat) (mo_aendAt : Nat) (mo_aopen : Nat) (mo_aasked : Nat) (mo_astack : Nat) (mo_amust : Nat) (mo_apast : Nat) (mo_apastOf : Nat) (mo_pastMany : Int32) (mo_pastAt : Int32) (mo_takesBack : Int32) (mo_acanRise : Nat) (mo_afirstHas : Nat) (mo_asecondHas : Nat) (mo_alay : Nat) (mo_ashows : Nat) (mo_aimages : Nat) (mo_aisMade : Nat) (mo_imageAt : Int32) (mo_goesBack : Int32) (mo_rstrandOf : Nat → Int32) (mo_rweight : Nat → Int32) (mo_rchairOf : Nat → Int32) (mo_s0 : Int32) (mo_s1 : Int32) (mo_s2 : Int32) (mo_s3 : Int32) (mo_s4 : Int32) (mo_s5 : Int32) (mo_s6 : Int32) (mo_s7 : Int32) (h_mo_taped : iv (0) (400) mo_taped) (h_mo_p : iv (0) (402) mo_p) (h_mo_fault : iv (0) (4000) mo_fault) (h_mo_slot : iv (0) (5) mo_slot) (h_mo_rules : iv (0) (6) mo_rules) (h_mo_entries : iv (0) (300) mo_entries) (h_mo_counted : iv (0) (70) mo_counted) (h_mo_opened : iv (0) (402) mo_opened) (h_mo_words : iv (11) (11) mo_words) (h_mo_pastMany : iv (0) (20) mo_pastMany) (h_mo_pastAt : iv (0) (260) mo_pastAt) (h_mo_takesBack : iv (0) (1) mo_takesBack) (h_mo_imageAt : iv (0) (2000) mo_imageAt) (h_mo_goesBack : iv (0) (1) mo_goesBack) (h_mo_rweight : rowIn (0) (20) mo_rweight) (h_mo_rchairOf : rowIn (0) (7) mo_rchairOf) (h_mo_s1 : iv (0) (4) mo_s1) (h_mo_s2 : iv (0) (8) mo_s2) (h_mo_s3 : iv (0) (8) mo_s3) (h_mo_s5 : iv (0) (10) mo_s5) (h_mo_s7 : iv (-1) (5) mo_s7) (hh_HallOk : HallOk mo_s2 mo_s3 mo_rstrandOf mo_rchairOf mo_rweight) : CtI l yX9_weightOf wsX9_weightOf (rmK 2 0 0) [.ref mo, .int x1] D k sz ([(mo, .inr (7, [.int mo_thrown, .ref mo_ascalar, .ref mo_acane, .ref mo_ais, .ref mo_astrandOf, .ref mo_aweight, .ref mo_aheight, .ref mo_achairOf, .ref mo_anoteMinute, .ref mo_anoteWho, .ref mo_anoteIs, .ref mo_atoldCane, .ref mo_anewScalar, .ref mo_anewCane, .ref mo_anewHeight, .ref mo_anewStrand, .ref mo_anewChair, .ref mo_anewWeight, .int mo_taped, .int mo_p, .int mo_fault, .int mo_slot, .int mo_rules, .int mo_entries, .int mo_deep, .int mo_counted, .int mo_opened, .int mo_words, .ref mo_atape, .ref mo_asort, .ref mo_anumber, .ref mo_aclauses, .ref mo_asumAt, .ref mo_atestAt, .ref mo_aendAt, .ref mo_aopen, .ref mo_aasked, .ref mo_astack, .ref mo_amust, .ref mo_apast, .ref mo_apastOf, .int mo_pastMany, .int mo_pastAt, .int mo_takesBack, .ref mo_acanRise, .ref mo_afirstHas, .ref mo_asecondHas, .ref mo_alay, .ref mo_ashows, .ref mo_aimages, .ref mo_aisMade, .int mo_imageAt, .int mo_goesBack])), (mo_astrandOf, hcI k 8 mo_rstrandOf), (mo_aweight, hcI k 8 mo_rweight), (mo_achairOf, hcI k 8 mo_rchairOf), (mo_ascalar, hcI k 8 (sc8 mo_s0 mo_s1 mo_s2 mo_s3 mo_s4 mo_s5 mo_s6 mo_s7))]) (fun (r : Int32) (u : Unit) => iv (0) (160) r ∧ (∀ j : Nat, (j : Int) < mo_s3.toInt → bt x1 j = true → 1 ≤ r.toInt)) (fun u : Unit => [(mo, .inr (7, [.int mo_thrown, .ref mo_ascalar, .ref mo_acane, .ref mo_ais, .ref mo_astrandOf, .ref mo_aweight, .ref mo_aheight, .ref mo_achairOf, .ref mo_anoteMinute, .ref mo_anoteWho, .ref mo_anoteIs, .ref mo_atoldCane, .ref mo_anewScalar, .ref mo_anewCane, .ref mo_anewHeight, .ref mo_anewStrand, .ref mo_anewChair, .ref mo_anewWeight, .int mo_taped, .int mo_p, .int mo_fault, .int mo_slot, .int mo_rules, .int mo_entries, .int mo_deep, .int mo_counted, .int mo_opened, .int mo_words, .ref mo_atape, .ref mo_asort, .ref mo_anumber, .ref mo_aclauses, .ref mo_asumAt, .ref mo_atestAt, .ref mo_aendAt, .ref mo_aopen, .ref mo_aasked, .ref mo_astack, .ref mo_amust, .ref mo_apast, .ref mo_apastOf, .int mo_pastMany, .int mo_pastAt, .int mo_takesBack, .ref mo_acanRise, .ref mo_afirstHas, .ref mo_asecondHas, .ref mo_alay, .ref mo_ashows, .ref mo_aimages, .ref mo_aisMade, .int mo_imageAt, .int mo_goesBack])), (mo_astrandOf, hcI k 8 mo_rstrandOf), (mo_aweight, hcI k 8 mo_rweight), (mo_achairOf, hcI k 8 mo_rchairOf), (mo_ascalar, hcI k 8 (sc8 mo_s0 mo_s1 mo_s2 mo_s3 mo_s4 mo_s5 mo_s6 mo_s7))]) 0 0 := by
  have h_mo_taped_l := h_mo_taped.1
  have h_mo_taped_u := h_mo_taped.2
  have h_mo_p_l := h_mo_p.1
  have h_mo_p_u := h_mo_p.2
  have h_mo_fault_l := h_mo_fault.1
  have h_mo_fault_u := h_mo_fault.2
  have h_mo_slot_l := h_mo_slot.1
  have h_mo_slot_u := h_mo_slot.2
  have h_mo_rules_l := h_mo_rules.1
  have h_mo_rules_u := h_mo_rules.2
  have h_mo_entries_l := h_mo_entries.1
  have h_mo_entries_u := h_mo_entries.2
  have h_mo_counted_l := h_mo_counted.1
  have h_mo_counted_u := h_mo_counted.2
  have h_mo_opened_l := h_mo_opened.1
  have h_mo_opened_u := h_mo_opened.2
  have h_mo_words_l := h_mo_words.1
  have h_mo_words_u := h_mo_words.2
  have h_mo_pastMany_l := h_mo_pastMany.1
  have h_mo_pastMany_u := h_mo_pastMany.2
  have h_mo_pastAt_l := h_mo_pastAt.1
  have h_mo_pastAt_u := h_mo_pastAt.2
  have h_mo_takesBack_l := h_mo_takesBack.1
  have h_mo_takesBack_u := h_mo_takesBack.2
  have h_mo_imageAt_l := h_mo_imageAt.1
  have h_mo_imageAt_u := h_mo_imageAt.2
  have h_mo_goesBack_l := h_mo_goesBack.1
  have h_mo_goesBack_u := h_mo_goesBack.2
  have h_mo_s1_l := h_mo_s1.1
  have h_mo_s1_u := h_mo_s1.2
  have h_mo_s2_l := h_mo_s2.1
  have h_mo_s2_u := h_mo_s2.2
  have h_mo_s3_l := h_mo_s3.1
  have h_mo_s3_u := h_mo_s3.2
  have h_mo_s5_l := h_mo_s5.1
  have h_mo_s5_u := h_mo_s5.2
  have h_mo_s7_l := h_mo_s7.1
  have h_mo_s7_u := h_mo_s7.2
  refine CtI.mk (cc := cX9_weightOf) (maxL := 4) (ret := (some .int)) (by decide) rfl (Nat.le_of_ble_eq_true rfl) ?_
  intro p e s m below meth c A ls E hP hD hS hl
  obtain ⟨hx, hb, hr, hml, hown, hts, hlocks, hin, hG, hA⟩ := E
  have hown : s.vm.findClass RX9 = some m.cls := hown
  have in9 : ∀ w ∈ u_ws RX9 TX9 53, w ∈ wsX9_weightOf := fun _ h => List.mem_cons_of_mem _ (List.mem_append_right _ h)
  have hl : lv_has ls 4 [(0, .ref mo), (1, .int x1)] := hl
  refine lv_iconst (v := 0) hx hb dX9_weightOf_0 (by decide) ?_
  refine lv_istore_n (lv' := [(2, .int 0), (0, .ref mo), (1, .int x1)]) hx hb dX9_weightOf_1 rfl hl (by decide) rfl (fun ls hl => ?_)
  refine lv_iconst (v := 0) hx hb dX9_weightOf_2 (by decide) ?_
  refine lv_istore_n (lv' := [(3, .int 0), (2, .int 0), (0, .ref mo), (1, .int x1)]) hx hb dX9_weightOf_3 rfl hl (by decide) rfl (fun ls hl => ?_)
  have loop1 : ∀ (fu : Nat) (L2_1 : Int32) (L3_1 : Int32), iv (0) (160) L2_1 → iv (0) (8) L3_1 → L3_1.toInt ≤ mo_s3.toInt → L2_1.toInt ≤ 20 * L3_1.toInt → WI x1 L3_1 L2_1 → 9 - L3_1.toInt < (fu : Int) → ∀ (H : Heap) (locs : List Loc) (ls : Array Slot), va_P D vwCl ([(mo, .inr (7, [.int mo_thrown, .ref mo_ascalar, .ref mo_acane, .ref mo_ais, .ref mo_astrandOf, .ref mo_aweight, .ref mo_aheight, .ref mo_achairOf, .ref mo_anoteMinute, .ref mo_anoteWho, .ref mo_anoteIs, .ref mo_atoldCane, .ref mo_anewScalar, .ref mo_anewCane, .ref mo_anewHeight, .ref mo_anewStrand, .ref mo_anewChair, .ref mo_anewWeight, .int mo_taped, .int mo_p, .int mo_fault, .int mo_slot, .int mo_rules, .int mo_entries, .int mo_deep, .int mo_counted, .int mo_opened, .int mo_words, .ref mo_atape, .ref mo_asort, .ref mo_anumber, .ref mo_aclauses, .ref mo_asumAt, .ref mo_atestAt, .ref mo_aendAt, .ref mo_aopen, .ref mo_aasked, .ref mo_astack, .ref mo_amust, .ref mo_apast, .ref mo_apastOf, .int mo_pastMany, .int mo_pastAt, .int mo_takesBack, .ref mo_acanRise, .ref mo_afirstHas, .ref mo_asecondHas, .ref mo_alay, .ref mo_ashows, .ref mo_aimages, .ref mo_aisMade, .int mo_imageAt, .int mo_goesBack])), (mo_astrandOf, hcI k 8 mo_rstrandOf), (mo_aweight, hcI k 8 mo_rweight), (mo_achairOf, hcI k 8 mo_rchairOf), (mo_ascalar, hcI k 8 (sc8 mo_s0 mo_s1 mo_s2 mo_s3 mo_s4 mo_s5 mo_s6 mo_s7))]) H → va_D A ([(mo, .inr (7, [.int mo_thrown, .ref mo_ascalar, .ref mo_acane, .ref mo_ais, .ref mo_astrandOf, .ref mo_aweight, .ref mo_aheight, .ref mo_achairOf, .ref mo_anoteMinute, .ref mo_anoteWho, .ref mo_anoteIs, .ref mo_atoldCane, .ref mo_anewScalar, .ref mo_anewCane, .ref mo_anewHeight, .ref mo_anewStrand, .ref mo_anewChair, .ref mo_anewWeight, .int mo_taped, .int mo_p, .int mo_fault, .int mo_slot, .int mo_rules, .int mo_entries, .int mo_deep, .int mo_counted, .int mo_opened, .int mo_words, .ref mo_atape, .ref mo_asort, .ref mo_anumber, .ref mo_aclauses, .ref mo_asumAt, .ref mo_atestAt, .ref mo_aendAt, .ref mo_aopen, .ref mo_aasked, .ref mo_astack, .ref mo_amust, .ref mo_apast, .ref mo_apastOf, .int mo_pastMany, .int mo_pastAt, .int mo_takesBack, .ref mo_acanRise, .ref mo_afirstHas, .ref mo_asecondHas, .ref mo_alay, .ref mo_ashows, .ref mo_aimages, .ref mo_aisMade, .int mo_imageAt, .int mo_goesBack])), (mo_astrandOf, hcI k 8 mo_rstrandOf), (mo_aweight, hcI k 8 mo_rweight), (mo_achairOf, hcI k 8 mo_rchairOf), (mo_ascalar, hcI k 8 (sc8 mo_s0 mo_s1 mo_s2 mo_s3 mo_s4 mo_s5 mo_s6 mo_s7))]) → va_S A s.heap H locs → lv_has ls 4 [(3, .int L3_1), (2, .int L2_1), (0, .ref mo), (1, .int x1)] → W p l e (rmK 2 0 0) s m (List.toArray [.ref mo, .int x1]) below meth c H locs 0 0 (MQ below (va_Qi (fun (r : Int32) (u : Unit) => iv (0) (160) r ∧ (∀ j : Nat, (j : Int) < mo_s3.toInt → bt x1 j = true → 1 ≤ r.toInt)) (hcB D (fun u : Unit => [(mo, .inr (7, [.int mo_thrown, .ref mo_ascalar, .ref mo_acane, .ref mo_ais, .ref mo_astrandOf, .ref mo_aweight, .ref mo_aheight, .ref mo_achairOf, .ref mo_anoteMinute, .ref mo_anoteWho, .ref mo_anoteIs, .ref mo_atoldCane, .ref mo_anewScalar, .ref mo_anewCane, .ref mo_anewHeight, .ref mo_anewStrand, .ref mo_anewChair, .ref mo_anewWeight, .int mo_taped, .int mo_p, .int mo_fault, .int mo_slot, .int mo_rules, .int mo_entries, .int mo_deep, .int mo_counted, .int mo_opened, .int mo_words, .ref mo_atape, .ref mo_asort, .ref mo_anumber, .ref mo_aclauses, .ref mo_asumAt, .ref mo_atestAt, .ref mo_aendAt, .ref mo_aopen, .ref mo_aasked, .ref mo_astack, .ref mo_amust, .ref mo_apast, .ref mo_apastOf, .int mo_pastMany, .int mo_pastAt, .int mo_takesBack, .ref mo_acanRise, .ref mo_afirstHas, .ref mo_asecondHas, .ref mo_alay, .ref mo_ashows, .ref mo_aimages, .ref mo_aisMade, .int mo_imageAt, .int mo_goesBack])), (mo_astrandOf, hcI k 8 mo_rstrandOf), (mo_aweight, hcI k 8 mo_rweight), (mo_achairOf, hcI k 8 mo_rchairOf), (mo_ascalar, hcI k 8 (sc8 mo_s0 mo_s1 mo_s2 mo_s3 mo_s4 mo_s5 mo_s6 mo_s7))]) A) A) (List.toArray [.ref mo, .int x1]) s 0 0 A) (F0 m 4 ls []) := by
    intro fu
    induction fu with
    | zero =>
      intro L2_1 L3_1 bL2_1 bL3_1 hI1_1 hI2_1 hp1_1 hm
      have bL2_1_l := bL2_1.1
      have bL2_1_u := bL2_1.2
      have bL3_1_l := bL3_1.1
      have bL3_1_u := bL3_1.2
      exact absurd hm (by omega)
    | succ fu ih1 =>
      intro L2_1 L3_1 bL2_1 bL3_1 hI1_1 hI2_1 hp1_1 hm H locs ls hP hD hS hl
      have bL2_1_l := bL2_1.1
      have bL2_1_u := bL2_1.2
      have bL3_1_l := bL3_1.1
      have bL3_1_u := bL3_1.2
      refine lv_iload_n hx hb dX9_weightOf_4 rfl (lv_at hl 0 rfl) ?_
      refine lv_aload_n hx hb dX9_weightOf_5 rfl (lv_at hl 2 rfl) ?_
      refine va_get (D := D) (ci := 7) (v := .ref mo_ascalar) (C := RX9) (T := TX9) (N := 53) hx hb hts in9 hown hG.1 hP 0 rfl rfl 1 (by decide) (hts (.fieldLink RX9 9 "ChairCaneModel" "scalar" "[I") (by decide +kernel)) (fun _ h9 => h9) rfl dX9_weightOf_6 ?_
      refine lv_iconst (v := 3) hx hb dX9_weightOf_9 (by decide) ?_
      refine va_iald hx hb hG.1 hP 4 0 rfl rfl (by unfold vp_in; decide) dX9_weightOf_10 ?_
      refine hc_is (z := mo_s3) (by rw [show Int32.toNatClampNeg 3 = 3 from by decide]; rfl) ?_
      refine lv_icmp_ge (tgt := 41) hx hb dX9_weightOf_11 (by decide) (fun c2 => ?_) (fun c2 => ?_)
      · have fc2 := cx_ge_t (a := L3_1.toInt) (b := mo_s3.toInt) rfl rfl c2
        refine lv_iload_n hx hb dX9_weightOf_41 rfl (lv_at hl 1 rfl) ?_
        exact hc_end hx hb hr hlocks () ⟨⟨by omega, by omega⟩, (by (try dsimp only); exact (fun j hj => hp1_1 j (by omega)))⟩ hP hD hS dX9_weightOf_42
      · have fc2 := cx_ge_f (a := L3_1.toInt) (b := mo_s3.toInt) rfl rfl c2
        refine lv_iload_n hx hb dX9_weightOf_14 rfl (lv_at hl 1 rfl) ?_
        refine lv_iload_n hx hb dX9_weightOf_15 rfl (lv_at hl 3 rfl) ?_
        refine lv_iload_n hx hb dX9_weightOf_16 rfl (lv_at hl 0 rfl) ?_
        refine hc_Si (As := [.int x1, .int L3_1]) (rest := [.int L2_1]) (n := 2) (wr := [(mo, .inr (7, [.int mo_thrown, .ref mo_ascalar, .ref mo_acane, .ref mo_ais, .ref mo_astrandOf, .ref mo_aweight, .ref mo_aheight, .ref mo_achairOf, .ref mo_anoteMinute, .ref mo_anoteWho, .ref mo_anoteIs, .ref mo_atoldCane, .ref mo_anewScalar, .ref mo_anewCane, .ref mo_anewHeight, .ref mo_anewStrand, .ref mo_anewChair, .ref mo_anewWeight, .int mo_taped, .int mo_p, .int mo_fault, .int mo_slot, .int mo_rules, .int mo_entries, .int mo_deep, .int mo_counted, .int mo_opened, .int mo_words, .ref mo_atape, .ref mo_asort, .ref mo_anumber, .ref mo_aclauses, .ref mo_asumAt, .ref mo_atestAt, .ref mo_aendAt, .ref mo_aopen, .ref mo_aasked, .ref mo_astack, .ref mo_amust, .ref mo_apast, .ref mo_apastOf, .int mo_pastMany, .int mo_pastAt, .int mo_takesBack, .ref mo_acanRise, .ref mo_afirstHas, .ref mo_asecondHas, .ref mo_alay, .ref mo_ashows, .ref mo_aimages, .ref mo_aisMade, .int mo_imageAt, .int mo_goesBack])), (mo_astrandOf, hcI k 8 mo_rstrandOf), (mo_aweight, hcI k 8 mo_rweight), (mo_achairOf, hcI k 8 mo_rchairOf), (mo_ascalar, hcI k 8 (sc8 mo_s0 mo_s1 mo_s2 mo_s3 mo_s4 mo_s5 mo_s6 mo_s7))]) hx hb hml hown hts hG hA hP hD hS hl.1 [] [0, 1, 2, 3, 4] (i_X9_has l D k _ x1 L3_1 ⟨by omega, by omega⟩) gX9_weightOf_X9_has rfl ⟨rfl, rfl, Nat.le_of_ble_eq_true rfl, Nat.le_of_ble_eq_true rfl⟩ (by decide +kernel) rfl rfl ⟨by decide, by decide, by decide⟩ ⟨rfl, rfl, Nat.le_of_ble_eq_true rfl, Nat.le_of_ble_eq_true rfl, Nat.le_of_ble_eq_true rfl⟩ dX9_weightOf_17 (fun r4 u3 H locs hw hP hD hS => ?_)
        have hP : va_P D vwCl ([(mo, .inr (7, [.int mo_thrown, .ref mo_ascalar, .ref mo_acane, .ref mo_ais, .ref mo_astrandOf, .ref mo_aweight, .ref mo_aheight, .ref mo_achairOf, .ref mo_anoteMinute, .ref mo_anoteWho, .ref mo_anoteIs, .ref mo_atoldCane, .ref mo_anewScalar, .ref mo_anewCane, .ref mo_anewHeight, .ref mo_anewStrand, .ref mo_anewChair, .ref mo_anewWeight, .int mo_taped, .int mo_p, .int mo_fault, .int mo_slot, .int mo_rules, .int mo_entries, .int mo_deep, .int mo_counted, .int mo_opened, .int mo_words, .ref mo_atape, .ref mo_asort, .ref mo_anumber, .ref mo_aclauses, .ref mo_asumAt, .ref mo_atestAt, .ref mo_aendAt, .ref mo_aopen, .ref mo_aasked, .ref mo_astack, .ref mo_amust, .ref mo_apast, .ref mo_apastOf, .int mo_pastMany, .int mo_pastAt, .int mo_takesBack, .ref mo_acanRise, .ref mo_afirstHas, .ref mo_asecondHas, .ref mo_alay, .ref mo_ashows, .ref mo_aimages, .ref mo_aisMade, .int mo_imageAt, .int mo_goesBack])), (mo_astrandOf, hcI k 8 mo_rstrandOf), (mo_aweight, hcI k 8 mo_rweight), (mo_achairOf, hcI k 8 mo_rchairOf), (mo_ascalar, hcI k 8 (sc8 mo_s0 mo_s1 mo_s2 mo_s3 mo_s4 mo_s5 mo_s6 mo_s7))]) H := hP
        have hD : va_D A ([(mo, .inr (7, [.int mo_thrown, .ref mo_ascalar, .ref mo_acane, .ref mo_ais, .ref mo_astrandOf, .ref mo_aweight, .ref mo_aheight, .ref mo_achairOf, .ref mo_anoteMinute, .ref mo_anoteWho, .ref mo_anoteIs, .ref mo_atoldCane, .ref mo_anewScalar, .ref mo_anewCane, .ref mo_anewHeight, .ref mo_anewStrand, .ref mo_anewChair, .ref mo_anewWeight, .int mo_taped, .int mo_p, .int mo_fault, .int mo_slot, .int mo_rules, .int mo_entries, .int mo_deep, .int mo_counted, .int mo_opened, .int mo_words, .ref mo_atape, .ref mo_asort, .ref mo_anumber, .ref mo_aclauses, .ref mo_asumAt, .ref mo_atestAt, .ref mo_aendAt, .ref mo_aopen, .ref mo_aasked, .ref mo_astack, .ref mo_amust, .ref mo_apast, .ref mo_apastOf, .int mo_pastMany, .int mo_pastAt, .int mo_takesBack, .ref mo_acanRise, .ref mo_afirstHas, .ref mo_asecondHas, .ref mo_alay, .ref mo_ashows, .ref mo_aimages, .ref mo_aisMade, .int mo_imageAt, .int mo_goesBack])), (mo_astrandOf, hcI k 8 mo_rstrandOf), (mo_aweight, hcI k 8 mo_rweight), (mo_achairOf, hcI k 8 mo_rchairOf), (mo_ascalar, hcI k 8 (sc8 mo_s0 mo_s1 mo_s2 mo_s3 mo_s4 mo_s5 mo_s6 mo_s7))]) := hD
        obtain ⟨br4, rel5⟩ := hw
        have br4 : iv (0) (1) r4 := br4
        have br4_l := br4.1
        have br4_u := br4.2
        refine lv_if_eq (tgt := 32) hx hb dX9_weightOf_20 (by decide) (fun c6 => ?_) (fun c6 => ?_)
        · have fc6 := cx_eq_t (a := r4.toInt) (b := 0) rfl (by decide) c6
          refine lv_iconst (v := 0) hx hb dX9_weightOf_32 (by decide) ?_
          refine lv_iadd hx hb dX9_weightOf_33 ?_
          refine lv_topi (fun z7 ez7 => ?_)
          have tz7 : z7.toInt = L2_1.toInt + 0 := ai_add rfl (by decide) ez7 (by omega) (by omega)
          refine lv_istore_n (lv' := [(2, .int z7), (3, .int L3_1), (0, .ref mo), (1, .int x1)]) hx hb dX9_weightOf_34 rfl hl (by decide) rfl (fun ls hl => ?_)
          obtain ⟨z8, ez8⟩ : ∃ z : Int32, z = L3_1 + 1 := ⟨_, rfl⟩
          have tz8 : z8.toInt = L3_1.toInt + (1) := ai_add rfl (by decide) ez8 (by omega) (by omega)
          refine lv_iinc (v := z8) (lv' := [(3, .int z8), (2, .int z7), (0, .ref mo), (1, .int x1)]) hx hb dX9_weightOf_35 hl (k := 1) rfl (by rw [ez8]; rfl) (by decide) rfl (fun ls hl => ?_)
          refine lv_goto (tgt := 4) hx hb dX9_weightOf_38 (by decide) ?_
          exact ih1 z7 z8 ⟨by omega, by omega⟩ ⟨by omega, by omega⟩ (by omega) (by omega) (WI_f hp1_1 (by omega) tz8 (by omega) (by rcases rel5 with g | g; exact absurd g.1 (by omega); exact g.2)) (by omega) _ _ _ hP hD hS (lv_sub hl [0, 1, 2, 3] rfl)
        · have fc6 := cx_eq_f (a := r4.toInt) (b := 0) rfl (by decide) c6
          refine lv_aload_n hx hb dX9_weightOf_23 rfl (lv_at hl 2 rfl) ?_
          refine va_get (D := D) (ci := 7) (v := .ref mo_aweight) (C := RX9) (T := TX9) (N := 53) hx hb hts in9 hown hG.1 hP 0 rfl rfl 5 (by decide) (hts (.fieldLink RX9 22 "ChairCaneModel" "weight" "[I") (by decide +kernel)) (fun _ h9 => h9) rfl dX9_weightOf_24 ?_
          refine lv_iload_n hx hb dX9_weightOf_27 rfl (lv_at hl 0 rfl) ?_
          refine va_iald hx hb hG.1 hP 2 0 rfl rfl (vp_in_iff.mpr ⟨by omega, by omega⟩) dX9_weightOf_28 ?_
          refine lv_topi (fun z9 ez9 => ?_)
          have wz9 := HallOk.wt hh_HallOk (q := L3_1) (by omega) (by omega) ez9
          have bz9 : iv (0) (20) z9 := by rw [ez9]; exact h_mo_rweight _
          have bz9_l := bz9.1
          have bz9_u := bz9.2
          refine lv_goto (tgt := 33) hx hb dX9_weightOf_29 (by decide) ?_
          refine lv_iadd hx hb dX9_weightOf_33 ?_
          refine lv_topi (fun z10 ez10 => ?_)
          have tz10 : z10.toInt = L2_1.toInt + z9.toInt := ai_add rfl rfl ez10 (by omega) (by omega)
          refine lv_istore_n (lv' := [(2, .int z10), (3, .int L3_1), (0, .ref mo), (1, .int x1)]) hx hb dX9_weightOf_34 rfl hl (by decide) rfl (fun ls hl => ?_)
          obtain ⟨z11, ez11⟩ : ∃ z : Int32, z = L3_1 + 1 := ⟨_, rfl⟩
          have tz11 : z11.toInt = L3_1.toInt + (1) := ai_add rfl (by decide) ez11 (by omega) (by omega)
          refine lv_iinc (v := z11) (lv' := [(3, .int z11), (2, .int z10), (0, .ref mo), (1, .int x1)]) hx hb dX9_weightOf_35 hl (k := 1) rfl (by rw [ez11]; rfl) (by decide) rfl (fun ls hl => ?_)
          refine lv_goto (tgt := 4) hx hb dX9_weightOf_38 (by decide) ?_
          exact ih1 z10 z11 ⟨by omega, by omega⟩ ⟨by omega, by omega⟩ (by omega) (by omega) (WI_t (q := L3_1) (sum := L2_1) (by omega)) (by omega) _ _ _ hP hD hS (lv_sub hl [0, 1, 2, 3] rfl)
  exact loop1 100 0 0 (iv_lit (by decide) (by decide)) (iv_lit (by decide) (by decide)) (by have q0 : (0 : Int32).toInt = 0 := (by decide); have q1 : (0 : Int32).toInt = 0 := (by decide); omega) (by have q0 : (0 : Int32).toInt = 0 := (by decide); have q1 : (0 : Int32).toInt = 0 := (by decide); omega) (WI_0) (by have q0 : (0 : Int32).toInt = 0 := (by decide); have q1 : (0 : Int32).toInt = 0 := (by decide); omega) _ _ _ hP hD hS hl
set_option maxHeartbeats 4000000 in
set_option maxRecDepth 100000 in
theorem i_X9_gives (l : Launch) (D : va_G) (k : Nat → ClassId) (sz : Nat) (x1 : Int32) (x2 : Int32) (mo : Nat) (mo_thrown : Int32) (mo_ascalar : Nat) (mo_acane : Nat) (mo_ais : Nat) (mo_astrandOf : Nat) (mo_aweight : Nat) (mo_aheight : Nat) (mo_achairOf : Nat) (mo_anoteMinute : Nat) (mo_anoteWho : Nat) (mo_anoteIs : Nat) (mo_atoldCane : Nat) (mo_anewScalar : Nat) (mo_anewCane : Nat) (mo_anewHeight : Nat) (mo_anewStrand : Nat) (mo_anewChair : Nat) (mo_anewWeight : Nat) (mo_taped : Int32) (mo_p : Int32) (mo_fault : Int32) (mo_slot : Int32) (mo_rules : Int32) (mo_entries : Int32) (mo_deep : Int32) (mo_counted : Int32) (mo_opened : Int32) (mo_words : Int32) (mo_atape : Nat) (mo_asort : Nat) (mo_anumber : Nat) (mo_aclauses : Nat) (mo_asumAt : Nat) (mo_atestAt : Nat) (mo_aendAt : Nat) (mo_aopen : Nat) (mo_aasked : Nat) (mo_astack : Nat) (mo_amust : Nat) (mo_apast : Nat) (mo_apastOf : Nat) (mo_pastMany : Int32) (mo_pastAt : Int32) (mo_takesBack : Int32) (mo_acanRise : Nat) (mo_afirstHas : Nat) (mo_asecondHas : Nat) (mo_alay : Nat) (mo_ashows : Nat) (mo_aimages : Nat) (mo_aisMade : Nat) (mo_imageAt : Int32) (mo_goesBack : Int32) (mo_rcane : Nat → Int32) (mo_rstrandOf : Nat → Int32) (mo_rweight : Nat → Int32) (mo_rchairOf : Nat → Int32) (mo_s0 : Int32) (mo_s1 : Int32) (mo_s2 : Int32) (mo_s3 : Int32) (mo_s4 : Int32) (mo_s5 : Int32) (mo_s6 : Int32) (mo_s7 : Int32) (h_x2 : iv (0) (7) x2) (h_mo_taped : iv (0) (400) mo_taped) (h_mo_p : iv (0) (402) mo_p) (h_mo_fault : iv (0) (4000) mo_fault) (h_mo_slot : iv (0) (5) mo_slot) (h_mo_rules : iv (0) (6) mo_rules) (h_mo_entries : iv (0) (300) mo_entries) (h_mo_counted : iv (0) (70) mo_counted) (h_mo_opened : iv (0) (402) mo_opened) (h_mo_words : iv (11) (11) mo_words) (h_mo_pastMany : iv (0) (20) mo_pastMany) (h_mo_pastAt : iv (0) (260) mo_pastAt) (h_mo_takesBack : iv (0) (1) mo_takesBack) (h_mo_imageAt : iv (0) (2000) mo_imageAt) (h_mo_goesBack : iv (0) (1) mo_goesBack) (h_mo_rweight : rowIn (0) (20) mo_rweight) (h_mo_rchairOf : rowIn (0) (7) mo_rchairOf) (h_mo_s1 : iv (0) (4) mo_s1) (h_mo_s2 : iv (0) (8) mo_s2) (h_mo_s3 : iv (0) (8) mo_s3) (h_mo_s5 : iv (0) (10) mo_s5) (h_mo_s7 : iv (-1) (5) mo_s7) (hr_q : x2.toInt < mo_s3.toInt) (hh_HallOk : HallOk mo_s2 mo_s3 mo_rstrandOf mo_rchairOf mo_rweight) : CtI l yX9_gives wsX9_gives (rmK 3 0 0) [.ref mo, .int x1, .int x2] D k sz ([(mo, .inr (7, [.int mo_thrown, .ref mo_ascalar, .ref mo_acane, .ref mo_ais, .ref mo_astrandOf, .ref mo_aweight, .ref mo_aheight, .ref mo_achairOf, .ref mo_anoteMinute, .ref mo_anoteWho, .ref mo_anoteIs, .ref mo_atoldCane, .ref mo_anewScalar, .ref mo_anewCane, .ref mo_anewHeight, .ref mo_anewStrand, .ref mo_anewChair, .ref mo_anewWeight, .int mo_taped, .int mo_p, .int mo_fault, .int mo_slot, .int mo_rules, .int mo_entries, .int mo_deep, .int mo_counted, .int mo_opened, .int mo_words, .ref mo_atape, .ref mo_asort, .ref mo_anumber, .ref mo_aclauses, .ref mo_asumAt, .ref mo_atestAt, .ref mo_aendAt, .ref mo_aopen, .ref mo_aasked, .ref mo_astack, .ref mo_amust, .ref mo_apast, .ref mo_apastOf, .int mo_pastMany, .int mo_pastAt, .int mo_takesBack, .ref mo_acanRise, .ref mo_afirstHas, .ref mo_asecondHas, .ref mo_alay, .ref mo_ashows, .ref mo_aimages, .ref mo_aisMade, .int mo_imageAt, .int mo_goesBack])), (mo_acane, hcI k 4 mo_rcane), (mo_astrandOf, hcI k 8 mo_rstrandOf), (mo_aweight, hcI k 8 mo_rweight), (mo_achairOf, hcI k 8 mo_rchairOf), (mo_ascalar, hcI k 8 (sc8 mo_s0 mo_s1 mo_s2 mo_s3 mo_s4 mo_s5 mo_s6 mo_s7))]) (fun (r : Int32) (u : Unit) => True) (fun u : Unit => [(mo, .inr (7, [.int mo_thrown, .ref mo_ascalar, .ref mo_acane, .ref mo_ais, .ref mo_astrandOf, .ref mo_aweight, .ref mo_aheight, .ref mo_achairOf, .ref mo_anoteMinute, .ref mo_anoteWho, .ref mo_anoteIs, .ref mo_atoldCane, .ref mo_anewScalar, .ref mo_anewCane, .ref mo_anewHeight, .ref mo_anewStrand, .ref mo_anewChair, .ref mo_anewWeight, .int mo_taped, .int mo_p, .int mo_fault, .int mo_slot, .int mo_rules, .int mo_entries, .int mo_deep, .int mo_counted, .int mo_opened, .int mo_words, .ref mo_atape, .ref mo_asort, .ref mo_anumber, .ref mo_aclauses, .ref mo_asumAt, .ref mo_atestAt, .ref mo_aendAt, .ref mo_aopen, .ref mo_aasked, .ref mo_astack, .ref mo_amust, .ref mo_apast, .ref mo_apastOf, .int mo_pastMany, .int mo_pastAt, .int mo_takesBack, .ref mo_acanRise, .ref mo_afirstHas, .ref mo_asecondHas, .ref mo_alay, .ref mo_ashows, .ref mo_aimages, .ref mo_aisMade, .int mo_imageAt, .int mo_goesBack])), (mo_acane, hcI k 4 mo_rcane), (mo_astrandOf, hcI k 8 mo_rstrandOf), (mo_aweight, hcI k 8 mo_rweight), (mo_achairOf, hcI k 8 mo_rchairOf), (mo_ascalar, hcI k 8 (sc8 mo_s0 mo_s1 mo_s2 mo_s3 mo_s4 mo_s5 mo_s6 mo_s7))]) 0 0 := by
  have h_x2_l := h_x2.1
  have h_x2_u := h_x2.2
  have h_mo_taped_l := h_mo_taped.1
  have h_mo_taped_u := h_mo_taped.2
  have h_mo_p_l := h_mo_p.1
  have h_mo_p_u := h_mo_p.2
  have h_mo_fault_l := h_mo_fault.1
  have h_mo_fault_u := h_mo_fault.2
  have h_mo_slot_l := h_mo_slot.1
  have h_mo_slot_u := h_mo_slot.2
  have h_mo_rules_l := h_mo_rules.1
  have h_mo_rules_u := h_mo_rules.2
  have h_mo_entries_l := h_mo_entries.1
  have h_mo_entries_u := h_mo_entries.2
  have h_mo_counted_l := h_mo_counted.1
  have h_mo_counted_u := h_mo_counted.2
  have h_mo_opened_l := h_mo_opened.1
  have h_mo_opened_u := h_mo_opened.2
  have h_mo_words_l := h_mo_words.1
  have h_mo_words_u := h_mo_words.2
  have h_mo_pastMany_l := h_mo_pastMany.1
  have h_mo_pastMany_u := h_mo_pastMany.2
  have h_mo_pastAt_l := h_mo_pastAt.1
  have h_mo_pastAt_u := h_mo_pastAt.2
  have h_mo_takesBack_l := h_mo_takesBack.1
  have h_mo_takesBack_u := h_mo_takesBack.2
  have h_mo_imageAt_l := h_mo_imageAt.1
  have h_mo_imageAt_u := h_mo_imageAt.2
  have h_mo_goesBack_l := h_mo_goesBack.1
  have h_mo_goesBack_u := h_mo_goesBack.2
  have h_mo_s1_l := h_mo_s1.1
  have h_mo_s1_u := h_mo_s1.2
  have h_mo_s2_l := h_mo_s2.1
  have h_mo_s2_u := h_mo_s2.2
  have h_mo_s3_l := h_mo_s3.1
  have h_mo_s3_u := h_mo_s3.2
  have h_mo_s5_l := h_mo_s5.1
  have h_mo_s5_u := h_mo_s5.2
  have h_mo_s7_l := h_mo_s7.1
  have h_mo_s7_u := h_mo_s7.2
  refine CtI.mk (cc := cX9_gives) (maxL := 4) (ret := (some .int)) (by decide) rfl (Nat.le_of_ble_eq_true rfl) ?_
  intro p e s m below meth c A ls E hP hD hS hl
  obtain ⟨hx, hb, hr, hml, hown, hts, hlocks, hin, hG, hA⟩ := E
  have hown : s.vm.findClass RX9 = some m.cls := hown
  have in9 : ∀ w ∈ u_ws RX9 TX9 53, w ∈ wsX9_gives := fun _ h => List.mem_cons_of_mem _ (List.mem_append_right _ h)
  have hl : lv_has ls 4 [(0, .ref mo), (1, .int x1), (2, .int x2)] := hl
  refine lv_aload_n hx hb dX9_gives_0 rfl (lv_at hl 0 rfl) ?_
  refine va_get (D := D) (ci := 7) (v := .ref mo_astrandOf) (C := RX9) (T := TX9) (N := 53) hx hb hts in9 hown hG.1 hP 0 rfl rfl 4 (by decide) (hts (.fieldLink RX9 19 "ChairCaneModel" "strandOf" "[I") (by decide +kernel)) (fun _ h9 => h9) rfl dX9_gives_1 ?_
  refine lv_aload_n hx hb dX9_gives_4 rfl (lv_at hl 0 rfl) ?_
  refine va_get (D := D) (ci := 7) (v := .ref mo_achairOf) (C := RX9) (T := TX9) (N := 53) hx hb hts in9 hown hG.1 hP 0 rfl rfl 7 (by decide) (hts (.fieldLink RX9 28 "ChairCaneModel" "chairOf" "[I") (by decide +kernel)) (fun _ h9 => h9) rfl dX9_gives_5 ?_
  refine lv_iload_n hx hb dX9_gives_8 rfl (lv_at hl 2 rfl) ?_
  refine va_iald hx hb hG.1 hP 4 0 rfl rfl (vp_in_iff.mpr ⟨by omega, by omega⟩) dX9_gives_9 ?_
  refine lv_topi (fun z1 ez1 => ?_)
  have bz1 : iv (0) (7) z1 := by rw [ez1]; exact h_mo_rchairOf _
  have bz1_l := bz1.1
  have bz1_u := bz1.2
  refine va_iald hx hb hG.1 hP 2 0 rfl rfl (vp_in_iff.mpr ⟨by omega, by omega⟩) dX9_gives_10 ?_
  refine lv_topi (fun z2 ez2 => ?_)
  have bz2 : iv (0) (3) z2 := HallOk.str hh_HallOk (q := x2) (by omega) (by omega) ez1 (by omega) ez2
  have bz2_l := bz2.1
  have bz2_u := bz2.2
  refine lv_istore_n (lv' := [(3, .int z2), (0, .ref mo), (1, .int x1), (2, .int x2)]) hx hb dX9_gives_11 rfl hl (by decide) rfl (fun ls hl => ?_)
  refine lv_iload_n hx hb dX9_gives_12 rfl (lv_at hl 2 rfl) ?_
  refine lv_iload_n hx hb dX9_gives_13 rfl (lv_at hl 3 rfl) ?_
  refine hc_Si (As := [.int x1, .int x2]) (rest := []) (n := 2) (wr := [(mo, .inr (7, [.int mo_thrown, .ref mo_ascalar, .ref mo_acane, .ref mo_ais, .ref mo_astrandOf, .ref mo_aweight, .ref mo_aheight, .ref mo_achairOf, .ref mo_anoteMinute, .ref mo_anoteWho, .ref mo_anoteIs, .ref mo_atoldCane, .ref mo_anewScalar, .ref mo_anewCane, .ref mo_anewHeight, .ref mo_anewStrand, .ref mo_anewChair, .ref mo_anewWeight, .int mo_taped, .int mo_p, .int mo_fault, .int mo_slot, .int mo_rules, .int mo_entries, .int mo_deep, .int mo_counted, .int mo_opened, .int mo_words, .ref mo_atape, .ref mo_asort, .ref mo_anumber, .ref mo_aclauses, .ref mo_asumAt, .ref mo_atestAt, .ref mo_aendAt, .ref mo_aopen, .ref mo_aasked, .ref mo_astack, .ref mo_amust, .ref mo_apast, .ref mo_apastOf, .int mo_pastMany, .int mo_pastAt, .int mo_takesBack, .ref mo_acanRise, .ref mo_afirstHas, .ref mo_asecondHas, .ref mo_alay, .ref mo_ashows, .ref mo_aimages, .ref mo_aisMade, .int mo_imageAt, .int mo_goesBack])), (mo_acane, hcI k 4 mo_rcane), (mo_astrandOf, hcI k 8 mo_rstrandOf), (mo_aweight, hcI k 8 mo_rweight), (mo_achairOf, hcI k 8 mo_rchairOf), (mo_ascalar, hcI k 8 (sc8 mo_s0 mo_s1 mo_s2 mo_s3 mo_s4 mo_s5 mo_s6 mo_s7))]) hx hb hml hown hts hG hA hP hD hS hl.1 [] [0, 1, 2, 3, 4, 5] (i_X9_has l D k _ x1 x2 ⟨by omega, by omega⟩) gX9_gives_X9_has rfl ⟨rfl, rfl, Nat.le_of_ble_eq_true rfl, Nat.le_of_ble_eq_true rfl⟩ (by decide +kernel) rfl rfl ⟨by decide, by decide, by decide⟩ ⟨rfl, rfl, Nat.le_of_ble_eq_true rfl, Nat.le_of_ble_eq_true rfl, Nat.le_of_ble_eq_true rfl⟩ dX9_gives_14 (fun r4 u3 H locs hw hP hD hS => ?_)
  have hP : va_P D vwCl ([(mo, .inr (7, [.int mo_thrown, .ref mo_ascalar, .ref mo_acane, .ref mo_ais, .ref mo_astrandOf, .ref mo_aweight, .ref mo_aheight, .ref mo_achairOf, .ref mo_anoteMinute, .ref mo_anoteWho, .ref mo_anoteIs, .ref mo_atoldCane, .ref mo_anewScalar, .ref mo_anewCane, .ref mo_anewHeight, .ref mo_anewStrand, .ref mo_anewChair, .ref mo_anewWeight, .int mo_taped, .int mo_p, .int mo_fault, .int mo_slot, .int mo_rules, .int mo_entries, .int mo_deep, .int mo_counted, .int mo_opened, .int mo_words, .ref mo_atape, .ref mo_asort, .ref mo_anumber, .ref mo_aclauses, .ref mo_asumAt, .ref mo_atestAt, .ref mo_aendAt, .ref mo_aopen, .ref mo_aasked, .ref mo_astack, .ref mo_amust, .ref mo_apast, .ref mo_apastOf, .int mo_pastMany, .int mo_pastAt, .int mo_takesBack, .ref mo_acanRise, .ref mo_afirstHas, .ref mo_asecondHas, .ref mo_alay, .ref mo_ashows, .ref mo_aimages, .ref mo_aisMade, .int mo_imageAt, .int mo_goesBack])), (mo_acane, hcI k 4 mo_rcane), (mo_astrandOf, hcI k 8 mo_rstrandOf), (mo_aweight, hcI k 8 mo_rweight), (mo_achairOf, hcI k 8 mo_rchairOf), (mo_ascalar, hcI k 8 (sc8 mo_s0 mo_s1 mo_s2 mo_s3 mo_s4 mo_s5 mo_s6 mo_s7))]) H := hP
  have hD : va_D A ([(mo, .inr (7, [.int mo_thrown, .ref mo_ascalar, .ref mo_acane, .ref mo_ais, .ref mo_astrandOf, .ref mo_aweight, .ref mo_aheight, .ref mo_achairOf, .ref mo_anoteMinute, .ref mo_anoteWho, .ref mo_anoteIs, .ref mo_atoldCane, .ref mo_anewScalar, .ref mo_anewCane, .ref mo_anewHeight, .ref mo_anewStrand, .ref mo_anewChair, .ref mo_anewWeight, .int mo_taped, .int mo_p, .int mo_fault, .int mo_slot, .int mo_rules, .int mo_entries, .int mo_deep, .int mo_counted, .int mo_opened, .int mo_words, .ref mo_atape, .ref mo_asort, .ref mo_anumber, .ref mo_aclauses, .ref mo_asumAt, .ref mo_atestAt, .ref mo_aendAt, .ref mo_aopen, .ref mo_aasked, .ref mo_astack, .ref mo_amust, .ref mo_apast, .ref mo_apastOf, .int mo_pastMany, .int mo_pastAt, .int mo_takesBack, .ref mo_acanRise, .ref mo_afirstHas, .ref mo_asecondHas, .ref mo_alay, .ref mo_ashows, .ref mo_aimages, .ref mo_aisMade, .int mo_imageAt, .int mo_goesBack])), (mo_acane, hcI k 4 mo_rcane), (mo_astrandOf, hcI k 8 mo_rstrandOf), (mo_aweight, hcI k 8 mo_rweight), (mo_achairOf, hcI k 8 mo_rchairOf), (mo_ascalar, hcI k 8 (sc8 mo_s0 mo_s1 mo_s2 mo_s3 mo_s4 mo_s5 mo_s6 mo_s7))]) := hD
  obtain ⟨br4, rel5⟩ := hw
  have br4 : iv (0) (1) r4 := br4
  have br4_l := br4.1
  have br4_u := br4.2
  refine lv_if_eq (tgt := 47) hx hb dX9_gives_17 (by decide) (fun c6 => ?_) (fun c6 => ?_)
  · have fc6 := cx_eq_t (a := r4.toInt) (b := 0) rfl (by decide) c6
    refine lv_iconst (v := 0) hx hb dX9_gives_47 (by decide) ?_
    exact hc_end hx hb hr hlocks () trivial hP hD hS dX9_gives_48
  · have fc6 := cx_eq_f (a := r4.toInt) (b := 0) rfl (by decide) c6
    refine lv_aload_n hx hb dX9_gives_20 rfl (lv_at hl 1 rfl) ?_
    refine va_get (D := D) (ci := 7) (v := .ref mo_acane) (C := RX9) (T := TX9) (N := 53) hx hb hts in9 hown hG.1 hP 0 rfl rfl 2 (by decide) (hts (.fieldLink RX9 13 "ChairCaneModel" "cane" "[I") (by decide +kernel)) (fun _ h9 => h9) rfl dX9_gives_21 ?_
    refine lv_iload_n hx hb dX9_gives_24 rfl (lv_at hl 0 rfl) ?_
    refine va_iald hx hb hG.1 hP 1 0 rfl rfl (vp_in_iff.mpr ⟨by omega, by omega⟩) dX9_gives_25 ?_
    refine lv_topi (fun z7 ez7 => ?_)
    refine lv_aload_n hx hb dX9_gives_26 rfl (lv_at hl 1 rfl) ?_
    refine va_get (D := D) (ci := 7) (v := .ref mo_aweight) (C := RX9) (T := TX9) (N := 53) hx hb hts in9 hown hG.1 hP 0 rfl rfl 5 (by decide) (hts (.fieldLink RX9 22 "ChairCaneModel" "weight" "[I") (by decide +kernel)) (fun _ h9 => h9) rfl dX9_gives_27 ?_
    refine lv_iload_n hx hb dX9_gives_30 rfl (lv_at hl 3 rfl) ?_
    refine va_iald hx hb hG.1 hP 3 0 rfl rfl (vp_in_iff.mpr ⟨by omega, by omega⟩) dX9_gives_31 ?_
    refine lv_topi (fun z8 ez8 => ?_)
    have bz8 : iv (0) (20) z8 := by rw [ez8]; exact h_mo_rweight _
    have bz8_l := bz8.1
    have bz8_u := bz8.2
    refine lv_imul hx hb dX9_gives_32 ?_
    refine lv_topi (fun z9 ez9 => ?_)
    refine lv_aload_n hx hb dX9_gives_33 rfl (lv_at hl 1 rfl) ?_
    refine lv_aload_n hx hb dX9_gives_34 rfl (lv_at hl 1 rfl) ?_
    refine lv_iload_n hx hb dX9_gives_35 rfl (lv_at hl 2 rfl) ?_
    refine lv_iload_n hx hb dX9_gives_36 rfl (lv_at hl 0 rfl) ?_
    refine hc_Vi (As := [.int x1, .int z2]) (rest := [.ref mo, .int z9]) (n := 2) (wr := [(mo_acane, hcI k 4 mo_rcane)]) hx hb hml hown hts hG hA hP hD hS hl.1 [0, 2, 3, 4, 5] [1] (i_X9_onStrand l D k _ x1 z2 mo mo_thrown mo_ascalar mo_acane mo_ais mo_astrandOf mo_aweight mo_aheight mo_achairOf mo_anoteMinute mo_anoteWho mo_anoteIs mo_atoldCane mo_anewScalar mo_anewCane mo_anewHeight mo_anewStrand mo_anewChair mo_anewWeight mo_taped mo_p mo_fault mo_slot mo_rules mo_entries mo_deep mo_counted mo_opened mo_words mo_atape mo_asort mo_anumber mo_aclauses mo_asumAt mo_atestAt mo_aendAt mo_aopen mo_aasked mo_astack mo_amust mo_apast mo_apastOf mo_pastMany mo_pastAt mo_takesBack mo_acanRise mo_afirstHas mo_asecondHas mo_alay mo_ashows mo_aimages mo_aisMade mo_imageAt mo_goesBack mo_rstrandOf mo_rweight mo_rchairOf mo_s0 mo_s1 mo_s2 mo_s3 mo_s4 mo_s5 mo_s6 mo_s7 ⟨by omega, by omega⟩ ⟨by omega, by omega⟩ ⟨by omega, by omega⟩ ⟨by omega, by omega⟩ ⟨by omega, by omega⟩ ⟨by omega, by omega⟩ ⟨by omega, by omega⟩ ⟨by omega, by omega⟩ ⟨by omega, by omega⟩ ⟨by omega, by omega⟩ ⟨by omega, by omega⟩ ⟨by omega, by omega⟩ ⟨by omega, by omega⟩ ⟨by omega, by omega⟩ h_mo_rweight h_mo_rchairOf ⟨by omega, by omega⟩ ⟨by omega, by omega⟩ ⟨by omega, by omega⟩ ⟨by omega, by omega⟩ ⟨by omega, by omega⟩ hh_HallOk) (ci := 7) (q0 := 0) rfl rfl gX9_gives_X9_onStrand rfl ⟨rfl, rfl, Nat.le_of_ble_eq_true rfl, Nat.le_of_ble_eq_true rfl⟩ (by decide +kernel) rfl rfl ⟨by decide, by decide, by decide⟩ ⟨rfl, rfl, Nat.le_of_ble_eq_true rfl, Nat.le_of_ble_eq_true rfl, Nat.le_of_ble_eq_true rfl⟩ dX9_gives_37 (fun r11 u10 H locs hw hP hD hS => ?_)
    have hP : va_P D vwCl ([(mo_acane, hcI k 4 mo_rcane), (mo, .inr (7, [.int mo_thrown, .ref mo_ascalar, .ref mo_acane, .ref mo_ais, .ref mo_astrandOf, .ref mo_aweight, .ref mo_aheight, .ref mo_achairOf, .ref mo_anoteMinute, .ref mo_anoteWho, .ref mo_anoteIs, .ref mo_atoldCane, .ref mo_anewScalar, .ref mo_anewCane, .ref mo_anewHeight, .ref mo_anewStrand, .ref mo_anewChair, .ref mo_anewWeight, .int mo_taped, .int mo_p, .int mo_fault, .int mo_slot, .int mo_rules, .int mo_entries, .int mo_deep, .int mo_counted, .int mo_opened, .int mo_words, .ref mo_atape, .ref mo_asort, .ref mo_anumber, .ref mo_aclauses, .ref mo_asumAt, .ref mo_atestAt, .ref mo_aendAt, .ref mo_aopen, .ref mo_aasked, .ref mo_astack, .ref mo_amust, .ref mo_apast, .ref mo_apastOf, .int mo_pastMany, .int mo_pastAt, .int mo_takesBack, .ref mo_acanRise, .ref mo_afirstHas, .ref mo_asecondHas, .ref mo_alay, .ref mo_ashows, .ref mo_aimages, .ref mo_aisMade, .int mo_imageAt, .int mo_goesBack])), (mo_astrandOf, hcI k 8 mo_rstrandOf), (mo_aweight, hcI k 8 mo_rweight), (mo_achairOf, hcI k 8 mo_rchairOf), (mo_ascalar, hcI k 8 (sc8 mo_s0 mo_s1 mo_s2 mo_s3 mo_s4 mo_s5 mo_s6 mo_s7))]) H := hP
    have hD : va_D A ([(mo_acane, hcI k 4 mo_rcane), (mo, .inr (7, [.int mo_thrown, .ref mo_ascalar, .ref mo_acane, .ref mo_ais, .ref mo_astrandOf, .ref mo_aweight, .ref mo_aheight, .ref mo_achairOf, .ref mo_anoteMinute, .ref mo_anoteWho, .ref mo_anoteIs, .ref mo_atoldCane, .ref mo_anewScalar, .ref mo_anewCane, .ref mo_anewHeight, .ref mo_anewStrand, .ref mo_anewChair, .ref mo_anewWeight, .int mo_taped, .int mo_p, .int mo_fault, .int mo_slot, .int mo_rules, .int mo_entries, .int mo_deep, .int mo_counted, .int mo_opened, .int mo_words, .ref mo_atape, .ref mo_asort, .ref mo_anumber, .ref mo_aclauses, .ref mo_asumAt, .ref mo_atestAt, .ref mo_aendAt, .ref mo_aopen, .ref mo_aasked, .ref mo_astack, .ref mo_amust, .ref mo_apast, .ref mo_apastOf, .int mo_pastMany, .int mo_pastAt, .int mo_takesBack, .ref mo_acanRise, .ref mo_afirstHas, .ref mo_asecondHas, .ref mo_alay, .ref mo_ashows, .ref mo_aimages, .ref mo_aisMade, .int mo_imageAt, .int mo_goesBack])), (mo_astrandOf, hcI k 8 mo_rstrandOf), (mo_aweight, hcI k 8 mo_rweight), (mo_achairOf, hcI k 8 mo_rchairOf), (mo_ascalar, hcI k 8 (sc8 mo_s0 mo_s1 mo_s2 mo_s3 mo_s4 mo_s5 mo_s6 mo_s7))]) := hD
    have rel12 := hw
    refine hc_Vi (As := [.int r11]) (rest := [.int z9]) (n := 1) (wr := [(mo_acane, hcI k 4 mo_rcane)]) hx hb hml hown hts hG hA hP hD hS hl.1 [1, 2, 3, 4, 5] [0] (i_X9_weightOf l D k _ r11 mo mo_thrown mo_ascalar mo_acane mo_ais mo_astrandOf mo_aweight mo_aheight mo_achairOf mo_anoteMinute mo_anoteWho mo_anoteIs mo_atoldCane mo_anewScalar mo_anewCane mo_anewHeight mo_anewStrand mo_anewChair mo_anewWeight mo_taped mo_p mo_fault mo_slot mo_rules mo_entries mo_deep mo_counted mo_opened mo_words mo_atape mo_asort mo_anumber mo_aclauses mo_asumAt mo_atestAt mo_aendAt mo_aopen mo_aasked mo_astack mo_amust mo_apast mo_apastOf mo_pastMany mo_pastAt mo_takesBack mo_acanRise mo_afirstHas mo_asecondHas mo_alay mo_ashows mo_aimages mo_aisMade mo_imageAt mo_goesBack mo_rstrandOf mo_rweight mo_rchairOf mo_s0 mo_s1 mo_s2 mo_s3 mo_s4 mo_s5 mo_s6 mo_s7 ⟨by omega, by omega⟩ ⟨by omega, by omega⟩ ⟨by omega, by omega⟩ ⟨by omega, by omega⟩ ⟨by omega, by omega⟩ ⟨by omega, by omega⟩ ⟨by omega, by omega⟩ ⟨by omega, by omega⟩ ⟨by omega, by omega⟩ ⟨by omega, by omega⟩ ⟨by omega, by omega⟩ ⟨by omega, by omega⟩ ⟨by omega, by omega⟩ ⟨by omega, by omega⟩ h_mo_rweight h_mo_rchairOf ⟨by omega, by omega⟩ ⟨by omega, by omega⟩ ⟨by omega, by omega⟩ ⟨by omega, by omega⟩ ⟨by omega, by omega⟩ hh_HallOk) (ci := 7) (q0 := 1) rfl rfl gX9_gives_X9_weightOf rfl ⟨rfl, rfl, Nat.le_of_ble_eq_true rfl, Nat.le_of_ble_eq_true rfl⟩ (by decide +kernel) rfl rfl ⟨by decide, by decide, by decide⟩ ⟨rfl, rfl, Nat.le_of_ble_eq_true rfl, Nat.le_of_ble_eq_true rfl, Nat.le_of_ble_eq_true rfl⟩ dX9_gives_40 (fun r14 u13 H locs hw hP hD hS => ?_)
    have hP : va_P D vwCl ([(mo_acane, hcI k 4 mo_rcane), (mo, .inr (7, [.int mo_thrown, .ref mo_ascalar, .ref mo_acane, .ref mo_ais, .ref mo_astrandOf, .ref mo_aweight, .ref mo_aheight, .ref mo_achairOf, .ref mo_anoteMinute, .ref mo_anoteWho, .ref mo_anoteIs, .ref mo_atoldCane, .ref mo_anewScalar, .ref mo_anewCane, .ref mo_anewHeight, .ref mo_anewStrand, .ref mo_anewChair, .ref mo_anewWeight, .int mo_taped, .int mo_p, .int mo_fault, .int mo_slot, .int mo_rules, .int mo_entries, .int mo_deep, .int mo_counted, .int mo_opened, .int mo_words, .ref mo_atape, .ref mo_asort, .ref mo_anumber, .ref mo_aclauses, .ref mo_asumAt, .ref mo_atestAt, .ref mo_aendAt, .ref mo_aopen, .ref mo_aasked, .ref mo_astack, .ref mo_amust, .ref mo_apast, .ref mo_apastOf, .int mo_pastMany, .int mo_pastAt, .int mo_takesBack, .ref mo_acanRise, .ref mo_afirstHas, .ref mo_asecondHas, .ref mo_alay, .ref mo_ashows, .ref mo_aimages, .ref mo_aisMade, .int mo_imageAt, .int mo_goesBack])), (mo_astrandOf, hcI k 8 mo_rstrandOf), (mo_aweight, hcI k 8 mo_rweight), (mo_achairOf, hcI k 8 mo_rchairOf), (mo_ascalar, hcI k 8 (sc8 mo_s0 mo_s1 mo_s2 mo_s3 mo_s4 mo_s5 mo_s6 mo_s7))]) H := hP
    have hD : va_D A ([(mo_acane, hcI k 4 mo_rcane), (mo, .inr (7, [.int mo_thrown, .ref mo_ascalar, .ref mo_acane, .ref mo_ais, .ref mo_astrandOf, .ref mo_aweight, .ref mo_aheight, .ref mo_achairOf, .ref mo_anoteMinute, .ref mo_anoteWho, .ref mo_anoteIs, .ref mo_atoldCane, .ref mo_anewScalar, .ref mo_anewCane, .ref mo_anewHeight, .ref mo_anewStrand, .ref mo_anewChair, .ref mo_anewWeight, .int mo_taped, .int mo_p, .int mo_fault, .int mo_slot, .int mo_rules, .int mo_entries, .int mo_deep, .int mo_counted, .int mo_opened, .int mo_words, .ref mo_atape, .ref mo_asort, .ref mo_anumber, .ref mo_aclauses, .ref mo_asumAt, .ref mo_atestAt, .ref mo_aendAt, .ref mo_aopen, .ref mo_aasked, .ref mo_astack, .ref mo_amust, .ref mo_apast, .ref mo_apastOf, .int mo_pastMany, .int mo_pastAt, .int mo_takesBack, .ref mo_acanRise, .ref mo_afirstHas, .ref mo_asecondHas, .ref mo_alay, .ref mo_ashows, .ref mo_aimages, .ref mo_aisMade, .int mo_imageAt, .int mo_goesBack])), (mo_astrandOf, hcI k 8 mo_rstrandOf), (mo_aweight, hcI k 8 mo_rweight), (mo_achairOf, hcI k 8 mo_rchairOf), (mo_ascalar, hcI k 8 (sc8 mo_s0 mo_s1 mo_s2 mo_s3 mo_s4 mo_s5 mo_s6 mo_s7))]) := hD
    obtain ⟨br14, rel15⟩ := hw
    have br14 : iv (0) (160) r14 := br14
    have br14_l := br14.1
    have br14_u := br14.2
    have kq := toNatClampNeg_toInt (x := x2) (by omega)
    have hbq : bt x1 (Int32.toNatClampNeg x2) = true := by rcases rel5 with g | g; exact g.2; exact absurd g.1 (by omega)
    have hwq := rel15 (Int32.toNatClampNeg x2) (by omega) (rel12 _ (by omega) hbq (by rw [← ez1, ← ez2]))
    refine lv_idiv hx hb dX9_gives_43 (cd_ne_t (a := r14.toInt) (b := 0) rfl (by decide) (by omega)) ?_
    refine lv_topi (fun z16 ez16 => ?_)
    refine lv_goto (tgt := 48) hx hb dX9_gives_44 (by decide) ?_
    exact hc_end hx hb hr hlocks () trivial (hP.sub [1, 0, 2, 3, 4, 5] rfl) (hD.sub [1, 0, 2, 3, 4, 5] (by decide) rfl) hS dX9_gives_48
set_option maxHeartbeats 4000000 in
set_option maxRecDepth 100000 in
theorem i_X9_givesNow (l : Launch) (D : va_G) (k : Nat → ClassId) (sz : Nat) (x2 : Int32) (mo : Nat) (mo_thrown : Int32) (mo_ascalar : Nat) (mo_acane : Nat) (mo_ais : Nat) (mo_astrandOf : Nat) (mo_aweight : Nat) (mo_aheight : Nat) (mo_achairOf : Nat) (mo_anoteMinute : Nat) (mo_anoteWho : Nat) (mo_anoteIs : Nat) (mo_atoldCane : Nat) (mo_anewScalar : Nat) (mo_anewCane : Nat) (mo_anewHeight : Nat) (mo_anewStrand : Nat) (mo_anewChair : Nat) (mo_anewWeight : Nat) (mo_taped : Int32) (mo_p : Int32) (mo_fault : Int32) (mo_slot : Int32) (mo_rules : Int32) (mo_entries : Int32) (mo_deep : Int32) (mo_counted : Int32) (mo_opened : Int32) (mo_words : Int32) (mo_atape : Nat) (mo_asort : Nat) (mo_anumber : Nat) (mo_aclauses : Nat) (mo_asumAt : Nat) (mo_atestAt : Nat) (mo_aendAt : Nat) (mo_aopen : Nat) (mo_aasked : Nat) (mo_astack : Nat) (mo_amust : Nat) (mo_apast : Nat) (mo_apastOf : Nat) (mo_pastMany : Int32) (mo_pastAt : Int32) (mo_takesBack : Int32) (mo_acanRise : Nat) (mo_afirstHas : Nat) (mo_asecondHas : Nat) (mo_alay : Nat) (mo_ashows : Nat) (mo_aimages : Nat) (mo_aisMade : Nat) (mo_imageAt : Int32) (mo_goesBack : Int32) (mo_rcane : Nat → Int32) (mo_ris : Nat → Int32) (mo_rstrandOf : Nat → Int32) (mo_rweight : Nat → Int32) (mo_rchairOf : Nat → Int32) (mo_s0 : Int32) (mo_s1 : Int32) (mo_s2 : Int32) (mo_s3 : Int32) (mo_s4 : Int32) (mo_s5 : Int32) (mo_s6 : Int32) (mo_s7 : Int32) (h_x2 : iv (0) (7) x2) (h_mo_taped : iv (0) (400) mo_taped) (h_mo_p : iv (0) (402) mo_p) (h_mo_fault : iv (0) (4000) mo_fault) (h_mo_slot : iv (0) (5) mo_slot) (h_mo_rules : iv (0) (6) mo_rules) (h_mo_entries : iv (0) (300) mo_entries) (h_mo_counted : iv (0) (70) mo_counted) (h_mo_opened : iv (0) (402) mo_opened) (h_mo_words : iv (11) (11) mo_words) (h_mo_pastMany : iv (0) (20) mo_pastMany) (h_mo_pastAt : iv (0) (260) mo_pastAt) (h_mo_takesBack : iv (0) (1) mo_takesBack) (h_mo_imageAt : iv (0) (2000) mo_imageAt) (h_mo_goesBack : iv (0) (1) mo_goesBack) (h_mo_rweight : rowIn (0) (20) mo_rweight) (h_mo_rchairOf : rowIn (0) (7) mo_rchairOf) (h_mo_s1 : iv (0) (4) mo_s1) (h_mo_s2 : iv (0) (8) mo_s2) (h_mo_s3 : iv (0) (8) mo_s3) (h_mo_s5 : iv (0) (10) mo_s5) (h_mo_s7 : iv (-1) (5) mo_s7) (hr_q : x2.toInt < mo_s3.toInt) (hh_HallOk : HallOk mo_s2 mo_s3 mo_rstrandOf mo_rchairOf mo_rweight) : CtI l yX9_givesNow wsX9_givesNow (rmK 4 0 0) [.ref mo, .int x2] D k sz ([(mo, .inr (7, [.int mo_thrown, .ref mo_ascalar, .ref mo_acane, .ref mo_ais, .ref mo_astrandOf, .ref mo_aweight, .ref mo_aheight, .ref mo_achairOf, .ref mo_anoteMinute, .ref mo_anoteWho, .ref mo_anoteIs, .ref mo_atoldCane, .ref mo_anewScalar, .ref mo_anewCane, .ref mo_anewHeight, .ref mo_anewStrand, .ref mo_anewChair, .ref mo_anewWeight, .int mo_taped, .int mo_p, .int mo_fault, .int mo_slot, .int mo_rules, .int mo_entries, .int mo_deep, .int mo_counted, .int mo_opened, .int mo_words, .ref mo_atape, .ref mo_asort, .ref mo_anumber, .ref mo_aclauses, .ref mo_asumAt, .ref mo_atestAt, .ref mo_aendAt, .ref mo_aopen, .ref mo_aasked, .ref mo_astack, .ref mo_amust, .ref mo_apast, .ref mo_apastOf, .int mo_pastMany, .int mo_pastAt, .int mo_takesBack, .ref mo_acanRise, .ref mo_afirstHas, .ref mo_asecondHas, .ref mo_alay, .ref mo_ashows, .ref mo_aimages, .ref mo_aisMade, .int mo_imageAt, .int mo_goesBack])), (mo_acane, hcI k 4 mo_rcane), (mo_ais, hcI k 8 mo_ris), (mo_astrandOf, hcI k 8 mo_rstrandOf), (mo_aweight, hcI k 8 mo_rweight), (mo_achairOf, hcI k 8 mo_rchairOf), (mo_ascalar, hcI k 8 (sc8 mo_s0 mo_s1 mo_s2 mo_s3 mo_s4 mo_s5 mo_s6 mo_s7))]) (fun (r : Int32) (u : Unit) => True) (fun u : Unit => [(mo, .inr (7, [.int mo_thrown, .ref mo_ascalar, .ref mo_acane, .ref mo_ais, .ref mo_astrandOf, .ref mo_aweight, .ref mo_aheight, .ref mo_achairOf, .ref mo_anoteMinute, .ref mo_anoteWho, .ref mo_anoteIs, .ref mo_atoldCane, .ref mo_anewScalar, .ref mo_anewCane, .ref mo_anewHeight, .ref mo_anewStrand, .ref mo_anewChair, .ref mo_anewWeight, .int mo_taped, .int mo_p, .int mo_fault, .int mo_slot, .int mo_rules, .int mo_entries, .int mo_deep, .int mo_counted, .int mo_opened, .int mo_words, .ref mo_atape, .ref mo_asort, .ref mo_anumber, .ref mo_aclauses, .ref mo_asumAt, .ref mo_atestAt, .ref mo_aendAt, .ref mo_aopen, .ref mo_aasked, .ref mo_astack, .ref mo_amust, .ref mo_apast, .ref mo_apastOf, .int mo_pastMany, .int mo_pastAt, .int mo_takesBack, .ref mo_acanRise, .ref mo_afirstHas, .ref mo_asecondHas, .ref mo_alay, .ref mo_ashows, .ref mo_aimages, .ref mo_aisMade, .int mo_imageAt, .int mo_goesBack])), (mo_acane, hcI k 4 mo_rcane), (mo_ais, hcI k 8 mo_ris), (mo_astrandOf, hcI k 8 mo_rstrandOf), (mo_aweight, hcI k 8 mo_rweight), (mo_achairOf, hcI k 8 mo_rchairOf), (mo_ascalar, hcI k 8 (sc8 mo_s0 mo_s1 mo_s2 mo_s3 mo_s4 mo_s5 mo_s6 mo_s7))]) 0 0 := by
  have h_x2_l := h_x2.1
  have h_x2_u := h_x2.2
  have h_mo_taped_l := h_mo_taped.1
  have h_mo_taped_u := h_mo_taped.2
  have h_mo_p_l := h_mo_p.1
  have h_mo_p_u := h_mo_p.2
  have h_mo_fault_l := h_mo_fault.1
  have h_mo_fault_u := h_mo_fault.2
  have h_mo_slot_l := h_mo_slot.1
  have h_mo_slot_u := h_mo_slot.2
  have h_mo_rules_l := h_mo_rules.1
  have h_mo_rules_u := h_mo_rules.2
  have h_mo_entries_l := h_mo_entries.1
  have h_mo_entries_u := h_mo_entries.2
  have h_mo_counted_l := h_mo_counted.1
  have h_mo_counted_u := h_mo_counted.2
  have h_mo_opened_l := h_mo_opened.1
  have h_mo_opened_u := h_mo_opened.2
  have h_mo_words_l := h_mo_words.1
  have h_mo_words_u := h_mo_words.2
  have h_mo_pastMany_l := h_mo_pastMany.1
  have h_mo_pastMany_u := h_mo_pastMany.2
  have h_mo_pastAt_l := h_mo_pastAt.1
  have h_mo_pastAt_u := h_mo_pastAt.2
  have h_mo_takesBack_l := h_mo_takesBack.1
  have h_mo_takesBack_u := h_mo_takesBack.2
  have h_mo_imageAt_l := h_mo_imageAt.1
  have h_mo_imageAt_u := h_mo_imageAt.2
  have h_mo_goesBack_l := h_mo_goesBack.1
  have h_mo_goesBack_u := h_mo_goesBack.2
  have h_mo_s1_l := h_mo_s1.1
  have h_mo_s1_u := h_mo_s1.2
  have h_mo_s2_l := h_mo_s2.1
  have h_mo_s2_u := h_mo_s2.2
  have h_mo_s3_l := h_mo_s3.1
  have h_mo_s3_u := h_mo_s3.2
  have h_mo_s5_l := h_mo_s5.1
  have h_mo_s5_u := h_mo_s5.2
  have h_mo_s7_l := h_mo_s7.1
  have h_mo_s7_u := h_mo_s7.2
  refine CtI.mk (cc := cX9_givesNow) (maxL := 2) (ret := (some .int)) (by decide) rfl (Nat.le_of_ble_eq_true rfl) ?_
  intro p e s m below meth c A ls E hP hD hS hl
  obtain ⟨hx, hb, hr, hml, hown, hts, hlocks, hin, hG, hA⟩ := E
  have hown : s.vm.findClass RX9 = some m.cls := hown
  have in9 : ∀ w ∈ u_ws RX9 TX9 53, w ∈ wsX9_givesNow := fun _ h => List.mem_cons_of_mem _ (List.mem_append_right _ h)
  have hl : lv_has ls 2 [(0, .ref mo), (1, .int x2)] := hl
  refine lv_aload_n hx hb dX9_givesNow_0 rfl (lv_at hl 0 rfl) ?_
  refine lv_aload_n hx hb dX9_givesNow_1 rfl (lv_at hl 0 rfl) ?_
  refine lv_iconst (v := 1) hx hb dX9_givesNow_2 (by decide) ?_
  have ql1 : (1 : Int32).toInt = 1 := by decide
  refine hc_Vi (As := [.int 1]) (rest := [.ref mo]) (n := 1) (wr := [(mo_acane, hcI k 4 mo_rcane), (mo_astrandOf, hcI k 8 mo_rstrandOf), (mo_aweight, hcI k 8 mo_rweight), (mo_achairOf, hcI k 8 mo_rchairOf)]) hx hb hml hown hts hG hA hP hD hS hl.1 [0, 2, 6] [1, 3, 4, 5] (i_X9_those l D k _ 1 mo mo_thrown mo_ascalar mo_acane mo_ais mo_astrandOf mo_aweight mo_aheight mo_achairOf mo_anoteMinute mo_anoteWho mo_anoteIs mo_atoldCane mo_anewScalar mo_anewCane mo_anewHeight mo_anewStrand mo_anewChair mo_anewWeight mo_taped mo_p mo_fault mo_slot mo_rules mo_entries mo_deep mo_counted mo_opened mo_words mo_atape mo_asort mo_anumber mo_aclauses mo_asumAt mo_atestAt mo_aendAt mo_aopen mo_aasked mo_astack mo_amust mo_apast mo_apastOf mo_pastMany mo_pastAt mo_takesBack mo_acanRise mo_afirstHas mo_asecondHas mo_alay mo_ashows mo_aimages mo_aisMade mo_imageAt mo_goesBack mo_ris mo_s0 mo_s1 mo_s2 mo_s3 mo_s4 mo_s5 mo_s6 mo_s7 ⟨by omega, by omega⟩ ⟨by omega, by omega⟩ ⟨by omega, by omega⟩ ⟨by omega, by omega⟩ ⟨by omega, by omega⟩ ⟨by omega, by omega⟩ ⟨by omega, by omega⟩ ⟨by omega, by omega⟩ ⟨by omega, by omega⟩ ⟨by omega, by omega⟩ ⟨by omega, by omega⟩ ⟨by omega, by omega⟩ ⟨by omega, by omega⟩ ⟨by omega, by omega⟩ ⟨by omega, by omega⟩ ⟨by omega, by omega⟩ ⟨by omega, by omega⟩ ⟨by omega, by omega⟩ ⟨by omega, by omega⟩) (ci := 7) (q0 := 0) rfl rfl gX9_givesNow_X9_those rfl ⟨rfl, rfl, Nat.le_of_ble_eq_true rfl, Nat.le_of_ble_eq_true rfl⟩ (by decide +kernel) rfl rfl ⟨by decide, by decide, by decide⟩ ⟨rfl, rfl, Nat.le_of_ble_eq_true rfl, Nat.le_of_ble_eq_true rfl, Nat.le_of_ble_eq_true rfl⟩ dX9_givesNow_3 (fun r3 u2 H locs hw hP hD hS => ?_)
  have hP : va_P D vwCl ([(mo_acane, hcI k 4 mo_rcane), (mo_astrandOf, hcI k 8 mo_rstrandOf), (mo_aweight, hcI k 8 mo_rweight), (mo_achairOf, hcI k 8 mo_rchairOf), (mo, .inr (7, [.int mo_thrown, .ref mo_ascalar, .ref mo_acane, .ref mo_ais, .ref mo_astrandOf, .ref mo_aweight, .ref mo_aheight, .ref mo_achairOf, .ref mo_anoteMinute, .ref mo_anoteWho, .ref mo_anoteIs, .ref mo_atoldCane, .ref mo_anewScalar, .ref mo_anewCane, .ref mo_anewHeight, .ref mo_anewStrand, .ref mo_anewChair, .ref mo_anewWeight, .int mo_taped, .int mo_p, .int mo_fault, .int mo_slot, .int mo_rules, .int mo_entries, .int mo_deep, .int mo_counted, .int mo_opened, .int mo_words, .ref mo_atape, .ref mo_asort, .ref mo_anumber, .ref mo_aclauses, .ref mo_asumAt, .ref mo_atestAt, .ref mo_aendAt, .ref mo_aopen, .ref mo_aasked, .ref mo_astack, .ref mo_amust, .ref mo_apast, .ref mo_apastOf, .int mo_pastMany, .int mo_pastAt, .int mo_takesBack, .ref mo_acanRise, .ref mo_afirstHas, .ref mo_asecondHas, .ref mo_alay, .ref mo_ashows, .ref mo_aimages, .ref mo_aisMade, .int mo_imageAt, .int mo_goesBack])), (mo_ais, hcI k 8 mo_ris), (mo_ascalar, hcI k 8 (sc8 mo_s0 mo_s1 mo_s2 mo_s3 mo_s4 mo_s5 mo_s6 mo_s7))]) H := hP
  have hD : va_D A ([(mo_acane, hcI k 4 mo_rcane), (mo_astrandOf, hcI k 8 mo_rstrandOf), (mo_aweight, hcI k 8 mo_rweight), (mo_achairOf, hcI k 8 mo_rchairOf), (mo, .inr (7, [.int mo_thrown, .ref mo_ascalar, .ref mo_acane, .ref mo_ais, .ref mo_astrandOf, .ref mo_aweight, .ref mo_aheight, .ref mo_achairOf, .ref mo_anoteMinute, .ref mo_anoteWho, .ref mo_anoteIs, .ref mo_atoldCane, .ref mo_anewScalar, .ref mo_anewCane, .ref mo_anewHeight, .ref mo_anewStrand, .ref mo_anewChair, .ref mo_anewWeight, .int mo_taped, .int mo_p, .int mo_fault, .int mo_slot, .int mo_rules, .int mo_entries, .int mo_deep, .int mo_counted, .int mo_opened, .int mo_words, .ref mo_atape, .ref mo_asort, .ref mo_anumber, .ref mo_aclauses, .ref mo_asumAt, .ref mo_atestAt, .ref mo_aendAt, .ref mo_aopen, .ref mo_aasked, .ref mo_astack, .ref mo_amust, .ref mo_apast, .ref mo_apastOf, .int mo_pastMany, .int mo_pastAt, .int mo_takesBack, .ref mo_acanRise, .ref mo_afirstHas, .ref mo_asecondHas, .ref mo_alay, .ref mo_ashows, .ref mo_aimages, .ref mo_aisMade, .int mo_imageAt, .int mo_goesBack])), (mo_ais, hcI k 8 mo_ris), (mo_ascalar, hcI k 8 (sc8 mo_s0 mo_s1 mo_s2 mo_s3 mo_s4 mo_s5 mo_s6 mo_s7))]) := hD
  have ql5 : (1 : Int32).toInt = 1 := by decide
  have rel4 := hw
  refine lv_iload_n hx hb dX9_givesNow_6 rfl (lv_at hl 1 rfl) ?_
  refine hc_Vi (As := [.int r3, .int x2]) (rest := []) (n := 2) (wr := [(mo_ais, hcI k 8 mo_ris)]) hx hb hml hown hts hG hA hP hD hS hl.1 [4, 0, 1, 2, 3, 6] [5] (i_X9_gives l D k _ r3 x2 mo mo_thrown mo_ascalar mo_acane mo_ais mo_astrandOf mo_aweight mo_aheight mo_achairOf mo_anoteMinute mo_anoteWho mo_anoteIs mo_atoldCane mo_anewScalar mo_anewCane mo_anewHeight mo_anewStrand mo_anewChair mo_anewWeight mo_taped mo_p mo_fault mo_slot mo_rules mo_entries mo_deep mo_counted mo_opened mo_words mo_atape mo_asort mo_anumber mo_aclauses mo_asumAt mo_atestAt mo_aendAt mo_aopen mo_aasked mo_astack mo_amust mo_apast mo_apastOf mo_pastMany mo_pastAt mo_takesBack mo_acanRise mo_afirstHas mo_asecondHas mo_alay mo_ashows mo_aimages mo_aisMade mo_imageAt mo_goesBack mo_rcane mo_rstrandOf mo_rweight mo_rchairOf mo_s0 mo_s1 mo_s2 mo_s3 mo_s4 mo_s5 mo_s6 mo_s7 ⟨by omega, by omega⟩ ⟨by omega, by omega⟩ ⟨by omega, by omega⟩ ⟨by omega, by omega⟩ ⟨by omega, by omega⟩ ⟨by omega, by omega⟩ ⟨by omega, by omega⟩ ⟨by omega, by omega⟩ ⟨by omega, by omega⟩ ⟨by omega, by omega⟩ ⟨by omega, by omega⟩ ⟨by omega, by omega⟩ ⟨by omega, by omega⟩ ⟨by omega, by omega⟩ ⟨by omega, by omega⟩ h_mo_rweight h_mo_rchairOf ⟨by omega, by omega⟩ ⟨by omega, by omega⟩ ⟨by omega, by omega⟩ ⟨by omega, by omega⟩ ⟨by omega, by omega⟩ (by omega) hh_HallOk) (ci := 7) (q0 := 4) rfl rfl gX9_givesNow_X9_gives rfl ⟨rfl, rfl, Nat.le_of_ble_eq_true rfl, Nat.le_of_ble_eq_true rfl⟩ (by decide +kernel) rfl rfl ⟨by decide, by decide, by decide⟩ ⟨rfl, rfl, Nat.le_of_ble_eq_true rfl, Nat.le_of_ble_eq_true rfl, Nat.le_of_ble_eq_true rfl⟩ dX9_givesNow_7 (fun r7 u6 H locs hw hP hD hS => ?_)
  have hP : va_P D vwCl ([(mo_ais, hcI k 8 mo_ris), (mo, .inr (7, [.int mo_thrown, .ref mo_ascalar, .ref mo_acane, .ref mo_ais, .ref mo_astrandOf, .ref mo_aweight, .ref mo_aheight, .ref mo_achairOf, .ref mo_anoteMinute, .ref mo_anoteWho, .ref mo_anoteIs, .ref mo_atoldCane, .ref mo_anewScalar, .ref mo_anewCane, .ref mo_anewHeight, .ref mo_anewStrand, .ref mo_anewChair, .ref mo_anewWeight, .int mo_taped, .int mo_p, .int mo_fault, .int mo_slot, .int mo_rules, .int mo_entries, .int mo_deep, .int mo_counted, .int mo_opened, .int mo_words, .ref mo_atape, .ref mo_asort, .ref mo_anumber, .ref mo_aclauses, .ref mo_asumAt, .ref mo_atestAt, .ref mo_aendAt, .ref mo_aopen, .ref mo_aasked, .ref mo_astack, .ref mo_amust, .ref mo_apast, .ref mo_apastOf, .int mo_pastMany, .int mo_pastAt, .int mo_takesBack, .ref mo_acanRise, .ref mo_afirstHas, .ref mo_asecondHas, .ref mo_alay, .ref mo_ashows, .ref mo_aimages, .ref mo_aisMade, .int mo_imageAt, .int mo_goesBack])), (mo_acane, hcI k 4 mo_rcane), (mo_astrandOf, hcI k 8 mo_rstrandOf), (mo_aweight, hcI k 8 mo_rweight), (mo_achairOf, hcI k 8 mo_rchairOf), (mo_ascalar, hcI k 8 (sc8 mo_s0 mo_s1 mo_s2 mo_s3 mo_s4 mo_s5 mo_s6 mo_s7))]) H := hP
  have hD : va_D A ([(mo_ais, hcI k 8 mo_ris), (mo, .inr (7, [.int mo_thrown, .ref mo_ascalar, .ref mo_acane, .ref mo_ais, .ref mo_astrandOf, .ref mo_aweight, .ref mo_aheight, .ref mo_achairOf, .ref mo_anoteMinute, .ref mo_anoteWho, .ref mo_anoteIs, .ref mo_atoldCane, .ref mo_anewScalar, .ref mo_anewCane, .ref mo_anewHeight, .ref mo_anewStrand, .ref mo_anewChair, .ref mo_anewWeight, .int mo_taped, .int mo_p, .int mo_fault, .int mo_slot, .int mo_rules, .int mo_entries, .int mo_deep, .int mo_counted, .int mo_opened, .int mo_words, .ref mo_atape, .ref mo_asort, .ref mo_anumber, .ref mo_aclauses, .ref mo_asumAt, .ref mo_atestAt, .ref mo_aendAt, .ref mo_aopen, .ref mo_aasked, .ref mo_astack, .ref mo_amust, .ref mo_apast, .ref mo_apastOf, .int mo_pastMany, .int mo_pastAt, .int mo_takesBack, .ref mo_acanRise, .ref mo_afirstHas, .ref mo_asecondHas, .ref mo_alay, .ref mo_ashows, .ref mo_aimages, .ref mo_aisMade, .int mo_imageAt, .int mo_goesBack])), (mo_acane, hcI k 4 mo_rcane), (mo_astrandOf, hcI k 8 mo_rstrandOf), (mo_aweight, hcI k 8 mo_rweight), (mo_achairOf, hcI k 8 mo_rchairOf), (mo_ascalar, hcI k 8 (sc8 mo_s0 mo_s1 mo_s2 mo_s3 mo_s4 mo_s5 mo_s6 mo_s7))]) := hD
  exact hc_end hx hb hr hlocks () trivial (hP.sub [1, 2, 0, 3, 4, 5, 6] rfl) (hD.sub [1, 2, 0, 3, 4, 5, 6] (by decide) rfl) hS dX9_givesNow_10
set_option maxHeartbeats 4000000 in
set_option maxRecDepth 100000 in
theorem i_X9_dropsOf (l : Launch) (D : va_G) (k : Nat → ClassId) (sz : Nat) (x1 : Int32) (mo : Nat) (mo_thrown : Int32) (mo_ascalar : Nat) (mo_acane : Nat) (mo_ais : Nat) (mo_astrandOf : Nat) (mo_aweight : Nat) (mo_aheight : Nat) (mo_achairOf : Nat) (mo_anoteMinute : Nat) (mo_anoteWho : Nat) (mo_anoteIs : Nat) (mo_atoldCane : Nat) (mo_anewScalar : Nat) (mo_anewCane : Nat) (mo_anewHeight : Nat) (mo_anewStrand : Nat) (mo_anewChair : Nat) (mo_anewWeight : Nat) (mo_taped : Int32) (mo_p : Int32) (mo_fault : Int32) (mo_slot : Int32) (mo_rules : Int32) (mo_entries : Int32) (mo_deep : Int32) (mo_counted : Int32) (mo_opened : Int32) (mo_words : Int32) (mo_atape : Nat) (mo_asort : Nat) (mo_anumber : Nat) (mo_aclauses : Nat) (mo_asumAt : Nat) (mo_atestAt : Nat) (mo_aendAt : Nat) (mo_aopen : Nat) (mo_aasked : Nat) (mo_astack : Nat) (mo_amust : Nat) (mo_apast : Nat) (mo_apastOf : Nat) (mo_pastMany : Int32) (mo_pastAt : Int32) (mo_takesBack : Int32) (mo_acanRise : Nat) (mo_afirstHas : Nat) (mo_asecondHas : Nat) (mo_alay : Nat) (mo_ashows : Nat) (mo_aimages : Nat) (mo_aisMade : Nat) (mo_imageAt : Int32) (mo_goesBack : Int32) (mo_rcane : Nat → Int32) (mo_rstrandOf : Nat → Int32) (mo_rweight : Nat → Int32) (mo_rheight : Nat → Int32) (mo_rchairOf : Nat → Int32) (mo_s0 : Int32) (mo_s1 : Int32) (mo_s2 : Int32) (mo_s3 : Int32) (mo_s4 : Int32) (mo_s5 : Int32) (mo_s6 : Int32) (mo_s7 : Int32) (h_mo_taped : iv (0) (400) mo_taped) (h_mo_p : iv (0) (402) mo_p) (h_mo_fault : iv (0) (4000) mo_fault) (h_mo_slot : iv (0) (5) mo_slot) (h_mo_rules : iv (0) (6) mo_rules) (h_mo_entries : iv (0) (300) mo_entries) (h_mo_counted : iv (0) (70) mo_counted) (h_mo_opened : iv (0) (402) mo_opened) (h_mo_words : iv (11) (11) mo_words) (h_mo_pastMany : iv (0) (20) mo_pastMany) (h_mo_pastAt : iv (0) (260) mo_pastAt) (h_mo_takesBack : iv (0) (1) mo_takesBack) (h_mo_imageAt : iv (0) (2000) mo_imageAt) (h_mo_goesBack : iv (0) (1) mo_goesBack) (h_mo_rweight : rowIn (0) (20) mo_rweight) (h_mo_rchairOf : rowIn (0) (7) mo_rchairOf) (h_mo_s1 : iv (0) (4) mo_s1) (h_mo_s2 : iv (0) (8) mo_s2) (h_mo_s3 : iv (0) (8) mo_s3) (h_mo_s5 : iv (0) (10) mo_s5) (h_mo_s7 : iv (-1) (5) mo_s7) (hh_HallOk : HallOk mo_s2 mo_s3 mo_rstrandOf mo_rchairOf mo_rweight) : CtI l yX9_dropsOf wsX9_dropsOf (rmK 4 0 0) [.ref mo, .int x1] D k sz ([(mo, .inr (7, [.int mo_thrown, .ref mo_ascalar, .ref mo_acane, .ref mo_ais, .ref mo_astrandOf, .ref mo_aweight, .ref mo_aheight, .ref mo_achairOf, .ref mo_anoteMinute, .ref mo_anoteWho, .ref mo_anoteIs, .ref mo_atoldCane, .ref mo_anewScalar, .ref mo_anewCane, .ref mo_anewHeight, .ref mo_anewStrand, .ref mo_anewChair, .ref mo_anewWeight, .int mo_taped, .int mo_p, .int mo_fault, .int mo_slot, .int mo_rules, .int mo_entries, .int mo_deep, .int mo_counted, .int mo_opened, .int mo_words, .ref mo_atape, .ref mo_asort, .ref mo_anumber, .ref mo_aclauses, .ref mo_asumAt, .ref mo_atestAt, .ref mo_aendAt, .ref mo_aopen, .ref mo_aasked, .ref mo_astack, .ref mo_amust, .ref mo_apast, .ref mo_apastOf, .int mo_pastMany, .int mo_pastAt, .int mo_takesBack, .ref mo_acanRise, .ref mo_afirstHas, .ref mo_asecondHas, .ref mo_alay, .ref mo_ashows, .ref mo_aimages, .ref mo_aisMade, .int mo_imageAt, .int mo_goesBack])), (mo_acane, hcI k 4 mo_rcane), (mo_astrandOf, hcI k 8 mo_rstrandOf), (mo_aweight, hcI k 8 mo_rweight), (mo_aheight, hcI k 8 mo_rheight), (mo_achairOf, hcI k 8 mo_rchairOf), (mo_ascalar, hcI k 8 (sc8 mo_s0 mo_s1 mo_s2 mo_s3 mo_s4 mo_s5 mo_s6 mo_s7))]) (fun (r : Int32) (u : Unit) => (DI x1 mo_s3 r)) (fun u : Unit => [(mo, .inr (7, [.int mo_thrown, .ref mo_ascalar, .ref mo_acane, .ref mo_ais, .ref mo_astrandOf, .ref mo_aweight, .ref mo_aheight, .ref mo_achairOf, .ref mo_anoteMinute, .ref mo_anoteWho, .ref mo_anoteIs, .ref mo_atoldCane, .ref mo_anewScalar, .ref mo_anewCane, .ref mo_anewHeight, .ref mo_anewStrand, .ref mo_anewChair, .ref mo_anewWeight, .int mo_taped, .int mo_p, .int mo_fault, .int mo_slot, .int mo_rules, .int mo_entries, .int mo_deep, .int mo_counted, .int mo_opened, .int mo_words, .ref mo_atape, .ref mo_asort, .ref mo_anumber, .ref mo_aclauses, .ref mo_asumAt, .ref mo_atestAt, .ref mo_aendAt, .ref mo_aopen, .ref mo_aasked, .ref mo_astack, .ref mo_amust, .ref mo_apast, .ref mo_apastOf, .int mo_pastMany, .int mo_pastAt, .int mo_takesBack, .ref mo_acanRise, .ref mo_afirstHas, .ref mo_asecondHas, .ref mo_alay, .ref mo_ashows, .ref mo_aimages, .ref mo_aisMade, .int mo_imageAt, .int mo_goesBack])), (mo_acane, hcI k 4 mo_rcane), (mo_astrandOf, hcI k 8 mo_rstrandOf), (mo_aweight, hcI k 8 mo_rweight), (mo_aheight, hcI k 8 mo_rheight), (mo_achairOf, hcI k 8 mo_rchairOf), (mo_ascalar, hcI k 8 (sc8 mo_s0 mo_s1 mo_s2 mo_s3 mo_s4 mo_s5 mo_s6 mo_s7))]) 0 0 := by
  have h_mo_taped_l := h_mo_taped.1
  have h_mo_taped_u := h_mo_taped.2
  have h_mo_p_l := h_mo_p.1
  have h_mo_p_u := h_mo_p.2
  have h_mo_fault_l := h_mo_fault.1
  have h_mo_fault_u := h_mo_fault.2
  have h_mo_slot_l := h_mo_slot.1
  have h_mo_slot_u := h_mo_slot.2
  have h_mo_rules_l := h_mo_rules.1
  have h_mo_rules_u := h_mo_rules.2
  have h_mo_entries_l := h_mo_entries.1
  have h_mo_entries_u := h_mo_entries.2
  have h_mo_counted_l := h_mo_counted.1
  have h_mo_counted_u := h_mo_counted.2
  have h_mo_opened_l := h_mo_opened.1
  have h_mo_opened_u := h_mo_opened.2
  have h_mo_words_l := h_mo_words.1
  have h_mo_words_u := h_mo_words.2
  have h_mo_pastMany_l := h_mo_pastMany.1
  have h_mo_pastMany_u := h_mo_pastMany.2
  have h_mo_pastAt_l := h_mo_pastAt.1
  have h_mo_pastAt_u := h_mo_pastAt.2
  have h_mo_takesBack_l := h_mo_takesBack.1
  have h_mo_takesBack_u := h_mo_takesBack.2
  have h_mo_imageAt_l := h_mo_imageAt.1
  have h_mo_imageAt_u := h_mo_imageAt.2
  have h_mo_goesBack_l := h_mo_goesBack.1
  have h_mo_goesBack_u := h_mo_goesBack.2
  have h_mo_s1_l := h_mo_s1.1
  have h_mo_s1_u := h_mo_s1.2
  have h_mo_s2_l := h_mo_s2.1
  have h_mo_s2_u := h_mo_s2.2
  have h_mo_s3_l := h_mo_s3.1
  have h_mo_s3_u := h_mo_s3.2
  have h_mo_s5_l := h_mo_s5.1
  have h_mo_s5_u := h_mo_s5.2
  have h_mo_s7_l := h_mo_s7.1
  have h_mo_s7_u := h_mo_s7.2
  refine CtI.mk (cc := cX9_dropsOf) (maxL := 4) (ret := (some .int)) (by decide) rfl (Nat.le_of_ble_eq_true rfl) ?_
  intro p e s m below meth c A ls E hP hD hS hl
  obtain ⟨hx, hb, hr, hml, hown, hts, hlocks, hin, hG, hA⟩ := E
  have hown : s.vm.findClass RX9 = some m.cls := hown
  have in9 : ∀ w ∈ u_ws RX9 TX9 53, w ∈ wsX9_dropsOf := fun _ h => List.mem_cons_of_mem _ (List.mem_append_right _ h)
  have hl : lv_has ls 4 [(0, .ref mo), (1, .int x1)] := hl
  refine lv_iconst (v := 0) hx hb dX9_dropsOf_0 (by decide) ?_
  refine lv_istore_n (lv' := [(2, .int 0), (0, .ref mo), (1, .int x1)]) hx hb dX9_dropsOf_1 rfl hl (by decide) rfl (fun ls hl => ?_)
  refine lv_iconst (v := 0) hx hb dX9_dropsOf_2 (by decide) ?_
  refine lv_istore_n (lv' := [(3, .int 0), (2, .int 0), (0, .ref mo), (1, .int x1)]) hx hb dX9_dropsOf_3 rfl hl (by decide) rfl (fun ls hl => ?_)
  have loop1 : ∀ (fu : Nat) (L2_1 : Int32) (L3_1 : Int32), iv (0) (8) L3_1 → L3_1.toInt ≤ mo_s3.toInt → DI x1 L3_1 L2_1 → 9 - L3_1.toInt < (fu : Int) → ∀ (H : Heap) (locs : List Loc) (ls : Array Slot), va_P D vwCl ([(mo, .inr (7, [.int mo_thrown, .ref mo_ascalar, .ref mo_acane, .ref mo_ais, .ref mo_astrandOf, .ref mo_aweight, .ref mo_aheight, .ref mo_achairOf, .ref mo_anoteMinute, .ref mo_anoteWho, .ref mo_anoteIs, .ref mo_atoldCane, .ref mo_anewScalar, .ref mo_anewCane, .ref mo_anewHeight, .ref mo_anewStrand, .ref mo_anewChair, .ref mo_anewWeight, .int mo_taped, .int mo_p, .int mo_fault, .int mo_slot, .int mo_rules, .int mo_entries, .int mo_deep, .int mo_counted, .int mo_opened, .int mo_words, .ref mo_atape, .ref mo_asort, .ref mo_anumber, .ref mo_aclauses, .ref mo_asumAt, .ref mo_atestAt, .ref mo_aendAt, .ref mo_aopen, .ref mo_aasked, .ref mo_astack, .ref mo_amust, .ref mo_apast, .ref mo_apastOf, .int mo_pastMany, .int mo_pastAt, .int mo_takesBack, .ref mo_acanRise, .ref mo_afirstHas, .ref mo_asecondHas, .ref mo_alay, .ref mo_ashows, .ref mo_aimages, .ref mo_aisMade, .int mo_imageAt, .int mo_goesBack])), (mo_acane, hcI k 4 mo_rcane), (mo_astrandOf, hcI k 8 mo_rstrandOf), (mo_aweight, hcI k 8 mo_rweight), (mo_aheight, hcI k 8 mo_rheight), (mo_achairOf, hcI k 8 mo_rchairOf), (mo_ascalar, hcI k 8 (sc8 mo_s0 mo_s1 mo_s2 mo_s3 mo_s4 mo_s5 mo_s6 mo_s7))]) H → va_D A ([(mo, .inr (7, [.int mo_thrown, .ref mo_ascalar, .ref mo_acane, .ref mo_ais, .ref mo_astrandOf, .ref mo_aweight, .ref mo_aheight, .ref mo_achairOf, .ref mo_anoteMinute, .ref mo_anoteWho, .ref mo_anoteIs, .ref mo_atoldCane, .ref mo_anewScalar, .ref mo_anewCane, .ref mo_anewHeight, .ref mo_anewStrand, .ref mo_anewChair, .ref mo_anewWeight, .int mo_taped, .int mo_p, .int mo_fault, .int mo_slot, .int mo_rules, .int mo_entries, .int mo_deep, .int mo_counted, .int mo_opened, .int mo_words, .ref mo_atape, .ref mo_asort, .ref mo_anumber, .ref mo_aclauses, .ref mo_asumAt, .ref mo_atestAt, .ref mo_aendAt, .ref mo_aopen, .ref mo_aasked, .ref mo_astack, .ref mo_amust, .ref mo_apast, .ref mo_apastOf, .int mo_pastMany, .int mo_pastAt, .int mo_takesBack, .ref mo_acanRise, .ref mo_afirstHas, .ref mo_asecondHas, .ref mo_alay, .ref mo_ashows, .ref mo_aimages, .ref mo_aisMade, .int mo_imageAt, .int mo_goesBack])), (mo_acane, hcI k 4 mo_rcane), (mo_astrandOf, hcI k 8 mo_rstrandOf), (mo_aweight, hcI k 8 mo_rweight), (mo_aheight, hcI k 8 mo_rheight), (mo_achairOf, hcI k 8 mo_rchairOf), (mo_ascalar, hcI k 8 (sc8 mo_s0 mo_s1 mo_s2 mo_s3 mo_s4 mo_s5 mo_s6 mo_s7))]) → va_S A s.heap H locs → lv_has ls 4 [(3, .int L3_1), (2, .int L2_1), (0, .ref mo), (1, .int x1)] → W p l e (rmK 4 0 0) s m (List.toArray [.ref mo, .int x1]) below meth c H locs 0 0 (MQ below (va_Qi (fun (r : Int32) (u : Unit) => (DI x1 mo_s3 r)) (hcB D (fun u : Unit => [(mo, .inr (7, [.int mo_thrown, .ref mo_ascalar, .ref mo_acane, .ref mo_ais, .ref mo_astrandOf, .ref mo_aweight, .ref mo_aheight, .ref mo_achairOf, .ref mo_anoteMinute, .ref mo_anoteWho, .ref mo_anoteIs, .ref mo_atoldCane, .ref mo_anewScalar, .ref mo_anewCane, .ref mo_anewHeight, .ref mo_anewStrand, .ref mo_anewChair, .ref mo_anewWeight, .int mo_taped, .int mo_p, .int mo_fault, .int mo_slot, .int mo_rules, .int mo_entries, .int mo_deep, .int mo_counted, .int mo_opened, .int mo_words, .ref mo_atape, .ref mo_asort, .ref mo_anumber, .ref mo_aclauses, .ref mo_asumAt, .ref mo_atestAt, .ref mo_aendAt, .ref mo_aopen, .ref mo_aasked, .ref mo_astack, .ref mo_amust, .ref mo_apast, .ref mo_apastOf, .int mo_pastMany, .int mo_pastAt, .int mo_takesBack, .ref mo_acanRise, .ref mo_afirstHas, .ref mo_asecondHas, .ref mo_alay, .ref mo_ashows, .ref mo_aimages, .ref mo_aisMade, .int mo_imageAt, .int mo_goesBack])), (mo_acane, hcI k 4 mo_rcane), (mo_astrandOf, hcI k 8 mo_rstrandOf), (mo_aweight, hcI k 8 mo_rweight), (mo_aheight, hcI k 8 mo_rheight), (mo_achairOf, hcI k 8 mo_rchairOf), (mo_ascalar, hcI k 8 (sc8 mo_s0 mo_s1 mo_s2 mo_s3 mo_s4 mo_s5 mo_s6 mo_s7))]) A) A) (List.toArray [.ref mo, .int x1]) s 0 0 A) (F0 m 4 ls []) := by
    intro fu
    induction fu with
    | zero =>
      intro L2_1 L3_1 bL3_1 hI1_1 hp1_1 hm
      have bL3_1_l := bL3_1.1
      have bL3_1_u := bL3_1.2
      exact absurd hm (by omega)
    | succ fu ih1 =>
      intro L2_1 L3_1 bL3_1 hI1_1 hp1_1 hm H locs ls hP hD hS hl
      have bL3_1_l := bL3_1.1
      have bL3_1_u := bL3_1.2
      refine lv_iload_n hx hb dX9_dropsOf_4 rfl (lv_at hl 0 rfl) ?_
      refine lv_aload_n hx hb dX9_dropsOf_5 rfl (lv_at hl 2 rfl) ?_
      refine va_get (D := D) (ci := 7) (v := .ref mo_ascalar) (C := RX9) (T := TX9) (N := 53) hx hb hts in9 hown hG.1 hP 0 rfl rfl 1 (by decide) (hts (.fieldLink RX9 9 "ChairCaneModel" "scalar" "[I") (by decide +kernel)) (fun _ h9 => h9) rfl dX9_dropsOf_6 ?_
      refine lv_iconst (v := 3) hx hb dX9_dropsOf_9 (by decide) ?_
      refine va_iald hx hb hG.1 hP 6 0 rfl rfl (by unfold vp_in; decide) dX9_dropsOf_10 ?_
      refine hc_is (z := mo_s3) (by rw [show Int32.toNatClampNeg 3 = 3 from by decide]; rfl) ?_
      refine lv_icmp_ge (tgt := 58) hx hb dX9_dropsOf_11 (by decide) (fun c2 => ?_) (fun c2 => ?_)
      · have fc2 := cx_ge_t (a := L3_1.toInt) (b := mo_s3.toInt) rfl rfl c2
        refine lv_iload_n hx hb dX9_dropsOf_58 rfl (lv_at hl 1 rfl) ?_
        exact hc_end hx hb hr hlocks () ((by (try dsimp only); exact (DI_le hp1_1 (by omega)))) hP hD hS dX9_dropsOf_59
      · have fc2 := cx_ge_f (a := L3_1.toInt) (b := mo_s3.toInt) rfl rfl c2
        refine lv_iload_n hx hb dX9_dropsOf_14 rfl (lv_at hl 1 rfl) ?_
        refine lv_iload_n hx hb dX9_dropsOf_15 rfl (lv_at hl 3 rfl) ?_
        refine lv_iload_n hx hb dX9_dropsOf_16 rfl (lv_at hl 0 rfl) ?_
        refine hc_Si (As := [.int x1, .int L3_1]) (rest := [.int L2_1]) (n := 2) (wr := [(mo, .inr (7, [.int mo_thrown, .ref mo_ascalar, .ref mo_acane, .ref mo_ais, .ref mo_astrandOf, .ref mo_aweight, .ref mo_aheight, .ref mo_achairOf, .ref mo_anoteMinute, .ref mo_anoteWho, .ref mo_anoteIs, .ref mo_atoldCane, .ref mo_anewScalar, .ref mo_anewCane, .ref mo_anewHeight, .ref mo_anewStrand, .ref mo_anewChair, .ref mo_anewWeight, .int mo_taped, .int mo_p, .int mo_fault, .int mo_slot, .int mo_rules, .int mo_entries, .int mo_deep, .int mo_counted, .int mo_opened, .int mo_words, .ref mo_atape, .ref mo_asort, .ref mo_anumber, .ref mo_aclauses, .ref mo_asumAt, .ref mo_atestAt, .ref mo_aendAt, .ref mo_aopen, .ref mo_aasked, .ref mo_astack, .ref mo_amust, .ref mo_apast, .ref mo_apastOf, .int mo_pastMany, .int mo_pastAt, .int mo_takesBack, .ref mo_acanRise, .ref mo_afirstHas, .ref mo_asecondHas, .ref mo_alay, .ref mo_ashows, .ref mo_aimages, .ref mo_aisMade, .int mo_imageAt, .int mo_goesBack])), (mo_acane, hcI k 4 mo_rcane), (mo_astrandOf, hcI k 8 mo_rstrandOf), (mo_aweight, hcI k 8 mo_rweight), (mo_aheight, hcI k 8 mo_rheight), (mo_achairOf, hcI k 8 mo_rchairOf), (mo_ascalar, hcI k 8 (sc8 mo_s0 mo_s1 mo_s2 mo_s3 mo_s4 mo_s5 mo_s6 mo_s7))]) hx hb hml hown hts hG hA hP hD hS hl.1 [] [0, 1, 2, 3, 4, 5, 6] (i_X9_has l D k _ x1 L3_1 ⟨by omega, by omega⟩) gX9_dropsOf_X9_has rfl ⟨rfl, rfl, Nat.le_of_ble_eq_true rfl, Nat.le_of_ble_eq_true rfl⟩ (by decide +kernel) rfl rfl ⟨by decide, by decide, by decide⟩ ⟨rfl, rfl, Nat.le_of_ble_eq_true rfl, Nat.le_of_ble_eq_true rfl, Nat.le_of_ble_eq_true rfl⟩ dX9_dropsOf_17 (fun r4 u3 H locs hw hP hD hS => ?_)
        have hP : va_P D vwCl ([(mo, .inr (7, [.int mo_thrown, .ref mo_ascalar, .ref mo_acane, .ref mo_ais, .ref mo_astrandOf, .ref mo_aweight, .ref mo_aheight, .ref mo_achairOf, .ref mo_anoteMinute, .ref mo_anoteWho, .ref mo_anoteIs, .ref mo_atoldCane, .ref mo_anewScalar, .ref mo_anewCane, .ref mo_anewHeight, .ref mo_anewStrand, .ref mo_anewChair, .ref mo_anewWeight, .int mo_taped, .int mo_p, .int mo_fault, .int mo_slot, .int mo_rules, .int mo_entries, .int mo_deep, .int mo_counted, .int mo_opened, .int mo_words, .ref mo_atape, .ref mo_asort, .ref mo_anumber, .ref mo_aclauses, .ref mo_asumAt, .ref mo_atestAt, .ref mo_aendAt, .ref mo_aopen, .ref mo_aasked, .ref mo_astack, .ref mo_amust, .ref mo_apast, .ref mo_apastOf, .int mo_pastMany, .int mo_pastAt, .int mo_takesBack, .ref mo_acanRise, .ref mo_afirstHas, .ref mo_asecondHas, .ref mo_alay, .ref mo_ashows, .ref mo_aimages, .ref mo_aisMade, .int mo_imageAt, .int mo_goesBack])), (mo_acane, hcI k 4 mo_rcane), (mo_astrandOf, hcI k 8 mo_rstrandOf), (mo_aweight, hcI k 8 mo_rweight), (mo_aheight, hcI k 8 mo_rheight), (mo_achairOf, hcI k 8 mo_rchairOf), (mo_ascalar, hcI k 8 (sc8 mo_s0 mo_s1 mo_s2 mo_s3 mo_s4 mo_s5 mo_s6 mo_s7))]) H := hP
        have hD : va_D A ([(mo, .inr (7, [.int mo_thrown, .ref mo_ascalar, .ref mo_acane, .ref mo_ais, .ref mo_astrandOf, .ref mo_aweight, .ref mo_aheight, .ref mo_achairOf, .ref mo_anoteMinute, .ref mo_anoteWho, .ref mo_anoteIs, .ref mo_atoldCane, .ref mo_anewScalar, .ref mo_anewCane, .ref mo_anewHeight, .ref mo_anewStrand, .ref mo_anewChair, .ref mo_anewWeight, .int mo_taped, .int mo_p, .int mo_fault, .int mo_slot, .int mo_rules, .int mo_entries, .int mo_deep, .int mo_counted, .int mo_opened, .int mo_words, .ref mo_atape, .ref mo_asort, .ref mo_anumber, .ref mo_aclauses, .ref mo_asumAt, .ref mo_atestAt, .ref mo_aendAt, .ref mo_aopen, .ref mo_aasked, .ref mo_astack, .ref mo_amust, .ref mo_apast, .ref mo_apastOf, .int mo_pastMany, .int mo_pastAt, .int mo_takesBack, .ref mo_acanRise, .ref mo_afirstHas, .ref mo_asecondHas, .ref mo_alay, .ref mo_ashows, .ref mo_aimages, .ref mo_aisMade, .int mo_imageAt, .int mo_goesBack])), (mo_acane, hcI k 4 mo_rcane), (mo_astrandOf, hcI k 8 mo_rstrandOf), (mo_aweight, hcI k 8 mo_rweight), (mo_aheight, hcI k 8 mo_rheight), (mo_achairOf, hcI k 8 mo_rchairOf), (mo_ascalar, hcI k 8 (sc8 mo_s0 mo_s1 mo_s2 mo_s3 mo_s4 mo_s5 mo_s6 mo_s7))]) := hD
        obtain ⟨br4, rel5⟩ := hw
        have br4 : iv (0) (1) r4 := br4
        have br4_l := br4.1
        have br4_u := br4.2
        refine lv_if_eq (tgt := 49) hx hb dX9_dropsOf_20 (by decide) (fun c6 => ?_) (fun c6 => ?_)
        · have fc6 := cx_eq_t (a := r4.toInt) (b := 0) rfl (by decide) c6
          refine lv_iconst (v := 0) hx hb dX9_dropsOf_49 (by decide) ?_
          refine lv_ior hx hb dX9_dropsOf_50 ?_
          refine lv_topi (fun z7 ez7 => ?_)
          refine lv_istore_n (lv' := [(2, .int z7), (3, .int L3_1), (0, .ref mo), (1, .int x1)]) hx hb dX9_dropsOf_51 rfl hl (by decide) rfl (fun ls hl => ?_)
          obtain ⟨z8, ez8⟩ : ∃ z : Int32, z = L3_1 + 1 := ⟨_, rfl⟩
          have tz8 : z8.toInt = L3_1.toInt + (1) := ai_add rfl (by decide) ez8 (by omega) (by omega)
          refine lv_iinc (v := z8) (lv' := [(3, .int z8), (2, .int z7), (0, .ref mo), (1, .int x1)]) hx hb dX9_dropsOf_52 hl (k := 1) rfl (by rw [ez8]; rfl) (by decide) rfl (fun ls hl => ?_)
          refine lv_goto (tgt := 4) hx hb dX9_dropsOf_55 (by decide) ?_
          exact ih1 z7 z8 ⟨by omega, by omega⟩ (by omega) (DI_f hp1_1 tz8 ez7) (by omega) _ _ _ hP hD hS (lv_sub hl [0, 1, 2, 3] rfl)
        · have fc6 := cx_eq_f (a := r4.toInt) (b := 0) rfl (by decide) c6
          refine lv_aload_n hx hb dX9_dropsOf_23 rfl (lv_at hl 2 rfl) ?_
          refine lv_iload_n hx hb dX9_dropsOf_24 rfl (lv_at hl 3 rfl) ?_
          refine lv_iload_n hx hb dX9_dropsOf_25 rfl (lv_at hl 0 rfl) ?_
          refine hc_Vi (As := [.int x1, .int L3_1]) (rest := [.int L2_1]) (n := 2) (wr := [(mo_aheight, hcI k 8 mo_rheight)]) hx hb hml hown hts hG hA hP hD hS hl.1 [0, 1, 2, 3, 5, 6] [4] (i_X9_gives l D k _ x1 L3_1 mo mo_thrown mo_ascalar mo_acane mo_ais mo_astrandOf mo_aweight mo_aheight mo_achairOf mo_anoteMinute mo_anoteWho mo_anoteIs mo_atoldCane mo_anewScalar mo_anewCane mo_anewHeight mo_anewStrand mo_anewChair mo_anewWeight mo_taped mo_p mo_fault mo_slot mo_rules mo_entries mo_deep mo_counted mo_opened mo_words mo_atape mo_asort mo_anumber mo_aclauses mo_asumAt mo_atestAt mo_aendAt mo_aopen mo_aasked mo_astack mo_amust mo_apast mo_apastOf mo_pastMany mo_pastAt mo_takesBack mo_acanRise mo_afirstHas mo_asecondHas mo_alay mo_ashows mo_aimages mo_aisMade mo_imageAt mo_goesBack mo_rcane mo_rstrandOf mo_rweight mo_rchairOf mo_s0 mo_s1 mo_s2 mo_s3 mo_s4 mo_s5 mo_s6 mo_s7 ⟨by omega, by omega⟩ ⟨by omega, by omega⟩ ⟨by omega, by omega⟩ ⟨by omega, by omega⟩ ⟨by omega, by omega⟩ ⟨by omega, by omega⟩ ⟨by omega, by omega⟩ ⟨by omega, by omega⟩ ⟨by omega, by omega⟩ ⟨by omega, by omega⟩ ⟨by omega, by omega⟩ ⟨by omega, by omega⟩ ⟨by omega, by omega⟩ ⟨by omega, by omega⟩ ⟨by omega, by omega⟩ h_mo_rweight h_mo_rchairOf ⟨by omega, by omega⟩ ⟨by omega, by omega⟩ ⟨by omega, by omega⟩ ⟨by omega, by omega⟩ ⟨by omega, by omega⟩ (by omega) hh_HallOk) (ci := 7) (q0 := 0) rfl rfl gX9_dropsOf_X9_gives rfl ⟨rfl, rfl, Nat.le_of_ble_eq_true rfl, Nat.le_of_ble_eq_true rfl⟩ (by decide +kernel) rfl rfl ⟨by decide, by decide, by decide⟩ ⟨rfl, rfl, Nat.le_of_ble_eq_true rfl, Nat.le_of_ble_eq_true rfl, Nat.le_of_ble_eq_true rfl⟩ dX9_dropsOf_26 (fun r10 u9 H locs hw hP hD hS => ?_)
          have hP : va_P D vwCl ([(mo_aheight, hcI k 8 mo_rheight), (mo, .inr (7, [.int mo_thrown, .ref mo_ascalar, .ref mo_acane, .ref mo_ais, .ref mo_astrandOf, .ref mo_aweight, .ref mo_aheight, .ref mo_achairOf, .ref mo_anoteMinute, .ref mo_anoteWho, .ref mo_anoteIs, .ref mo_atoldCane, .ref mo_anewScalar, .ref mo_anewCane, .ref mo_anewHeight, .ref mo_anewStrand, .ref mo_anewChair, .ref mo_anewWeight, .int mo_taped, .int mo_p, .int mo_fault, .int mo_slot, .int mo_rules, .int mo_entries, .int mo_deep, .int mo_counted, .int mo_opened, .int mo_words, .ref mo_atape, .ref mo_asort, .ref mo_anumber, .ref mo_aclauses, .ref mo_asumAt, .ref mo_atestAt, .ref mo_aendAt, .ref mo_aopen, .ref mo_aasked, .ref mo_astack, .ref mo_amust, .ref mo_apast, .ref mo_apastOf, .int mo_pastMany, .int mo_pastAt, .int mo_takesBack, .ref mo_acanRise, .ref mo_afirstHas, .ref mo_asecondHas, .ref mo_alay, .ref mo_ashows, .ref mo_aimages, .ref mo_aisMade, .int mo_imageAt, .int mo_goesBack])), (mo_acane, hcI k 4 mo_rcane), (mo_astrandOf, hcI k 8 mo_rstrandOf), (mo_aweight, hcI k 8 mo_rweight), (mo_achairOf, hcI k 8 mo_rchairOf), (mo_ascalar, hcI k 8 (sc8 mo_s0 mo_s1 mo_s2 mo_s3 mo_s4 mo_s5 mo_s6 mo_s7))]) H := hP
          have hD : va_D A ([(mo_aheight, hcI k 8 mo_rheight), (mo, .inr (7, [.int mo_thrown, .ref mo_ascalar, .ref mo_acane, .ref mo_ais, .ref mo_astrandOf, .ref mo_aweight, .ref mo_aheight, .ref mo_achairOf, .ref mo_anoteMinute, .ref mo_anoteWho, .ref mo_anoteIs, .ref mo_atoldCane, .ref mo_anewScalar, .ref mo_anewCane, .ref mo_anewHeight, .ref mo_anewStrand, .ref mo_anewChair, .ref mo_anewWeight, .int mo_taped, .int mo_p, .int mo_fault, .int mo_slot, .int mo_rules, .int mo_entries, .int mo_deep, .int mo_counted, .int mo_opened, .int mo_words, .ref mo_atape, .ref mo_asort, .ref mo_anumber, .ref mo_aclauses, .ref mo_asumAt, .ref mo_atestAt, .ref mo_aendAt, .ref mo_aopen, .ref mo_aasked, .ref mo_astack, .ref mo_amust, .ref mo_apast, .ref mo_apastOf, .int mo_pastMany, .int mo_pastAt, .int mo_takesBack, .ref mo_acanRise, .ref mo_afirstHas, .ref mo_asecondHas, .ref mo_alay, .ref mo_ashows, .ref mo_aimages, .ref mo_aisMade, .int mo_imageAt, .int mo_goesBack])), (mo_acane, hcI k 4 mo_rcane), (mo_astrandOf, hcI k 8 mo_rstrandOf), (mo_aweight, hcI k 8 mo_rweight), (mo_achairOf, hcI k 8 mo_rchairOf), (mo_ascalar, hcI k 8 (sc8 mo_s0 mo_s1 mo_s2 mo_s3 mo_s4 mo_s5 mo_s6 mo_s7))]) := hD
          refine lv_aload_n hx hb dX9_dropsOf_29 rfl (lv_at hl 2 rfl) ?_
          refine va_get (D := D) (ci := 7) (v := .ref mo_aheight) (C := RX9) (T := TX9) (N := 53) hx hb hts in9 hown hG.1 hP 1 rfl rfl 6 (by decide) (hts (.fieldLink RX9 25 "ChairCaneModel" "height" "[I") (by decide +kernel)) (fun _ h9 => h9) rfl dX9_dropsOf_30 ?_
          refine lv_aload_n hx hb dX9_dropsOf_33 rfl (lv_at hl 2 rfl) ?_
          refine va_get (D := D) (ci := 7) (v := .ref mo_achairOf) (C := RX9) (T := TX9) (N := 53) hx hb hts in9 hown hG.1 hP 1 rfl rfl 7 (by decide) (hts (.fieldLink RX9 28 "ChairCaneModel" "chairOf" "[I") (by decide +kernel)) (fun _ h9 => h9) rfl dX9_dropsOf_34 ?_
          refine lv_iload_n hx hb dX9_dropsOf_37 rfl (lv_at hl 0 rfl) ?_
          refine va_iald hx hb hG.1 hP 5 0 rfl rfl (vp_in_iff.mpr ⟨by omega, by omega⟩) dX9_dropsOf_38 ?_
          refine lv_topi (fun z11 ez11 => ?_)
          have bz11 : iv (0) (7) z11 := by rw [ez11]; exact h_mo_rchairOf _
          have bz11_l := bz11.1
          have bz11_u := bz11.2
          refine va_iald hx hb hG.1 hP 0 0 rfl rfl (vp_in_iff.mpr ⟨by omega, by omega⟩) dX9_dropsOf_39 ?_
          refine lv_topi (fun z12 ez12 => ?_)
          refine lv_icmp_lt (tgt := 49) hx hb dX9_dropsOf_40 (by decide) (fun c13 => ?_) (fun c13 => ?_)
          · have fc13 := cx_lt_t (a := r10.toInt) (b := z12.toInt) rfl rfl c13
            refine lv_iconst (v := 0) hx hb dX9_dropsOf_49 (by decide) ?_
            refine lv_ior hx hb dX9_dropsOf_50 ?_
            refine lv_topi (fun z14 ez14 => ?_)
            refine lv_istore_n (lv' := [(2, .int z14), (3, .int L3_1), (0, .ref mo), (1, .int x1)]) hx hb dX9_dropsOf_51 rfl hl (by decide) rfl (fun ls hl => ?_)
            obtain ⟨z15, ez15⟩ : ∃ z : Int32, z = L3_1 + 1 := ⟨_, rfl⟩
            have tz15 : z15.toInt = L3_1.toInt + (1) := ai_add rfl (by decide) ez15 (by omega) (by omega)
            refine lv_iinc (v := z15) (lv' := [(3, .int z15), (2, .int z14), (0, .ref mo), (1, .int x1)]) hx hb dX9_dropsOf_52 hl (k := 1) rfl (by rw [ez15]; rfl) (by decide) rfl (fun ls hl => ?_)
            refine lv_goto (tgt := 4) hx hb dX9_dropsOf_55 (by decide) ?_
            exact ih1 z14 z15 ⟨by omega, by omega⟩ (by omega) (DI_f hp1_1 tz15 ez14) (by omega) _ _ _ (hP.sub [1, 2, 3, 4, 0, 5, 6] rfl) (hD.sub [1, 2, 3, 4, 0, 5, 6] (by decide) rfl) hS (lv_sub hl [0, 1, 2, 3] rfl)
          · have fc13 := cx_lt_f (a := r10.toInt) (b := z12.toInt) rfl rfl c13
            refine lv_iconst (v := 1) hx hb dX9_dropsOf_43 (by decide) ?_
            refine lv_iload_n hx hb dX9_dropsOf_44 rfl (lv_at hl 0 rfl) ?_
            refine lv_ishl hx hb dX9_dropsOf_45 ?_
            refine lv_topi (fun z16 ez16 => ?_)
            have bz16 : iv (1) (256) z16 := ai_shl (by omega) (by omega) ez16
            have bz16_l := bz16.1
            have bz16_u := bz16.2
            refine lv_goto (tgt := 50) hx hb dX9_dropsOf_46 (by decide) ?_
            refine lv_ior hx hb dX9_dropsOf_50 ?_
            refine lv_topi (fun z17 ez17 => ?_)
            refine lv_istore_n (lv' := [(2, .int z17), (3, .int L3_1), (0, .ref mo), (1, .int x1)]) hx hb dX9_dropsOf_51 rfl hl (by decide) rfl (fun ls hl => ?_)
            obtain ⟨z18, ez18⟩ : ∃ z : Int32, z = L3_1 + 1 := ⟨_, rfl⟩
            have tz18 : z18.toInt = L3_1.toInt + (1) := ai_add rfl (by decide) ez18 (by omega) (by omega)
            refine lv_iinc (v := z18) (lv' := [(3, .int z18), (2, .int z17), (0, .ref mo), (1, .int x1)]) hx hb dX9_dropsOf_52 hl (k := 1) rfl (by rw [ez18]; rfl) (by decide) rfl (fun ls hl => ?_)
            refine lv_goto (tgt := 4) hx hb dX9_dropsOf_55 (by decide) ?_
            exact ih1 z17 z18 ⟨by omega, by omega⟩ (by omega) (DI_t hp1_1 (by omega) (by omega) tz18 (by rcases rel5 with g | g; exact g.2; exact absurd g.1 (by omega)) ez16 ez17) (by omega) _ _ _ (hP.sub [1, 2, 3, 4, 0, 5, 6] rfl) (hD.sub [1, 2, 3, 4, 0, 5, 6] (by decide) rfl) hS (lv_sub hl [0, 1, 2, 3] rfl)
  exact loop1 100 0 0 (iv_lit (by decide) (by decide)) (by have q0 : (0 : Int32).toInt = 0 := (by decide); have q1 : (0 : Int32).toInt = 0 := (by decide); omega) (DI_0) (by have q0 : (0 : Int32).toInt = 0 := (by decide); have q1 : (0 : Int32).toInt = 0 := (by decide); omega) _ _ _ hP hD hS hl
set_option maxHeartbeats 4000000 in
set_option maxRecDepth 100000 in
theorem i_X9_settles (l : Launch) (D : va_G) (k : Nat → ClassId) (sz : Nat) (mo : Nat) (mo_thrown : Int32) (mo_ascalar : Nat) (mo_acane : Nat) (mo_ais : Nat) (mo_astrandOf : Nat) (mo_aweight : Nat) (mo_aheight : Nat) (mo_achairOf : Nat) (mo_anoteMinute : Nat) (mo_anoteWho : Nat) (mo_anoteIs : Nat) (mo_atoldCane : Nat) (mo_anewScalar : Nat) (mo_anewCane : Nat) (mo_anewHeight : Nat) (mo_anewStrand : Nat) (mo_anewChair : Nat) (mo_anewWeight : Nat) (mo_taped : Int32) (mo_p : Int32) (mo_fault : Int32) (mo_slot : Int32) (mo_rules : Int32) (mo_entries : Int32) (mo_deep : Int32) (mo_counted : Int32) (mo_opened : Int32) (mo_words : Int32) (mo_atape : Nat) (mo_asort : Nat) (mo_anumber : Nat) (mo_aclauses : Nat) (mo_asumAt : Nat) (mo_atestAt : Nat) (mo_aendAt : Nat) (mo_aopen : Nat) (mo_aasked : Nat) (mo_astack : Nat) (mo_amust : Nat) (mo_apast : Nat) (mo_apastOf : Nat) (mo_pastMany : Int32) (mo_pastAt : Int32) (mo_takesBack : Int32) (mo_acanRise : Nat) (mo_afirstHas : Nat) (mo_asecondHas : Nat) (mo_alay : Nat) (mo_ashows : Nat) (mo_aimages : Nat) (mo_aisMade : Nat) (mo_imageAt : Int32) (mo_goesBack : Int32) (mo_rcane : Nat → Int32) (mo_ris : Nat → Int32) (mo_rstrandOf : Nat → Int32) (mo_rweight : Nat → Int32) (mo_rheight : Nat → Int32) (mo_rchairOf : Nat → Int32) (mo_s0 : Int32) (mo_s1 : Int32) (mo_s2 : Int32) (mo_s3 : Int32) (mo_s4 : Int32) (mo_s5 : Int32) (mo_s6 : Int32) (mo_s7 : Int32) (h_mo_taped : iv (0) (400) mo_taped) (h_mo_p : iv (0) (402) mo_p) (h_mo_fault : iv (0) (4000) mo_fault) (h_mo_slot : iv (0) (5) mo_slot) (h_mo_rules : iv (0) (6) mo_rules) (h_mo_entries : iv (0) (300) mo_entries) (h_mo_counted : iv (0) (70) mo_counted) (h_mo_opened : iv (0) (402) mo_opened) (h_mo_words : iv (11) (11) mo_words) (h_mo_pastMany : iv (0) (20) mo_pastMany) (h_mo_pastAt : iv (0) (260) mo_pastAt) (h_mo_takesBack : iv (0) (1) mo_takesBack) (h_mo_imageAt : iv (0) (2000) mo_imageAt) (h_mo_goesBack : iv (0) (1) mo_goesBack) (h_mo_rweight : rowIn (0) (20) mo_rweight) (h_mo_rchairOf : rowIn (0) (7) mo_rchairOf) (h_mo_s1 : iv (0) (4) mo_s1) (h_mo_s2 : iv (0) (8) mo_s2) (h_mo_s3 : iv (0) (8) mo_s3) (h_mo_s5 : iv (0) (10) mo_s5) (h_mo_s7 : iv (-1) (5) mo_s7) (hh_HallOk : HallOk mo_s2 mo_s3 mo_rstrandOf mo_rchairOf mo_rweight) : CtI l yX9_settles wsX9_settles (rmK 5 0 0) [.ref mo] D k sz ([(mo, .inr (7, [.int mo_thrown, .ref mo_ascalar, .ref mo_acane, .ref mo_ais, .ref mo_astrandOf, .ref mo_aweight, .ref mo_aheight, .ref mo_achairOf, .ref mo_anoteMinute, .ref mo_anoteWho, .ref mo_anoteIs, .ref mo_atoldCane, .ref mo_anewScalar, .ref mo_anewCane, .ref mo_anewHeight, .ref mo_anewStrand, .ref mo_anewChair, .ref mo_anewWeight, .int mo_taped, .int mo_p, .int mo_fault, .int mo_slot, .int mo_rules, .int mo_entries, .int mo_deep, .int mo_counted, .int mo_opened, .int mo_words, .ref mo_atape, .ref mo_asort, .ref mo_anumber, .ref mo_aclauses, .ref mo_asumAt, .ref mo_atestAt, .ref mo_aendAt, .ref mo_aopen, .ref mo_aasked, .ref mo_astack, .ref mo_amust, .ref mo_apast, .ref mo_apastOf, .int mo_pastMany, .int mo_pastAt, .int mo_takesBack, .ref mo_acanRise, .ref mo_afirstHas, .ref mo_asecondHas, .ref mo_alay, .ref mo_ashows, .ref mo_aimages, .ref mo_aisMade, .int mo_imageAt, .int mo_goesBack])), (mo_acane, hcI k 4 mo_rcane), (mo_ais, hcI k 8 mo_ris), (mo_astrandOf, hcI k 8 mo_rstrandOf), (mo_aweight, hcI k 8 mo_rweight), (mo_aheight, hcI k 8 mo_rheight), (mo_achairOf, hcI k 8 mo_rchairOf), (mo_ascalar, hcI k 8 (sc8 mo_s0 mo_s1 mo_s2 mo_s3 mo_s4 mo_s5 mo_s6 mo_s7))]) (fun (r : Int32) (u : (Nat → Int32)) => True) (fun u : (Nat → Int32) => [(mo, .inr (7, [.int mo_thrown, .ref mo_ascalar, .ref mo_acane, .ref mo_ais, .ref mo_astrandOf, .ref mo_aweight, .ref mo_aheight, .ref mo_achairOf, .ref mo_anoteMinute, .ref mo_anoteWho, .ref mo_anoteIs, .ref mo_atoldCane, .ref mo_anewScalar, .ref mo_anewCane, .ref mo_anewHeight, .ref mo_anewStrand, .ref mo_anewChair, .ref mo_anewWeight, .int mo_taped, .int mo_p, .int mo_fault, .int mo_slot, .int mo_rules, .int mo_entries, .int mo_deep, .int mo_counted, .int mo_opened, .int mo_words, .ref mo_atape, .ref mo_asort, .ref mo_anumber, .ref mo_aclauses, .ref mo_asumAt, .ref mo_atestAt, .ref mo_aendAt, .ref mo_aopen, .ref mo_aasked, .ref mo_astack, .ref mo_amust, .ref mo_apast, .ref mo_apastOf, .int mo_pastMany, .int mo_pastAt, .int mo_takesBack, .ref mo_acanRise, .ref mo_afirstHas, .ref mo_asecondHas, .ref mo_alay, .ref mo_ashows, .ref mo_aimages, .ref mo_aisMade, .int mo_imageAt, .int mo_goesBack])), (mo_acane, hcI k 4 mo_rcane), (mo_ais, hcI k 8 (u)), (mo_astrandOf, hcI k 8 mo_rstrandOf), (mo_aweight, hcI k 8 mo_rweight), (mo_aheight, hcI k 8 mo_rheight), (mo_achairOf, hcI k 8 mo_rchairOf), (mo_ascalar, hcI k 8 (sc8 mo_s0 mo_s1 mo_s2 mo_s3 mo_s4 mo_s5 mo_s6 mo_s7))]) 0 0 := by
  have h_mo_taped_l := h_mo_taped.1
  have h_mo_taped_u := h_mo_taped.2
  have h_mo_p_l := h_mo_p.1
  have h_mo_p_u := h_mo_p.2
  have h_mo_fault_l := h_mo_fault.1
  have h_mo_fault_u := h_mo_fault.2
  have h_mo_slot_l := h_mo_slot.1
  have h_mo_slot_u := h_mo_slot.2
  have h_mo_rules_l := h_mo_rules.1
  have h_mo_rules_u := h_mo_rules.2
  have h_mo_entries_l := h_mo_entries.1
  have h_mo_entries_u := h_mo_entries.2
  have h_mo_counted_l := h_mo_counted.1
  have h_mo_counted_u := h_mo_counted.2
  have h_mo_opened_l := h_mo_opened.1
  have h_mo_opened_u := h_mo_opened.2
  have h_mo_words_l := h_mo_words.1
  have h_mo_words_u := h_mo_words.2
  have h_mo_pastMany_l := h_mo_pastMany.1
  have h_mo_pastMany_u := h_mo_pastMany.2
  have h_mo_pastAt_l := h_mo_pastAt.1
  have h_mo_pastAt_u := h_mo_pastAt.2
  have h_mo_takesBack_l := h_mo_takesBack.1
  have h_mo_takesBack_u := h_mo_takesBack.2
  have h_mo_imageAt_l := h_mo_imageAt.1
  have h_mo_imageAt_u := h_mo_imageAt.2
  have h_mo_goesBack_l := h_mo_goesBack.1
  have h_mo_goesBack_u := h_mo_goesBack.2
  have h_mo_s1_l := h_mo_s1.1
  have h_mo_s1_u := h_mo_s1.2
  have h_mo_s2_l := h_mo_s2.1
  have h_mo_s2_u := h_mo_s2.2
  have h_mo_s3_l := h_mo_s3.1
  have h_mo_s3_u := h_mo_s3.2
  have h_mo_s5_l := h_mo_s5.1
  have h_mo_s5_u := h_mo_s5.2
  have h_mo_s7_l := h_mo_s7.1
  have h_mo_s7_u := h_mo_s7.2
  refine CtI.mk (cc := cX9_settles) (maxL := 4) (ret := (some .int)) (by decide) rfl (Nat.le_of_ble_eq_true rfl) ?_
  intro p e s m below meth c A ls E hP hD hS hl
  obtain ⟨hx, hb, hr, hml, hown, hts, hlocks, hin, hG, hA⟩ := E
  have hown : s.vm.findClass RX9 = some m.cls := hown
  have in9 : ∀ w ∈ u_ws RX9 TX9 53, w ∈ wsX9_settles := fun _ h => List.mem_cons_of_mem _ (List.mem_append_right _ h)
  have hl : lv_has ls 4 [(0, .ref mo)] := hl
  refine lv_iconst (v := 0) hx hb dX9_settles_0 (by decide) ?_
  refine lv_istore_n (lv' := [(1, .int 0), (0, .ref mo)]) hx hb dX9_settles_1 rfl hl (by decide) rfl (fun ls hl => ?_)
  refine lv_aload_n hx hb dX9_settles_2 rfl (lv_at hl 1 rfl) ?_
  refine lv_aload_n hx hb dX9_settles_3 rfl (lv_at hl 1 rfl) ?_
  refine lv_iconst (v := 1) hx hb dX9_settles_4 (by decide) ?_
  have ql1 : (1 : Int32).toInt = 1 := by decide
  refine hc_Vi (As := [.int 1]) (rest := [.ref mo]) (n := 1) (wr := [(mo_acane, hcI k 4 mo_rcane), (mo_astrandOf, hcI k 8 mo_rstrandOf), (mo_aweight, hcI k 8 mo_rweight), (mo_aheight, hcI k 8 mo_rheight), (mo_achairOf, hcI k 8 mo_rchairOf)]) hx hb hml hown hts hG hA hP hD hS hl.1 [0, 2, 7] [1, 3, 4, 5, 6] (i_X9_those l D k _ 1 mo mo_thrown mo_ascalar mo_acane mo_ais mo_astrandOf mo_aweight mo_aheight mo_achairOf mo_anoteMinute mo_anoteWho mo_anoteIs mo_atoldCane mo_anewScalar mo_anewCane mo_anewHeight mo_anewStrand mo_anewChair mo_anewWeight mo_taped mo_p mo_fault mo_slot mo_rules mo_entries mo_deep mo_counted mo_opened mo_words mo_atape mo_asort mo_anumber mo_aclauses mo_asumAt mo_atestAt mo_aendAt mo_aopen mo_aasked mo_astack mo_amust mo_apast mo_apastOf mo_pastMany mo_pastAt mo_takesBack mo_acanRise mo_afirstHas mo_asecondHas mo_alay mo_ashows mo_aimages mo_aisMade mo_imageAt mo_goesBack mo_ris mo_s0 mo_s1 mo_s2 mo_s3 mo_s4 mo_s5 mo_s6 mo_s7 ⟨by omega, by omega⟩ ⟨by omega, by omega⟩ ⟨by omega, by omega⟩ ⟨by omega, by omega⟩ ⟨by omega, by omega⟩ ⟨by omega, by omega⟩ ⟨by omega, by omega⟩ ⟨by omega, by omega⟩ ⟨by omega, by omega⟩ ⟨by omega, by omega⟩ ⟨by omega, by omega⟩ ⟨by omega, by omega⟩ ⟨by omega, by omega⟩ ⟨by omega, by omega⟩ ⟨by omega, by omega⟩ ⟨by omega, by omega⟩ ⟨by omega, by omega⟩ ⟨by omega, by omega⟩ ⟨by omega, by omega⟩) (ci := 7) (q0 := 0) rfl rfl gX9_settles_X9_those rfl ⟨rfl, rfl, Nat.le_of_ble_eq_true rfl, Nat.le_of_ble_eq_true rfl⟩ (by decide +kernel) rfl rfl ⟨by decide, by decide, by decide⟩ ⟨rfl, rfl, Nat.le_of_ble_eq_true rfl, Nat.le_of_ble_eq_true rfl, Nat.le_of_ble_eq_true rfl⟩ dX9_settles_5 (fun r3 u2 H locs hw hP hD hS => ?_)
  have hP : va_P D vwCl ([(mo_acane, hcI k 4 mo_rcane), (mo_astrandOf, hcI k 8 mo_rstrandOf), (mo_aweight, hcI k 8 mo_rweight), (mo_aheight, hcI k 8 mo_rheight), (mo_achairOf, hcI k 8 mo_rchairOf), (mo, .inr (7, [.int mo_thrown, .ref mo_ascalar, .ref mo_acane, .ref mo_ais, .ref mo_astrandOf, .ref mo_aweight, .ref mo_aheight, .ref mo_achairOf, .ref mo_anoteMinute, .ref mo_anoteWho, .ref mo_anoteIs, .ref mo_atoldCane, .ref mo_anewScalar, .ref mo_anewCane, .ref mo_anewHeight, .ref mo_anewStrand, .ref mo_anewChair, .ref mo_anewWeight, .int mo_taped, .int mo_p, .int mo_fault, .int mo_slot, .int mo_rules, .int mo_entries, .int mo_deep, .int mo_counted, .int mo_opened, .int mo_words, .ref mo_atape, .ref mo_asort, .ref mo_anumber, .ref mo_aclauses, .ref mo_asumAt, .ref mo_atestAt, .ref mo_aendAt, .ref mo_aopen, .ref mo_aasked, .ref mo_astack, .ref mo_amust, .ref mo_apast, .ref mo_apastOf, .int mo_pastMany, .int mo_pastAt, .int mo_takesBack, .ref mo_acanRise, .ref mo_afirstHas, .ref mo_asecondHas, .ref mo_alay, .ref mo_ashows, .ref mo_aimages, .ref mo_aisMade, .int mo_imageAt, .int mo_goesBack])), (mo_ais, hcI k 8 mo_ris), (mo_ascalar, hcI k 8 (sc8 mo_s0 mo_s1 mo_s2 mo_s3 mo_s4 mo_s5 mo_s6 mo_s7))]) H := hP
  have hD : va_D A ([(mo_acane, hcI k 4 mo_rcane), (mo_astrandOf, hcI k 8 mo_rstrandOf), (mo_aweight, hcI k 8 mo_rweight), (mo_aheight, hcI k 8 mo_rheight), (mo_achairOf, hcI k 8 mo_rchairOf), (mo, .inr (7, [.int mo_thrown, .ref mo_ascalar, .ref mo_acane, .ref mo_ais, .ref mo_astrandOf, .ref mo_aweight, .ref mo_aheight, .ref mo_achairOf, .ref mo_anoteMinute, .ref mo_anoteWho, .ref mo_anoteIs, .ref mo_atoldCane, .ref mo_anewScalar, .ref mo_anewCane, .ref mo_anewHeight, .ref mo_anewStrand, .ref mo_anewChair, .ref mo_anewWeight, .int mo_taped, .int mo_p, .int mo_fault, .int mo_slot, .int mo_rules, .int mo_entries, .int mo_deep, .int mo_counted, .int mo_opened, .int mo_words, .ref mo_atape, .ref mo_asort, .ref mo_anumber, .ref mo_aclauses, .ref mo_asumAt, .ref mo_atestAt, .ref mo_aendAt, .ref mo_aopen, .ref mo_aasked, .ref mo_astack, .ref mo_amust, .ref mo_apast, .ref mo_apastOf, .int mo_pastMany, .int mo_pastAt, .int mo_takesBack, .ref mo_acanRise, .ref mo_afirstHas, .ref mo_asecondHas, .ref mo_alay, .ref mo_ashows, .ref mo_aimages, .ref mo_aisMade, .int mo_imageAt, .int mo_goesBack])), (mo_ais, hcI k 8 mo_ris), (mo_ascalar, hcI k 8 (sc8 mo_s0 mo_s1 mo_s2 mo_s3 mo_s4 mo_s5 mo_s6 mo_s7))]) := hD
  have ql5 : (1 : Int32).toInt = 1 := by decide
  have rel4 := hw
  refine hc_Vi (As := [.int r3]) (rest := []) (n := 1) (wr := [(mo_ais, hcI k 8 mo_ris)]) hx hb hml hown hts hG hA hP hD hS hl.1 [5, 0, 1, 2, 3, 4, 7] [6] (i_X9_dropsOf l D k _ r3 mo mo_thrown mo_ascalar mo_acane mo_ais mo_astrandOf mo_aweight mo_aheight mo_achairOf mo_anoteMinute mo_anoteWho mo_anoteIs mo_atoldCane mo_anewScalar mo_anewCane mo_anewHeight mo_anewStrand mo_anewChair mo_anewWeight mo_taped mo_p mo_fault mo_slot mo_rules mo_entries mo_deep mo_counted mo_opened mo_words mo_atape mo_asort mo_anumber mo_aclauses mo_asumAt mo_atestAt mo_aendAt mo_aopen mo_aasked mo_astack mo_amust mo_apast mo_apastOf mo_pastMany mo_pastAt mo_takesBack mo_acanRise mo_afirstHas mo_asecondHas mo_alay mo_ashows mo_aimages mo_aisMade mo_imageAt mo_goesBack mo_rcane mo_rstrandOf mo_rweight mo_rheight mo_rchairOf mo_s0 mo_s1 mo_s2 mo_s3 mo_s4 mo_s5 mo_s6 mo_s7 ⟨by omega, by omega⟩ ⟨by omega, by omega⟩ ⟨by omega, by omega⟩ ⟨by omega, by omega⟩ ⟨by omega, by omega⟩ ⟨by omega, by omega⟩ ⟨by omega, by omega⟩ ⟨by omega, by omega⟩ ⟨by omega, by omega⟩ ⟨by omega, by omega⟩ ⟨by omega, by omega⟩ ⟨by omega, by omega⟩ ⟨by omega, by omega⟩ ⟨by omega, by omega⟩ h_mo_rweight h_mo_rchairOf ⟨by omega, by omega⟩ ⟨by omega, by omega⟩ ⟨by omega, by omega⟩ ⟨by omega, by omega⟩ ⟨by omega, by omega⟩ hh_HallOk) (ci := 7) (q0 := 5) rfl rfl gX9_settles_X9_dropsOf rfl ⟨rfl, rfl, Nat.le_of_ble_eq_true rfl, Nat.le_of_ble_eq_true rfl⟩ (by decide +kernel) rfl rfl ⟨by decide, by decide, by decide⟩ ⟨rfl, rfl, Nat.le_of_ble_eq_true rfl, Nat.le_of_ble_eq_true rfl, Nat.le_of_ble_eq_true rfl⟩ dX9_settles_8 (fun r7 u6 H locs hw hP hD hS => ?_)
  have hP : va_P D vwCl ([(mo_ais, hcI k 8 mo_ris), (mo, .inr (7, [.int mo_thrown, .ref mo_ascalar, .ref mo_acane, .ref mo_ais, .ref mo_astrandOf, .ref mo_aweight, .ref mo_aheight, .ref mo_achairOf, .ref mo_anoteMinute, .ref mo_anoteWho, .ref mo_anoteIs, .ref mo_atoldCane, .ref mo_anewScalar, .ref mo_anewCane, .ref mo_anewHeight, .ref mo_anewStrand, .ref mo_anewChair, .ref mo_anewWeight, .int mo_taped, .int mo_p, .int mo_fault, .int mo_slot, .int mo_rules, .int mo_entries, .int mo_deep, .int mo_counted, .int mo_opened, .int mo_words, .ref mo_atape, .ref mo_asort, .ref mo_anumber, .ref mo_aclauses, .ref mo_asumAt, .ref mo_atestAt, .ref mo_aendAt, .ref mo_aopen, .ref mo_aasked, .ref mo_astack, .ref mo_amust, .ref mo_apast, .ref mo_apastOf, .int mo_pastMany, .int mo_pastAt, .int mo_takesBack, .ref mo_acanRise, .ref mo_afirstHas, .ref mo_asecondHas, .ref mo_alay, .ref mo_ashows, .ref mo_aimages, .ref mo_aisMade, .int mo_imageAt, .int mo_goesBack])), (mo_acane, hcI k 4 mo_rcane), (mo_astrandOf, hcI k 8 mo_rstrandOf), (mo_aweight, hcI k 8 mo_rweight), (mo_aheight, hcI k 8 mo_rheight), (mo_achairOf, hcI k 8 mo_rchairOf), (mo_ascalar, hcI k 8 (sc8 mo_s0 mo_s1 mo_s2 mo_s3 mo_s4 mo_s5 mo_s6 mo_s7))]) H := hP
  have hD : va_D A ([(mo_ais, hcI k 8 mo_ris), (mo, .inr (7, [.int mo_thrown, .ref mo_ascalar, .ref mo_acane, .ref mo_ais, .ref mo_astrandOf, .ref mo_aweight, .ref mo_aheight, .ref mo_achairOf, .ref mo_anoteMinute, .ref mo_anoteWho, .ref mo_anoteIs, .ref mo_atoldCane, .ref mo_anewScalar, .ref mo_anewCane, .ref mo_anewHeight, .ref mo_anewStrand, .ref mo_anewChair, .ref mo_anewWeight, .int mo_taped, .int mo_p, .int mo_fault, .int mo_slot, .int mo_rules, .int mo_entries, .int mo_deep, .int mo_counted, .int mo_opened, .int mo_words, .ref mo_atape, .ref mo_asort, .ref mo_anumber, .ref mo_aclauses, .ref mo_asumAt, .ref mo_atestAt, .ref mo_aendAt, .ref mo_aopen, .ref mo_aasked, .ref mo_astack, .ref mo_amust, .ref mo_apast, .ref mo_apastOf, .int mo_pastMany, .int mo_pastAt, .int mo_takesBack, .ref mo_acanRise, .ref mo_afirstHas, .ref mo_asecondHas, .ref mo_alay, .ref mo_ashows, .ref mo_aimages, .ref mo_aisMade, .int mo_imageAt, .int mo_goesBack])), (mo_acane, hcI k 4 mo_rcane), (mo_astrandOf, hcI k 8 mo_rstrandOf), (mo_aweight, hcI k 8 mo_rweight), (mo_aheight, hcI k 8 mo_rheight), (mo_achairOf, hcI k 8 mo_rchairOf), (mo_ascalar, hcI k 8 (sc8 mo_s0 mo_s1 mo_s2 mo_s3 mo_s4 mo_s5 mo_s6 mo_s7))]) := hD
  have rel8 := hw
  have hcl0 := cnt1_le mo_ris 8
  refine lv_istore_n (lv' := [(2, .int r7), (1, .int 0), (0, .ref mo)]) hx hb dX9_settles_11 rfl hl (by decide) rfl (fun ls hl => ?_)
  have loop9 : ∀ (fu : Nat) (L1_9 : Int32) (L2_9 : Int32) (g_9mo_ais : Nat → Int32), TI mo_s3 g_9mo_ais 1 L2_9 → ((cnt1 g_9mo_ais 8 : Nat) : Int) < (fu : Int) → ∀ (H : Heap) (locs : List Loc) (ls : Array Slot), va_P D vwCl ([(mo_ais, hcI k 8 g_9mo_ais), (mo, .inr (7, [.int mo_thrown, .ref mo_ascalar, .ref mo_acane, .ref mo_ais, .ref mo_astrandOf, .ref mo_aweight, .ref mo_aheight, .ref mo_achairOf, .ref mo_anoteMinute, .ref mo_anoteWho, .ref mo_anoteIs, .ref mo_atoldCane, .ref mo_anewScalar, .ref mo_anewCane, .ref mo_anewHeight, .ref mo_anewStrand, .ref mo_anewChair, .ref mo_anewWeight, .int mo_taped, .int mo_p, .int mo_fault, .int mo_slot, .int mo_rules, .int mo_entries, .int mo_deep, .int mo_counted, .int mo_opened, .int mo_words, .ref mo_atape, .ref mo_asort, .ref mo_anumber, .ref mo_aclauses, .ref mo_asumAt, .ref mo_atestAt, .ref mo_aendAt, .ref mo_aopen, .ref mo_aasked, .ref mo_astack, .ref mo_amust, .ref mo_apast, .ref mo_apastOf, .int mo_pastMany, .int mo_pastAt, .int mo_takesBack, .ref mo_acanRise, .ref mo_afirstHas, .ref mo_asecondHas, .ref mo_alay, .ref mo_ashows, .ref mo_aimages, .ref mo_aisMade, .int mo_imageAt, .int mo_goesBack])), (mo_acane, hcI k 4 mo_rcane), (mo_astrandOf, hcI k 8 mo_rstrandOf), (mo_aweight, hcI k 8 mo_rweight), (mo_aheight, hcI k 8 mo_rheight), (mo_achairOf, hcI k 8 mo_rchairOf), (mo_ascalar, hcI k 8 (sc8 mo_s0 mo_s1 mo_s2 mo_s3 mo_s4 mo_s5 mo_s6 mo_s7))]) H → va_D A ([(mo_ais, hcI k 8 g_9mo_ais), (mo, .inr (7, [.int mo_thrown, .ref mo_ascalar, .ref mo_acane, .ref mo_ais, .ref mo_astrandOf, .ref mo_aweight, .ref mo_aheight, .ref mo_achairOf, .ref mo_anoteMinute, .ref mo_anoteWho, .ref mo_anoteIs, .ref mo_atoldCane, .ref mo_anewScalar, .ref mo_anewCane, .ref mo_anewHeight, .ref mo_anewStrand, .ref mo_anewChair, .ref mo_anewWeight, .int mo_taped, .int mo_p, .int mo_fault, .int mo_slot, .int mo_rules, .int mo_entries, .int mo_deep, .int mo_counted, .int mo_opened, .int mo_words, .ref mo_atape, .ref mo_asort, .ref mo_anumber, .ref mo_aclauses, .ref mo_asumAt, .ref mo_atestAt, .ref mo_aendAt, .ref mo_aopen, .ref mo_aasked, .ref mo_astack, .ref mo_amust, .ref mo_apast, .ref mo_apastOf, .int mo_pastMany, .int mo_pastAt, .int mo_takesBack, .ref mo_acanRise, .ref mo_afirstHas, .ref mo_asecondHas, .ref mo_alay, .ref mo_ashows, .ref mo_aimages, .ref mo_aisMade, .int mo_imageAt, .int mo_goesBack])), (mo_acane, hcI k 4 mo_rcane), (mo_astrandOf, hcI k 8 mo_rstrandOf), (mo_aweight, hcI k 8 mo_rweight), (mo_aheight, hcI k 8 mo_rheight), (mo_achairOf, hcI k 8 mo_rchairOf), (mo_ascalar, hcI k 8 (sc8 mo_s0 mo_s1 mo_s2 mo_s3 mo_s4 mo_s5 mo_s6 mo_s7))]) → va_S A s.heap H locs → lv_has ls 4 [(2, .int L2_9), (1, .int L1_9), (0, .ref mo)] → W p l e (rmK 5 0 0) s m (List.toArray [.ref mo]) below meth c H locs 0 0 (MQ below (va_Qi (fun (r : Int32) (u : (Nat → Int32)) => True) (hcB D (fun u : (Nat → Int32) => [(mo, .inr (7, [.int mo_thrown, .ref mo_ascalar, .ref mo_acane, .ref mo_ais, .ref mo_astrandOf, .ref mo_aweight, .ref mo_aheight, .ref mo_achairOf, .ref mo_anoteMinute, .ref mo_anoteWho, .ref mo_anoteIs, .ref mo_atoldCane, .ref mo_anewScalar, .ref mo_anewCane, .ref mo_anewHeight, .ref mo_anewStrand, .ref mo_anewChair, .ref mo_anewWeight, .int mo_taped, .int mo_p, .int mo_fault, .int mo_slot, .int mo_rules, .int mo_entries, .int mo_deep, .int mo_counted, .int mo_opened, .int mo_words, .ref mo_atape, .ref mo_asort, .ref mo_anumber, .ref mo_aclauses, .ref mo_asumAt, .ref mo_atestAt, .ref mo_aendAt, .ref mo_aopen, .ref mo_aasked, .ref mo_astack, .ref mo_amust, .ref mo_apast, .ref mo_apastOf, .int mo_pastMany, .int mo_pastAt, .int mo_takesBack, .ref mo_acanRise, .ref mo_afirstHas, .ref mo_asecondHas, .ref mo_alay, .ref mo_ashows, .ref mo_aimages, .ref mo_aisMade, .int mo_imageAt, .int mo_goesBack])), (mo_acane, hcI k 4 mo_rcane), (mo_ais, hcI k 8 (u)), (mo_astrandOf, hcI k 8 mo_rstrandOf), (mo_aweight, hcI k 8 mo_rweight), (mo_aheight, hcI k 8 mo_rheight), (mo_achairOf, hcI k 8 mo_rchairOf), (mo_ascalar, hcI k 8 (sc8 mo_s0 mo_s1 mo_s2 mo_s3 mo_s4 mo_s5 mo_s6 mo_s7))]) A) A) (List.toArray [.ref mo]) s 0 0 A) (F0 m 12 ls []) := by
    intro fu
    induction fu with
    | zero =>
      intro L1_9 L2_9 g_9mo_ais hp1_9 hm
      exact absurd hm (by omega)
    | succ fu ih9 =>
      intro L1_9 L2_9 g_9mo_ais hp1_9 hm H locs ls hP hD hS hl
      refine lv_iload_n hx hb dX9_settles_12 rfl (lv_at hl 0 rfl) ?_
      refine lv_if_eq (tgt := 75) hx hb dX9_settles_13 (by decide) (fun c10 => ?_) (fun c10 => ?_)
      · have fc10 := cx_eq_t (a := L2_9.toInt) (b := 0) rfl (by decide) c10
        refine lv_iload_n hx hb dX9_settles_75 rfl (lv_at hl 1 rfl) ?_
        exact hc_end hx hb hr hlocks (g_9mo_ais) trivial (hP.sub [1, 2, 0, 3, 4, 5, 6, 7] rfl) (hD.sub [1, 2, 0, 3, 4, 5, 6, 7] (by decide) rfl) hS dX9_settles_76
      · have fc10 := cx_eq_f (a := L2_9.toInt) (b := 0) rfl (by decide) c10
        refine lv_iconst (v := 0) hx hb dX9_settles_16 (by decide) ?_
        refine lv_istore_n (lv' := [(3, .int 0), (2, .int L2_9), (1, .int L1_9), (0, .ref mo)]) hx hb dX9_settles_17 rfl hl (by decide) rfl (fun ls hl => ?_)
        have loop11 : ∀ (fu : Nat) (L3_11 : Int32) (g_11mo_ais : Nat → Int32), iv (0) (8) L3_11 → L3_11.toInt ≤ mo_s3.toInt → SI g_9mo_ais g_11mo_ais L2_9 L3_11 → 9 - L3_11.toInt < (fu : Int) → ∀ (H : Heap) (locs : List Loc) (ls : Array Slot), va_P D vwCl ([(mo_ais, hcI k 8 g_11mo_ais), (mo, .inr (7, [.int mo_thrown, .ref mo_ascalar, .ref mo_acane, .ref mo_ais, .ref mo_astrandOf, .ref mo_aweight, .ref mo_aheight, .ref mo_achairOf, .ref mo_anoteMinute, .ref mo_anoteWho, .ref mo_anoteIs, .ref mo_atoldCane, .ref mo_anewScalar, .ref mo_anewCane, .ref mo_anewHeight, .ref mo_anewStrand, .ref mo_anewChair, .ref mo_anewWeight, .int mo_taped, .int mo_p, .int mo_fault, .int mo_slot, .int mo_rules, .int mo_entries, .int mo_deep, .int mo_counted, .int mo_opened, .int mo_words, .ref mo_atape, .ref mo_asort, .ref mo_anumber, .ref mo_aclauses, .ref mo_asumAt, .ref mo_atestAt, .ref mo_aendAt, .ref mo_aopen, .ref mo_aasked, .ref mo_astack, .ref mo_amust, .ref mo_apast, .ref mo_apastOf, .int mo_pastMany, .int mo_pastAt, .int mo_takesBack, .ref mo_acanRise, .ref mo_afirstHas, .ref mo_asecondHas, .ref mo_alay, .ref mo_ashows, .ref mo_aimages, .ref mo_aisMade, .int mo_imageAt, .int mo_goesBack])), (mo_acane, hcI k 4 mo_rcane), (mo_astrandOf, hcI k 8 mo_rstrandOf), (mo_aweight, hcI k 8 mo_rweight), (mo_aheight, hcI k 8 mo_rheight), (mo_achairOf, hcI k 8 mo_rchairOf), (mo_ascalar, hcI k 8 (sc8 mo_s0 mo_s1 mo_s2 mo_s3 mo_s4 mo_s5 mo_s6 mo_s7))]) H → va_D A ([(mo_ais, hcI k 8 g_11mo_ais), (mo, .inr (7, [.int mo_thrown, .ref mo_ascalar, .ref mo_acane, .ref mo_ais, .ref mo_astrandOf, .ref mo_aweight, .ref mo_aheight, .ref mo_achairOf, .ref mo_anoteMinute, .ref mo_anoteWho, .ref mo_anoteIs, .ref mo_atoldCane, .ref mo_anewScalar, .ref mo_anewCane, .ref mo_anewHeight, .ref mo_anewStrand, .ref mo_anewChair, .ref mo_anewWeight, .int mo_taped, .int mo_p, .int mo_fault, .int mo_slot, .int mo_rules, .int mo_entries, .int mo_deep, .int mo_counted, .int mo_opened, .int mo_words, .ref mo_atape, .ref mo_asort, .ref mo_anumber, .ref mo_aclauses, .ref mo_asumAt, .ref mo_atestAt, .ref mo_aendAt, .ref mo_aopen, .ref mo_aasked, .ref mo_astack, .ref mo_amust, .ref mo_apast, .ref mo_apastOf, .int mo_pastMany, .int mo_pastAt, .int mo_takesBack, .ref mo_acanRise, .ref mo_afirstHas, .ref mo_asecondHas, .ref mo_alay, .ref mo_ashows, .ref mo_aimages, .ref mo_aisMade, .int mo_imageAt, .int mo_goesBack])), (mo_acane, hcI k 4 mo_rcane), (mo_astrandOf, hcI k 8 mo_rstrandOf), (mo_aweight, hcI k 8 mo_rweight), (mo_aheight, hcI k 8 mo_rheight), (mo_achairOf, hcI k 8 mo_rchairOf), (mo_ascalar, hcI k 8 (sc8 mo_s0 mo_s1 mo_s2 mo_s3 mo_s4 mo_s5 mo_s6 mo_s7))]) → va_S A s.heap H locs → lv_has ls 4 [(3, .int L3_11), (2, .int L2_9), (1, .int L1_9), (0, .ref mo)] → W p l e (rmK 5 0 0) s m (List.toArray [.ref mo]) below meth c H locs 0 0 (MQ below (va_Qi (fun (r : Int32) (u : (Nat → Int32)) => True) (hcB D (fun u : (Nat → Int32) => [(mo, .inr (7, [.int mo_thrown, .ref mo_ascalar, .ref mo_acane, .ref mo_ais, .ref mo_astrandOf, .ref mo_aweight, .ref mo_aheight, .ref mo_achairOf, .ref mo_anoteMinute, .ref mo_anoteWho, .ref mo_anoteIs, .ref mo_atoldCane, .ref mo_anewScalar, .ref mo_anewCane, .ref mo_anewHeight, .ref mo_anewStrand, .ref mo_anewChair, .ref mo_anewWeight, .int mo_taped, .int mo_p, .int mo_fault, .int mo_slot, .int mo_rules, .int mo_entries, .int mo_deep, .int mo_counted, .int mo_opened, .int mo_words, .ref mo_atape, .ref mo_asort, .ref mo_anumber, .ref mo_aclauses, .ref mo_asumAt, .ref mo_atestAt, .ref mo_aendAt, .ref mo_aopen, .ref mo_aasked, .ref mo_astack, .ref mo_amust, .ref mo_apast, .ref mo_apastOf, .int mo_pastMany, .int mo_pastAt, .int mo_takesBack, .ref mo_acanRise, .ref mo_afirstHas, .ref mo_asecondHas, .ref mo_alay, .ref mo_ashows, .ref mo_aimages, .ref mo_aisMade, .int mo_imageAt, .int mo_goesBack])), (mo_acane, hcI k 4 mo_rcane), (mo_ais, hcI k 8 (u)), (mo_astrandOf, hcI k 8 mo_rstrandOf), (mo_aweight, hcI k 8 mo_rweight), (mo_aheight, hcI k 8 mo_rheight), (mo_achairOf, hcI k 8 mo_rchairOf), (mo_ascalar, hcI k 8 (sc8 mo_s0 mo_s1 mo_s2 mo_s3 mo_s4 mo_s5 mo_s6 mo_s7))]) A) A) (List.toArray [.ref mo]) s 0 0 A) (F0 m 18 ls []) := by
          intro fu
          induction fu with
          | zero =>
            intro L3_11 g_11mo_ais bL3_11 hI1_11 hp1_11 hm
            have bL3_11_l := bL3_11.1
            have bL3_11_u := bL3_11.2
            exact absurd hm (by omega)
          | succ fu ih11 =>
            intro L3_11 g_11mo_ais bL3_11 hI1_11 hp1_11 hm H locs ls hP hD hS hl
            have bL3_11_l := bL3_11.1
            have bL3_11_u := bL3_11.2
            refine lv_iload_n hx hb dX9_settles_18 rfl (lv_at hl 0 rfl) ?_
            refine lv_aload_n hx hb dX9_settles_19 rfl (lv_at hl 3 rfl) ?_
            refine va_get (D := D) (ci := 7) (v := .ref mo_ascalar) (C := RX9) (T := TX9) (N := 53) hx hb hts in9 hown hG.1 hP 1 rfl rfl 1 (by decide) (hts (.fieldLink RX9 9 "ChairCaneModel" "scalar" "[I") (by decide +kernel)) (fun _ h9 => h9) rfl dX9_settles_20 ?_
            refine lv_iconst (v := 3) hx hb dX9_settles_23 (by decide) ?_
            refine va_iald hx hb hG.1 hP 7 0 rfl rfl (by unfold vp_in; decide) dX9_settles_24 ?_
            refine hc_is (z := mo_s3) (by rw [show Int32.toNatClampNeg 3 = 3 from by decide]; rfl) ?_
            refine lv_icmp_ge (tgt := 58) hx hb dX9_settles_25 (by decide) (fun c12 => ?_) (fun c12 => ?_)
            · have fc12 := cx_ge_t (a := L3_11.toInt) (b := mo_s3.toInt) rfl rfl c12
              have hdec := settle_dec fc10 hp1_9 (by omega) hp1_11 (by omega)
              have hcl := cnt1_le g_11mo_ais 8
              refine lv_iload_n hx hb dX9_settles_58 rfl (lv_at hl 2 rfl) ?_
              refine lv_iload_n hx hb dX9_settles_59 rfl (lv_at hl 1 rfl) ?_
              refine lv_ior hx hb dX9_settles_60 ?_
              refine lv_topi (fun z13 ez13 => ?_)
              refine lv_istore_n (lv' := [(1, .int z13), (3, .int L3_11), (2, .int L2_9), (0, .ref mo)]) hx hb dX9_settles_61 rfl hl (by decide) rfl (fun ls hl => ?_)
              refine lv_aload_n hx hb dX9_settles_62 rfl (lv_at hl 3 rfl) ?_
              refine lv_aload_n hx hb dX9_settles_63 rfl (lv_at hl 3 rfl) ?_
              refine lv_iconst (v := 1) hx hb dX9_settles_64 (by decide) ?_
              have ql14 : (1 : Int32).toInt = 1 := by decide
              refine hc_Vi (As := [.int 1]) (rest := [.ref mo]) (n := 1) (wr := [(mo_acane, hcI k 4 mo_rcane), (mo_astrandOf, hcI k 8 mo_rstrandOf), (mo_aweight, hcI k 8 mo_rweight), (mo_aheight, hcI k 8 mo_rheight), (mo_achairOf, hcI k 8 mo_rchairOf)]) hx hb hml hown hts hG hA hP hD hS hl.1 [1, 0, 7] [2, 3, 4, 5, 6] (i_X9_those l D k _ 1 mo mo_thrown mo_ascalar mo_acane mo_ais mo_astrandOf mo_aweight mo_aheight mo_achairOf mo_anoteMinute mo_anoteWho mo_anoteIs mo_atoldCane mo_anewScalar mo_anewCane mo_anewHeight mo_anewStrand mo_anewChair mo_anewWeight mo_taped mo_p mo_fault mo_slot mo_rules mo_entries mo_deep mo_counted mo_opened mo_words mo_atape mo_asort mo_anumber mo_aclauses mo_asumAt mo_atestAt mo_aendAt mo_aopen mo_aasked mo_astack mo_amust mo_apast mo_apastOf mo_pastMany mo_pastAt mo_takesBack mo_acanRise mo_afirstHas mo_asecondHas mo_alay mo_ashows mo_aimages mo_aisMade mo_imageAt mo_goesBack g_11mo_ais mo_s0 mo_s1 mo_s2 mo_s3 mo_s4 mo_s5 mo_s6 mo_s7 ⟨by omega, by omega⟩ ⟨by omega, by omega⟩ ⟨by omega, by omega⟩ ⟨by omega, by omega⟩ ⟨by omega, by omega⟩ ⟨by omega, by omega⟩ ⟨by omega, by omega⟩ ⟨by omega, by omega⟩ ⟨by omega, by omega⟩ ⟨by omega, by omega⟩ ⟨by omega, by omega⟩ ⟨by omega, by omega⟩ ⟨by omega, by omega⟩ ⟨by omega, by omega⟩ ⟨by omega, by omega⟩ ⟨by omega, by omega⟩ ⟨by omega, by omega⟩ ⟨by omega, by omega⟩ ⟨by omega, by omega⟩) (ci := 7) (q0 := 1) rfl rfl gX9_settles_X9_those rfl ⟨rfl, rfl, Nat.le_of_ble_eq_true rfl, Nat.le_of_ble_eq_true rfl⟩ (by decide +kernel) rfl rfl ⟨by decide, by decide, by decide⟩ ⟨rfl, rfl, Nat.le_of_ble_eq_true rfl, Nat.le_of_ble_eq_true rfl, Nat.le_of_ble_eq_true rfl⟩ dX9_settles_65 (fun r16 u15 H locs hw hP hD hS => ?_)
              have hP : va_P D vwCl ([(mo_acane, hcI k 4 mo_rcane), (mo_astrandOf, hcI k 8 mo_rstrandOf), (mo_aweight, hcI k 8 mo_rweight), (mo_aheight, hcI k 8 mo_rheight), (mo_achairOf, hcI k 8 mo_rchairOf), (mo, .inr (7, [.int mo_thrown, .ref mo_ascalar, .ref mo_acane, .ref mo_ais, .ref mo_astrandOf, .ref mo_aweight, .ref mo_aheight, .ref mo_achairOf, .ref mo_anoteMinute, .ref mo_anoteWho, .ref mo_anoteIs, .ref mo_atoldCane, .ref mo_anewScalar, .ref mo_anewCane, .ref mo_anewHeight, .ref mo_anewStrand, .ref mo_anewChair, .ref mo_anewWeight, .int mo_taped, .int mo_p, .int mo_fault, .int mo_slot, .int mo_rules, .int mo_entries, .int mo_deep, .int mo_counted, .int mo_opened, .int mo_words, .ref mo_atape, .ref mo_asort, .ref mo_anumber, .ref mo_aclauses, .ref mo_asumAt, .ref mo_atestAt, .ref mo_aendAt, .ref mo_aopen, .ref mo_aasked, .ref mo_astack, .ref mo_amust, .ref mo_apast, .ref mo_apastOf, .int mo_pastMany, .int mo_pastAt, .int mo_takesBack, .ref mo_acanRise, .ref mo_afirstHas, .ref mo_asecondHas, .ref mo_alay, .ref mo_ashows, .ref mo_aimages, .ref mo_aisMade, .int mo_imageAt, .int mo_goesBack])), (mo_ais, hcI k 8 g_11mo_ais), (mo_ascalar, hcI k 8 (sc8 mo_s0 mo_s1 mo_s2 mo_s3 mo_s4 mo_s5 mo_s6 mo_s7))]) H := hP
              have hD : va_D A ([(mo_acane, hcI k 4 mo_rcane), (mo_astrandOf, hcI k 8 mo_rstrandOf), (mo_aweight, hcI k 8 mo_rweight), (mo_aheight, hcI k 8 mo_rheight), (mo_achairOf, hcI k 8 mo_rchairOf), (mo, .inr (7, [.int mo_thrown, .ref mo_ascalar, .ref mo_acane, .ref mo_ais, .ref mo_astrandOf, .ref mo_aweight, .ref mo_aheight, .ref mo_achairOf, .ref mo_anoteMinute, .ref mo_anoteWho, .ref mo_anoteIs, .ref mo_atoldCane, .ref mo_anewScalar, .ref mo_anewCane, .ref mo_anewHeight, .ref mo_anewStrand, .ref mo_anewChair, .ref mo_anewWeight, .int mo_taped, .int mo_p, .int mo_fault, .int mo_slot, .int mo_rules, .int mo_entries, .int mo_deep, .int mo_counted, .int mo_opened, .int mo_words, .ref mo_atape, .ref mo_asort, .ref mo_anumber, .ref mo_aclauses, .ref mo_asumAt, .ref mo_atestAt, .ref mo_aendAt, .ref mo_aopen, .ref mo_aasked, .ref mo_astack, .ref mo_amust, .ref mo_apast, .ref mo_apastOf, .int mo_pastMany, .int mo_pastAt, .int mo_takesBack, .ref mo_acanRise, .ref mo_afirstHas, .ref mo_asecondHas, .ref mo_alay, .ref mo_ashows, .ref mo_aimages, .ref mo_aisMade, .int mo_imageAt, .int mo_goesBack])), (mo_ais, hcI k 8 g_11mo_ais), (mo_ascalar, hcI k 8 (sc8 mo_s0 mo_s1 mo_s2 mo_s3 mo_s4 mo_s5 mo_s6 mo_s7))]) := hD
              have ql18 : (1 : Int32).toInt = 1 := by decide
              have rel17 := hw
              refine hc_Vi (As := [.int r16]) (rest := []) (n := 1) (wr := [(mo_ais, hcI k 8 g_11mo_ais)]) hx hb hml hown hts hG hA hP hD hS hl.1 [5, 0, 1, 2, 3, 4, 7] [6] (i_X9_dropsOf l D k _ r16 mo mo_thrown mo_ascalar mo_acane mo_ais mo_astrandOf mo_aweight mo_aheight mo_achairOf mo_anoteMinute mo_anoteWho mo_anoteIs mo_atoldCane mo_anewScalar mo_anewCane mo_anewHeight mo_anewStrand mo_anewChair mo_anewWeight mo_taped mo_p mo_fault mo_slot mo_rules mo_entries mo_deep mo_counted mo_opened mo_words mo_atape mo_asort mo_anumber mo_aclauses mo_asumAt mo_atestAt mo_aendAt mo_aopen mo_aasked mo_astack mo_amust mo_apast mo_apastOf mo_pastMany mo_pastAt mo_takesBack mo_acanRise mo_afirstHas mo_asecondHas mo_alay mo_ashows mo_aimages mo_aisMade mo_imageAt mo_goesBack mo_rcane mo_rstrandOf mo_rweight mo_rheight mo_rchairOf mo_s0 mo_s1 mo_s2 mo_s3 mo_s4 mo_s5 mo_s6 mo_s7 ⟨by omega, by omega⟩ ⟨by omega, by omega⟩ ⟨by omega, by omega⟩ ⟨by omega, by omega⟩ ⟨by omega, by omega⟩ ⟨by omega, by omega⟩ ⟨by omega, by omega⟩ ⟨by omega, by omega⟩ ⟨by omega, by omega⟩ ⟨by omega, by omega⟩ ⟨by omega, by omega⟩ ⟨by omega, by omega⟩ ⟨by omega, by omega⟩ ⟨by omega, by omega⟩ h_mo_rweight h_mo_rchairOf ⟨by omega, by omega⟩ ⟨by omega, by omega⟩ ⟨by omega, by omega⟩ ⟨by omega, by omega⟩ ⟨by omega, by omega⟩ hh_HallOk) (ci := 7) (q0 := 5) rfl rfl gX9_settles_X9_dropsOf rfl ⟨rfl, rfl, Nat.le_of_ble_eq_true rfl, Nat.le_of_ble_eq_true rfl⟩ (by decide +kernel) rfl rfl ⟨by decide, by decide, by decide⟩ ⟨rfl, rfl, Nat.le_of_ble_eq_true rfl, Nat.le_of_ble_eq_true rfl, Nat.le_of_ble_eq_true rfl⟩ dX9_settles_68 (fun r20 u19 H locs hw hP hD hS => ?_)
              have hP : va_P D vwCl ([(mo_ais, hcI k 8 g_11mo_ais), (mo, .inr (7, [.int mo_thrown, .ref mo_ascalar, .ref mo_acane, .ref mo_ais, .ref mo_astrandOf, .ref mo_aweight, .ref mo_aheight, .ref mo_achairOf, .ref mo_anoteMinute, .ref mo_anoteWho, .ref mo_anoteIs, .ref mo_atoldCane, .ref mo_anewScalar, .ref mo_anewCane, .ref mo_anewHeight, .ref mo_anewStrand, .ref mo_anewChair, .ref mo_anewWeight, .int mo_taped, .int mo_p, .int mo_fault, .int mo_slot, .int mo_rules, .int mo_entries, .int mo_deep, .int mo_counted, .int mo_opened, .int mo_words, .ref mo_atape, .ref mo_asort, .ref mo_anumber, .ref mo_aclauses, .ref mo_asumAt, .ref mo_atestAt, .ref mo_aendAt, .ref mo_aopen, .ref mo_aasked, .ref mo_astack, .ref mo_amust, .ref mo_apast, .ref mo_apastOf, .int mo_pastMany, .int mo_pastAt, .int mo_takesBack, .ref mo_acanRise, .ref mo_afirstHas, .ref mo_asecondHas, .ref mo_alay, .ref mo_ashows, .ref mo_aimages, .ref mo_aisMade, .int mo_imageAt, .int mo_goesBack])), (mo_acane, hcI k 4 mo_rcane), (mo_astrandOf, hcI k 8 mo_rstrandOf), (mo_aweight, hcI k 8 mo_rweight), (mo_aheight, hcI k 8 mo_rheight), (mo_achairOf, hcI k 8 mo_rchairOf), (mo_ascalar, hcI k 8 (sc8 mo_s0 mo_s1 mo_s2 mo_s3 mo_s4 mo_s5 mo_s6 mo_s7))]) H := hP
              have hD : va_D A ([(mo_ais, hcI k 8 g_11mo_ais), (mo, .inr (7, [.int mo_thrown, .ref mo_ascalar, .ref mo_acane, .ref mo_ais, .ref mo_astrandOf, .ref mo_aweight, .ref mo_aheight, .ref mo_achairOf, .ref mo_anoteMinute, .ref mo_anoteWho, .ref mo_anoteIs, .ref mo_atoldCane, .ref mo_anewScalar, .ref mo_anewCane, .ref mo_anewHeight, .ref mo_anewStrand, .ref mo_anewChair, .ref mo_anewWeight, .int mo_taped, .int mo_p, .int mo_fault, .int mo_slot, .int mo_rules, .int mo_entries, .int mo_deep, .int mo_counted, .int mo_opened, .int mo_words, .ref mo_atape, .ref mo_asort, .ref mo_anumber, .ref mo_aclauses, .ref mo_asumAt, .ref mo_atestAt, .ref mo_aendAt, .ref mo_aopen, .ref mo_aasked, .ref mo_astack, .ref mo_amust, .ref mo_apast, .ref mo_apastOf, .int mo_pastMany, .int mo_pastAt, .int mo_takesBack, .ref mo_acanRise, .ref mo_afirstHas, .ref mo_asecondHas, .ref mo_alay, .ref mo_ashows, .ref mo_aimages, .ref mo_aisMade, .int mo_imageAt, .int mo_goesBack])), (mo_acane, hcI k 4 mo_rcane), (mo_astrandOf, hcI k 8 mo_rstrandOf), (mo_aweight, hcI k 8 mo_rweight), (mo_aheight, hcI k 8 mo_rheight), (mo_achairOf, hcI k 8 mo_rchairOf), (mo_ascalar, hcI k 8 (sc8 mo_s0 mo_s1 mo_s2 mo_s3 mo_s4 mo_s5 mo_s6 mo_s7))]) := hD
              have rel21 := hw
              refine lv_istore_n (lv' := [(2, .int r20), (1, .int z13), (3, .int L3_11), (0, .ref mo)]) hx hb dX9_settles_71 rfl hl (by decide) rfl (fun ls hl => ?_)
              refine lv_goto (tgt := 12) hx hb dX9_settles_72 (by decide) ?_
              exact ih9 z13 r20 g_11mo_ais ((DI_TI rel21 rel17.1)) (by omega) _ _ _ hP hD hS (lv_sub hl [0, 1, 3] rfl)
            · have fc12 := cx_ge_f (a := L3_11.toInt) (b := mo_s3.toInt) rfl rfl c12
              refine lv_aload_n hx hb dX9_settles_28 rfl (lv_at hl 3 rfl) ?_
              refine va_get (D := D) (ci := 7) (v := .ref mo_ais) (C := RX9) (T := TX9) (N := 53) hx hb hts in9 hown hG.1 hP 1 rfl rfl 3 (by decide) (hts (.fieldLink RX9 16 "ChairCaneModel" "is" "[I") (by decide +kernel)) (fun _ h9 => h9) rfl dX9_settles_29 ?_
              refine lv_iload_n hx hb dX9_settles_32 rfl (lv_at hl 0 rfl) ?_
              refine lv_iload_n hx hb dX9_settles_33 rfl (lv_at hl 1 rfl) ?_
              refine lv_iload_n hx hb dX9_settles_34 rfl (lv_at hl 0 rfl) ?_
              refine hc_Si (As := [.int L2_9, .int L3_11]) (rest := [.int L3_11, .ref mo_ais]) (n := 2) (wr := [(mo_ais, hcI k 8 g_11mo_ais), (mo, .inr (7, [.int mo_thrown, .ref mo_ascalar, .ref mo_acane, .ref mo_ais, .ref mo_astrandOf, .ref mo_aweight, .ref mo_aheight, .ref mo_achairOf, .ref mo_anoteMinute, .ref mo_anoteWho, .ref mo_anoteIs, .ref mo_atoldCane, .ref mo_anewScalar, .ref mo_anewCane, .ref mo_anewHeight, .ref mo_anewStrand, .ref mo_anewChair, .ref mo_anewWeight, .int mo_taped, .int mo_p, .int mo_fault, .int mo_slot, .int mo_rules, .int mo_entries, .int mo_deep, .int mo_counted, .int mo_opened, .int mo_words, .ref mo_atape, .ref mo_asort, .ref mo_anumber, .ref mo_aclauses, .ref mo_asumAt, .ref mo_atestAt, .ref mo_aendAt, .ref mo_aopen, .ref mo_aasked, .ref mo_astack, .ref mo_amust, .ref mo_apast, .ref mo_apastOf, .int mo_pastMany, .int mo_pastAt, .int mo_takesBack, .ref mo_acanRise, .ref mo_afirstHas, .ref mo_asecondHas, .ref mo_alay, .ref mo_ashows, .ref mo_aimages, .ref mo_aisMade, .int mo_imageAt, .int mo_goesBack])), (mo_acane, hcI k 4 mo_rcane), (mo_astrandOf, hcI k 8 mo_rstrandOf), (mo_aweight, hcI k 8 mo_rweight), (mo_aheight, hcI k 8 mo_rheight), (mo_achairOf, hcI k 8 mo_rchairOf), (mo_ascalar, hcI k 8 (sc8 mo_s0 mo_s1 mo_s2 mo_s3 mo_s4 mo_s5 mo_s6 mo_s7))]) hx hb hml hown hts hG hA hP hD hS hl.1 [] [0, 1, 2, 3, 4, 5, 6, 7] (i_X9_has l D k _ L2_9 L3_11 ⟨by omega, by omega⟩) gX9_settles_X9_has rfl ⟨rfl, rfl, Nat.le_of_ble_eq_true rfl, Nat.le_of_ble_eq_true rfl⟩ (by decide +kernel) rfl rfl ⟨by decide, by decide, by decide⟩ ⟨rfl, rfl, Nat.le_of_ble_eq_true rfl, Nat.le_of_ble_eq_true rfl, Nat.le_of_ble_eq_true rfl⟩ dX9_settles_35 (fun r23 u22 H locs hw hP hD hS => ?_)
              have hP : va_P D vwCl ([(mo_ais, hcI k 8 g_11mo_ais), (mo, .inr (7, [.int mo_thrown, .ref mo_ascalar, .ref mo_acane, .ref mo_ais, .ref mo_astrandOf, .ref mo_aweight, .ref mo_aheight, .ref mo_achairOf, .ref mo_anoteMinute, .ref mo_anoteWho, .ref mo_anoteIs, .ref mo_atoldCane, .ref mo_anewScalar, .ref mo_anewCane, .ref mo_anewHeight, .ref mo_anewStrand, .ref mo_anewChair, .ref mo_anewWeight, .int mo_taped, .int mo_p, .int mo_fault, .int mo_slot, .int mo_rules, .int mo_entries, .int mo_deep, .int mo_counted, .int mo_opened, .int mo_words, .ref mo_atape, .ref mo_asort, .ref mo_anumber, .ref mo_aclauses, .ref mo_asumAt, .ref mo_atestAt, .ref mo_aendAt, .ref mo_aopen, .ref mo_aasked, .ref mo_astack, .ref mo_amust, .ref mo_apast, .ref mo_apastOf, .int mo_pastMany, .int mo_pastAt, .int mo_takesBack, .ref mo_acanRise, .ref mo_afirstHas, .ref mo_asecondHas, .ref mo_alay, .ref mo_ashows, .ref mo_aimages, .ref mo_aisMade, .int mo_imageAt, .int mo_goesBack])), (mo_acane, hcI k 4 mo_rcane), (mo_astrandOf, hcI k 8 mo_rstrandOf), (mo_aweight, hcI k 8 mo_rweight), (mo_aheight, hcI k 8 mo_rheight), (mo_achairOf, hcI k 8 mo_rchairOf), (mo_ascalar, hcI k 8 (sc8 mo_s0 mo_s1 mo_s2 mo_s3 mo_s4 mo_s5 mo_s6 mo_s7))]) H := hP
              have hD : va_D A ([(mo_ais, hcI k 8 g_11mo_ais), (mo, .inr (7, [.int mo_thrown, .ref mo_ascalar, .ref mo_acane, .ref mo_ais, .ref mo_astrandOf, .ref mo_aweight, .ref mo_aheight, .ref mo_achairOf, .ref mo_anoteMinute, .ref mo_anoteWho, .ref mo_anoteIs, .ref mo_atoldCane, .ref mo_anewScalar, .ref mo_anewCane, .ref mo_anewHeight, .ref mo_anewStrand, .ref mo_anewChair, .ref mo_anewWeight, .int mo_taped, .int mo_p, .int mo_fault, .int mo_slot, .int mo_rules, .int mo_entries, .int mo_deep, .int mo_counted, .int mo_opened, .int mo_words, .ref mo_atape, .ref mo_asort, .ref mo_anumber, .ref mo_aclauses, .ref mo_asumAt, .ref mo_atestAt, .ref mo_aendAt, .ref mo_aopen, .ref mo_aasked, .ref mo_astack, .ref mo_amust, .ref mo_apast, .ref mo_apastOf, .int mo_pastMany, .int mo_pastAt, .int mo_takesBack, .ref mo_acanRise, .ref mo_afirstHas, .ref mo_asecondHas, .ref mo_alay, .ref mo_ashows, .ref mo_aimages, .ref mo_aisMade, .int mo_imageAt, .int mo_goesBack])), (mo_acane, hcI k 4 mo_rcane), (mo_astrandOf, hcI k 8 mo_rstrandOf), (mo_aweight, hcI k 8 mo_rweight), (mo_aheight, hcI k 8 mo_rheight), (mo_achairOf, hcI k 8 mo_rchairOf), (mo_ascalar, hcI k 8 (sc8 mo_s0 mo_s1 mo_s2 mo_s3 mo_s4 mo_s5 mo_s6 mo_s7))]) := hD
              obtain ⟨br23, rel24⟩ := hw
              have br23 : iv (0) (1) r23 := br23
              have br23_l := br23.1
              have br23_u := br23.2
              refine lv_if_eq (tgt := 45) hx hb dX9_settles_38 (by decide) (fun c25 => ?_) (fun c25 => ?_)
              · have fc25 := cx_eq_t (a := r23.toInt) (b := 0) rfl (by decide) c25
                refine lv_aload_n hx hb dX9_settles_45 rfl (lv_at hl 3 rfl) ?_
                refine va_get (D := D) (ci := 7) (v := .ref mo_ais) (C := RX9) (T := TX9) (N := 53) hx hb hts in9 hown hG.1 hP 1 rfl rfl 3 (by decide) (hts (.fieldLink RX9 16 "ChairCaneModel" "is" "[I") (by decide +kernel)) (fun _ h9 => h9) rfl dX9_settles_46 ?_
                refine lv_iload_n hx hb dX9_settles_49 rfl (lv_at hl 0 rfl) ?_
                refine va_iald hx hb hG.1 hP 0 0 rfl rfl (vp_in_iff.mpr ⟨by omega, by omega⟩) dX9_settles_50 ?_
                refine lv_topi (fun z26 ez26 => ?_)
                refine va_iast hx hb hG.1 hP hD hS 0 0 rfl rfl (vp_in_iff.mpr ⟨by omega, by omega⟩) dX9_settles_51 (fun H locs hP hD hS => ?_)
                obtain ⟨f27, ef27⟩ : ∃ f, f = upd g_11mo_ais (Int32.toNatClampNeg L3_11) (z26) := ⟨_, rfl⟩
                rw [← ef27] at hP hD
                have hP : va_P D vwCl ([(mo_ais, hcI k 8 f27), (mo, .inr (7, [.int mo_thrown, .ref mo_ascalar, .ref mo_acane, .ref mo_ais, .ref mo_astrandOf, .ref mo_aweight, .ref mo_aheight, .ref mo_achairOf, .ref mo_anoteMinute, .ref mo_anoteWho, .ref mo_anoteIs, .ref mo_atoldCane, .ref mo_anewScalar, .ref mo_anewCane, .ref mo_anewHeight, .ref mo_anewStrand, .ref mo_anewChair, .ref mo_anewWeight, .int mo_taped, .int mo_p, .int mo_fault, .int mo_slot, .int mo_rules, .int mo_entries, .int mo_deep, .int mo_counted, .int mo_opened, .int mo_words, .ref mo_atape, .ref mo_asort, .ref mo_anumber, .ref mo_aclauses, .ref mo_asumAt, .ref mo_atestAt, .ref mo_aendAt, .ref mo_aopen, .ref mo_aasked, .ref mo_astack, .ref mo_amust, .ref mo_apast, .ref mo_apastOf, .int mo_pastMany, .int mo_pastAt, .int mo_takesBack, .ref mo_acanRise, .ref mo_afirstHas, .ref mo_asecondHas, .ref mo_alay, .ref mo_ashows, .ref mo_aimages, .ref mo_aisMade, .int mo_imageAt, .int mo_goesBack])), (mo_acane, hcI k 4 mo_rcane), (mo_astrandOf, hcI k 8 mo_rstrandOf), (mo_aweight, hcI k 8 mo_rweight), (mo_aheight, hcI k 8 mo_rheight), (mo_achairOf, hcI k 8 mo_rchairOf), (mo_ascalar, hcI k 8 (sc8 mo_s0 mo_s1 mo_s2 mo_s3 mo_s4 mo_s5 mo_s6 mo_s7))]) H := hP
                have hD : va_D A ([(mo_ais, hcI k 8 f27), (mo, .inr (7, [.int mo_thrown, .ref mo_ascalar, .ref mo_acane, .ref mo_ais, .ref mo_astrandOf, .ref mo_aweight, .ref mo_aheight, .ref mo_achairOf, .ref mo_anoteMinute, .ref mo_anoteWho, .ref mo_anoteIs, .ref mo_atoldCane, .ref mo_anewScalar, .ref mo_anewCane, .ref mo_anewHeight, .ref mo_anewStrand, .ref mo_anewChair, .ref mo_anewWeight, .int mo_taped, .int mo_p, .int mo_fault, .int mo_slot, .int mo_rules, .int mo_entries, .int mo_deep, .int mo_counted, .int mo_opened, .int mo_words, .ref mo_atape, .ref mo_asort, .ref mo_anumber, .ref mo_aclauses, .ref mo_asumAt, .ref mo_atestAt, .ref mo_aendAt, .ref mo_aopen, .ref mo_aasked, .ref mo_astack, .ref mo_amust, .ref mo_apast, .ref mo_apastOf, .int mo_pastMany, .int mo_pastAt, .int mo_takesBack, .ref mo_acanRise, .ref mo_afirstHas, .ref mo_asecondHas, .ref mo_alay, .ref mo_ashows, .ref mo_aimages, .ref mo_aisMade, .int mo_imageAt, .int mo_goesBack])), (mo_acane, hcI k 4 mo_rcane), (mo_astrandOf, hcI k 8 mo_rstrandOf), (mo_aweight, hcI k 8 mo_rweight), (mo_aheight, hcI k 8 mo_rheight), (mo_achairOf, hcI k 8 mo_rchairOf), (mo_ascalar, hcI k 8 (sc8 mo_s0 mo_s1 mo_s2 mo_s3 mo_s4 mo_s5 mo_s6 mo_s7))]) := hD
                obtain ⟨z28, ez28⟩ : ∃ z : Int32, z = L3_11 + 1 := ⟨_, rfl⟩
                have tz28 : z28.toInt = L3_11.toInt + (1) := ai_add rfl (by decide) ez28 (by omega) (by omega)
                refine lv_iinc (v := z28) (lv' := [(3, .int z28), (2, .int L2_9), (1, .int L1_9), (0, .ref mo)]) hx hb dX9_settles_52 hl (k := 0) rfl (by rw [ez28]; rfl) (by decide) rfl (fun ls hl => ?_)
                refine lv_goto (tgt := 18) hx hb dX9_settles_55 (by decide) ?_
                exact ih11 z28 f27 ⟨by omega, by omega⟩ (by omega) (SI_f hp1_11 (by omega) tz28 (by rcases rel24 with g | g; exact absurd g.1 (by omega); exact g.2) ez26 ef27) (by omega) _ _ _ hP hD hS (lv_sub hl [0, 1, 2, 3] rfl)
              · have fc25 := cx_eq_f (a := r23.toInt) (b := 0) rfl (by decide) c25
                refine lv_iconst (v := 2) hx hb dX9_settles_41 (by decide) ?_
                refine lv_goto (tgt := 51) hx hb dX9_settles_42 (by decide) ?_
                refine va_iast hx hb hG.1 hP hD hS 0 0 rfl rfl (vp_in_iff.mpr ⟨by omega, by omega⟩) dX9_settles_51 (fun H locs hP hD hS => ?_)
                obtain ⟨f29, ef29⟩ : ∃ f, f = upd g_11mo_ais (Int32.toNatClampNeg L3_11) (2) := ⟨_, rfl⟩
                rw [← ef29] at hP hD
                have hP : va_P D vwCl ([(mo_ais, hcI k 8 f29), (mo, .inr (7, [.int mo_thrown, .ref mo_ascalar, .ref mo_acane, .ref mo_ais, .ref mo_astrandOf, .ref mo_aweight, .ref mo_aheight, .ref mo_achairOf, .ref mo_anoteMinute, .ref mo_anoteWho, .ref mo_anoteIs, .ref mo_atoldCane, .ref mo_anewScalar, .ref mo_anewCane, .ref mo_anewHeight, .ref mo_anewStrand, .ref mo_anewChair, .ref mo_anewWeight, .int mo_taped, .int mo_p, .int mo_fault, .int mo_slot, .int mo_rules, .int mo_entries, .int mo_deep, .int mo_counted, .int mo_opened, .int mo_words, .ref mo_atape, .ref mo_asort, .ref mo_anumber, .ref mo_aclauses, .ref mo_asumAt, .ref mo_atestAt, .ref mo_aendAt, .ref mo_aopen, .ref mo_aasked, .ref mo_astack, .ref mo_amust, .ref mo_apast, .ref mo_apastOf, .int mo_pastMany, .int mo_pastAt, .int mo_takesBack, .ref mo_acanRise, .ref mo_afirstHas, .ref mo_asecondHas, .ref mo_alay, .ref mo_ashows, .ref mo_aimages, .ref mo_aisMade, .int mo_imageAt, .int mo_goesBack])), (mo_acane, hcI k 4 mo_rcane), (mo_astrandOf, hcI k 8 mo_rstrandOf), (mo_aweight, hcI k 8 mo_rweight), (mo_aheight, hcI k 8 mo_rheight), (mo_achairOf, hcI k 8 mo_rchairOf), (mo_ascalar, hcI k 8 (sc8 mo_s0 mo_s1 mo_s2 mo_s3 mo_s4 mo_s5 mo_s6 mo_s7))]) H := hP
                have hD : va_D A ([(mo_ais, hcI k 8 f29), (mo, .inr (7, [.int mo_thrown, .ref mo_ascalar, .ref mo_acane, .ref mo_ais, .ref mo_astrandOf, .ref mo_aweight, .ref mo_aheight, .ref mo_achairOf, .ref mo_anoteMinute, .ref mo_anoteWho, .ref mo_anoteIs, .ref mo_atoldCane, .ref mo_anewScalar, .ref mo_anewCane, .ref mo_anewHeight, .ref mo_anewStrand, .ref mo_anewChair, .ref mo_anewWeight, .int mo_taped, .int mo_p, .int mo_fault, .int mo_slot, .int mo_rules, .int mo_entries, .int mo_deep, .int mo_counted, .int mo_opened, .int mo_words, .ref mo_atape, .ref mo_asort, .ref mo_anumber, .ref mo_aclauses, .ref mo_asumAt, .ref mo_atestAt, .ref mo_aendAt, .ref mo_aopen, .ref mo_aasked, .ref mo_astack, .ref mo_amust, .ref mo_apast, .ref mo_apastOf, .int mo_pastMany, .int mo_pastAt, .int mo_takesBack, .ref mo_acanRise, .ref mo_afirstHas, .ref mo_asecondHas, .ref mo_alay, .ref mo_ashows, .ref mo_aimages, .ref mo_aisMade, .int mo_imageAt, .int mo_goesBack])), (mo_acane, hcI k 4 mo_rcane), (mo_astrandOf, hcI k 8 mo_rstrandOf), (mo_aweight, hcI k 8 mo_rweight), (mo_aheight, hcI k 8 mo_rheight), (mo_achairOf, hcI k 8 mo_rchairOf), (mo_ascalar, hcI k 8 (sc8 mo_s0 mo_s1 mo_s2 mo_s3 mo_s4 mo_s5 mo_s6 mo_s7))]) := hD
                obtain ⟨z30, ez30⟩ : ∃ z : Int32, z = L3_11 + 1 := ⟨_, rfl⟩
                have tz30 : z30.toInt = L3_11.toInt + (1) := ai_add rfl (by decide) ez30 (by omega) (by omega)
                refine lv_iinc (v := z30) (lv' := [(3, .int z30), (2, .int L2_9), (1, .int L1_9), (0, .ref mo)]) hx hb dX9_settles_52 hl (k := 0) rfl (by rw [ez30]; rfl) (by decide) rfl (fun ls hl => ?_)
                refine lv_goto (tgt := 18) hx hb dX9_settles_55 (by decide) ?_
                exact ih11 z30 f29 ⟨by omega, by omega⟩ (by omega) (SI_t hp1_11 (by omega) tz30 (by rcases rel24 with g | g; exact g.2; exact absurd g.1 (by omega)) ef29) (by omega) _ _ _ hP hD hS (lv_sub hl [0, 1, 2, 3] rfl)
        exact loop11 100 0 g_9mo_ais (iv_lit (by decide) (by decide)) (by have q0 : (0 : Int32).toInt = 0 := (by decide); omega) (SI_0) (by have q0 : (0 : Int32).toInt = 0 := (by decide); omega) _ _ _ hP hD hS hl
  exact loop9 100 0 r7 mo_ris ((DI_TI rel8 rel4.1)) (by have q0 : (0 : Int32).toInt = 0 := (by decide); omega) _ _ _ hP hD hS hl
set_option maxHeartbeats 4000000 in
set_option maxRecDepth 100000 in
theorem i_X9_strand (l : Launch) (D : va_G) (k : Nat → ClassId) (sz : Nat) (x1 : Int32) (mo : Nat) (mo_thrown : Int32) (mo_ascalar : Nat) (mo_acane : Nat) (mo_ais : Nat) (mo_astrandOf : Nat) (mo_aweight : Nat) (mo_aheight : Nat) (mo_achairOf : Nat) (mo_anoteMinute : Nat) (mo_anoteWho : Nat) (mo_anoteIs : Nat) (mo_atoldCane : Nat) (mo_anewScalar : Nat) (mo_anewCane : Nat) (mo_anewHeight : Nat) (mo_anewStrand : Nat) (mo_anewChair : Nat) (mo_anewWeight : Nat) (mo_taped : Int32) (mo_p : Int32) (mo_fault : Int32) (mo_slot : Int32) (mo_rules : Int32) (mo_entries : Int32) (mo_deep : Int32) (mo_counted : Int32) (mo_opened : Int32) (mo_words : Int32) (mo_atape : Nat) (mo_asort : Nat) (mo_anumber : Nat) (mo_aclauses : Nat) (mo_asumAt : Nat) (mo_atestAt : Nat) (mo_aendAt : Nat) (mo_aopen : Nat) (mo_aasked : Nat) (mo_astack : Nat) (mo_amust : Nat) (mo_apast : Nat) (mo_apastOf : Nat) (mo_pastMany : Int32) (mo_pastAt : Int32) (mo_takesBack : Int32) (mo_acanRise : Nat) (mo_afirstHas : Nat) (mo_asecondHas : Nat) (mo_alay : Nat) (mo_ashows : Nat) (mo_aimages : Nat) (mo_aisMade : Nat) (mo_imageAt : Int32) (mo_goesBack : Int32) (mo_rcane : Nat → Int32) (mo_s0 : Int32) (mo_s1 : Int32) (mo_s2 : Int32) (mo_s3 : Int32) (mo_s4 : Int32) (mo_s5 : Int32) (mo_s6 : Int32) (mo_s7 : Int32) (h_mo_taped : iv (0) (400) mo_taped) (h_mo_p : iv (0) (402) mo_p) (h_mo_fault : iv (0) (4000) mo_fault) (h_mo_slot : iv (0) (5) mo_slot) (h_mo_rules : iv (0) (6) mo_rules) (h_mo_entries : iv (0) (300) mo_entries) (h_mo_counted : iv (0) (70) mo_counted) (h_mo_opened : iv (0) (402) mo_opened) (h_mo_words : iv (11) (11) mo_words) (h_mo_pastMany : iv (0) (20) mo_pastMany) (h_mo_pastAt : iv (0) (260) mo_pastAt) (h_mo_takesBack : iv (0) (1) mo_takesBack) (h_mo_imageAt : iv (0) (2000) mo_imageAt) (h_mo_goesBack : iv (0) (1) mo_goesBack) (h_mo_s1 : iv (0) (4) mo_s1) (h_mo_s2 : iv (0) (8) mo_s2) (h_mo_s3 : iv (0) (8) mo_s3) (h_mo_s5 : iv (0) (10) mo_s5) (h_mo_s7 : iv (-1) (5) mo_s7) : CtI l yX9_strand wsX9_strand (rmK 3 0 0) [.ref mo, .int x1] D k sz ([(mo, .inr (7, [.int mo_thrown, .ref mo_ascalar, .ref mo_acane, .ref mo_ais, .ref mo_astrandOf, .ref mo_aweight, .ref mo_aheight, .ref mo_achairOf, .ref mo_anoteMinute, .ref mo_anoteWho, .ref mo_anoteIs, .ref mo_atoldCane, .ref mo_anewScalar, .ref mo_anewCane, .ref mo_anewHeight, .ref mo_anewStrand, .ref mo_anewChair, .ref mo_anewWeight, .int mo_taped, .int mo_p, .int mo_fault, .int mo_slot, .int mo_rules, .int mo_entries, .int mo_deep, .int mo_counted, .int mo_opened, .int mo_words, .ref mo_atape, .ref mo_asort, .ref mo_anumber, .ref mo_aclauses, .ref mo_asumAt, .ref mo_atestAt, .ref mo_aendAt, .ref mo_aopen, .ref mo_aasked, .ref mo_astack, .ref mo_amust, .ref mo_apast, .ref mo_apastOf, .int mo_pastMany, .int mo_pastAt, .int mo_takesBack, .ref mo_acanRise, .ref mo_afirstHas, .ref mo_asecondHas, .ref mo_alay, .ref mo_ashows, .ref mo_aimages, .ref mo_aisMade, .int mo_imageAt, .int mo_goesBack])), (mo_acane, hcI k 4 mo_rcane), (mo_ascalar, hcI k 8 (sc8 mo_s0 mo_s1 mo_s2 mo_s3 mo_s4 mo_s5 mo_s6 mo_s7))]) (fun (r : Int32) (u : Unit) => True) (fun u : Unit => [(mo, .inr (7, [.int mo_thrown, .ref mo_ascalar, .ref mo_acane, .ref mo_ais, .ref mo_astrandOf, .ref mo_aweight, .ref mo_aheight, .ref mo_achairOf, .ref mo_anoteMinute, .ref mo_anoteWho, .ref mo_anoteIs, .ref mo_atoldCane, .ref mo_anewScalar, .ref mo_anewCane, .ref mo_anewHeight, .ref mo_anewStrand, .ref mo_anewChair, .ref mo_anewWeight, .int mo_taped, .int mo_p, .int mo_fault, .int mo_slot, .int mo_rules, .int mo_entries, .int mo_deep, .int mo_counted, .int mo_opened, .int mo_words, .ref mo_atape, .ref mo_asort, .ref mo_anumber, .ref mo_aclauses, .ref mo_asumAt, .ref mo_atestAt, .ref mo_aendAt, .ref mo_aopen, .ref mo_aasked, .ref mo_astack, .ref mo_amust, .ref mo_apast, .ref mo_apastOf, .int mo_pastMany, .int mo_pastAt, .int mo_takesBack, .ref mo_acanRise, .ref mo_afirstHas, .ref mo_asecondHas, .ref mo_alay, .ref mo_ashows, .ref mo_aimages, .ref mo_aisMade, .int mo_imageAt, .int mo_goesBack])), (mo_acane, hcI k 4 mo_rcane), (mo_ascalar, hcI k 8 (sc8 mo_s0 mo_s1 mo_s2 mo_s3 mo_s4 mo_s5 mo_s6 mo_s7))]) 0 0 := by
  have h_mo_taped_l := h_mo_taped.1
  have h_mo_taped_u := h_mo_taped.2
  have h_mo_p_l := h_mo_p.1
  have h_mo_p_u := h_mo_p.2
  have h_mo_fault_l := h_mo_fault.1
  have h_mo_fault_u := h_mo_fault.2
  have h_mo_slot_l := h_mo_slot.1
  have h_mo_slot_u := h_mo_slot.2
  have h_mo_rules_l := h_mo_rules.1
  have h_mo_rules_u := h_mo_rules.2
  have h_mo_entries_l := h_mo_entries.1
  have h_mo_entries_u := h_mo_entries.2
  have h_mo_counted_l := h_mo_counted.1
  have h_mo_counted_u := h_mo_counted.2
  have h_mo_opened_l := h_mo_opened.1
  have h_mo_opened_u := h_mo_opened.2
  have h_mo_words_l := h_mo_words.1
  have h_mo_words_u := h_mo_words.2
  have h_mo_pastMany_l := h_mo_pastMany.1
  have h_mo_pastMany_u := h_mo_pastMany.2
  have h_mo_pastAt_l := h_mo_pastAt.1
  have h_mo_pastAt_u := h_mo_pastAt.2
  have h_mo_takesBack_l := h_mo_takesBack.1
  have h_mo_takesBack_u := h_mo_takesBack.2
  have h_mo_imageAt_l := h_mo_imageAt.1
  have h_mo_imageAt_u := h_mo_imageAt.2
  have h_mo_goesBack_l := h_mo_goesBack.1
  have h_mo_goesBack_u := h_mo_goesBack.2
  have h_mo_s1_l := h_mo_s1.1
  have h_mo_s1_u := h_mo_s1.2
  have h_mo_s2_l := h_mo_s2.1
  have h_mo_s2_u := h_mo_s2.2
  have h_mo_s3_l := h_mo_s3.1
  have h_mo_s3_u := h_mo_s3.2
  have h_mo_s5_l := h_mo_s5.1
  have h_mo_s5_u := h_mo_s5.2
  have h_mo_s7_l := h_mo_s7.1
  have h_mo_s7_u := h_mo_s7.2
  refine CtI.mk (cc := cX9_strand) (maxL := 2) (ret := (some .int)) (by decide) rfl (Nat.le_of_ble_eq_true rfl) ?_
  intro p e s m below meth c A ls E hP hD hS hl
  obtain ⟨hx, hb, hr, hml, hown, hts, hlocks, hin, hG, hA⟩ := E
  have hown : s.vm.findClass RX9 = some m.cls := hown
  have in9 : ∀ w ∈ u_ws RX9 TX9 53, w ∈ wsX9_strand := fun _ h => List.mem_cons_of_mem _ (List.mem_append_right _ h)
  have hl : lv_has ls 2 [(0, .ref mo), (1, .int x1)] := hl
  refine lv_aload_n hx hb dX9_strand_0 rfl (lv_at hl 0 rfl) ?_
  refine lv_iload_n hx hb dX9_strand_1 rfl (lv_at hl 1 rfl) ?_
  refine hc_Vi (As := [.int x1]) (rest := []) (n := 1) (wr := [(mo_acane, hcI k 4 mo_rcane)]) hx hb hml hown hts hG hA hP hD hS hl.1 [0, 2] [1] (i_X9_isStrand l D k _ x1 mo mo_thrown mo_ascalar mo_acane mo_ais mo_astrandOf mo_aweight mo_aheight mo_achairOf mo_anoteMinute mo_anoteWho mo_anoteIs mo_atoldCane mo_anewScalar mo_anewCane mo_anewHeight mo_anewStrand mo_anewChair mo_anewWeight mo_taped mo_p mo_fault mo_slot mo_rules mo_entries mo_deep mo_counted mo_opened mo_words mo_atape mo_asort mo_anumber mo_aclauses mo_asumAt mo_atestAt mo_aendAt mo_aopen mo_aasked mo_astack mo_amust mo_apast mo_apastOf mo_pastMany mo_pastAt mo_takesBack mo_acanRise mo_afirstHas mo_asecondHas mo_alay mo_ashows mo_aimages mo_aisMade mo_imageAt mo_goesBack mo_s0 mo_s1 mo_s2 mo_s3 mo_s4 mo_s5 mo_s6 mo_s7 ⟨by omega, by omega⟩ ⟨by omega, by omega⟩ ⟨by omega, by omega⟩ ⟨by omega, by omega⟩ ⟨by omega, by omega⟩ ⟨by omega, by omega⟩ ⟨by omega, by omega⟩ ⟨by omega, by omega⟩ ⟨by omega, by omega⟩ ⟨by omega, by omega⟩ ⟨by omega, by omega⟩ ⟨by omega, by omega⟩ ⟨by omega, by omega⟩ ⟨by omega, by omega⟩ ⟨by omega, by omega⟩ ⟨by omega, by omega⟩ ⟨by omega, by omega⟩ ⟨by omega, by omega⟩ ⟨by omega, by omega⟩) (ci := 7) (q0 := 0) rfl rfl gX9_strand_X9_isStrand rfl ⟨rfl, rfl, Nat.le_of_ble_eq_true rfl, Nat.le_of_ble_eq_true rfl⟩ (by decide +kernel) rfl rfl ⟨by decide, by decide, by decide⟩ ⟨rfl, rfl, Nat.le_of_ble_eq_true rfl, Nat.le_of_ble_eq_true rfl, Nat.le_of_ble_eq_true rfl⟩ dX9_strand_2 (fun r2 u1 H locs hw hP hD hS => ?_)
  have hP : va_P D vwCl ([(mo_acane, hcI k 4 mo_rcane), (mo, .inr (7, [.int mo_thrown, .ref mo_ascalar, .ref mo_acane, .ref mo_ais, .ref mo_astrandOf, .ref mo_aweight, .ref mo_aheight, .ref mo_achairOf, .ref mo_anoteMinute, .ref mo_anoteWho, .ref mo_anoteIs, .ref mo_atoldCane, .ref mo_anewScalar, .ref mo_anewCane, .ref mo_anewHeight, .ref mo_anewStrand, .ref mo_anewChair, .ref mo_anewWeight, .int mo_taped, .int mo_p, .int mo_fault, .int mo_slot, .int mo_rules, .int mo_entries, .int mo_deep, .int mo_counted, .int mo_opened, .int mo_words, .ref mo_atape, .ref mo_asort, .ref mo_anumber, .ref mo_aclauses, .ref mo_asumAt, .ref mo_atestAt, .ref mo_aendAt, .ref mo_aopen, .ref mo_aasked, .ref mo_astack, .ref mo_amust, .ref mo_apast, .ref mo_apastOf, .int mo_pastMany, .int mo_pastAt, .int mo_takesBack, .ref mo_acanRise, .ref mo_afirstHas, .ref mo_asecondHas, .ref mo_alay, .ref mo_ashows, .ref mo_aimages, .ref mo_aisMade, .int mo_imageAt, .int mo_goesBack])), (mo_ascalar, hcI k 8 (sc8 mo_s0 mo_s1 mo_s2 mo_s3 mo_s4 mo_s5 mo_s6 mo_s7))]) H := hP
  have hD : va_D A ([(mo_acane, hcI k 4 mo_rcane), (mo, .inr (7, [.int mo_thrown, .ref mo_ascalar, .ref mo_acane, .ref mo_ais, .ref mo_astrandOf, .ref mo_aweight, .ref mo_aheight, .ref mo_achairOf, .ref mo_anoteMinute, .ref mo_anoteWho, .ref mo_anoteIs, .ref mo_atoldCane, .ref mo_anewScalar, .ref mo_anewCane, .ref mo_anewHeight, .ref mo_anewStrand, .ref mo_anewChair, .ref mo_anewWeight, .int mo_taped, .int mo_p, .int mo_fault, .int mo_slot, .int mo_rules, .int mo_entries, .int mo_deep, .int mo_counted, .int mo_opened, .int mo_words, .ref mo_atape, .ref mo_asort, .ref mo_anumber, .ref mo_aclauses, .ref mo_asumAt, .ref mo_atestAt, .ref mo_aendAt, .ref mo_aopen, .ref mo_aasked, .ref mo_astack, .ref mo_amust, .ref mo_apast, .ref mo_apastOf, .int mo_pastMany, .int mo_pastAt, .int mo_takesBack, .ref mo_acanRise, .ref mo_afirstHas, .ref mo_asecondHas, .ref mo_alay, .ref mo_ashows, .ref mo_aimages, .ref mo_aisMade, .int mo_imageAt, .int mo_goesBack])), (mo_ascalar, hcI k 8 (sc8 mo_s0 mo_s1 mo_s2 mo_s3 mo_s4 mo_s5 mo_s6 mo_s7))]) := hD
  obtain ⟨br2, rel3⟩ := hw
  have br2 : iv (0) (1) r2 := br2
  have br2_l := br2.1
  have br2_u := br2.2
  refine lv_if_eq (tgt := 17) hx hb dX9_strand_5 (by decide) (fun c4 => ?_) (fun c4 => ?_)
  · have fc4 := cx_eq_t (a := r2.toInt) (b := 0) rfl (by decide) c4
    refine lv_iconst (v := (-1)) hx hb dX9_strand_17 (by decide) ?_
    exact hc_end hx hb hr hlocks () trivial (hP.sub [1, 0, 2] rfl) (hD.sub [1, 0, 2] (by decide) rfl) hS dX9_strand_18
  · have fc4 := cx_eq_f (a := r2.toInt) (b := 0) rfl (by decide) c4
    refine lv_aload_n hx hb dX9_strand_8 rfl (lv_at hl 0 rfl) ?_
    refine va_get (D := D) (ci := 7) (v := .ref mo_acane) (C := RX9) (T := TX9) (N := 53) hx hb hts in9 hown hG.1 hP 1 rfl rfl 2 (by decide) (hts (.fieldLink RX9 13 "ChairCaneModel" "cane" "[I") (by decide +kernel)) (fun _ h9 => h9) rfl dX9_strand_9 ?_
    refine lv_iload_n hx hb dX9_strand_12 rfl (lv_at hl 1 rfl) ?_
    refine va_iald hx hb hG.1 hP 0 0 rfl rfl (vp_in_iff.mpr ⟨by omega, by omega⟩) dX9_strand_13 ?_
    refine lv_topi (fun z5 ez5 => ?_)
    refine lv_goto (tgt := 18) hx hb dX9_strand_14 (by decide) ?_
    exact hc_end hx hb hr hlocks () trivial (hP.sub [1, 0, 2] rfl) (hD.sub [1, 0, 2] (by decide) rfl) hS dX9_strand_18
set_option maxHeartbeats 4000000 in
set_option maxRecDepth 100000 in
theorem i_X9_sitterOf (l : Launch) (D : va_G) (k : Nat → ClassId) (sz : Nat) (x1 : Int32) (mo : Nat) (mo_thrown : Int32) (mo_ascalar : Nat) (mo_acane : Nat) (mo_ais : Nat) (mo_astrandOf : Nat) (mo_aweight : Nat) (mo_aheight : Nat) (mo_achairOf : Nat) (mo_anoteMinute : Nat) (mo_anoteWho : Nat) (mo_anoteIs : Nat) (mo_atoldCane : Nat) (mo_anewScalar : Nat) (mo_anewCane : Nat) (mo_anewHeight : Nat) (mo_anewStrand : Nat) (mo_anewChair : Nat) (mo_anewWeight : Nat) (mo_taped : Int32) (mo_p : Int32) (mo_fault : Int32) (mo_slot : Int32) (mo_rules : Int32) (mo_entries : Int32) (mo_deep : Int32) (mo_counted : Int32) (mo_opened : Int32) (mo_words : Int32) (mo_atape : Nat) (mo_asort : Nat) (mo_anumber : Nat) (mo_aclauses : Nat) (mo_asumAt : Nat) (mo_atestAt : Nat) (mo_aendAt : Nat) (mo_aopen : Nat) (mo_aasked : Nat) (mo_astack : Nat) (mo_amust : Nat) (mo_apast : Nat) (mo_apastOf : Nat) (mo_pastMany : Int32) (mo_pastAt : Int32) (mo_takesBack : Int32) (mo_acanRise : Nat) (mo_afirstHas : Nat) (mo_asecondHas : Nat) (mo_alay : Nat) (mo_ashows : Nat) (mo_aimages : Nat) (mo_aisMade : Nat) (mo_imageAt : Int32) (mo_goesBack : Int32) (mo_rchairOf : Nat → Int32) (mo_s0 : Int32) (mo_s1 : Int32) (mo_s2 : Int32) (mo_s3 : Int32) (mo_s4 : Int32) (mo_s5 : Int32) (mo_s6 : Int32) (mo_s7 : Int32) (h_mo_taped : iv (0) (400) mo_taped) (h_mo_p : iv (0) (402) mo_p) (h_mo_fault : iv (0) (4000) mo_fault) (h_mo_slot : iv (0) (5) mo_slot) (h_mo_rules : iv (0) (6) mo_rules) (h_mo_entries : iv (0) (300) mo_entries) (h_mo_counted : iv (0) (70) mo_counted) (h_mo_opened : iv (0) (402) mo_opened) (h_mo_words : iv (11) (11) mo_words) (h_mo_pastMany : iv (0) (20) mo_pastMany) (h_mo_pastAt : iv (0) (260) mo_pastAt) (h_mo_takesBack : iv (0) (1) mo_takesBack) (h_mo_imageAt : iv (0) (2000) mo_imageAt) (h_mo_goesBack : iv (0) (1) mo_goesBack) (h_mo_rchairOf : rowIn (0) (7) mo_rchairOf) (h_mo_s1 : iv (0) (4) mo_s1) (h_mo_s2 : iv (0) (8) mo_s2) (h_mo_s3 : iv (0) (8) mo_s3) (h_mo_s5 : iv (0) (10) mo_s5) (h_mo_s7 : iv (-1) (5) mo_s7) : CtI l yX9_sitterOf wsX9_sitterOf (rmK 1 0 0) [.ref mo, .int x1] D k sz ([(mo, .inr (7, [.int mo_thrown, .ref mo_ascalar, .ref mo_acane, .ref mo_ais, .ref mo_astrandOf, .ref mo_aweight, .ref mo_aheight, .ref mo_achairOf, .ref mo_anoteMinute, .ref mo_anoteWho, .ref mo_anoteIs, .ref mo_atoldCane, .ref mo_anewScalar, .ref mo_anewCane, .ref mo_anewHeight, .ref mo_anewStrand, .ref mo_anewChair, .ref mo_anewWeight, .int mo_taped, .int mo_p, .int mo_fault, .int mo_slot, .int mo_rules, .int mo_entries, .int mo_deep, .int mo_counted, .int mo_opened, .int mo_words, .ref mo_atape, .ref mo_asort, .ref mo_anumber, .ref mo_aclauses, .ref mo_asumAt, .ref mo_atestAt, .ref mo_aendAt, .ref mo_aopen, .ref mo_aasked, .ref mo_astack, .ref mo_amust, .ref mo_apast, .ref mo_apastOf, .int mo_pastMany, .int mo_pastAt, .int mo_takesBack, .ref mo_acanRise, .ref mo_afirstHas, .ref mo_asecondHas, .ref mo_alay, .ref mo_ashows, .ref mo_aimages, .ref mo_aisMade, .int mo_imageAt, .int mo_goesBack])), (mo_achairOf, hcI k 8 mo_rchairOf), (mo_ascalar, hcI k 8 (sc8 mo_s0 mo_s1 mo_s2 mo_s3 mo_s4 mo_s5 mo_s6 mo_s7))]) (fun (r : Int32) (u : Unit) => iv (-1) (7) r ∧ (r.toInt = -1 ∨ (0 ≤ r.toInt ∧ r.toInt < mo_s3.toInt))) (fun u : Unit => [(mo, .inr (7, [.int mo_thrown, .ref mo_ascalar, .ref mo_acane, .ref mo_ais, .ref mo_astrandOf, .ref mo_aweight, .ref mo_aheight, .ref mo_achairOf, .ref mo_anoteMinute, .ref mo_anoteWho, .ref mo_anoteIs, .ref mo_atoldCane, .ref mo_anewScalar, .ref mo_anewCane, .ref mo_anewHeight, .ref mo_anewStrand, .ref mo_anewChair, .ref mo_anewWeight, .int mo_taped, .int mo_p, .int mo_fault, .int mo_slot, .int mo_rules, .int mo_entries, .int mo_deep, .int mo_counted, .int mo_opened, .int mo_words, .ref mo_atape, .ref mo_asort, .ref mo_anumber, .ref mo_aclauses, .ref mo_asumAt, .ref mo_atestAt, .ref mo_aendAt, .ref mo_aopen, .ref mo_aasked, .ref mo_astack, .ref mo_amust, .ref mo_apast, .ref mo_apastOf, .int mo_pastMany, .int mo_pastAt, .int mo_takesBack, .ref mo_acanRise, .ref mo_afirstHas, .ref mo_asecondHas, .ref mo_alay, .ref mo_ashows, .ref mo_aimages, .ref mo_aisMade, .int mo_imageAt, .int mo_goesBack])), (mo_achairOf, hcI k 8 mo_rchairOf), (mo_ascalar, hcI k 8 (sc8 mo_s0 mo_s1 mo_s2 mo_s3 mo_s4 mo_s5 mo_s6 mo_s7))]) 0 0 := by
  have h_mo_taped_l := h_mo_taped.1
  have h_mo_taped_u := h_mo_taped.2
  have h_mo_p_l := h_mo_p.1
  have h_mo_p_u := h_mo_p.2
  have h_mo_fault_l := h_mo_fault.1
  have h_mo_fault_u := h_mo_fault.2
  have h_mo_slot_l := h_mo_slot.1
  have h_mo_slot_u := h_mo_slot.2
  have h_mo_rules_l := h_mo_rules.1
  have h_mo_rules_u := h_mo_rules.2
  have h_mo_entries_l := h_mo_entries.1
  have h_mo_entries_u := h_mo_entries.2
  have h_mo_counted_l := h_mo_counted.1
  have h_mo_counted_u := h_mo_counted.2
  have h_mo_opened_l := h_mo_opened.1
  have h_mo_opened_u := h_mo_opened.2
  have h_mo_words_l := h_mo_words.1
  have h_mo_words_u := h_mo_words.2
  have h_mo_pastMany_l := h_mo_pastMany.1
  have h_mo_pastMany_u := h_mo_pastMany.2
  have h_mo_pastAt_l := h_mo_pastAt.1
  have h_mo_pastAt_u := h_mo_pastAt.2
  have h_mo_takesBack_l := h_mo_takesBack.1
  have h_mo_takesBack_u := h_mo_takesBack.2
  have h_mo_imageAt_l := h_mo_imageAt.1
  have h_mo_imageAt_u := h_mo_imageAt.2
  have h_mo_goesBack_l := h_mo_goesBack.1
  have h_mo_goesBack_u := h_mo_goesBack.2
  have h_mo_s1_l := h_mo_s1.1
  have h_mo_s1_u := h_mo_s1.2
  have h_mo_s2_l := h_mo_s2.1
  have h_mo_s2_u := h_mo_s2.2
  have h_mo_s3_l := h_mo_s3.1
  have h_mo_s3_u := h_mo_s3.2
  have h_mo_s5_l := h_mo_s5.1
  have h_mo_s5_u := h_mo_s5.2
  have h_mo_s7_l := h_mo_s7.1
  have h_mo_s7_u := h_mo_s7.2
  refine CtI.mk (cc := cX9_sitterOf) (maxL := 3) (ret := (some .int)) (by decide) rfl (Nat.le_of_ble_eq_true rfl) ?_
  intro p e s m below meth c A ls E hP hD hS hl
  obtain ⟨hx, hb, hr, hml, hown, hts, hlocks, hin, hG, hA⟩ := E
  have hown : s.vm.findClass RX9 = some m.cls := hown
  have in9 : ∀ w ∈ u_ws RX9 TX9 53, w ∈ wsX9_sitterOf := fun _ h => List.mem_cons_of_mem _ (List.mem_append_right _ h)
  have hl : lv_has ls 3 [(0, .ref mo), (1, .int x1)] := hl
  refine lv_iconst (v := 0) hx hb dX9_sitterOf_0 (by decide) ?_
  refine lv_istore_n (lv' := [(2, .int 0), (0, .ref mo), (1, .int x1)]) hx hb dX9_sitterOf_1 rfl hl (by decide) rfl (fun ls hl => ?_)
  have loop1 : ∀ (fu : Nat) (L2_1 : Int32), iv (0) (8) L2_1 → 9 - L2_1.toInt < (fu : Int) → ∀ (H : Heap) (locs : List Loc) (ls : Array Slot), va_P D vwCl ([(mo, .inr (7, [.int mo_thrown, .ref mo_ascalar, .ref mo_acane, .ref mo_ais, .ref mo_astrandOf, .ref mo_aweight, .ref mo_aheight, .ref mo_achairOf, .ref mo_anoteMinute, .ref mo_anoteWho, .ref mo_anoteIs, .ref mo_atoldCane, .ref mo_anewScalar, .ref mo_anewCane, .ref mo_anewHeight, .ref mo_anewStrand, .ref mo_anewChair, .ref mo_anewWeight, .int mo_taped, .int mo_p, .int mo_fault, .int mo_slot, .int mo_rules, .int mo_entries, .int mo_deep, .int mo_counted, .int mo_opened, .int mo_words, .ref mo_atape, .ref mo_asort, .ref mo_anumber, .ref mo_aclauses, .ref mo_asumAt, .ref mo_atestAt, .ref mo_aendAt, .ref mo_aopen, .ref mo_aasked, .ref mo_astack, .ref mo_amust, .ref mo_apast, .ref mo_apastOf, .int mo_pastMany, .int mo_pastAt, .int mo_takesBack, .ref mo_acanRise, .ref mo_afirstHas, .ref mo_asecondHas, .ref mo_alay, .ref mo_ashows, .ref mo_aimages, .ref mo_aisMade, .int mo_imageAt, .int mo_goesBack])), (mo_achairOf, hcI k 8 mo_rchairOf), (mo_ascalar, hcI k 8 (sc8 mo_s0 mo_s1 mo_s2 mo_s3 mo_s4 mo_s5 mo_s6 mo_s7))]) H → va_D A ([(mo, .inr (7, [.int mo_thrown, .ref mo_ascalar, .ref mo_acane, .ref mo_ais, .ref mo_astrandOf, .ref mo_aweight, .ref mo_aheight, .ref mo_achairOf, .ref mo_anoteMinute, .ref mo_anoteWho, .ref mo_anoteIs, .ref mo_atoldCane, .ref mo_anewScalar, .ref mo_anewCane, .ref mo_anewHeight, .ref mo_anewStrand, .ref mo_anewChair, .ref mo_anewWeight, .int mo_taped, .int mo_p, .int mo_fault, .int mo_slot, .int mo_rules, .int mo_entries, .int mo_deep, .int mo_counted, .int mo_opened, .int mo_words, .ref mo_atape, .ref mo_asort, .ref mo_anumber, .ref mo_aclauses, .ref mo_asumAt, .ref mo_atestAt, .ref mo_aendAt, .ref mo_aopen, .ref mo_aasked, .ref mo_astack, .ref mo_amust, .ref mo_apast, .ref mo_apastOf, .int mo_pastMany, .int mo_pastAt, .int mo_takesBack, .ref mo_acanRise, .ref mo_afirstHas, .ref mo_asecondHas, .ref mo_alay, .ref mo_ashows, .ref mo_aimages, .ref mo_aisMade, .int mo_imageAt, .int mo_goesBack])), (mo_achairOf, hcI k 8 mo_rchairOf), (mo_ascalar, hcI k 8 (sc8 mo_s0 mo_s1 mo_s2 mo_s3 mo_s4 mo_s5 mo_s6 mo_s7))]) → va_S A s.heap H locs → lv_has ls 3 [(2, .int L2_1), (0, .ref mo), (1, .int x1)] → W p l e (rmK 1 0 0) s m (List.toArray [.ref mo, .int x1]) below meth c H locs 0 0 (MQ below (va_Qi (fun (r : Int32) (u : Unit) => iv (-1) (7) r ∧ (r.toInt = -1 ∨ (0 ≤ r.toInt ∧ r.toInt < mo_s3.toInt))) (hcB D (fun u : Unit => [(mo, .inr (7, [.int mo_thrown, .ref mo_ascalar, .ref mo_acane, .ref mo_ais, .ref mo_astrandOf, .ref mo_aweight, .ref mo_aheight, .ref mo_achairOf, .ref mo_anoteMinute, .ref mo_anoteWho, .ref mo_anoteIs, .ref mo_atoldCane, .ref mo_anewScalar, .ref mo_anewCane, .ref mo_anewHeight, .ref mo_anewStrand, .ref mo_anewChair, .ref mo_anewWeight, .int mo_taped, .int mo_p, .int mo_fault, .int mo_slot, .int mo_rules, .int mo_entries, .int mo_deep, .int mo_counted, .int mo_opened, .int mo_words, .ref mo_atape, .ref mo_asort, .ref mo_anumber, .ref mo_aclauses, .ref mo_asumAt, .ref mo_atestAt, .ref mo_aendAt, .ref mo_aopen, .ref mo_aasked, .ref mo_astack, .ref mo_amust, .ref mo_apast, .ref mo_apastOf, .int mo_pastMany, .int mo_pastAt, .int mo_takesBack, .ref mo_acanRise, .ref mo_afirstHas, .ref mo_asecondHas, .ref mo_alay, .ref mo_ashows, .ref mo_aimages, .ref mo_aisMade, .int mo_imageAt, .int mo_goesBack])), (mo_achairOf, hcI k 8 mo_rchairOf), (mo_ascalar, hcI k 8 (sc8 mo_s0 mo_s1 mo_s2 mo_s3 mo_s4 mo_s5 mo_s6 mo_s7))]) A) A) (List.toArray [.ref mo, .int x1]) s 0 0 A) (F0 m 2 ls []) := by
    intro fu
    induction fu with
    | zero =>
      intro L2_1 bL2_1 hm
      have bL2_1_l := bL2_1.1
      have bL2_1_u := bL2_1.2
      exact absurd hm (by omega)
    | succ fu ih1 =>
      intro L2_1 bL2_1 hm H locs ls hP hD hS hl
      have bL2_1_l := bL2_1.1
      have bL2_1_u := bL2_1.2
      refine lv_iload_n hx hb dX9_sitterOf_2 rfl (lv_at hl 0 rfl) ?_
      refine lv_aload_n hx hb dX9_sitterOf_3 rfl (lv_at hl 1 rfl) ?_
      refine va_get (D := D) (ci := 7) (v := .ref mo_ascalar) (C := RX9) (T := TX9) (N := 53) hx hb hts in9 hown hG.1 hP 0 rfl rfl 1 (by decide) (hts (.fieldLink RX9 9 "ChairCaneModel" "scalar" "[I") (by decide +kernel)) (fun _ h9 => h9) rfl dX9_sitterOf_4 ?_
      refine lv_iconst (v := 3) hx hb dX9_sitterOf_7 (by decide) ?_
      refine va_iald hx hb hG.1 hP 2 0 rfl rfl (by unfold vp_in; decide) dX9_sitterOf_8 ?_
      refine hc_is (z := mo_s3) (by rw [show Int32.toNatClampNeg 3 = 3 from by decide]; rfl) ?_
      refine lv_icmp_ge (tgt := 30) hx hb dX9_sitterOf_9 (by decide) (fun c2 => ?_) (fun c2 => ?_)
      · have fc2 := cx_ge_t (a := L2_1.toInt) (b := mo_s3.toInt) rfl rfl c2
        refine lv_iconst (v := (-1)) hx hb dX9_sitterOf_30 (by decide) ?_
        exact hc_end hx hb hr hlocks () ⟨iv_lit (by decide) (by decide), (by have q9 : ((-1) : Int32).toInt = -1 := (by decide); omega)⟩ hP hD hS dX9_sitterOf_31
      · have fc2 := cx_ge_f (a := L2_1.toInt) (b := mo_s3.toInt) rfl rfl c2
        refine lv_aload_n hx hb dX9_sitterOf_12 rfl (lv_at hl 1 rfl) ?_
        refine va_get (D := D) (ci := 7) (v := .ref mo_achairOf) (C := RX9) (T := TX9) (N := 53) hx hb hts in9 hown hG.1 hP 0 rfl rfl 7 (by decide) (hts (.fieldLink RX9 28 "ChairCaneModel" "chairOf" "[I") (by decide +kernel)) (fun _ h9 => h9) rfl dX9_sitterOf_13 ?_
        refine lv_iload_n hx hb dX9_sitterOf_16 rfl (lv_at hl 0 rfl) ?_
        refine va_iald hx hb hG.1 hP 1 0 rfl rfl (vp_in_iff.mpr ⟨by omega, by omega⟩) dX9_sitterOf_17 ?_
        refine lv_topi (fun z3 ez3 => ?_)
        have bz3 : iv (0) (7) z3 := by rw [ez3]; exact h_mo_rchairOf _
        have bz3_l := bz3.1
        have bz3_u := bz3.2
        refine lv_iload_n hx hb dX9_sitterOf_18 rfl (lv_at hl 2 rfl) ?_
        refine lv_icmp_ne (tgt := 24) hx hb dX9_sitterOf_19 (by decide) (fun c4 => ?_) (fun c4 => ?_)
        · have fc4 := cx_ne_t (a := z3.toInt) (b := x1.toInt) rfl rfl c4
          obtain ⟨z5, ez5⟩ : ∃ z : Int32, z = L2_1 + 1 := ⟨_, rfl⟩
          have tz5 : z5.toInt = L2_1.toInt + (1) := ai_add rfl (by decide) ez5 (by omega) (by omega)
          refine lv_iinc (v := z5) (lv' := [(2, .int z5), (0, .ref mo), (1, .int x1)]) hx hb dX9_sitterOf_24 hl (k := 0) rfl (by rw [ez5]; rfl) (by decide) rfl (fun ls hl => ?_)
          refine lv_goto (tgt := 2) hx hb dX9_sitterOf_27 (by decide) ?_
          exact ih1 z5 ⟨by omega, by omega⟩ (by omega) _ _ _ hP hD hS (lv_sub hl [0, 1, 2] rfl)
        · have fc4 := cx_ne_f (a := z3.toInt) (b := x1.toInt) rfl rfl c4
          refine lv_iload_n hx hb dX9_sitterOf_22 rfl (lv_at hl 0 rfl) ?_
          exact hc_end hx hb hr hlocks () ⟨⟨by omega, by omega⟩, (by omega)⟩ hP hD hS dX9_sitterOf_23
  exact loop1 100 0 (iv_lit (by decide) (by decide)) (by have q0 : (0 : Int32).toInt = 0 := (by decide); omega) _ _ _ hP hD hS hl
set_option maxHeartbeats 4000000 in
set_option maxRecDepth 100000 in
theorem i_X9_chair (l : Launch) (D : va_G) (k : Nat → ClassId) (sz : Nat) (x1 : Int32) (x3 : Int32) (mo : Nat) (mo_thrown : Int32) (mo_ascalar : Nat) (mo_acane : Nat) (mo_ais : Nat) (mo_astrandOf : Nat) (mo_aweight : Nat) (mo_aheight : Nat) (mo_achairOf : Nat) (mo_anoteMinute : Nat) (mo_anoteWho : Nat) (mo_anoteIs : Nat) (mo_atoldCane : Nat) (mo_anewScalar : Nat) (mo_anewCane : Nat) (mo_anewHeight : Nat) (mo_anewStrand : Nat) (mo_anewChair : Nat) (mo_anewWeight : Nat) (mo_taped : Int32) (mo_p : Int32) (mo_fault : Int32) (mo_slot : Int32) (mo_rules : Int32) (mo_entries : Int32) (mo_deep : Int32) (mo_counted : Int32) (mo_opened : Int32) (mo_words : Int32) (mo_atape : Nat) (mo_asort : Nat) (mo_anumber : Nat) (mo_aclauses : Nat) (mo_asumAt : Nat) (mo_atestAt : Nat) (mo_aendAt : Nat) (mo_aopen : Nat) (mo_aasked : Nat) (mo_astack : Nat) (mo_amust : Nat) (mo_apast : Nat) (mo_apastOf : Nat) (mo_pastMany : Int32) (mo_pastAt : Int32) (mo_takesBack : Int32) (mo_acanRise : Nat) (mo_afirstHas : Nat) (mo_asecondHas : Nat) (mo_alay : Nat) (mo_ashows : Nat) (mo_aimages : Nat) (mo_aisMade : Nat) (mo_imageAt : Int32) (mo_goesBack : Int32) (mo_rcane : Nat → Int32) (mo_ris : Nat → Int32) (mo_rstrandOf : Nat → Int32) (mo_rweight : Nat → Int32) (mo_rheight : Nat → Int32) (mo_rchairOf : Nat → Int32) (mo_s0 : Int32) (mo_s1 : Int32) (mo_s2 : Int32) (mo_s3 : Int32) (mo_s4 : Int32) (mo_s5 : Int32) (mo_s6 : Int32) (mo_s7 : Int32) (h_mo_taped : iv (0) (400) mo_taped) (h_mo_p : iv (0) (402) mo_p) (h_mo_fault : iv (0) (4000) mo_fault) (h_mo_slot : iv (0) (5) mo_slot) (h_mo_rules : iv (0) (6) mo_rules) (h_mo_entries : iv (0) (300) mo_entries) (h_mo_counted : iv (0) (70) mo_counted) (h_mo_opened : iv (0) (402) mo_opened) (h_mo_words : iv (11) (11) mo_words) (h_mo_pastMany : iv (0) (20) mo_pastMany) (h_mo_pastAt : iv (0) (260) mo_pastAt) (h_mo_takesBack : iv (0) (1) mo_takesBack) (h_mo_imageAt : iv (0) (2000) mo_imageAt) (h_mo_goesBack : iv (0) (1) mo_goesBack) (h_mo_rweight : rowIn (0) (20) mo_rweight) (h_mo_rchairOf : rowIn (0) (7) mo_rchairOf) (h_mo_s1 : iv (0) (4) mo_s1) (h_mo_s2 : iv (0) (8) mo_s2) (h_mo_s3 : iv (0) (8) mo_s3) (h_mo_s5 : iv (0) (10) mo_s5) (h_mo_s7 : iv (-1) (5) mo_s7) (hh_HallOk : HallOk mo_s2 mo_s3 mo_rstrandOf mo_rchairOf mo_rweight) : CtI l yX9_chair wsX9_chair (rmK 5 0 0) [.ref mo, .int x1, .int x3] D k sz ([(mo, .inr (7, [.int mo_thrown, .ref mo_ascalar, .ref mo_acane, .ref mo_ais, .ref mo_astrandOf, .ref mo_aweight, .ref mo_aheight, .ref mo_achairOf, .ref mo_anoteMinute, .ref mo_anoteWho, .ref mo_anoteIs, .ref mo_atoldCane, .ref mo_anewScalar, .ref mo_anewCane, .ref mo_anewHeight, .ref mo_anewStrand, .ref mo_anewChair, .ref mo_anewWeight, .int mo_taped, .int mo_p, .int mo_fault, .int mo_slot, .int mo_rules, .int mo_entries, .int mo_deep, .int mo_counted, .int mo_opened, .int mo_words, .ref mo_atape, .ref mo_asort, .ref mo_anumber, .ref mo_aclauses, .ref mo_asumAt, .ref mo_atestAt, .ref mo_aendAt, .ref mo_aopen, .ref mo_aasked, .ref mo_astack, .ref mo_amust, .ref mo_apast, .ref mo_apastOf, .int mo_pastMany, .int mo_pastAt, .int mo_takesBack, .ref mo_acanRise, .ref mo_afirstHas, .ref mo_asecondHas, .ref mo_alay, .ref mo_ashows, .ref mo_aimages, .ref mo_aisMade, .int mo_imageAt, .int mo_goesBack])), (mo_acane, hcI k 4 mo_rcane), (mo_ais, hcI k 8 mo_ris), (mo_astrandOf, hcI k 8 mo_rstrandOf), (mo_aweight, hcI k 8 mo_rweight), (mo_aheight, hcI k 8 mo_rheight), (mo_achairOf, hcI k 8 mo_rchairOf), (mo_ascalar, hcI k 8 (sc8 mo_s0 mo_s1 mo_s2 mo_s3 mo_s4 mo_s5 mo_s6 mo_s7))]) (fun (r : Int32) (u : Unit) => True) (fun u : Unit => [(mo, .inr (7, [.int mo_thrown, .ref mo_ascalar, .ref mo_acane, .ref mo_ais, .ref mo_astrandOf, .ref mo_aweight, .ref mo_aheight, .ref mo_achairOf, .ref mo_anoteMinute, .ref mo_anoteWho, .ref mo_anoteIs, .ref mo_atoldCane, .ref mo_anewScalar, .ref mo_anewCane, .ref mo_anewHeight, .ref mo_anewStrand, .ref mo_anewChair, .ref mo_anewWeight, .int mo_taped, .int mo_p, .int mo_fault, .int mo_slot, .int mo_rules, .int mo_entries, .int mo_deep, .int mo_counted, .int mo_opened, .int mo_words, .ref mo_atape, .ref mo_asort, .ref mo_anumber, .ref mo_aclauses, .ref mo_asumAt, .ref mo_atestAt, .ref mo_aendAt, .ref mo_aopen, .ref mo_aasked, .ref mo_astack, .ref mo_amust, .ref mo_apast, .ref mo_apastOf, .int mo_pastMany, .int mo_pastAt, .int mo_takesBack, .ref mo_acanRise, .ref mo_afirstHas, .ref mo_asecondHas, .ref mo_alay, .ref mo_ashows, .ref mo_aimages, .ref mo_aisMade, .int mo_imageAt, .int mo_goesBack])), (mo_acane, hcI k 4 mo_rcane), (mo_ais, hcI k 8 mo_ris), (mo_astrandOf, hcI k 8 mo_rstrandOf), (mo_aweight, hcI k 8 mo_rweight), (mo_aheight, hcI k 8 mo_rheight), (mo_achairOf, hcI k 8 mo_rchairOf), (mo_ascalar, hcI k 8 (sc8 mo_s0 mo_s1 mo_s2 mo_s3 mo_s4 mo_s5 mo_s6 mo_s7))]) 0 0 := by
  have h_mo_taped_l := h_mo_taped.1
  have h_mo_taped_u := h_mo_taped.2
  have h_mo_p_l := h_mo_p.1
  have h_mo_p_u := h_mo_p.2
  have h_mo_fault_l := h_mo_fault.1
  have h_mo_fault_u := h_mo_fault.2
  have h_mo_slot_l := h_mo_slot.1
  have h_mo_slot_u := h_mo_slot.2
  have h_mo_rules_l := h_mo_rules.1
  have h_mo_rules_u := h_mo_rules.2
  have h_mo_entries_l := h_mo_entries.1
  have h_mo_entries_u := h_mo_entries.2
  have h_mo_counted_l := h_mo_counted.1
  have h_mo_counted_u := h_mo_counted.2
  have h_mo_opened_l := h_mo_opened.1
  have h_mo_opened_u := h_mo_opened.2
  have h_mo_words_l := h_mo_words.1
  have h_mo_words_u := h_mo_words.2
  have h_mo_pastMany_l := h_mo_pastMany.1
  have h_mo_pastMany_u := h_mo_pastMany.2
  have h_mo_pastAt_l := h_mo_pastAt.1
  have h_mo_pastAt_u := h_mo_pastAt.2
  have h_mo_takesBack_l := h_mo_takesBack.1
  have h_mo_takesBack_u := h_mo_takesBack.2
  have h_mo_imageAt_l := h_mo_imageAt.1
  have h_mo_imageAt_u := h_mo_imageAt.2
  have h_mo_goesBack_l := h_mo_goesBack.1
  have h_mo_goesBack_u := h_mo_goesBack.2
  have h_mo_s1_l := h_mo_s1.1
  have h_mo_s1_u := h_mo_s1.2
  have h_mo_s2_l := h_mo_s2.1
  have h_mo_s2_u := h_mo_s2.2
  have h_mo_s3_l := h_mo_s3.1
  have h_mo_s3_u := h_mo_s3.2
  have h_mo_s5_l := h_mo_s5.1
  have h_mo_s5_u := h_mo_s5.2
  have h_mo_s7_l := h_mo_s7.1
  have h_mo_s7_u := h_mo_s7.2
  refine CtI.mk (cc := cX9_chair) (maxL := 4) (ret := (some .int)) (by decide) rfl (Nat.le_of_ble_eq_true rfl) ?_
  intro p e s m below meth c A ls E hP hD hS hl
  obtain ⟨hx, hb, hr, hml, hown, hts, hlocks, hin, hG, hA⟩ := E
  have hown : s.vm.findClass RX9 = some m.cls := hown
  have in9 : ∀ w ∈ u_ws RX9 TX9 53, w ∈ wsX9_chair := fun _ h => List.mem_cons_of_mem _ (List.mem_append_right _ h)
  have hl : lv_has ls 4 [(0, .ref mo), (1, .int x1), (2, .int x3)] := hl
  refine lv_aload_n hx hb dX9_chair_0 rfl (lv_at hl 0 rfl) ?_
  refine lv_iload_n hx hb dX9_chair_1 rfl (lv_at hl 1 rfl) ?_
  refine hc_Vi (As := [.int x1]) (rest := []) (n := 1) (wr := [(mo_acane, hcI k 4 mo_rcane), (mo_ais, hcI k 8 mo_ris), (mo_astrandOf, hcI k 8 mo_rstrandOf), (mo_aweight, hcI k 8 mo_rweight), (mo_aheight, hcI k 8 mo_rheight), (mo_achairOf, hcI k 8 mo_rchairOf)]) hx hb hml hown hts hG hA hP hD hS hl.1 [0, 7] [1, 2, 3, 4, 5, 6] (i_X9_isChair l D k _ x1 mo mo_thrown mo_ascalar mo_acane mo_ais mo_astrandOf mo_aweight mo_aheight mo_achairOf mo_anoteMinute mo_anoteWho mo_anoteIs mo_atoldCane mo_anewScalar mo_anewCane mo_anewHeight mo_anewStrand mo_anewChair mo_anewWeight mo_taped mo_p mo_fault mo_slot mo_rules mo_entries mo_deep mo_counted mo_opened mo_words mo_atape mo_asort mo_anumber mo_aclauses mo_asumAt mo_atestAt mo_aendAt mo_aopen mo_aasked mo_astack mo_amust mo_apast mo_apastOf mo_pastMany mo_pastAt mo_takesBack mo_acanRise mo_afirstHas mo_asecondHas mo_alay mo_ashows mo_aimages mo_aisMade mo_imageAt mo_goesBack mo_s0 mo_s1 mo_s2 mo_s3 mo_s4 mo_s5 mo_s6 mo_s7 ⟨by omega, by omega⟩ ⟨by omega, by omega⟩ ⟨by omega, by omega⟩ ⟨by omega, by omega⟩ ⟨by omega, by omega⟩ ⟨by omega, by omega⟩ ⟨by omega, by omega⟩ ⟨by omega, by omega⟩ ⟨by omega, by omega⟩ ⟨by omega, by omega⟩ ⟨by omega, by omega⟩ ⟨by omega, by omega⟩ ⟨by omega, by omega⟩ ⟨by omega, by omega⟩ ⟨by omega, by omega⟩ ⟨by omega, by omega⟩ ⟨by omega, by omega⟩ ⟨by omega, by omega⟩ ⟨by omega, by omega⟩) (ci := 7) (q0 := 0) rfl rfl gX9_chair_X9_isChair rfl ⟨rfl, rfl, Nat.le_of_ble_eq_true rfl, Nat.le_of_ble_eq_true rfl⟩ (by decide +kernel) rfl rfl ⟨by decide, by decide, by decide⟩ ⟨rfl, rfl, Nat.le_of_ble_eq_true rfl, Nat.le_of_ble_eq_true rfl, Nat.le_of_ble_eq_true rfl⟩ dX9_chair_2 (fun r2 u1 H locs hw hP hD hS => ?_)
  have hP : va_P D vwCl ([(mo_acane, hcI k 4 mo_rcane), (mo_ais, hcI k 8 mo_ris), (mo_astrandOf, hcI k 8 mo_rstrandOf), (mo_aweight, hcI k 8 mo_rweight), (mo_aheight, hcI k 8 mo_rheight), (mo_achairOf, hcI k 8 mo_rchairOf), (mo, .inr (7, [.int mo_thrown, .ref mo_ascalar, .ref mo_acane, .ref mo_ais, .ref mo_astrandOf, .ref mo_aweight, .ref mo_aheight, .ref mo_achairOf, .ref mo_anoteMinute, .ref mo_anoteWho, .ref mo_anoteIs, .ref mo_atoldCane, .ref mo_anewScalar, .ref mo_anewCane, .ref mo_anewHeight, .ref mo_anewStrand, .ref mo_anewChair, .ref mo_anewWeight, .int mo_taped, .int mo_p, .int mo_fault, .int mo_slot, .int mo_rules, .int mo_entries, .int mo_deep, .int mo_counted, .int mo_opened, .int mo_words, .ref mo_atape, .ref mo_asort, .ref mo_anumber, .ref mo_aclauses, .ref mo_asumAt, .ref mo_atestAt, .ref mo_aendAt, .ref mo_aopen, .ref mo_aasked, .ref mo_astack, .ref mo_amust, .ref mo_apast, .ref mo_apastOf, .int mo_pastMany, .int mo_pastAt, .int mo_takesBack, .ref mo_acanRise, .ref mo_afirstHas, .ref mo_asecondHas, .ref mo_alay, .ref mo_ashows, .ref mo_aimages, .ref mo_aisMade, .int mo_imageAt, .int mo_goesBack])), (mo_ascalar, hcI k 8 (sc8 mo_s0 mo_s1 mo_s2 mo_s3 mo_s4 mo_s5 mo_s6 mo_s7))]) H := hP
  have hD : va_D A ([(mo_acane, hcI k 4 mo_rcane), (mo_ais, hcI k 8 mo_ris), (mo_astrandOf, hcI k 8 mo_rstrandOf), (mo_aweight, hcI k 8 mo_rweight), (mo_aheight, hcI k 8 mo_rheight), (mo_achairOf, hcI k 8 mo_rchairOf), (mo, .inr (7, [.int mo_thrown, .ref mo_ascalar, .ref mo_acane, .ref mo_ais, .ref mo_astrandOf, .ref mo_aweight, .ref mo_aheight, .ref mo_achairOf, .ref mo_anoteMinute, .ref mo_anoteWho, .ref mo_anoteIs, .ref mo_atoldCane, .ref mo_anewScalar, .ref mo_anewCane, .ref mo_anewHeight, .ref mo_anewStrand, .ref mo_anewChair, .ref mo_anewWeight, .int mo_taped, .int mo_p, .int mo_fault, .int mo_slot, .int mo_rules, .int mo_entries, .int mo_deep, .int mo_counted, .int mo_opened, .int mo_words, .ref mo_atape, .ref mo_asort, .ref mo_anumber, .ref mo_aclauses, .ref mo_asumAt, .ref mo_atestAt, .ref mo_aendAt, .ref mo_aopen, .ref mo_aasked, .ref mo_astack, .ref mo_amust, .ref mo_apast, .ref mo_apastOf, .int mo_pastMany, .int mo_pastAt, .int mo_takesBack, .ref mo_acanRise, .ref mo_afirstHas, .ref mo_asecondHas, .ref mo_alay, .ref mo_ashows, .ref mo_aimages, .ref mo_aisMade, .int mo_imageAt, .int mo_goesBack])), (mo_ascalar, hcI k 8 (sc8 mo_s0 mo_s1 mo_s2 mo_s3 mo_s4 mo_s5 mo_s6 mo_s7))]) := hD
  obtain ⟨br2, rel3⟩ := hw
  have br2 : iv (0) (1) r2 := br2
  have br2_l := br2.1
  have br2_u := br2.2
  refine lv_if_eq (tgt := 20) hx hb dX9_chair_5 (by decide) (fun c4 => ?_) (fun c4 => ?_)
  · have fc4 := cx_eq_t (a := r2.toInt) (b := 0) rfl (by decide) c4
    refine lv_bipush (v := (-2)) hx hb dX9_chair_20 (by decide) ?_
    exact hc_end hx hb hr hlocks () trivial (hP.sub [6, 0, 1, 2, 3, 4, 5, 7] rfl) (hD.sub [6, 0, 1, 2, 3, 4, 5, 7] (by decide) rfl) hS dX9_chair_22
  · have fc4 := cx_eq_f (a := r2.toInt) (b := 0) rfl (by decide) c4
    refine lv_iload_n hx hb dX9_chair_8 rfl (lv_at hl 2 rfl) ?_
    refine lv_i2l hx hb dX9_chair_9 rfl ?_
    refine lv_topl (fun y5 ey5 => ?_)
    have ty5 : y5.toInt = x3.toInt := ai_i2l rfl ey5
    refine lv_lconst (v := 0) hx hb dX9_chair_10 (by decide) ?_
    refine lv_ldc2 (v := 3) hx hb hown (hts (.constantLong RX9 354 (3)) (by decide +kernel)) dX9_chair_11 ?_
    have ql6 : (0 : Int64).toInt = 0 := by decide
    have ql7 : (3 : Int64).toInt = 3 := by decide
    refine hc_Si (As := [.long y5, .long 0, .long 3]) (rest := []) (n := 3) (wr := [(mo_acane, hcI k 4 mo_rcane), (mo_ais, hcI k 8 mo_ris), (mo_astrandOf, hcI k 8 mo_rstrandOf), (mo_aweight, hcI k 8 mo_rweight), (mo_aheight, hcI k 8 mo_rheight), (mo_achairOf, hcI k 8 mo_rchairOf), (mo, .inr (7, [.int mo_thrown, .ref mo_ascalar, .ref mo_acane, .ref mo_ais, .ref mo_astrandOf, .ref mo_aweight, .ref mo_aheight, .ref mo_achairOf, .ref mo_anoteMinute, .ref mo_anoteWho, .ref mo_anoteIs, .ref mo_atoldCane, .ref mo_anewScalar, .ref mo_anewCane, .ref mo_anewHeight, .ref mo_anewStrand, .ref mo_anewChair, .ref mo_anewWeight, .int mo_taped, .int mo_p, .int mo_fault, .int mo_slot, .int mo_rules, .int mo_entries, .int mo_deep, .int mo_counted, .int mo_opened, .int mo_words, .ref mo_atape, .ref mo_asort, .ref mo_anumber, .ref mo_aclauses, .ref mo_asumAt, .ref mo_atestAt, .ref mo_aendAt, .ref mo_aopen, .ref mo_aasked, .ref mo_astack, .ref mo_amust, .ref mo_apast, .ref mo_apastOf, .int mo_pastMany, .int mo_pastAt, .int mo_takesBack, .ref mo_acanRise, .ref mo_afirstHas, .ref mo_asecondHas, .ref mo_alay, .ref mo_ashows, .ref mo_aimages, .ref mo_aisMade, .int mo_imageAt, .int mo_goesBack])), (mo_ascalar, hcI k 8 (sc8 mo_s0 mo_s1 mo_s2 mo_s3 mo_s4 mo_s5 mo_s6 mo_s7))]) hx hb hml hown hts hG hA hP hD hS hl.1 [] [0, 1, 2, 3, 4, 5, 6, 7] (i_X9_in l D k _ y5 0 3 ) gX9_chair_X9_in rfl ⟨rfl, rfl, Nat.le_of_ble_eq_true rfl, Nat.le_of_ble_eq_true rfl⟩ (by decide +kernel) rfl rfl ⟨by decide, by decide, by decide⟩ ⟨rfl, rfl, Nat.le_of_ble_eq_true rfl, Nat.le_of_ble_eq_true rfl, Nat.le_of_ble_eq_true rfl⟩ dX9_chair_14 (fun r9 u8 H locs hw hP hD hS => ?_)
    have hP : va_P D vwCl ([(mo_acane, hcI k 4 mo_rcane), (mo_ais, hcI k 8 mo_ris), (mo_astrandOf, hcI k 8 mo_rstrandOf), (mo_aweight, hcI k 8 mo_rweight), (mo_aheight, hcI k 8 mo_rheight), (mo_achairOf, hcI k 8 mo_rchairOf), (mo, .inr (7, [.int mo_thrown, .ref mo_ascalar, .ref mo_acane, .ref mo_ais, .ref mo_astrandOf, .ref mo_aweight, .ref mo_aheight, .ref mo_achairOf, .ref mo_anoteMinute, .ref mo_anoteWho, .ref mo_anoteIs, .ref mo_atoldCane, .ref mo_anewScalar, .ref mo_anewCane, .ref mo_anewHeight, .ref mo_anewStrand, .ref mo_anewChair, .ref mo_anewWeight, .int mo_taped, .int mo_p, .int mo_fault, .int mo_slot, .int mo_rules, .int mo_entries, .int mo_deep, .int mo_counted, .int mo_opened, .int mo_words, .ref mo_atape, .ref mo_asort, .ref mo_anumber, .ref mo_aclauses, .ref mo_asumAt, .ref mo_atestAt, .ref mo_aendAt, .ref mo_aopen, .ref mo_aasked, .ref mo_astack, .ref mo_amust, .ref mo_apast, .ref mo_apastOf, .int mo_pastMany, .int mo_pastAt, .int mo_takesBack, .ref mo_acanRise, .ref mo_afirstHas, .ref mo_asecondHas, .ref mo_alay, .ref mo_ashows, .ref mo_aimages, .ref mo_aisMade, .int mo_imageAt, .int mo_goesBack])), (mo_ascalar, hcI k 8 (sc8 mo_s0 mo_s1 mo_s2 mo_s3 mo_s4 mo_s5 mo_s6 mo_s7))]) H := hP
    have hD : va_D A ([(mo_acane, hcI k 4 mo_rcane), (mo_ais, hcI k 8 mo_ris), (mo_astrandOf, hcI k 8 mo_rstrandOf), (mo_aweight, hcI k 8 mo_rweight), (mo_aheight, hcI k 8 mo_rheight), (mo_achairOf, hcI k 8 mo_rchairOf), (mo, .inr (7, [.int mo_thrown, .ref mo_ascalar, .ref mo_acane, .ref mo_ais, .ref mo_astrandOf, .ref mo_aweight, .ref mo_aheight, .ref mo_achairOf, .ref mo_anoteMinute, .ref mo_anoteWho, .ref mo_anoteIs, .ref mo_atoldCane, .ref mo_anewScalar, .ref mo_anewCane, .ref mo_anewHeight, .ref mo_anewStrand, .ref mo_anewChair, .ref mo_anewWeight, .int mo_taped, .int mo_p, .int mo_fault, .int mo_slot, .int mo_rules, .int mo_entries, .int mo_deep, .int mo_counted, .int mo_opened, .int mo_words, .ref mo_atape, .ref mo_asort, .ref mo_anumber, .ref mo_aclauses, .ref mo_asumAt, .ref mo_atestAt, .ref mo_aendAt, .ref mo_aopen, .ref mo_aasked, .ref mo_astack, .ref mo_amust, .ref mo_apast, .ref mo_apastOf, .int mo_pastMany, .int mo_pastAt, .int mo_takesBack, .ref mo_acanRise, .ref mo_afirstHas, .ref mo_asecondHas, .ref mo_alay, .ref mo_ashows, .ref mo_aimages, .ref mo_aisMade, .int mo_imageAt, .int mo_goesBack])), (mo_ascalar, hcI k 8 (sc8 mo_s0 mo_s1 mo_s2 mo_s3 mo_s4 mo_s5 mo_s6 mo_s7))]) := hD
    obtain ⟨br9, rel10⟩ := hw
    have br9 : iv (0) (1) r9 := br9
    have br9_l := br9.1
    have br9_u := br9.2
    refine lv_if_ne (tgt := 23) hx hb dX9_chair_17 (by decide) (fun c11 => ?_) (fun c11 => ?_)
    · have fc11 := cx_ne_t (a := r9.toInt) (b := 0) rfl (by decide) c11
      refine lv_aload_n hx hb dX9_chair_23 rfl (lv_at hl 0 rfl) ?_
      refine lv_iload_n hx hb dX9_chair_24 rfl (lv_at hl 1 rfl) ?_
      refine hc_Vi (As := [.int x1]) (rest := []) (n := 1) (wr := [(mo_acane, hcI k 4 mo_rcane), (mo_ais, hcI k 8 mo_ris), (mo_astrandOf, hcI k 8 mo_rstrandOf), (mo_aweight, hcI k 8 mo_rweight), (mo_aheight, hcI k 8 mo_rheight)]) hx hb hml hown hts hG hA hP hD hS hl.1 [6, 5, 7] [0, 1, 2, 3, 4] (i_X9_sitterOf l D k _ x1 mo mo_thrown mo_ascalar mo_acane mo_ais mo_astrandOf mo_aweight mo_aheight mo_achairOf mo_anoteMinute mo_anoteWho mo_anoteIs mo_atoldCane mo_anewScalar mo_anewCane mo_anewHeight mo_anewStrand mo_anewChair mo_anewWeight mo_taped mo_p mo_fault mo_slot mo_rules mo_entries mo_deep mo_counted mo_opened mo_words mo_atape mo_asort mo_anumber mo_aclauses mo_asumAt mo_atestAt mo_aendAt mo_aopen mo_aasked mo_astack mo_amust mo_apast mo_apastOf mo_pastMany mo_pastAt mo_takesBack mo_acanRise mo_afirstHas mo_asecondHas mo_alay mo_ashows mo_aimages mo_aisMade mo_imageAt mo_goesBack mo_rchairOf mo_s0 mo_s1 mo_s2 mo_s3 mo_s4 mo_s5 mo_s6 mo_s7 ⟨by omega, by omega⟩ ⟨by omega, by omega⟩ ⟨by omega, by omega⟩ ⟨by omega, by omega⟩ ⟨by omega, by omega⟩ ⟨by omega, by omega⟩ ⟨by omega, by omega⟩ ⟨by omega, by omega⟩ ⟨by omega, by omega⟩ ⟨by omega, by omega⟩ ⟨by omega, by omega⟩ ⟨by omega, by omega⟩ ⟨by omega, by omega⟩ ⟨by omega, by omega⟩ h_mo_rchairOf ⟨by omega, by omega⟩ ⟨by omega, by omega⟩ ⟨by omega, by omega⟩ ⟨by omega, by omega⟩ ⟨by omega, by omega⟩) (ci := 7) (q0 := 6) rfl rfl gX9_chair_X9_sitterOf rfl ⟨rfl, rfl, Nat.le_of_ble_eq_true rfl, Nat.le_of_ble_eq_true rfl⟩ (by decide +kernel) rfl rfl ⟨by decide, by decide, by decide⟩ ⟨rfl, rfl, Nat.le_of_ble_eq_true rfl, Nat.le_of_ble_eq_true rfl, Nat.le_of_ble_eq_true rfl⟩ dX9_chair_25 (fun r13 u12 H locs hw hP hD hS => ?_)
      have hP : va_P D vwCl ([(mo_acane, hcI k 4 mo_rcane), (mo_ais, hcI k 8 mo_ris), (mo_astrandOf, hcI k 8 mo_rstrandOf), (mo_aweight, hcI k 8 mo_rweight), (mo_aheight, hcI k 8 mo_rheight), (mo, .inr (7, [.int mo_thrown, .ref mo_ascalar, .ref mo_acane, .ref mo_ais, .ref mo_astrandOf, .ref mo_aweight, .ref mo_aheight, .ref mo_achairOf, .ref mo_anoteMinute, .ref mo_anoteWho, .ref mo_anoteIs, .ref mo_atoldCane, .ref mo_anewScalar, .ref mo_anewCane, .ref mo_anewHeight, .ref mo_anewStrand, .ref mo_anewChair, .ref mo_anewWeight, .int mo_taped, .int mo_p, .int mo_fault, .int mo_slot, .int mo_rules, .int mo_entries, .int mo_deep, .int mo_counted, .int mo_opened, .int mo_words, .ref mo_atape, .ref mo_asort, .ref mo_anumber, .ref mo_aclauses, .ref mo_asumAt, .ref mo_atestAt, .ref mo_aendAt, .ref mo_aopen, .ref mo_aasked, .ref mo_astack, .ref mo_amust, .ref mo_apast, .ref mo_apastOf, .int mo_pastMany, .int mo_pastAt, .int mo_takesBack, .ref mo_acanRise, .ref mo_afirstHas, .ref mo_asecondHas, .ref mo_alay, .ref mo_ashows, .ref mo_aimages, .ref mo_aisMade, .int mo_imageAt, .int mo_goesBack])), (mo_achairOf, hcI k 8 mo_rchairOf), (mo_ascalar, hcI k 8 (sc8 mo_s0 mo_s1 mo_s2 mo_s3 mo_s4 mo_s5 mo_s6 mo_s7))]) H := hP
      have hD : va_D A ([(mo_acane, hcI k 4 mo_rcane), (mo_ais, hcI k 8 mo_ris), (mo_astrandOf, hcI k 8 mo_rstrandOf), (mo_aweight, hcI k 8 mo_rweight), (mo_aheight, hcI k 8 mo_rheight), (mo, .inr (7, [.int mo_thrown, .ref mo_ascalar, .ref mo_acane, .ref mo_ais, .ref mo_astrandOf, .ref mo_aweight, .ref mo_aheight, .ref mo_achairOf, .ref mo_anoteMinute, .ref mo_anoteWho, .ref mo_anoteIs, .ref mo_atoldCane, .ref mo_anewScalar, .ref mo_anewCane, .ref mo_anewHeight, .ref mo_anewStrand, .ref mo_anewChair, .ref mo_anewWeight, .int mo_taped, .int mo_p, .int mo_fault, .int mo_slot, .int mo_rules, .int mo_entries, .int mo_deep, .int mo_counted, .int mo_opened, .int mo_words, .ref mo_atape, .ref mo_asort, .ref mo_anumber, .ref mo_aclauses, .ref mo_asumAt, .ref mo_atestAt, .ref mo_aendAt, .ref mo_aopen, .ref mo_aasked, .ref mo_astack, .ref mo_amust, .ref mo_apast, .ref mo_apastOf, .int mo_pastMany, .int mo_pastAt, .int mo_takesBack, .ref mo_acanRise, .ref mo_afirstHas, .ref mo_asecondHas, .ref mo_alay, .ref mo_ashows, .ref mo_aimages, .ref mo_aisMade, .int mo_imageAt, .int mo_goesBack])), (mo_achairOf, hcI k 8 mo_rchairOf), (mo_ascalar, hcI k 8 (sc8 mo_s0 mo_s1 mo_s2 mo_s3 mo_s4 mo_s5 mo_s6 mo_s7))]) := hD
      obtain ⟨br13, rel14⟩ := hw
      have br13 : iv (-1) (7) r13 := br13
      have br13_l := br13.1
      have br13_u := br13.2
      refine lv_istore_n (lv' := [(3, .int r13), (0, .ref mo), (1, .int x1), (2, .int x3)]) hx hb dX9_chair_28 rfl hl (by decide) rfl (fun ls hl => ?_)
      refine lv_iload_n hx hb dX9_chair_29 rfl (lv_at hl 3 rfl) ?_
      rcases (show (x3.toInt = 0) ∨ (x3.toInt = 1) ∨ (x3.toInt = 2) ∨ (x3.toInt < 0 ∨ 2 < x3.toInt) from by omega) with s15 | s15 | s15 | s15
      · refine lv_tableIn (off := 26) (tgt := 56) hx hb dX9_chair_30 (by omega) (by omega) (by rw [s15]; rfl) (by decide) ?_
        refine lv_aload_n hx hb dX9_chair_56 rfl (lv_at hl 1 rfl) ?_
        refine va_get (D := D) (ci := 7) (v := .ref mo_aheight) (C := RX9) (T := TX9) (N := 53) hx hb hts in9 hown hG.1 hP 5 rfl rfl 6 (by decide) (hts (.fieldLink RX9 25 "ChairCaneModel" "height" "[I") (by decide +kernel)) (fun _ h9 => h9) rfl dX9_chair_57 ?_
        refine lv_iload_n hx hb dX9_chair_60 rfl (lv_at hl 2 rfl) ?_
        refine va_iald hx hb hG.1 hP 4 0 rfl rfl (vp_in_iff.mpr ⟨by omega, by omega⟩) dX9_chair_61 ?_
        refine lv_topi (fun z16 ez16 => ?_)
        exact hc_end hx hb hr hlocks () trivial (hP.sub [5, 0, 1, 2, 3, 4, 6, 7] rfl) (hD.sub [5, 0, 1, 2, 3, 4, 6, 7] (by decide) rfl) hS dX9_chair_62
      · refine lv_tableIn (off := 33) (tgt := 63) hx hb dX9_chair_30 (by omega) (by omega) (by rw [s15]; rfl) (by decide) ?_
        refine lv_aload_n hx hb dX9_chair_63 rfl (lv_at hl 1 rfl) ?_
        refine va_get (D := D) (ci := 7) (v := .ref mo_astrandOf) (C := RX9) (T := TX9) (N := 53) hx hb hts in9 hown hG.1 hP 5 rfl rfl 4 (by decide) (hts (.fieldLink RX9 19 "ChairCaneModel" "strandOf" "[I") (by decide +kernel)) (fun _ h9 => h9) rfl dX9_chair_64 ?_
        refine lv_iload_n hx hb dX9_chair_67 rfl (lv_at hl 2 rfl) ?_
        refine va_iald hx hb hG.1 hP 2 0 rfl rfl (vp_in_iff.mpr ⟨by omega, by omega⟩) dX9_chair_68 ?_
        refine lv_topi (fun z17 ez17 => ?_)
        exact hc_end hx hb hr hlocks () trivial (hP.sub [5, 0, 1, 2, 3, 4, 6, 7] rfl) (hD.sub [5, 0, 1, 2, 3, 4, 6, 7] (by decide) rfl) hS dX9_chair_69
      · refine lv_tableIn (off := 40) (tgt := 70) hx hb dX9_chair_30 (by omega) (by omega) (by rw [s15]; rfl) (by decide) ?_
        refine lv_iload_n hx hb dX9_chair_70 rfl (lv_at hl 0 rfl) ?_
        exact hc_end hx hb hr hlocks () trivial (hP.sub [5, 0, 1, 2, 3, 4, 6, 7] rfl) (hD.sub [5, 0, 1, 2, 3, 4, 6, 7] (by decide) rfl) hS dX9_chair_71
      · refine lv_tableOut (tgt := 72) hx hb dX9_chair_30 (by omega) (by decide) ?_
        refine lv_iload_n hx hb dX9_chair_72 rfl (lv_at hl 0 rfl) ?_
        refine lv_iconst (v := (-1)) hx hb dX9_chair_73 (by decide) ?_
        refine lv_icmp_ne (tgt := 81) hx hb dX9_chair_74 (by decide) (fun c18 => ?_) (fun c18 => ?_)
        · have fc18 := cx_ne_t (a := r13.toInt) (b := (-1)) rfl (by decide) c18
          refine lv_aload_n hx hb dX9_chair_81 rfl (lv_at hl 1 rfl) ?_
          refine lv_iload_n hx hb dX9_chair_82 rfl (lv_at hl 0 rfl) ?_
          refine hc_Vi (As := [.int r13]) (rest := []) (n := 1) (wr := [(mo_aheight, hcI k 8 mo_rheight)]) hx hb hml hown hts hG hA hP hD hS hl.1 [5, 0, 1, 2, 3, 6, 7] [4] (i_X9_givesNow l D k _ r13 mo mo_thrown mo_ascalar mo_acane mo_ais mo_astrandOf mo_aweight mo_aheight mo_achairOf mo_anoteMinute mo_anoteWho mo_anoteIs mo_atoldCane mo_anewScalar mo_anewCane mo_anewHeight mo_anewStrand mo_anewChair mo_anewWeight mo_taped mo_p mo_fault mo_slot mo_rules mo_entries mo_deep mo_counted mo_opened mo_words mo_atape mo_asort mo_anumber mo_aclauses mo_asumAt mo_atestAt mo_aendAt mo_aopen mo_aasked mo_astack mo_amust mo_apast mo_apastOf mo_pastMany mo_pastAt mo_takesBack mo_acanRise mo_afirstHas mo_asecondHas mo_alay mo_ashows mo_aimages mo_aisMade mo_imageAt mo_goesBack mo_rcane mo_ris mo_rstrandOf mo_rweight mo_rchairOf mo_s0 mo_s1 mo_s2 mo_s3 mo_s4 mo_s5 mo_s6 mo_s7 ⟨by omega, by omega⟩ ⟨by omega, by omega⟩ ⟨by omega, by omega⟩ ⟨by omega, by omega⟩ ⟨by omega, by omega⟩ ⟨by omega, by omega⟩ ⟨by omega, by omega⟩ ⟨by omega, by omega⟩ ⟨by omega, by omega⟩ ⟨by omega, by omega⟩ ⟨by omega, by omega⟩ ⟨by omega, by omega⟩ ⟨by omega, by omega⟩ ⟨by omega, by omega⟩ ⟨by omega, by omega⟩ h_mo_rweight h_mo_rchairOf ⟨by omega, by omega⟩ ⟨by omega, by omega⟩ ⟨by omega, by omega⟩ ⟨by omega, by omega⟩ ⟨by omega, by omega⟩ (by omega) hh_HallOk) (ci := 7) (q0 := 5) rfl rfl gX9_chair_X9_givesNow rfl ⟨rfl, rfl, Nat.le_of_ble_eq_true rfl, Nat.le_of_ble_eq_true rfl⟩ (by decide +kernel) rfl rfl ⟨by decide, by decide, by decide⟩ ⟨rfl, rfl, Nat.le_of_ble_eq_true rfl, Nat.le_of_ble_eq_true rfl, Nat.le_of_ble_eq_true rfl⟩ dX9_chair_83 (fun r20 u19 H locs hw hP hD hS => ?_)
          have hP : va_P D vwCl ([(mo_aheight, hcI k 8 mo_rheight), (mo, .inr (7, [.int mo_thrown, .ref mo_ascalar, .ref mo_acane, .ref mo_ais, .ref mo_astrandOf, .ref mo_aweight, .ref mo_aheight, .ref mo_achairOf, .ref mo_anoteMinute, .ref mo_anoteWho, .ref mo_anoteIs, .ref mo_atoldCane, .ref mo_anewScalar, .ref mo_anewCane, .ref mo_anewHeight, .ref mo_anewStrand, .ref mo_anewChair, .ref mo_anewWeight, .int mo_taped, .int mo_p, .int mo_fault, .int mo_slot, .int mo_rules, .int mo_entries, .int mo_deep, .int mo_counted, .int mo_opened, .int mo_words, .ref mo_atape, .ref mo_asort, .ref mo_anumber, .ref mo_aclauses, .ref mo_asumAt, .ref mo_atestAt, .ref mo_aendAt, .ref mo_aopen, .ref mo_aasked, .ref mo_astack, .ref mo_amust, .ref mo_apast, .ref mo_apastOf, .int mo_pastMany, .int mo_pastAt, .int mo_takesBack, .ref mo_acanRise, .ref mo_afirstHas, .ref mo_asecondHas, .ref mo_alay, .ref mo_ashows, .ref mo_aimages, .ref mo_aisMade, .int mo_imageAt, .int mo_goesBack])), (mo_acane, hcI k 4 mo_rcane), (mo_ais, hcI k 8 mo_ris), (mo_astrandOf, hcI k 8 mo_rstrandOf), (mo_aweight, hcI k 8 mo_rweight), (mo_achairOf, hcI k 8 mo_rchairOf), (mo_ascalar, hcI k 8 (sc8 mo_s0 mo_s1 mo_s2 mo_s3 mo_s4 mo_s5 mo_s6 mo_s7))]) H := hP
          have hD : va_D A ([(mo_aheight, hcI k 8 mo_rheight), (mo, .inr (7, [.int mo_thrown, .ref mo_ascalar, .ref mo_acane, .ref mo_ais, .ref mo_astrandOf, .ref mo_aweight, .ref mo_aheight, .ref mo_achairOf, .ref mo_anoteMinute, .ref mo_anoteWho, .ref mo_anoteIs, .ref mo_atoldCane, .ref mo_anewScalar, .ref mo_anewCane, .ref mo_anewHeight, .ref mo_anewStrand, .ref mo_anewChair, .ref mo_anewWeight, .int mo_taped, .int mo_p, .int mo_fault, .int mo_slot, .int mo_rules, .int mo_entries, .int mo_deep, .int mo_counted, .int mo_opened, .int mo_words, .ref mo_atape, .ref mo_asort, .ref mo_anumber, .ref mo_aclauses, .ref mo_asumAt, .ref mo_atestAt, .ref mo_aendAt, .ref mo_aopen, .ref mo_aasked, .ref mo_astack, .ref mo_amust, .ref mo_apast, .ref mo_apastOf, .int mo_pastMany, .int mo_pastAt, .int mo_takesBack, .ref mo_acanRise, .ref mo_afirstHas, .ref mo_asecondHas, .ref mo_alay, .ref mo_ashows, .ref mo_aimages, .ref mo_aisMade, .int mo_imageAt, .int mo_goesBack])), (mo_acane, hcI k 4 mo_rcane), (mo_ais, hcI k 8 mo_ris), (mo_astrandOf, hcI k 8 mo_rstrandOf), (mo_aweight, hcI k 8 mo_rweight), (mo_achairOf, hcI k 8 mo_rchairOf), (mo_ascalar, hcI k 8 (sc8 mo_s0 mo_s1 mo_s2 mo_s3 mo_s4 mo_s5 mo_s6 mo_s7))]) := hD
          exact hc_end hx hb hr hlocks () trivial (hP.sub [1, 2, 3, 4, 5, 0, 6, 7] rfl) (hD.sub [1, 2, 3, 4, 5, 0, 6, 7] (by decide) rfl) hS dX9_chair_86
        · have fc18 := cx_ne_f (a := r13.toInt) (b := (-1)) rfl (by decide) c18
          refine lv_iconst (v := 0) hx hb dX9_chair_77 (by decide) ?_
          refine lv_goto (tgt := 86) hx hb dX9_chair_78 (by decide) ?_
          exact hc_end hx hb hr hlocks () trivial (hP.sub [5, 0, 1, 2, 3, 4, 6, 7] rfl) (hD.sub [5, 0, 1, 2, 3, 4, 6, 7] (by decide) rfl) hS dX9_chair_86
    · have fc11 := cx_ne_f (a := r9.toInt) (b := 0) rfl (by decide) c11
      refine lv_bipush (v := (-2)) hx hb dX9_chair_20 (by decide) ?_
      exact hc_end hx hb hr hlocks () trivial (hP.sub [6, 0, 1, 2, 3, 4, 5, 7] rfl) (hD.sub [6, 0, 1, 2, 3, 4, 5, 7] (by decide) rfl) hS dX9_chair_22
set_option maxHeartbeats 4000000 in
set_option maxRecDepth 100000 in
theorem i_X9_sitter (l : Launch) (D : va_G) (k : Nat → ClassId) (sz : Nat) (x1 : Int32) (x3 : Int32) (mo : Nat) (mo_thrown : Int32) (mo_ascalar : Nat) (mo_acane : Nat) (mo_ais : Nat) (mo_astrandOf : Nat) (mo_aweight : Nat) (mo_aheight : Nat) (mo_achairOf : Nat) (mo_anoteMinute : Nat) (mo_anoteWho : Nat) (mo_anoteIs : Nat) (mo_atoldCane : Nat) (mo_anewScalar : Nat) (mo_anewCane : Nat) (mo_anewHeight : Nat) (mo_anewStrand : Nat) (mo_anewChair : Nat) (mo_anewWeight : Nat) (mo_taped : Int32) (mo_p : Int32) (mo_fault : Int32) (mo_slot : Int32) (mo_rules : Int32) (mo_entries : Int32) (mo_deep : Int32) (mo_counted : Int32) (mo_opened : Int32) (mo_words : Int32) (mo_atape : Nat) (mo_asort : Nat) (mo_anumber : Nat) (mo_aclauses : Nat) (mo_asumAt : Nat) (mo_atestAt : Nat) (mo_aendAt : Nat) (mo_aopen : Nat) (mo_aasked : Nat) (mo_astack : Nat) (mo_amust : Nat) (mo_apast : Nat) (mo_apastOf : Nat) (mo_pastMany : Int32) (mo_pastAt : Int32) (mo_takesBack : Int32) (mo_acanRise : Nat) (mo_afirstHas : Nat) (mo_asecondHas : Nat) (mo_alay : Nat) (mo_ashows : Nat) (mo_aimages : Nat) (mo_aisMade : Nat) (mo_imageAt : Int32) (mo_goesBack : Int32) (mo_rcane : Nat → Int32) (mo_ris : Nat → Int32) (mo_rstrandOf : Nat → Int32) (mo_rweight : Nat → Int32) (mo_rheight : Nat → Int32) (mo_rchairOf : Nat → Int32) (mo_s0 : Int32) (mo_s1 : Int32) (mo_s2 : Int32) (mo_s3 : Int32) (mo_s4 : Int32) (mo_s5 : Int32) (mo_s6 : Int32) (mo_s7 : Int32) (h_mo_taped : iv (0) (400) mo_taped) (h_mo_p : iv (0) (402) mo_p) (h_mo_fault : iv (0) (4000) mo_fault) (h_mo_slot : iv (0) (5) mo_slot) (h_mo_rules : iv (0) (6) mo_rules) (h_mo_entries : iv (0) (300) mo_entries) (h_mo_counted : iv (0) (70) mo_counted) (h_mo_opened : iv (0) (402) mo_opened) (h_mo_words : iv (11) (11) mo_words) (h_mo_pastMany : iv (0) (20) mo_pastMany) (h_mo_pastAt : iv (0) (260) mo_pastAt) (h_mo_takesBack : iv (0) (1) mo_takesBack) (h_mo_imageAt : iv (0) (2000) mo_imageAt) (h_mo_goesBack : iv (0) (1) mo_goesBack) (h_mo_rweight : rowIn (0) (20) mo_rweight) (h_mo_rchairOf : rowIn (0) (7) mo_rchairOf) (h_mo_s1 : iv (0) (4) mo_s1) (h_mo_s2 : iv (0) (8) mo_s2) (h_mo_s3 : iv (0) (8) mo_s3) (h_mo_s5 : iv (0) (10) mo_s5) (h_mo_s7 : iv (-1) (5) mo_s7) : CtI l yX9_sitter wsX9_sitter (rmK 3 0 0) [.ref mo, .int x1, .int x3] D k sz ([(mo, .inr (7, [.int mo_thrown, .ref mo_ascalar, .ref mo_acane, .ref mo_ais, .ref mo_astrandOf, .ref mo_aweight, .ref mo_aheight, .ref mo_achairOf, .ref mo_anoteMinute, .ref mo_anoteWho, .ref mo_anoteIs, .ref mo_atoldCane, .ref mo_anewScalar, .ref mo_anewCane, .ref mo_anewHeight, .ref mo_anewStrand, .ref mo_anewChair, .ref mo_anewWeight, .int mo_taped, .int mo_p, .int mo_fault, .int mo_slot, .int mo_rules, .int mo_entries, .int mo_deep, .int mo_counted, .int mo_opened, .int mo_words, .ref mo_atape, .ref mo_asort, .ref mo_anumber, .ref mo_aclauses, .ref mo_asumAt, .ref mo_atestAt, .ref mo_aendAt, .ref mo_aopen, .ref mo_aasked, .ref mo_astack, .ref mo_amust, .ref mo_apast, .ref mo_apastOf, .int mo_pastMany, .int mo_pastAt, .int mo_takesBack, .ref mo_acanRise, .ref mo_afirstHas, .ref mo_asecondHas, .ref mo_alay, .ref mo_ashows, .ref mo_aimages, .ref mo_aisMade, .int mo_imageAt, .int mo_goesBack])), (mo_acane, hcI k 4 mo_rcane), (mo_ais, hcI k 8 mo_ris), (mo_astrandOf, hcI k 8 mo_rstrandOf), (mo_aweight, hcI k 8 mo_rweight), (mo_aheight, hcI k 8 mo_rheight), (mo_achairOf, hcI k 8 mo_rchairOf), (mo_ascalar, hcI k 8 (sc8 mo_s0 mo_s1 mo_s2 mo_s3 mo_s4 mo_s5 mo_s6 mo_s7))]) (fun (r : Int32) (u : Unit) => True) (fun u : Unit => [(mo, .inr (7, [.int mo_thrown, .ref mo_ascalar, .ref mo_acane, .ref mo_ais, .ref mo_astrandOf, .ref mo_aweight, .ref mo_aheight, .ref mo_achairOf, .ref mo_anoteMinute, .ref mo_anoteWho, .ref mo_anoteIs, .ref mo_atoldCane, .ref mo_anewScalar, .ref mo_anewCane, .ref mo_anewHeight, .ref mo_anewStrand, .ref mo_anewChair, .ref mo_anewWeight, .int mo_taped, .int mo_p, .int mo_fault, .int mo_slot, .int mo_rules, .int mo_entries, .int mo_deep, .int mo_counted, .int mo_opened, .int mo_words, .ref mo_atape, .ref mo_asort, .ref mo_anumber, .ref mo_aclauses, .ref mo_asumAt, .ref mo_atestAt, .ref mo_aendAt, .ref mo_aopen, .ref mo_aasked, .ref mo_astack, .ref mo_amust, .ref mo_apast, .ref mo_apastOf, .int mo_pastMany, .int mo_pastAt, .int mo_takesBack, .ref mo_acanRise, .ref mo_afirstHas, .ref mo_asecondHas, .ref mo_alay, .ref mo_ashows, .ref mo_aimages, .ref mo_aisMade, .int mo_imageAt, .int mo_goesBack])), (mo_acane, hcI k 4 mo_rcane), (mo_ais, hcI k 8 mo_ris), (mo_astrandOf, hcI k 8 mo_rstrandOf), (mo_aweight, hcI k 8 mo_rweight), (mo_aheight, hcI k 8 mo_rheight), (mo_achairOf, hcI k 8 mo_rchairOf), (mo_ascalar, hcI k 8 (sc8 mo_s0 mo_s1 mo_s2 mo_s3 mo_s4 mo_s5 mo_s6 mo_s7))]) 0 0 := by
  have h_mo_taped_l := h_mo_taped.1
  have h_mo_taped_u := h_mo_taped.2
  have h_mo_p_l := h_mo_p.1
  have h_mo_p_u := h_mo_p.2
  have h_mo_fault_l := h_mo_fault.1
  have h_mo_fault_u := h_mo_fault.2
  have h_mo_slot_l := h_mo_slot.1
  have h_mo_slot_u := h_mo_slot.2
  have h_mo_rules_l := h_mo_rules.1
  have h_mo_rules_u := h_mo_rules.2
  have h_mo_entries_l := h_mo_entries.1
  have h_mo_entries_u := h_mo_entries.2
  have h_mo_counted_l := h_mo_counted.1
  have h_mo_counted_u := h_mo_counted.2
  have h_mo_opened_l := h_mo_opened.1
  have h_mo_opened_u := h_mo_opened.2
  have h_mo_words_l := h_mo_words.1
  have h_mo_words_u := h_mo_words.2
  have h_mo_pastMany_l := h_mo_pastMany.1
  have h_mo_pastMany_u := h_mo_pastMany.2
  have h_mo_pastAt_l := h_mo_pastAt.1
  have h_mo_pastAt_u := h_mo_pastAt.2
  have h_mo_takesBack_l := h_mo_takesBack.1
  have h_mo_takesBack_u := h_mo_takesBack.2
  have h_mo_imageAt_l := h_mo_imageAt.1
  have h_mo_imageAt_u := h_mo_imageAt.2
  have h_mo_goesBack_l := h_mo_goesBack.1
  have h_mo_goesBack_u := h_mo_goesBack.2
  have h_mo_s1_l := h_mo_s1.1
  have h_mo_s1_u := h_mo_s1.2
  have h_mo_s2_l := h_mo_s2.1
  have h_mo_s2_u := h_mo_s2.2
  have h_mo_s3_l := h_mo_s3.1
  have h_mo_s3_u := h_mo_s3.2
  have h_mo_s5_l := h_mo_s5.1
  have h_mo_s5_u := h_mo_s5.2
  have h_mo_s7_l := h_mo_s7.1
  have h_mo_s7_u := h_mo_s7.2
  refine CtI.mk (cc := cX9_sitter) (maxL := 3) (ret := (some .int)) (by decide) rfl (Nat.le_of_ble_eq_true rfl) ?_
  intro p e s m below meth c A ls E hP hD hS hl
  obtain ⟨hx, hb, hr, hml, hown, hts, hlocks, hin, hG, hA⟩ := E
  have hown : s.vm.findClass RX9 = some m.cls := hown
  have in9 : ∀ w ∈ u_ws RX9 TX9 53, w ∈ wsX9_sitter := fun _ h => List.mem_cons_of_mem _ (List.mem_append_right _ h)
  have hl : lv_has ls 3 [(0, .ref mo), (1, .int x1), (2, .int x3)] := hl
  refine lv_aload_n hx hb dX9_sitter_0 rfl (lv_at hl 0 rfl) ?_
  refine lv_iload_n hx hb dX9_sitter_1 rfl (lv_at hl 1 rfl) ?_
  refine hc_Vi (As := [.int x1]) (rest := []) (n := 1) (wr := [(mo_acane, hcI k 4 mo_rcane), (mo_ais, hcI k 8 mo_ris), (mo_astrandOf, hcI k 8 mo_rstrandOf), (mo_aweight, hcI k 8 mo_rweight), (mo_aheight, hcI k 8 mo_rheight), (mo_achairOf, hcI k 8 mo_rchairOf)]) hx hb hml hown hts hG hA hP hD hS hl.1 [0, 7] [1, 2, 3, 4, 5, 6] (i_X9_isSitter l D k _ x1 mo mo_thrown mo_ascalar mo_acane mo_ais mo_astrandOf mo_aweight mo_aheight mo_achairOf mo_anoteMinute mo_anoteWho mo_anoteIs mo_atoldCane mo_anewScalar mo_anewCane mo_anewHeight mo_anewStrand mo_anewChair mo_anewWeight mo_taped mo_p mo_fault mo_slot mo_rules mo_entries mo_deep mo_counted mo_opened mo_words mo_atape mo_asort mo_anumber mo_aclauses mo_asumAt mo_atestAt mo_aendAt mo_aopen mo_aasked mo_astack mo_amust mo_apast mo_apastOf mo_pastMany mo_pastAt mo_takesBack mo_acanRise mo_afirstHas mo_asecondHas mo_alay mo_ashows mo_aimages mo_aisMade mo_imageAt mo_goesBack mo_s0 mo_s1 mo_s2 mo_s3 mo_s4 mo_s5 mo_s6 mo_s7 ⟨by omega, by omega⟩ ⟨by omega, by omega⟩ ⟨by omega, by omega⟩ ⟨by omega, by omega⟩ ⟨by omega, by omega⟩ ⟨by omega, by omega⟩ ⟨by omega, by omega⟩ ⟨by omega, by omega⟩ ⟨by omega, by omega⟩ ⟨by omega, by omega⟩ ⟨by omega, by omega⟩ ⟨by omega, by omega⟩ ⟨by omega, by omega⟩ ⟨by omega, by omega⟩ ⟨by omega, by omega⟩ ⟨by omega, by omega⟩ ⟨by omega, by omega⟩ ⟨by omega, by omega⟩ ⟨by omega, by omega⟩) (ci := 7) (q0 := 0) rfl rfl gX9_sitter_X9_isSitter rfl ⟨rfl, rfl, Nat.le_of_ble_eq_true rfl, Nat.le_of_ble_eq_true rfl⟩ (by decide +kernel) rfl rfl ⟨by decide, by decide, by decide⟩ ⟨rfl, rfl, Nat.le_of_ble_eq_true rfl, Nat.le_of_ble_eq_true rfl, Nat.le_of_ble_eq_true rfl⟩ dX9_sitter_2 (fun r2 u1 H locs hw hP hD hS => ?_)
  have hP : va_P D vwCl ([(mo_acane, hcI k 4 mo_rcane), (mo_ais, hcI k 8 mo_ris), (mo_astrandOf, hcI k 8 mo_rstrandOf), (mo_aweight, hcI k 8 mo_rweight), (mo_aheight, hcI k 8 mo_rheight), (mo_achairOf, hcI k 8 mo_rchairOf), (mo, .inr (7, [.int mo_thrown, .ref mo_ascalar, .ref mo_acane, .ref mo_ais, .ref mo_astrandOf, .ref mo_aweight, .ref mo_aheight, .ref mo_achairOf, .ref mo_anoteMinute, .ref mo_anoteWho, .ref mo_anoteIs, .ref mo_atoldCane, .ref mo_anewScalar, .ref mo_anewCane, .ref mo_anewHeight, .ref mo_anewStrand, .ref mo_anewChair, .ref mo_anewWeight, .int mo_taped, .int mo_p, .int mo_fault, .int mo_slot, .int mo_rules, .int mo_entries, .int mo_deep, .int mo_counted, .int mo_opened, .int mo_words, .ref mo_atape, .ref mo_asort, .ref mo_anumber, .ref mo_aclauses, .ref mo_asumAt, .ref mo_atestAt, .ref mo_aendAt, .ref mo_aopen, .ref mo_aasked, .ref mo_astack, .ref mo_amust, .ref mo_apast, .ref mo_apastOf, .int mo_pastMany, .int mo_pastAt, .int mo_takesBack, .ref mo_acanRise, .ref mo_afirstHas, .ref mo_asecondHas, .ref mo_alay, .ref mo_ashows, .ref mo_aimages, .ref mo_aisMade, .int mo_imageAt, .int mo_goesBack])), (mo_ascalar, hcI k 8 (sc8 mo_s0 mo_s1 mo_s2 mo_s3 mo_s4 mo_s5 mo_s6 mo_s7))]) H := hP
  have hD : va_D A ([(mo_acane, hcI k 4 mo_rcane), (mo_ais, hcI k 8 mo_ris), (mo_astrandOf, hcI k 8 mo_rstrandOf), (mo_aweight, hcI k 8 mo_rweight), (mo_aheight, hcI k 8 mo_rheight), (mo_achairOf, hcI k 8 mo_rchairOf), (mo, .inr (7, [.int mo_thrown, .ref mo_ascalar, .ref mo_acane, .ref mo_ais, .ref mo_astrandOf, .ref mo_aweight, .ref mo_aheight, .ref mo_achairOf, .ref mo_anoteMinute, .ref mo_anoteWho, .ref mo_anoteIs, .ref mo_atoldCane, .ref mo_anewScalar, .ref mo_anewCane, .ref mo_anewHeight, .ref mo_anewStrand, .ref mo_anewChair, .ref mo_anewWeight, .int mo_taped, .int mo_p, .int mo_fault, .int mo_slot, .int mo_rules, .int mo_entries, .int mo_deep, .int mo_counted, .int mo_opened, .int mo_words, .ref mo_atape, .ref mo_asort, .ref mo_anumber, .ref mo_aclauses, .ref mo_asumAt, .ref mo_atestAt, .ref mo_aendAt, .ref mo_aopen, .ref mo_aasked, .ref mo_astack, .ref mo_amust, .ref mo_apast, .ref mo_apastOf, .int mo_pastMany, .int mo_pastAt, .int mo_takesBack, .ref mo_acanRise, .ref mo_afirstHas, .ref mo_asecondHas, .ref mo_alay, .ref mo_ashows, .ref mo_aimages, .ref mo_aisMade, .int mo_imageAt, .int mo_goesBack])), (mo_ascalar, hcI k 8 (sc8 mo_s0 mo_s1 mo_s2 mo_s3 mo_s4 mo_s5 mo_s6 mo_s7))]) := hD
  obtain ⟨br2, rel3⟩ := hw
  have br2 : iv (0) (1) r2 := br2
  have br2_l := br2.1
  have br2_u := br2.2
  refine lv_if_eq (tgt := 20) hx hb dX9_sitter_5 (by decide) (fun c4 => ?_) (fun c4 => ?_)
  · have fc4 := cx_eq_t (a := r2.toInt) (b := 0) rfl (by decide) c4
    refine lv_iconst (v := (-1)) hx hb dX9_sitter_20 (by decide) ?_
    exact hc_end hx hb hr hlocks () trivial (hP.sub [6, 0, 1, 2, 3, 4, 5, 7] rfl) (hD.sub [6, 0, 1, 2, 3, 4, 5, 7] (by decide) rfl) hS dX9_sitter_21
  · have fc4 := cx_eq_f (a := r2.toInt) (b := 0) rfl (by decide) c4
    refine lv_iload_n hx hb dX9_sitter_8 rfl (lv_at hl 2 rfl) ?_
    refine lv_i2l hx hb dX9_sitter_9 rfl ?_
    refine lv_topl (fun y5 ey5 => ?_)
    have ty5 : y5.toInt = x3.toInt := ai_i2l rfl ey5
    refine lv_lconst (v := 0) hx hb dX9_sitter_10 (by decide) ?_
    refine lv_ldc2 (v := 2) hx hb hown (hts (.constantLong RX9 365 (2)) (by decide +kernel)) dX9_sitter_11 ?_
    have ql6 : (0 : Int64).toInt = 0 := by decide
    have ql7 : (2 : Int64).toInt = 2 := by decide
    refine hc_Si (As := [.long y5, .long 0, .long 2]) (rest := []) (n := 3) (wr := [(mo_acane, hcI k 4 mo_rcane), (mo_ais, hcI k 8 mo_ris), (mo_astrandOf, hcI k 8 mo_rstrandOf), (mo_aweight, hcI k 8 mo_rweight), (mo_aheight, hcI k 8 mo_rheight), (mo_achairOf, hcI k 8 mo_rchairOf), (mo, .inr (7, [.int mo_thrown, .ref mo_ascalar, .ref mo_acane, .ref mo_ais, .ref mo_astrandOf, .ref mo_aweight, .ref mo_aheight, .ref mo_achairOf, .ref mo_anoteMinute, .ref mo_anoteWho, .ref mo_anoteIs, .ref mo_atoldCane, .ref mo_anewScalar, .ref mo_anewCane, .ref mo_anewHeight, .ref mo_anewStrand, .ref mo_anewChair, .ref mo_anewWeight, .int mo_taped, .int mo_p, .int mo_fault, .int mo_slot, .int mo_rules, .int mo_entries, .int mo_deep, .int mo_counted, .int mo_opened, .int mo_words, .ref mo_atape, .ref mo_asort, .ref mo_anumber, .ref mo_aclauses, .ref mo_asumAt, .ref mo_atestAt, .ref mo_aendAt, .ref mo_aopen, .ref mo_aasked, .ref mo_astack, .ref mo_amust, .ref mo_apast, .ref mo_apastOf, .int mo_pastMany, .int mo_pastAt, .int mo_takesBack, .ref mo_acanRise, .ref mo_afirstHas, .ref mo_asecondHas, .ref mo_alay, .ref mo_ashows, .ref mo_aimages, .ref mo_aisMade, .int mo_imageAt, .int mo_goesBack])), (mo_ascalar, hcI k 8 (sc8 mo_s0 mo_s1 mo_s2 mo_s3 mo_s4 mo_s5 mo_s6 mo_s7))]) hx hb hml hown hts hG hA hP hD hS hl.1 [] [0, 1, 2, 3, 4, 5, 6, 7] (i_X9_in l D k _ y5 0 2 ) gX9_sitter_X9_in rfl ⟨rfl, rfl, Nat.le_of_ble_eq_true rfl, Nat.le_of_ble_eq_true rfl⟩ (by decide +kernel) rfl rfl ⟨by decide, by decide, by decide⟩ ⟨rfl, rfl, Nat.le_of_ble_eq_true rfl, Nat.le_of_ble_eq_true rfl, Nat.le_of_ble_eq_true rfl⟩ dX9_sitter_14 (fun r9 u8 H locs hw hP hD hS => ?_)
    have hP : va_P D vwCl ([(mo_acane, hcI k 4 mo_rcane), (mo_ais, hcI k 8 mo_ris), (mo_astrandOf, hcI k 8 mo_rstrandOf), (mo_aweight, hcI k 8 mo_rweight), (mo_aheight, hcI k 8 mo_rheight), (mo_achairOf, hcI k 8 mo_rchairOf), (mo, .inr (7, [.int mo_thrown, .ref mo_ascalar, .ref mo_acane, .ref mo_ais, .ref mo_astrandOf, .ref mo_aweight, .ref mo_aheight, .ref mo_achairOf, .ref mo_anoteMinute, .ref mo_anoteWho, .ref mo_anoteIs, .ref mo_atoldCane, .ref mo_anewScalar, .ref mo_anewCane, .ref mo_anewHeight, .ref mo_anewStrand, .ref mo_anewChair, .ref mo_anewWeight, .int mo_taped, .int mo_p, .int mo_fault, .int mo_slot, .int mo_rules, .int mo_entries, .int mo_deep, .int mo_counted, .int mo_opened, .int mo_words, .ref mo_atape, .ref mo_asort, .ref mo_anumber, .ref mo_aclauses, .ref mo_asumAt, .ref mo_atestAt, .ref mo_aendAt, .ref mo_aopen, .ref mo_aasked, .ref mo_astack, .ref mo_amust, .ref mo_apast, .ref mo_apastOf, .int mo_pastMany, .int mo_pastAt, .int mo_takesBack, .ref mo_acanRise, .ref mo_afirstHas, .ref mo_asecondHas, .ref mo_alay, .ref mo_ashows, .ref mo_aimages, .ref mo_aisMade, .int mo_imageAt, .int mo_goesBack])), (mo_ascalar, hcI k 8 (sc8 mo_s0 mo_s1 mo_s2 mo_s3 mo_s4 mo_s5 mo_s6 mo_s7))]) H := hP
    have hD : va_D A ([(mo_acane, hcI k 4 mo_rcane), (mo_ais, hcI k 8 mo_ris), (mo_astrandOf, hcI k 8 mo_rstrandOf), (mo_aweight, hcI k 8 mo_rweight), (mo_aheight, hcI k 8 mo_rheight), (mo_achairOf, hcI k 8 mo_rchairOf), (mo, .inr (7, [.int mo_thrown, .ref mo_ascalar, .ref mo_acane, .ref mo_ais, .ref mo_astrandOf, .ref mo_aweight, .ref mo_aheight, .ref mo_achairOf, .ref mo_anoteMinute, .ref mo_anoteWho, .ref mo_anoteIs, .ref mo_atoldCane, .ref mo_anewScalar, .ref mo_anewCane, .ref mo_anewHeight, .ref mo_anewStrand, .ref mo_anewChair, .ref mo_anewWeight, .int mo_taped, .int mo_p, .int mo_fault, .int mo_slot, .int mo_rules, .int mo_entries, .int mo_deep, .int mo_counted, .int mo_opened, .int mo_words, .ref mo_atape, .ref mo_asort, .ref mo_anumber, .ref mo_aclauses, .ref mo_asumAt, .ref mo_atestAt, .ref mo_aendAt, .ref mo_aopen, .ref mo_aasked, .ref mo_astack, .ref mo_amust, .ref mo_apast, .ref mo_apastOf, .int mo_pastMany, .int mo_pastAt, .int mo_takesBack, .ref mo_acanRise, .ref mo_afirstHas, .ref mo_asecondHas, .ref mo_alay, .ref mo_ashows, .ref mo_aimages, .ref mo_aisMade, .int mo_imageAt, .int mo_goesBack])), (mo_ascalar, hcI k 8 (sc8 mo_s0 mo_s1 mo_s2 mo_s3 mo_s4 mo_s5 mo_s6 mo_s7))]) := hD
    obtain ⟨br9, rel10⟩ := hw
    have br9 : iv (0) (1) r9 := br9
    have br9_l := br9.1
    have br9_u := br9.2
    refine lv_if_ne (tgt := 22) hx hb dX9_sitter_17 (by decide) (fun c11 => ?_) (fun c11 => ?_)
    · have fc11 := cx_ne_t (a := r9.toInt) (b := 0) rfl (by decide) c11
      refine lv_iload_n hx hb dX9_sitter_22 rfl (lv_at hl 2 rfl) ?_
      refine lv_if_ne (tgt := 35) hx hb dX9_sitter_23 (by decide) (fun c12 => ?_) (fun c12 => ?_)
      · have fc12 := cx_ne_t (a := x3.toInt) (b := 0) rfl (by decide) c12
        refine lv_iload_n hx hb dX9_sitter_35 rfl (lv_at hl 2 rfl) ?_
        refine lv_iconst (v := 1) hx hb dX9_sitter_36 (by decide) ?_
        refine lv_icmp_ne (tgt := 49) hx hb dX9_sitter_37 (by decide) (fun c13 => ?_) (fun c13 => ?_)
        · have fc13 := cx_ne_t (a := x3.toInt) (b := 1) rfl (by decide) c13
          refine lv_aload_n hx hb dX9_sitter_49 rfl (lv_at hl 0 rfl) ?_
          refine va_get (D := D) (ci := 7) (v := .ref mo_ais) (C := RX9) (T := TX9) (N := 53) hx hb hts in9 hown hG.1 hP 6 rfl rfl 3 (by decide) (hts (.fieldLink RX9 16 "ChairCaneModel" "is" "[I") (by decide +kernel)) (fun _ h9 => h9) rfl dX9_sitter_50 ?_
          refine lv_iload_n hx hb dX9_sitter_53 rfl (lv_at hl 1 rfl) ?_
          refine va_iald hx hb hG.1 hP 1 0 rfl rfl (vp_in_iff.mpr ⟨by omega, by omega⟩) dX9_sitter_54 ?_
          refine lv_topi (fun z14 ez14 => ?_)
          exact hc_end hx hb hr hlocks () trivial (hP.sub [6, 0, 1, 2, 3, 4, 5, 7] rfl) (hD.sub [6, 0, 1, 2, 3, 4, 5, 7] (by decide) rfl) hS dX9_sitter_55
        · have fc13 := cx_ne_f (a := x3.toInt) (b := 1) rfl (by decide) c13
          refine lv_aload_n hx hb dX9_sitter_40 rfl (lv_at hl 0 rfl) ?_
          refine va_get (D := D) (ci := 7) (v := .ref mo_aweight) (C := RX9) (T := TX9) (N := 53) hx hb hts in9 hown hG.1 hP 6 rfl rfl 5 (by decide) (hts (.fieldLink RX9 22 "ChairCaneModel" "weight" "[I") (by decide +kernel)) (fun _ h9 => h9) rfl dX9_sitter_41 ?_
          refine lv_iload_n hx hb dX9_sitter_44 rfl (lv_at hl 1 rfl) ?_
          refine va_iald hx hb hG.1 hP 3 0 rfl rfl (vp_in_iff.mpr ⟨by omega, by omega⟩) dX9_sitter_45 ?_
          refine lv_topi (fun z15 ez15 => ?_)
          have bz15 : iv (0) (20) z15 := by rw [ez15]; exact h_mo_rweight _
          have bz15_l := bz15.1
          have bz15_u := bz15.2
          refine lv_goto (tgt := 55) hx hb dX9_sitter_46 (by decide) ?_
          exact hc_end hx hb hr hlocks () trivial (hP.sub [6, 0, 1, 2, 3, 4, 5, 7] rfl) (hD.sub [6, 0, 1, 2, 3, 4, 5, 7] (by decide) rfl) hS dX9_sitter_55
      · have fc12 := cx_ne_f (a := x3.toInt) (b := 0) rfl (by decide) c12
        refine lv_aload_n hx hb dX9_sitter_26 rfl (lv_at hl 0 rfl) ?_
        refine va_get (D := D) (ci := 7) (v := .ref mo_achairOf) (C := RX9) (T := TX9) (N := 53) hx hb hts in9 hown hG.1 hP 6 rfl rfl 7 (by decide) (hts (.fieldLink RX9 28 "ChairCaneModel" "chairOf" "[I") (by decide +kernel)) (fun _ h9 => h9) rfl dX9_sitter_27 ?_
        refine lv_iload_n hx hb dX9_sitter_30 rfl (lv_at hl 1 rfl) ?_
        refine va_iald hx hb hG.1 hP 5 0 rfl rfl (vp_in_iff.mpr ⟨by omega, by omega⟩) dX9_sitter_31 ?_
        refine lv_topi (fun z16 ez16 => ?_)
        have bz16 : iv (0) (7) z16 := by rw [ez16]; exact h_mo_rchairOf _
        have bz16_l := bz16.1
        have bz16_u := bz16.2
        refine lv_goto (tgt := 55) hx hb dX9_sitter_32 (by decide) ?_
        exact hc_end hx hb hr hlocks () trivial (hP.sub [6, 0, 1, 2, 3, 4, 5, 7] rfl) (hD.sub [6, 0, 1, 2, 3, 4, 5, 7] (by decide) rfl) hS dX9_sitter_55
    · have fc11 := cx_ne_f (a := r9.toInt) (b := 0) rfl (by decide) c11
      refine lv_iconst (v := (-1)) hx hb dX9_sitter_20 (by decide) ?_
      exact hc_end hx hb hr hlocks () trivial (hP.sub [6, 0, 1, 2, 3, 4, 5, 7] rfl) (hD.sub [6, 0, 1, 2, 3, 4, 5, 7] (by decide) rfl) hS dX9_sitter_21
set_option maxHeartbeats 4000000 in
set_option maxRecDepth 100000 in
theorem i_X9_allGive (l : Launch) (D : va_G) (k : Nat → ClassId) (sz : Nat) (mo : Nat) (mo_thrown : Int32) (mo_ascalar : Nat) (mo_acane : Nat) (mo_ais : Nat) (mo_astrandOf : Nat) (mo_aweight : Nat) (mo_aheight : Nat) (mo_achairOf : Nat) (mo_anoteMinute : Nat) (mo_anoteWho : Nat) (mo_anoteIs : Nat) (mo_atoldCane : Nat) (mo_anewScalar : Nat) (mo_anewCane : Nat) (mo_anewHeight : Nat) (mo_anewStrand : Nat) (mo_anewChair : Nat) (mo_anewWeight : Nat) (mo_taped : Int32) (mo_p : Int32) (mo_fault : Int32) (mo_slot : Int32) (mo_rules : Int32) (mo_entries : Int32) (mo_deep : Int32) (mo_counted : Int32) (mo_opened : Int32) (mo_words : Int32) (mo_atape : Nat) (mo_asort : Nat) (mo_anumber : Nat) (mo_aclauses : Nat) (mo_asumAt : Nat) (mo_atestAt : Nat) (mo_aendAt : Nat) (mo_aopen : Nat) (mo_aasked : Nat) (mo_astack : Nat) (mo_amust : Nat) (mo_apast : Nat) (mo_apastOf : Nat) (mo_pastMany : Int32) (mo_pastAt : Int32) (mo_takesBack : Int32) (mo_acanRise : Nat) (mo_afirstHas : Nat) (mo_asecondHas : Nat) (mo_alay : Nat) (mo_ashows : Nat) (mo_aimages : Nat) (mo_aisMade : Nat) (mo_imageAt : Int32) (mo_goesBack : Int32) (mo_rcane : Nat → Int32) (mo_ris : Nat → Int32) (mo_rstrandOf : Nat → Int32) (mo_rweight : Nat → Int32) (mo_rheight : Nat → Int32) (mo_rchairOf : Nat → Int32) (mo_s0 : Int32) (mo_s1 : Int32) (mo_s2 : Int32) (mo_s3 : Int32) (mo_s4 : Int32) (mo_s5 : Int32) (mo_s6 : Int32) (mo_s7 : Int32) (h_mo_taped : iv (0) (400) mo_taped) (h_mo_p : iv (0) (402) mo_p) (h_mo_fault : iv (0) (4000) mo_fault) (h_mo_slot : iv (0) (5) mo_slot) (h_mo_rules : iv (0) (6) mo_rules) (h_mo_entries : iv (0) (300) mo_entries) (h_mo_counted : iv (0) (70) mo_counted) (h_mo_opened : iv (0) (402) mo_opened) (h_mo_words : iv (11) (11) mo_words) (h_mo_pastMany : iv (0) (20) mo_pastMany) (h_mo_pastAt : iv (0) (260) mo_pastAt) (h_mo_takesBack : iv (0) (1) mo_takesBack) (h_mo_imageAt : iv (0) (2000) mo_imageAt) (h_mo_goesBack : iv (0) (1) mo_goesBack) (h_mo_rweight : rowIn (0) (20) mo_rweight) (h_mo_rchairOf : rowIn (0) (7) mo_rchairOf) (h_mo_s1 : iv (0) (4) mo_s1) (h_mo_s2 : iv (0) (8) mo_s2) (h_mo_s3 : iv (0) (8) mo_s3) (h_mo_s5 : iv (0) (10) mo_s5) (h_mo_s7 : iv (-1) (5) mo_s7) (hh_HallOk : HallOk mo_s2 mo_s3 mo_rstrandOf mo_rchairOf mo_rweight) : CtI l yX9_allGive wsX9_allGive (rmK 5 0 0) [.ref mo] D k sz ([(mo, .inr (7, [.int mo_thrown, .ref mo_ascalar, .ref mo_acane, .ref mo_ais, .ref mo_astrandOf, .ref mo_aweight, .ref mo_aheight, .ref mo_achairOf, .ref mo_anoteMinute, .ref mo_anoteWho, .ref mo_anoteIs, .ref mo_atoldCane, .ref mo_anewScalar, .ref mo_anewCane, .ref mo_anewHeight, .ref mo_anewStrand, .ref mo_anewChair, .ref mo_anewWeight, .int mo_taped, .int mo_p, .int mo_fault, .int mo_slot, .int mo_rules, .int mo_entries, .int mo_deep, .int mo_counted, .int mo_opened, .int mo_words, .ref mo_atape, .ref mo_asort, .ref mo_anumber, .ref mo_aclauses, .ref mo_asumAt, .ref mo_atestAt, .ref mo_aendAt, .ref mo_aopen, .ref mo_aasked, .ref mo_astack, .ref mo_amust, .ref mo_apast, .ref mo_apastOf, .int mo_pastMany, .int mo_pastAt, .int mo_takesBack, .ref mo_acanRise, .ref mo_afirstHas, .ref mo_asecondHas, .ref mo_alay, .ref mo_ashows, .ref mo_aimages, .ref mo_aisMade, .int mo_imageAt, .int mo_goesBack])), (mo_acane, hcI k 4 mo_rcane), (mo_ais, hcI k 8 mo_ris), (mo_astrandOf, hcI k 8 mo_rstrandOf), (mo_aweight, hcI k 8 mo_rweight), (mo_aheight, hcI k 8 mo_rheight), (mo_achairOf, hcI k 8 mo_rchairOf), (mo_ascalar, hcI k 8 (sc8 mo_s0 mo_s1 mo_s2 mo_s3 mo_s4 mo_s5 mo_s6 mo_s7))]) (fun (r : Int32) (u : Unit) => True) (fun u : Unit => [(mo, .inr (7, [.int mo_thrown, .ref mo_ascalar, .ref mo_acane, .ref mo_ais, .ref mo_astrandOf, .ref mo_aweight, .ref mo_aheight, .ref mo_achairOf, .ref mo_anoteMinute, .ref mo_anoteWho, .ref mo_anoteIs, .ref mo_atoldCane, .ref mo_anewScalar, .ref mo_anewCane, .ref mo_anewHeight, .ref mo_anewStrand, .ref mo_anewChair, .ref mo_anewWeight, .int mo_taped, .int mo_p, .int mo_fault, .int mo_slot, .int mo_rules, .int mo_entries, .int mo_deep, .int mo_counted, .int mo_opened, .int mo_words, .ref mo_atape, .ref mo_asort, .ref mo_anumber, .ref mo_aclauses, .ref mo_asumAt, .ref mo_atestAt, .ref mo_aendAt, .ref mo_aopen, .ref mo_aasked, .ref mo_astack, .ref mo_amust, .ref mo_apast, .ref mo_apastOf, .int mo_pastMany, .int mo_pastAt, .int mo_takesBack, .ref mo_acanRise, .ref mo_afirstHas, .ref mo_asecondHas, .ref mo_alay, .ref mo_ashows, .ref mo_aimages, .ref mo_aisMade, .int mo_imageAt, .int mo_goesBack])), (mo_acane, hcI k 4 mo_rcane), (mo_ais, hcI k 8 mo_ris), (mo_astrandOf, hcI k 8 mo_rstrandOf), (mo_aweight, hcI k 8 mo_rweight), (mo_aheight, hcI k 8 mo_rheight), (mo_achairOf, hcI k 8 mo_rchairOf), (mo_ascalar, hcI k 8 (sc8 mo_s0 mo_s1 mo_s2 mo_s3 mo_s4 mo_s5 mo_s6 mo_s7))]) 0 0 := by
  have h_mo_taped_l := h_mo_taped.1
  have h_mo_taped_u := h_mo_taped.2
  have h_mo_p_l := h_mo_p.1
  have h_mo_p_u := h_mo_p.2
  have h_mo_fault_l := h_mo_fault.1
  have h_mo_fault_u := h_mo_fault.2
  have h_mo_slot_l := h_mo_slot.1
  have h_mo_slot_u := h_mo_slot.2
  have h_mo_rules_l := h_mo_rules.1
  have h_mo_rules_u := h_mo_rules.2
  have h_mo_entries_l := h_mo_entries.1
  have h_mo_entries_u := h_mo_entries.2
  have h_mo_counted_l := h_mo_counted.1
  have h_mo_counted_u := h_mo_counted.2
  have h_mo_opened_l := h_mo_opened.1
  have h_mo_opened_u := h_mo_opened.2
  have h_mo_words_l := h_mo_words.1
  have h_mo_words_u := h_mo_words.2
  have h_mo_pastMany_l := h_mo_pastMany.1
  have h_mo_pastMany_u := h_mo_pastMany.2
  have h_mo_pastAt_l := h_mo_pastAt.1
  have h_mo_pastAt_u := h_mo_pastAt.2
  have h_mo_takesBack_l := h_mo_takesBack.1
  have h_mo_takesBack_u := h_mo_takesBack.2
  have h_mo_imageAt_l := h_mo_imageAt.1
  have h_mo_imageAt_u := h_mo_imageAt.2
  have h_mo_goesBack_l := h_mo_goesBack.1
  have h_mo_goesBack_u := h_mo_goesBack.2
  have h_mo_s1_l := h_mo_s1.1
  have h_mo_s1_u := h_mo_s1.2
  have h_mo_s2_l := h_mo_s2.1
  have h_mo_s2_u := h_mo_s2.2
  have h_mo_s3_l := h_mo_s3.1
  have h_mo_s3_u := h_mo_s3.2
  have h_mo_s5_l := h_mo_s5.1
  have h_mo_s5_u := h_mo_s5.2
  have h_mo_s7_l := h_mo_s7.1
  have h_mo_s7_u := h_mo_s7.2
  refine CtI.mk (cc := cX9_allGive) (maxL := 3) (ret := (some .int)) (by decide) rfl (Nat.le_of_ble_eq_true rfl) ?_
  intro p e s m below meth c A ls E hP hD hS hl
  obtain ⟨hx, hb, hr, hml, hown, hts, hlocks, hin, hG, hA⟩ := E
  have hown : s.vm.findClass RX9 = some m.cls := hown
  have in9 : ∀ w ∈ u_ws RX9 TX9 53, w ∈ wsX9_allGive := fun _ h => List.mem_cons_of_mem _ (List.mem_append_right _ h)
  have hl : lv_has ls 3 [(0, .ref mo)] := hl
  refine lv_iconst (v := 0) hx hb dX9_allGive_0 (by decide) ?_
  refine lv_istore_n (lv' := [(1, .int 0), (0, .ref mo)]) hx hb dX9_allGive_1 rfl hl (by decide) rfl (fun ls hl => ?_)
  refine lv_iconst (v := 0) hx hb dX9_allGive_2 (by decide) ?_
  refine lv_istore_n (lv' := [(2, .int 0), (1, .int 0), (0, .ref mo)]) hx hb dX9_allGive_3 rfl hl (by decide) rfl (fun ls hl => ?_)
  have loop1 : ∀ (fu : Nat) (L1_1 : Int32) (L2_1 : Int32), iv (0) (8) L2_1 → 9 - L2_1.toInt < (fu : Int) → ∀ (H : Heap) (locs : List Loc) (ls : Array Slot), va_P D vwCl ([(mo, .inr (7, [.int mo_thrown, .ref mo_ascalar, .ref mo_acane, .ref mo_ais, .ref mo_astrandOf, .ref mo_aweight, .ref mo_aheight, .ref mo_achairOf, .ref mo_anoteMinute, .ref mo_anoteWho, .ref mo_anoteIs, .ref mo_atoldCane, .ref mo_anewScalar, .ref mo_anewCane, .ref mo_anewHeight, .ref mo_anewStrand, .ref mo_anewChair, .ref mo_anewWeight, .int mo_taped, .int mo_p, .int mo_fault, .int mo_slot, .int mo_rules, .int mo_entries, .int mo_deep, .int mo_counted, .int mo_opened, .int mo_words, .ref mo_atape, .ref mo_asort, .ref mo_anumber, .ref mo_aclauses, .ref mo_asumAt, .ref mo_atestAt, .ref mo_aendAt, .ref mo_aopen, .ref mo_aasked, .ref mo_astack, .ref mo_amust, .ref mo_apast, .ref mo_apastOf, .int mo_pastMany, .int mo_pastAt, .int mo_takesBack, .ref mo_acanRise, .ref mo_afirstHas, .ref mo_asecondHas, .ref mo_alay, .ref mo_ashows, .ref mo_aimages, .ref mo_aisMade, .int mo_imageAt, .int mo_goesBack])), (mo_acane, hcI k 4 mo_rcane), (mo_ais, hcI k 8 mo_ris), (mo_astrandOf, hcI k 8 mo_rstrandOf), (mo_aweight, hcI k 8 mo_rweight), (mo_aheight, hcI k 8 mo_rheight), (mo_achairOf, hcI k 8 mo_rchairOf), (mo_ascalar, hcI k 8 (sc8 mo_s0 mo_s1 mo_s2 mo_s3 mo_s4 mo_s5 mo_s6 mo_s7))]) H → va_D A ([(mo, .inr (7, [.int mo_thrown, .ref mo_ascalar, .ref mo_acane, .ref mo_ais, .ref mo_astrandOf, .ref mo_aweight, .ref mo_aheight, .ref mo_achairOf, .ref mo_anoteMinute, .ref mo_anoteWho, .ref mo_anoteIs, .ref mo_atoldCane, .ref mo_anewScalar, .ref mo_anewCane, .ref mo_anewHeight, .ref mo_anewStrand, .ref mo_anewChair, .ref mo_anewWeight, .int mo_taped, .int mo_p, .int mo_fault, .int mo_slot, .int mo_rules, .int mo_entries, .int mo_deep, .int mo_counted, .int mo_opened, .int mo_words, .ref mo_atape, .ref mo_asort, .ref mo_anumber, .ref mo_aclauses, .ref mo_asumAt, .ref mo_atestAt, .ref mo_aendAt, .ref mo_aopen, .ref mo_aasked, .ref mo_astack, .ref mo_amust, .ref mo_apast, .ref mo_apastOf, .int mo_pastMany, .int mo_pastAt, .int mo_takesBack, .ref mo_acanRise, .ref mo_afirstHas, .ref mo_asecondHas, .ref mo_alay, .ref mo_ashows, .ref mo_aimages, .ref mo_aisMade, .int mo_imageAt, .int mo_goesBack])), (mo_acane, hcI k 4 mo_rcane), (mo_ais, hcI k 8 mo_ris), (mo_astrandOf, hcI k 8 mo_rstrandOf), (mo_aweight, hcI k 8 mo_rweight), (mo_aheight, hcI k 8 mo_rheight), (mo_achairOf, hcI k 8 mo_rchairOf), (mo_ascalar, hcI k 8 (sc8 mo_s0 mo_s1 mo_s2 mo_s3 mo_s4 mo_s5 mo_s6 mo_s7))]) → va_S A s.heap H locs → lv_has ls 3 [(2, .int L2_1), (1, .int L1_1), (0, .ref mo)] → W p l e (rmK 5 0 0) s m (List.toArray [.ref mo]) below meth c H locs 0 0 (MQ below (va_Qi (fun (r : Int32) (u : Unit) => True) (hcB D (fun u : Unit => [(mo, .inr (7, [.int mo_thrown, .ref mo_ascalar, .ref mo_acane, .ref mo_ais, .ref mo_astrandOf, .ref mo_aweight, .ref mo_aheight, .ref mo_achairOf, .ref mo_anoteMinute, .ref mo_anoteWho, .ref mo_anoteIs, .ref mo_atoldCane, .ref mo_anewScalar, .ref mo_anewCane, .ref mo_anewHeight, .ref mo_anewStrand, .ref mo_anewChair, .ref mo_anewWeight, .int mo_taped, .int mo_p, .int mo_fault, .int mo_slot, .int mo_rules, .int mo_entries, .int mo_deep, .int mo_counted, .int mo_opened, .int mo_words, .ref mo_atape, .ref mo_asort, .ref mo_anumber, .ref mo_aclauses, .ref mo_asumAt, .ref mo_atestAt, .ref mo_aendAt, .ref mo_aopen, .ref mo_aasked, .ref mo_astack, .ref mo_amust, .ref mo_apast, .ref mo_apastOf, .int mo_pastMany, .int mo_pastAt, .int mo_takesBack, .ref mo_acanRise, .ref mo_afirstHas, .ref mo_asecondHas, .ref mo_alay, .ref mo_ashows, .ref mo_aimages, .ref mo_aisMade, .int mo_imageAt, .int mo_goesBack])), (mo_acane, hcI k 4 mo_rcane), (mo_ais, hcI k 8 mo_ris), (mo_astrandOf, hcI k 8 mo_rstrandOf), (mo_aweight, hcI k 8 mo_rweight), (mo_aheight, hcI k 8 mo_rheight), (mo_achairOf, hcI k 8 mo_rchairOf), (mo_ascalar, hcI k 8 (sc8 mo_s0 mo_s1 mo_s2 mo_s3 mo_s4 mo_s5 mo_s6 mo_s7))]) A) A) (List.toArray [.ref mo]) s 0 0 A) (F0 m 4 ls []) := by
    intro fu
    induction fu with
    | zero =>
      intro L1_1 L2_1 bL2_1 hm
      have bL2_1_l := bL2_1.1
      have bL2_1_u := bL2_1.2
      exact absurd hm (by omega)
    | succ fu ih1 =>
      intro L1_1 L2_1 bL2_1 hm H locs ls hP hD hS hl
      have bL2_1_l := bL2_1.1
      have bL2_1_u := bL2_1.2
      refine lv_iload_n hx hb dX9_allGive_4 rfl (lv_at hl 0 rfl) ?_
      refine lv_aload_n hx hb dX9_allGive_5 rfl (lv_at hl 2 rfl) ?_
      refine va_get (D := D) (ci := 7) (v := .ref mo_ascalar) (C := RX9) (T := TX9) (N := 53) hx hb hts in9 hown hG.1 hP 0 rfl rfl 1 (by decide) (hts (.fieldLink RX9 9 "ChairCaneModel" "scalar" "[I") (by decide +kernel)) (fun _ h9 => h9) rfl dX9_allGive_6 ?_
      refine lv_iconst (v := 3) hx hb dX9_allGive_9 (by decide) ?_
      refine va_iald hx hb hG.1 hP 7 0 rfl rfl (by unfold vp_in; decide) dX9_allGive_10 ?_
      refine hc_is (z := mo_s3) (by rw [show Int32.toNatClampNeg 3 = 3 from by decide]; rfl) ?_
      refine lv_icmp_ge (tgt := 28) hx hb dX9_allGive_11 (by decide) (fun c2 => ?_) (fun c2 => ?_)
      · have fc2 := cx_ge_t (a := L2_1.toInt) (b := mo_s3.toInt) rfl rfl c2
        refine lv_iload_n hx hb dX9_allGive_28 rfl (lv_at hl 1 rfl) ?_
        exact hc_end hx hb hr hlocks () trivial hP hD hS dX9_allGive_29
      · have fc2 := cx_ge_f (a := L2_1.toInt) (b := mo_s3.toInt) rfl rfl c2
        refine lv_iload_n hx hb dX9_allGive_14 rfl (lv_at hl 1 rfl) ?_
        refine lv_aload_n hx hb dX9_allGive_15 rfl (lv_at hl 2 rfl) ?_
        refine lv_iload_n hx hb dX9_allGive_16 rfl (lv_at hl 0 rfl) ?_
        refine hc_Vi (As := [.int L2_1]) (rest := [.int L1_1]) (n := 1) (wr := [(mo_aheight, hcI k 8 mo_rheight)]) hx hb hml hown hts hG hA hP hD hS hl.1 [0, 1, 2, 3, 4, 6, 7] [5] (i_X9_givesNow l D k _ L2_1 mo mo_thrown mo_ascalar mo_acane mo_ais mo_astrandOf mo_aweight mo_aheight mo_achairOf mo_anoteMinute mo_anoteWho mo_anoteIs mo_atoldCane mo_anewScalar mo_anewCane mo_anewHeight mo_anewStrand mo_anewChair mo_anewWeight mo_taped mo_p mo_fault mo_slot mo_rules mo_entries mo_deep mo_counted mo_opened mo_words mo_atape mo_asort mo_anumber mo_aclauses mo_asumAt mo_atestAt mo_aendAt mo_aopen mo_aasked mo_astack mo_amust mo_apast mo_apastOf mo_pastMany mo_pastAt mo_takesBack mo_acanRise mo_afirstHas mo_asecondHas mo_alay mo_ashows mo_aimages mo_aisMade mo_imageAt mo_goesBack mo_rcane mo_ris mo_rstrandOf mo_rweight mo_rchairOf mo_s0 mo_s1 mo_s2 mo_s3 mo_s4 mo_s5 mo_s6 mo_s7 ⟨by omega, by omega⟩ ⟨by omega, by omega⟩ ⟨by omega, by omega⟩ ⟨by omega, by omega⟩ ⟨by omega, by omega⟩ ⟨by omega, by omega⟩ ⟨by omega, by omega⟩ ⟨by omega, by omega⟩ ⟨by omega, by omega⟩ ⟨by omega, by omega⟩ ⟨by omega, by omega⟩ ⟨by omega, by omega⟩ ⟨by omega, by omega⟩ ⟨by omega, by omega⟩ ⟨by omega, by omega⟩ h_mo_rweight h_mo_rchairOf ⟨by omega, by omega⟩ ⟨by omega, by omega⟩ ⟨by omega, by omega⟩ ⟨by omega, by omega⟩ ⟨by omega, by omega⟩ (by omega) hh_HallOk) (ci := 7) (q0 := 0) rfl rfl gX9_allGive_X9_givesNow rfl ⟨rfl, rfl, Nat.le_of_ble_eq_true rfl, Nat.le_of_ble_eq_true rfl⟩ (by decide +kernel) rfl rfl ⟨by decide, by decide, by decide⟩ ⟨rfl, rfl, Nat.le_of_ble_eq_true rfl, Nat.le_of_ble_eq_true rfl, Nat.le_of_ble_eq_true rfl⟩ dX9_allGive_17 (fun r4 u3 H locs hw hP hD hS => ?_)
        have hP : va_P D vwCl ([(mo_aheight, hcI k 8 mo_rheight), (mo, .inr (7, [.int mo_thrown, .ref mo_ascalar, .ref mo_acane, .ref mo_ais, .ref mo_astrandOf, .ref mo_aweight, .ref mo_aheight, .ref mo_achairOf, .ref mo_anoteMinute, .ref mo_anoteWho, .ref mo_anoteIs, .ref mo_atoldCane, .ref mo_anewScalar, .ref mo_anewCane, .ref mo_anewHeight, .ref mo_anewStrand, .ref mo_anewChair, .ref mo_anewWeight, .int mo_taped, .int mo_p, .int mo_fault, .int mo_slot, .int mo_rules, .int mo_entries, .int mo_deep, .int mo_counted, .int mo_opened, .int mo_words, .ref mo_atape, .ref mo_asort, .ref mo_anumber, .ref mo_aclauses, .ref mo_asumAt, .ref mo_atestAt, .ref mo_aendAt, .ref mo_aopen, .ref mo_aasked, .ref mo_astack, .ref mo_amust, .ref mo_apast, .ref mo_apastOf, .int mo_pastMany, .int mo_pastAt, .int mo_takesBack, .ref mo_acanRise, .ref mo_afirstHas, .ref mo_asecondHas, .ref mo_alay, .ref mo_ashows, .ref mo_aimages, .ref mo_aisMade, .int mo_imageAt, .int mo_goesBack])), (mo_acane, hcI k 4 mo_rcane), (mo_ais, hcI k 8 mo_ris), (mo_astrandOf, hcI k 8 mo_rstrandOf), (mo_aweight, hcI k 8 mo_rweight), (mo_achairOf, hcI k 8 mo_rchairOf), (mo_ascalar, hcI k 8 (sc8 mo_s0 mo_s1 mo_s2 mo_s3 mo_s4 mo_s5 mo_s6 mo_s7))]) H := hP
        have hD : va_D A ([(mo_aheight, hcI k 8 mo_rheight), (mo, .inr (7, [.int mo_thrown, .ref mo_ascalar, .ref mo_acane, .ref mo_ais, .ref mo_astrandOf, .ref mo_aweight, .ref mo_aheight, .ref mo_achairOf, .ref mo_anoteMinute, .ref mo_anoteWho, .ref mo_anoteIs, .ref mo_atoldCane, .ref mo_anewScalar, .ref mo_anewCane, .ref mo_anewHeight, .ref mo_anewStrand, .ref mo_anewChair, .ref mo_anewWeight, .int mo_taped, .int mo_p, .int mo_fault, .int mo_slot, .int mo_rules, .int mo_entries, .int mo_deep, .int mo_counted, .int mo_opened, .int mo_words, .ref mo_atape, .ref mo_asort, .ref mo_anumber, .ref mo_aclauses, .ref mo_asumAt, .ref mo_atestAt, .ref mo_aendAt, .ref mo_aopen, .ref mo_aasked, .ref mo_astack, .ref mo_amust, .ref mo_apast, .ref mo_apastOf, .int mo_pastMany, .int mo_pastAt, .int mo_takesBack, .ref mo_acanRise, .ref mo_afirstHas, .ref mo_asecondHas, .ref mo_alay, .ref mo_ashows, .ref mo_aimages, .ref mo_aisMade, .int mo_imageAt, .int mo_goesBack])), (mo_acane, hcI k 4 mo_rcane), (mo_ais, hcI k 8 mo_ris), (mo_astrandOf, hcI k 8 mo_rstrandOf), (mo_aweight, hcI k 8 mo_rweight), (mo_achairOf, hcI k 8 mo_rchairOf), (mo_ascalar, hcI k 8 (sc8 mo_s0 mo_s1 mo_s2 mo_s3 mo_s4 mo_s5 mo_s6 mo_s7))]) := hD
        refine lv_iadd hx hb dX9_allGive_20 ?_
        refine lv_topi (fun z5 ez5 => ?_)
        refine lv_istore_n (lv' := [(1, .int z5), (2, .int L2_1), (0, .ref mo)]) hx hb dX9_allGive_21 rfl hl (by decide) rfl (fun ls hl => ?_)
        obtain ⟨z6, ez6⟩ : ∃ z : Int32, z = L2_1 + 1 := ⟨_, rfl⟩
        have tz6 : z6.toInt = L2_1.toInt + (1) := ai_add rfl (by decide) ez6 (by omega) (by omega)
        refine lv_iinc (v := z6) (lv' := [(2, .int z6), (1, .int z5), (0, .ref mo)]) hx hb dX9_allGive_22 hl (k := 1) rfl (by rw [ez6]; rfl) (by decide) rfl (fun ls hl => ?_)
        refine lv_goto (tgt := 4) hx hb dX9_allGive_25 (by decide) ?_
        exact ih1 z5 z6 ⟨by omega, by omega⟩ (by omega) _ _ _ (hP.sub [1, 2, 3, 4, 5, 0, 6, 7] rfl) (hD.sub [1, 2, 3, 4, 5, 0, 6, 7] (by decide) rfl) hS (lv_sub hl [0, 1, 2] rfl)
  exact loop1 100 0 0 (iv_lit (by decide) (by decide)) (by have q0 : (0 : Int32).toInt = 0 := (by decide); have q1 : (0 : Int32).toInt = 0 := (by decide); omega) _ _ _ hP hD hS hl
set_option maxHeartbeats 4000000 in
set_option maxRecDepth 100000 in
theorem i_X9_pence (l : Launch) (D : va_G) (k : Nat → ClassId) (sz : Nat) (x1 : Int32) (x2 : Int32) (mo : Nat) (mo_thrown : Int32) (mo_ascalar : Nat) (mo_acane : Nat) (mo_ais : Nat) (mo_astrandOf : Nat) (mo_aweight : Nat) (mo_aheight : Nat) (mo_achairOf : Nat) (mo_anoteMinute : Nat) (mo_anoteWho : Nat) (mo_anoteIs : Nat) (mo_atoldCane : Nat) (mo_anewScalar : Nat) (mo_anewCane : Nat) (mo_anewHeight : Nat) (mo_anewStrand : Nat) (mo_anewChair : Nat) (mo_anewWeight : Nat) (mo_taped : Int32) (mo_p : Int32) (mo_fault : Int32) (mo_slot : Int32) (mo_rules : Int32) (mo_entries : Int32) (mo_deep : Int32) (mo_counted : Int32) (mo_opened : Int32) (mo_words : Int32) (mo_atape : Nat) (mo_asort : Nat) (mo_anumber : Nat) (mo_aclauses : Nat) (mo_asumAt : Nat) (mo_atestAt : Nat) (mo_aendAt : Nat) (mo_aopen : Nat) (mo_aasked : Nat) (mo_astack : Nat) (mo_amust : Nat) (mo_apast : Nat) (mo_apastOf : Nat) (mo_pastMany : Int32) (mo_pastAt : Int32) (mo_takesBack : Int32) (mo_acanRise : Nat) (mo_afirstHas : Nat) (mo_asecondHas : Nat) (mo_alay : Nat) (mo_ashows : Nat) (mo_aimages : Nat) (mo_aisMade : Nat) (mo_imageAt : Int32) (mo_goesBack : Int32) (mo_rcane : Nat → Int32) (mo_ris : Nat → Int32) (mo_rstrandOf : Nat → Int32) (mo_rweight : Nat → Int32) (mo_rheight : Nat → Int32) (mo_rchairOf : Nat → Int32) (mo_s0 : Int32) (mo_s1 : Int32) (mo_s2 : Int32) (mo_s3 : Int32) (mo_s4 : Int32) (mo_s5 : Int32) (mo_s6 : Int32) (mo_s7 : Int32) (h_mo_taped : iv (0) (400) mo_taped) (h_mo_p : iv (0) (402) mo_p) (h_mo_fault : iv (0) (4000) mo_fault) (h_mo_slot : iv (0) (5) mo_slot) (h_mo_rules : iv (0) (6) mo_rules) (h_mo_entries : iv (0) (300) mo_entries) (h_mo_counted : iv (0) (70) mo_counted) (h_mo_opened : iv (0) (402) mo_opened) (h_mo_words : iv (11) (11) mo_words) (h_mo_pastMany : iv (0) (20) mo_pastMany) (h_mo_pastAt : iv (0) (260) mo_pastAt) (h_mo_takesBack : iv (0) (1) mo_takesBack) (h_mo_imageAt : iv (0) (2000) mo_imageAt) (h_mo_goesBack : iv (0) (1) mo_goesBack) (h_mo_rweight : rowIn (0) (20) mo_rweight) (h_mo_rchairOf : rowIn (0) (7) mo_rchairOf) (h_mo_s1 : iv (0) (4) mo_s1) (h_mo_s2 : iv (0) (8) mo_s2) (h_mo_s3 : iv (0) (8) mo_s3) (h_mo_s5 : iv (0) (10) mo_s5) (h_mo_s7 : iv (-1) (5) mo_s7) (hh_HallOk : HallOk mo_s2 mo_s3 mo_rstrandOf mo_rchairOf mo_rweight) : CtI l yX9_pence wsX9_pence (rmK 6 0 0) [.ref mo, .int x1, .int x2] D k sz ([(mo, .inr (7, [.int mo_thrown, .ref mo_ascalar, .ref mo_acane, .ref mo_ais, .ref mo_astrandOf, .ref mo_aweight, .ref mo_aheight, .ref mo_achairOf, .ref mo_anoteMinute, .ref mo_anoteWho, .ref mo_anoteIs, .ref mo_atoldCane, .ref mo_anewScalar, .ref mo_anewCane, .ref mo_anewHeight, .ref mo_anewStrand, .ref mo_anewChair, .ref mo_anewWeight, .int mo_taped, .int mo_p, .int mo_fault, .int mo_slot, .int mo_rules, .int mo_entries, .int mo_deep, .int mo_counted, .int mo_opened, .int mo_words, .ref mo_atape, .ref mo_asort, .ref mo_anumber, .ref mo_aclauses, .ref mo_asumAt, .ref mo_atestAt, .ref mo_aendAt, .ref mo_aopen, .ref mo_aasked, .ref mo_astack, .ref mo_amust, .ref mo_apast, .ref mo_apastOf, .int mo_pastMany, .int mo_pastAt, .int mo_takesBack, .ref mo_acanRise, .ref mo_afirstHas, .ref mo_asecondHas, .ref mo_alay, .ref mo_ashows, .ref mo_aimages, .ref mo_aisMade, .int mo_imageAt, .int mo_goesBack])), (mo_acane, hcI k 4 mo_rcane), (mo_ais, hcI k 8 mo_ris), (mo_astrandOf, hcI k 8 mo_rstrandOf), (mo_aweight, hcI k 8 mo_rweight), (mo_aheight, hcI k 8 mo_rheight), (mo_achairOf, hcI k 8 mo_rchairOf), (mo_ascalar, hcI k 8 (sc8 mo_s0 mo_s1 mo_s2 mo_s3 mo_s4 mo_s5 mo_s6 mo_s7))]) (fun (r : Int32) (u : Unit) => True) (fun u : Unit => [(mo, .inr (7, [.int mo_thrown, .ref mo_ascalar, .ref mo_acane, .ref mo_ais, .ref mo_astrandOf, .ref mo_aweight, .ref mo_aheight, .ref mo_achairOf, .ref mo_anoteMinute, .ref mo_anoteWho, .ref mo_anoteIs, .ref mo_atoldCane, .ref mo_anewScalar, .ref mo_anewCane, .ref mo_anewHeight, .ref mo_anewStrand, .ref mo_anewChair, .ref mo_anewWeight, .int mo_taped, .int mo_p, .int mo_fault, .int mo_slot, .int mo_rules, .int mo_entries, .int mo_deep, .int mo_counted, .int mo_opened, .int mo_words, .ref mo_atape, .ref mo_asort, .ref mo_anumber, .ref mo_aclauses, .ref mo_asumAt, .ref mo_atestAt, .ref mo_aendAt, .ref mo_aopen, .ref mo_aasked, .ref mo_astack, .ref mo_amust, .ref mo_apast, .ref mo_apastOf, .int mo_pastMany, .int mo_pastAt, .int mo_takesBack, .ref mo_acanRise, .ref mo_afirstHas, .ref mo_asecondHas, .ref mo_alay, .ref mo_ashows, .ref mo_aimages, .ref mo_aisMade, .int mo_imageAt, .int mo_goesBack])), (mo_acane, hcI k 4 mo_rcane), (mo_ais, hcI k 8 mo_ris), (mo_astrandOf, hcI k 8 mo_rstrandOf), (mo_aweight, hcI k 8 mo_rweight), (mo_aheight, hcI k 8 mo_rheight), (mo_achairOf, hcI k 8 mo_rchairOf), (mo_ascalar, hcI k 8 (sc8 mo_s0 mo_s1 mo_s2 mo_s3 mo_s4 mo_s5 mo_s6 mo_s7))]) 0 0 := by
  have h_mo_taped_l := h_mo_taped.1
  have h_mo_taped_u := h_mo_taped.2
  have h_mo_p_l := h_mo_p.1
  have h_mo_p_u := h_mo_p.2
  have h_mo_fault_l := h_mo_fault.1
  have h_mo_fault_u := h_mo_fault.2
  have h_mo_slot_l := h_mo_slot.1
  have h_mo_slot_u := h_mo_slot.2
  have h_mo_rules_l := h_mo_rules.1
  have h_mo_rules_u := h_mo_rules.2
  have h_mo_entries_l := h_mo_entries.1
  have h_mo_entries_u := h_mo_entries.2
  have h_mo_counted_l := h_mo_counted.1
  have h_mo_counted_u := h_mo_counted.2
  have h_mo_opened_l := h_mo_opened.1
  have h_mo_opened_u := h_mo_opened.2
  have h_mo_words_l := h_mo_words.1
  have h_mo_words_u := h_mo_words.2
  have h_mo_pastMany_l := h_mo_pastMany.1
  have h_mo_pastMany_u := h_mo_pastMany.2
  have h_mo_pastAt_l := h_mo_pastAt.1
  have h_mo_pastAt_u := h_mo_pastAt.2
  have h_mo_takesBack_l := h_mo_takesBack.1
  have h_mo_takesBack_u := h_mo_takesBack.2
  have h_mo_imageAt_l := h_mo_imageAt.1
  have h_mo_imageAt_u := h_mo_imageAt.2
  have h_mo_goesBack_l := h_mo_goesBack.1
  have h_mo_goesBack_u := h_mo_goesBack.2
  have h_mo_s1_l := h_mo_s1.1
  have h_mo_s1_u := h_mo_s1.2
  have h_mo_s2_l := h_mo_s2.1
  have h_mo_s2_u := h_mo_s2.2
  have h_mo_s3_l := h_mo_s3.1
  have h_mo_s3_u := h_mo_s3.2
  have h_mo_s5_l := h_mo_s5.1
  have h_mo_s5_u := h_mo_s5.2
  have h_mo_s7_l := h_mo_s7.1
  have h_mo_s7_u := h_mo_s7.2
  refine CtI.mk (cc := cX9_pence) (maxL := 10) (ret := (some .int)) (by decide) rfl (Nat.le_of_ble_eq_true rfl) ?_
  intro p e s m below meth c A ls E hP hD hS hl
  obtain ⟨hx, hb, hr, hml, hown, hts, hlocks, hin, hG, hA⟩ := E
  have hown : s.vm.findClass RX9 = some m.cls := hown
  have in9 : ∀ w ∈ u_ws RX9 TX9 53, w ∈ wsX9_pence := fun _ h => List.mem_cons_of_mem _ (List.mem_append_right _ h)
  have hl : lv_has ls 10 [(0, .ref mo), (1, .int x1), (2, .int x2)] := hl
  refine lv_aload_n hx hb dX9_pence_0 rfl (lv_at hl 0 rfl) ?_
  refine lv_iload_n hx hb dX9_pence_1 rfl (lv_at hl 2 rfl) ?_
  refine hc_Vi (As := [.int x2]) (rest := []) (n := 1) (wr := [(mo_acane, hcI k 4 mo_rcane), (mo_ais, hcI k 8 mo_ris), (mo_astrandOf, hcI k 8 mo_rstrandOf), (mo_aweight, hcI k 8 mo_rweight), (mo_aheight, hcI k 8 mo_rheight), (mo_achairOf, hcI k 8 mo_rchairOf)]) hx hb hml hown hts hG hA hP hD hS hl.1 [0, 7] [1, 2, 3, 4, 5, 6] (i_X9_isSitter l D k _ x2 mo mo_thrown mo_ascalar mo_acane mo_ais mo_astrandOf mo_aweight mo_aheight mo_achairOf mo_anoteMinute mo_anoteWho mo_anoteIs mo_atoldCane mo_anewScalar mo_anewCane mo_anewHeight mo_anewStrand mo_anewChair mo_anewWeight mo_taped mo_p mo_fault mo_slot mo_rules mo_entries mo_deep mo_counted mo_opened mo_words mo_atape mo_asort mo_anumber mo_aclauses mo_asumAt mo_atestAt mo_aendAt mo_aopen mo_aasked mo_astack mo_amust mo_apast mo_apastOf mo_pastMany mo_pastAt mo_takesBack mo_acanRise mo_afirstHas mo_asecondHas mo_alay mo_ashows mo_aimages mo_aisMade mo_imageAt mo_goesBack mo_s0 mo_s1 mo_s2 mo_s3 mo_s4 mo_s5 mo_s6 mo_s7 ⟨by omega, by omega⟩ ⟨by omega, by omega⟩ ⟨by omega, by omega⟩ ⟨by omega, by omega⟩ ⟨by omega, by omega⟩ ⟨by omega, by omega⟩ ⟨by omega, by omega⟩ ⟨by omega, by omega⟩ ⟨by omega, by omega⟩ ⟨by omega, by omega⟩ ⟨by omega, by omega⟩ ⟨by omega, by omega⟩ ⟨by omega, by omega⟩ ⟨by omega, by omega⟩ ⟨by omega, by omega⟩ ⟨by omega, by omega⟩ ⟨by omega, by omega⟩ ⟨by omega, by omega⟩ ⟨by omega, by omega⟩) (ci := 7) (q0 := 0) rfl rfl gX9_pence_X9_isSitter rfl ⟨rfl, rfl, Nat.le_of_ble_eq_true rfl, Nat.le_of_ble_eq_true rfl⟩ (by decide +kernel) rfl rfl ⟨by decide, by decide, by decide⟩ ⟨rfl, rfl, Nat.le_of_ble_eq_true rfl, Nat.le_of_ble_eq_true rfl, Nat.le_of_ble_eq_true rfl⟩ dX9_pence_2 (fun r2 u1 H locs hw hP hD hS => ?_)
  have hP : va_P D vwCl ([(mo_acane, hcI k 4 mo_rcane), (mo_ais, hcI k 8 mo_ris), (mo_astrandOf, hcI k 8 mo_rstrandOf), (mo_aweight, hcI k 8 mo_rweight), (mo_aheight, hcI k 8 mo_rheight), (mo_achairOf, hcI k 8 mo_rchairOf), (mo, .inr (7, [.int mo_thrown, .ref mo_ascalar, .ref mo_acane, .ref mo_ais, .ref mo_astrandOf, .ref mo_aweight, .ref mo_aheight, .ref mo_achairOf, .ref mo_anoteMinute, .ref mo_anoteWho, .ref mo_anoteIs, .ref mo_atoldCane, .ref mo_anewScalar, .ref mo_anewCane, .ref mo_anewHeight, .ref mo_anewStrand, .ref mo_anewChair, .ref mo_anewWeight, .int mo_taped, .int mo_p, .int mo_fault, .int mo_slot, .int mo_rules, .int mo_entries, .int mo_deep, .int mo_counted, .int mo_opened, .int mo_words, .ref mo_atape, .ref mo_asort, .ref mo_anumber, .ref mo_aclauses, .ref mo_asumAt, .ref mo_atestAt, .ref mo_aendAt, .ref mo_aopen, .ref mo_aasked, .ref mo_astack, .ref mo_amust, .ref mo_apast, .ref mo_apastOf, .int mo_pastMany, .int mo_pastAt, .int mo_takesBack, .ref mo_acanRise, .ref mo_afirstHas, .ref mo_asecondHas, .ref mo_alay, .ref mo_ashows, .ref mo_aimages, .ref mo_aisMade, .int mo_imageAt, .int mo_goesBack])), (mo_ascalar, hcI k 8 (sc8 mo_s0 mo_s1 mo_s2 mo_s3 mo_s4 mo_s5 mo_s6 mo_s7))]) H := hP
  have hD : va_D A ([(mo_acane, hcI k 4 mo_rcane), (mo_ais, hcI k 8 mo_ris), (mo_astrandOf, hcI k 8 mo_rstrandOf), (mo_aweight, hcI k 8 mo_rweight), (mo_aheight, hcI k 8 mo_rheight), (mo_achairOf, hcI k 8 mo_rchairOf), (mo, .inr (7, [.int mo_thrown, .ref mo_ascalar, .ref mo_acane, .ref mo_ais, .ref mo_astrandOf, .ref mo_aweight, .ref mo_aheight, .ref mo_achairOf, .ref mo_anoteMinute, .ref mo_anoteWho, .ref mo_anoteIs, .ref mo_atoldCane, .ref mo_anewScalar, .ref mo_anewCane, .ref mo_anewHeight, .ref mo_anewStrand, .ref mo_anewChair, .ref mo_anewWeight, .int mo_taped, .int mo_p, .int mo_fault, .int mo_slot, .int mo_rules, .int mo_entries, .int mo_deep, .int mo_counted, .int mo_opened, .int mo_words, .ref mo_atape, .ref mo_asort, .ref mo_anumber, .ref mo_aclauses, .ref mo_asumAt, .ref mo_atestAt, .ref mo_aendAt, .ref mo_aopen, .ref mo_aasked, .ref mo_astack, .ref mo_amust, .ref mo_apast, .ref mo_apastOf, .int mo_pastMany, .int mo_pastAt, .int mo_takesBack, .ref mo_acanRise, .ref mo_afirstHas, .ref mo_asecondHas, .ref mo_alay, .ref mo_ashows, .ref mo_aimages, .ref mo_aisMade, .int mo_imageAt, .int mo_goesBack])), (mo_ascalar, hcI k 8 (sc8 mo_s0 mo_s1 mo_s2 mo_s3 mo_s4 mo_s5 mo_s6 mo_s7))]) := hD
  obtain ⟨br2, rel3⟩ := hw
  have br2 : iv (0) (1) r2 := br2
  have br2_l := br2.1
  have br2_u := br2.2
  refine lv_if_eq (tgt := 20) hx hb dX9_pence_5 (by decide) (fun c4 => ?_) (fun c4 => ?_)
  · have fc4 := cx_eq_t (a := r2.toInt) (b := 0) rfl (by decide) c4
    refine lv_iconst (v := (-1)) hx hb dX9_pence_20 (by decide) ?_
    exact hc_end hx hb hr hlocks () trivial (hP.sub [6, 0, 1, 2, 3, 4, 5, 7] rfl) (hD.sub [6, 0, 1, 2, 3, 4, 5, 7] (by decide) rfl) hS dX9_pence_21
  · have fc4 := cx_eq_f (a := r2.toInt) (b := 0) rfl (by decide) c4
    refine lv_iload_n hx hb dX9_pence_8 rfl (lv_at hl 1 rfl) ?_
    refine lv_i2l hx hb dX9_pence_9 rfl ?_
    refine lv_topl (fun y5 ey5 => ?_)
    have ty5 : y5.toInt = x1.toInt := ai_i2l rfl ey5
    refine lv_lconst (v := 0) hx hb dX9_pence_10 (by decide) ?_
    refine lv_ldc2 (v := 9999) hx hb hown (hts (.constantLong RX9 452 (9999)) (by decide +kernel)) dX9_pence_11 ?_
    have ql6 : (0 : Int64).toInt = 0 := by decide
    have ql7 : (9999 : Int64).toInt = 9999 := by decide
    refine hc_Si (As := [.long y5, .long 0, .long 9999]) (rest := []) (n := 3) (wr := [(mo_acane, hcI k 4 mo_rcane), (mo_ais, hcI k 8 mo_ris), (mo_astrandOf, hcI k 8 mo_rstrandOf), (mo_aweight, hcI k 8 mo_rweight), (mo_aheight, hcI k 8 mo_rheight), (mo_achairOf, hcI k 8 mo_rchairOf), (mo, .inr (7, [.int mo_thrown, .ref mo_ascalar, .ref mo_acane, .ref mo_ais, .ref mo_astrandOf, .ref mo_aweight, .ref mo_aheight, .ref mo_achairOf, .ref mo_anoteMinute, .ref mo_anoteWho, .ref mo_anoteIs, .ref mo_atoldCane, .ref mo_anewScalar, .ref mo_anewCane, .ref mo_anewHeight, .ref mo_anewStrand, .ref mo_anewChair, .ref mo_anewWeight, .int mo_taped, .int mo_p, .int mo_fault, .int mo_slot, .int mo_rules, .int mo_entries, .int mo_deep, .int mo_counted, .int mo_opened, .int mo_words, .ref mo_atape, .ref mo_asort, .ref mo_anumber, .ref mo_aclauses, .ref mo_asumAt, .ref mo_atestAt, .ref mo_aendAt, .ref mo_aopen, .ref mo_aasked, .ref mo_astack, .ref mo_amust, .ref mo_apast, .ref mo_apastOf, .int mo_pastMany, .int mo_pastAt, .int mo_takesBack, .ref mo_acanRise, .ref mo_afirstHas, .ref mo_asecondHas, .ref mo_alay, .ref mo_ashows, .ref mo_aimages, .ref mo_aisMade, .int mo_imageAt, .int mo_goesBack])), (mo_ascalar, hcI k 8 (sc8 mo_s0 mo_s1 mo_s2 mo_s3 mo_s4 mo_s5 mo_s6 mo_s7))]) hx hb hml hown hts hG hA hP hD hS hl.1 [] [0, 1, 2, 3, 4, 5, 6, 7] (i_X9_in l D k _ y5 0 9999 ) gX9_pence_X9_in rfl ⟨rfl, rfl, Nat.le_of_ble_eq_true rfl, Nat.le_of_ble_eq_true rfl⟩ (by decide +kernel) rfl rfl ⟨by decide, by decide, by decide⟩ ⟨rfl, rfl, Nat.le_of_ble_eq_true rfl, Nat.le_of_ble_eq_true rfl, Nat.le_of_ble_eq_true rfl⟩ dX9_pence_14 (fun r9 u8 H locs hw hP hD hS => ?_)
    have hP : va_P D vwCl ([(mo_acane, hcI k 4 mo_rcane), (mo_ais, hcI k 8 mo_ris), (mo_astrandOf, hcI k 8 mo_rstrandOf), (mo_aweight, hcI k 8 mo_rweight), (mo_aheight, hcI k 8 mo_rheight), (mo_achairOf, hcI k 8 mo_rchairOf), (mo, .inr (7, [.int mo_thrown, .ref mo_ascalar, .ref mo_acane, .ref mo_ais, .ref mo_astrandOf, .ref mo_aweight, .ref mo_aheight, .ref mo_achairOf, .ref mo_anoteMinute, .ref mo_anoteWho, .ref mo_anoteIs, .ref mo_atoldCane, .ref mo_anewScalar, .ref mo_anewCane, .ref mo_anewHeight, .ref mo_anewStrand, .ref mo_anewChair, .ref mo_anewWeight, .int mo_taped, .int mo_p, .int mo_fault, .int mo_slot, .int mo_rules, .int mo_entries, .int mo_deep, .int mo_counted, .int mo_opened, .int mo_words, .ref mo_atape, .ref mo_asort, .ref mo_anumber, .ref mo_aclauses, .ref mo_asumAt, .ref mo_atestAt, .ref mo_aendAt, .ref mo_aopen, .ref mo_aasked, .ref mo_astack, .ref mo_amust, .ref mo_apast, .ref mo_apastOf, .int mo_pastMany, .int mo_pastAt, .int mo_takesBack, .ref mo_acanRise, .ref mo_afirstHas, .ref mo_asecondHas, .ref mo_alay, .ref mo_ashows, .ref mo_aimages, .ref mo_aisMade, .int mo_imageAt, .int mo_goesBack])), (mo_ascalar, hcI k 8 (sc8 mo_s0 mo_s1 mo_s2 mo_s3 mo_s4 mo_s5 mo_s6 mo_s7))]) H := hP
    have hD : va_D A ([(mo_acane, hcI k 4 mo_rcane), (mo_ais, hcI k 8 mo_ris), (mo_astrandOf, hcI k 8 mo_rstrandOf), (mo_aweight, hcI k 8 mo_rweight), (mo_aheight, hcI k 8 mo_rheight), (mo_achairOf, hcI k 8 mo_rchairOf), (mo, .inr (7, [.int mo_thrown, .ref mo_ascalar, .ref mo_acane, .ref mo_ais, .ref mo_astrandOf, .ref mo_aweight, .ref mo_aheight, .ref mo_achairOf, .ref mo_anoteMinute, .ref mo_anoteWho, .ref mo_anoteIs, .ref mo_atoldCane, .ref mo_anewScalar, .ref mo_anewCane, .ref mo_anewHeight, .ref mo_anewStrand, .ref mo_anewChair, .ref mo_anewWeight, .int mo_taped, .int mo_p, .int mo_fault, .int mo_slot, .int mo_rules, .int mo_entries, .int mo_deep, .int mo_counted, .int mo_opened, .int mo_words, .ref mo_atape, .ref mo_asort, .ref mo_anumber, .ref mo_aclauses, .ref mo_asumAt, .ref mo_atestAt, .ref mo_aendAt, .ref mo_aopen, .ref mo_aasked, .ref mo_astack, .ref mo_amust, .ref mo_apast, .ref mo_apastOf, .int mo_pastMany, .int mo_pastAt, .int mo_takesBack, .ref mo_acanRise, .ref mo_afirstHas, .ref mo_asecondHas, .ref mo_alay, .ref mo_ashows, .ref mo_aimages, .ref mo_aisMade, .int mo_imageAt, .int mo_goesBack])), (mo_ascalar, hcI k 8 (sc8 mo_s0 mo_s1 mo_s2 mo_s3 mo_s4 mo_s5 mo_s6 mo_s7))]) := hD
    obtain ⟨br9, rel10⟩ := hw
    have br9 : iv (0) (1) r9 := br9
    have br9_l := br9.1
    have br9_u := br9.2
    refine lv_if_ne (tgt := 22) hx hb dX9_pence_17 (by decide) (fun c11 => ?_) (fun c11 => ?_)
    · have fc11 := cx_ne_t (a := r9.toInt) (b := 0) rfl (by decide) c11
      refine lv_aload_n hx hb dX9_pence_22 rfl (lv_at hl 0 rfl) ?_
      refine hc_Vi (As := []) (rest := []) (n := 0) (wr := []) hx hb hml hown hts hG hA hP hD hS hl.1 [6, 0, 1, 2, 3, 4, 5, 7] [] (i_X9_allGive l D k _ mo mo_thrown mo_ascalar mo_acane mo_ais mo_astrandOf mo_aweight mo_aheight mo_achairOf mo_anoteMinute mo_anoteWho mo_anoteIs mo_atoldCane mo_anewScalar mo_anewCane mo_anewHeight mo_anewStrand mo_anewChair mo_anewWeight mo_taped mo_p mo_fault mo_slot mo_rules mo_entries mo_deep mo_counted mo_opened mo_words mo_atape mo_asort mo_anumber mo_aclauses mo_asumAt mo_atestAt mo_aendAt mo_aopen mo_aasked mo_astack mo_amust mo_apast mo_apastOf mo_pastMany mo_pastAt mo_takesBack mo_acanRise mo_afirstHas mo_asecondHas mo_alay mo_ashows mo_aimages mo_aisMade mo_imageAt mo_goesBack mo_rcane mo_ris mo_rstrandOf mo_rweight mo_rheight mo_rchairOf mo_s0 mo_s1 mo_s2 mo_s3 mo_s4 mo_s5 mo_s6 mo_s7 ⟨by omega, by omega⟩ ⟨by omega, by omega⟩ ⟨by omega, by omega⟩ ⟨by omega, by omega⟩ ⟨by omega, by omega⟩ ⟨by omega, by omega⟩ ⟨by omega, by omega⟩ ⟨by omega, by omega⟩ ⟨by omega, by omega⟩ ⟨by omega, by omega⟩ ⟨by omega, by omega⟩ ⟨by omega, by omega⟩ ⟨by omega, by omega⟩ ⟨by omega, by omega⟩ h_mo_rweight h_mo_rchairOf ⟨by omega, by omega⟩ ⟨by omega, by omega⟩ ⟨by omega, by omega⟩ ⟨by omega, by omega⟩ ⟨by omega, by omega⟩ hh_HallOk) (ci := 7) (q0 := 6) rfl rfl gX9_pence_X9_allGive rfl ⟨rfl, rfl, Nat.le_of_ble_eq_true rfl, Nat.le_of_ble_eq_true rfl⟩ (by decide +kernel) rfl rfl ⟨by decide, by decide, by decide⟩ ⟨rfl, rfl, Nat.le_of_ble_eq_true rfl, Nat.le_of_ble_eq_true rfl, Nat.le_of_ble_eq_true rfl⟩ dX9_pence_23 (fun r13 u12 H locs hw hP hD hS => ?_)
      have hP : va_P D vwCl ([(mo, .inr (7, [.int mo_thrown, .ref mo_ascalar, .ref mo_acane, .ref mo_ais, .ref mo_astrandOf, .ref mo_aweight, .ref mo_aheight, .ref mo_achairOf, .ref mo_anoteMinute, .ref mo_anoteWho, .ref mo_anoteIs, .ref mo_atoldCane, .ref mo_anewScalar, .ref mo_anewCane, .ref mo_anewHeight, .ref mo_anewStrand, .ref mo_anewChair, .ref mo_anewWeight, .int mo_taped, .int mo_p, .int mo_fault, .int mo_slot, .int mo_rules, .int mo_entries, .int mo_deep, .int mo_counted, .int mo_opened, .int mo_words, .ref mo_atape, .ref mo_asort, .ref mo_anumber, .ref mo_aclauses, .ref mo_asumAt, .ref mo_atestAt, .ref mo_aendAt, .ref mo_aopen, .ref mo_aasked, .ref mo_astack, .ref mo_amust, .ref mo_apast, .ref mo_apastOf, .int mo_pastMany, .int mo_pastAt, .int mo_takesBack, .ref mo_acanRise, .ref mo_afirstHas, .ref mo_asecondHas, .ref mo_alay, .ref mo_ashows, .ref mo_aimages, .ref mo_aisMade, .int mo_imageAt, .int mo_goesBack])), (mo_acane, hcI k 4 mo_rcane), (mo_ais, hcI k 8 mo_ris), (mo_astrandOf, hcI k 8 mo_rstrandOf), (mo_aweight, hcI k 8 mo_rweight), (mo_aheight, hcI k 8 mo_rheight), (mo_achairOf, hcI k 8 mo_rchairOf), (mo_ascalar, hcI k 8 (sc8 mo_s0 mo_s1 mo_s2 mo_s3 mo_s4 mo_s5 mo_s6 mo_s7))]) H := hP
      have hD : va_D A ([(mo, .inr (7, [.int mo_thrown, .ref mo_ascalar, .ref mo_acane, .ref mo_ais, .ref mo_astrandOf, .ref mo_aweight, .ref mo_aheight, .ref mo_achairOf, .ref mo_anoteMinute, .ref mo_anoteWho, .ref mo_anoteIs, .ref mo_atoldCane, .ref mo_anewScalar, .ref mo_anewCane, .ref mo_anewHeight, .ref mo_anewStrand, .ref mo_anewChair, .ref mo_anewWeight, .int mo_taped, .int mo_p, .int mo_fault, .int mo_slot, .int mo_rules, .int mo_entries, .int mo_deep, .int mo_counted, .int mo_opened, .int mo_words, .ref mo_atape, .ref mo_asort, .ref mo_anumber, .ref mo_aclauses, .ref mo_asumAt, .ref mo_atestAt, .ref mo_aendAt, .ref mo_aopen, .ref mo_aasked, .ref mo_astack, .ref mo_amust, .ref mo_apast, .ref mo_apastOf, .int mo_pastMany, .int mo_pastAt, .int mo_takesBack, .ref mo_acanRise, .ref mo_afirstHas, .ref mo_asecondHas, .ref mo_alay, .ref mo_ashows, .ref mo_aimages, .ref mo_aisMade, .int mo_imageAt, .int mo_goesBack])), (mo_acane, hcI k 4 mo_rcane), (mo_ais, hcI k 8 mo_ris), (mo_astrandOf, hcI k 8 mo_rstrandOf), (mo_aweight, hcI k 8 mo_rweight), (mo_aheight, hcI k 8 mo_rheight), (mo_achairOf, hcI k 8 mo_rchairOf), (mo_ascalar, hcI k 8 (sc8 mo_s0 mo_s1 mo_s2 mo_s3 mo_s4 mo_s5 mo_s6 mo_s7))]) := hD
      refine lv_istore_n (lv' := [(3, .int r13), (0, .ref mo), (1, .int x1), (2, .int x2)]) hx hb dX9_pence_26 rfl hl (by decide) rfl (fun ls hl => ?_)
      refine lv_iload_n hx hb dX9_pence_27 rfl (lv_at hl 0 rfl) ?_
      refine lv_if_ne (tgt := 33) hx hb dX9_pence_28 (by decide) (fun c14 => ?_) (fun c14 => ?_)
      · have fc14 := cx_ne_t (a := r13.toInt) (b := 0) rfl (by decide) c14
        refine lv_iload_n hx hb dX9_pence_33 rfl (lv_at hl 2 rfl) ?_
        refine lv_istore (lv' := [(4, .int x1), (3, .int r13), (0, .ref mo), (1, .int x1), (2, .int x2)]) hx hb dX9_pence_34 hl (by decide) rfl (fun ls hl => ?_)
        refine lv_iconst (v := 0) hx hb dX9_pence_36 (by decide) ?_
        refine lv_istore (lv' := [(5, .int 0), (4, .int x1), (3, .int r13), (0, .ref mo), (1, .int x1), (2, .int x2)]) hx hb dX9_pence_37 hl (by decide) rfl (fun ls hl => ?_)
        refine lv_iload_n hx hb dX9_pence_39 rfl (lv_at hl 4 rfl) ?_
        refine lv_aload_n hx hb dX9_pence_40 rfl (lv_at hl 3 rfl) ?_
        refine lv_iload_n hx hb dX9_pence_41 rfl (lv_at hl 5 rfl) ?_
        refine hc_Vi (As := [.int x2]) (rest := [.int x1]) (n := 1) (wr := [(mo_aheight, hcI k 8 mo_rheight)]) hx hb hml hown hts hG hA hP hD hS hl.1 [0, 1, 2, 3, 4, 6, 7] [5] (i_X9_givesNow l D k _ x2 mo mo_thrown mo_ascalar mo_acane mo_ais mo_astrandOf mo_aweight mo_aheight mo_achairOf mo_anoteMinute mo_anoteWho mo_anoteIs mo_atoldCane mo_anewScalar mo_anewCane mo_anewHeight mo_anewStrand mo_anewChair mo_anewWeight mo_taped mo_p mo_fault mo_slot mo_rules mo_entries mo_deep mo_counted mo_opened mo_words mo_atape mo_asort mo_anumber mo_aclauses mo_asumAt mo_atestAt mo_aendAt mo_aopen mo_aasked mo_astack mo_amust mo_apast mo_apastOf mo_pastMany mo_pastAt mo_takesBack mo_acanRise mo_afirstHas mo_asecondHas mo_alay mo_ashows mo_aimages mo_aisMade mo_imageAt mo_goesBack mo_rcane mo_ris mo_rstrandOf mo_rweight mo_rchairOf mo_s0 mo_s1 mo_s2 mo_s3 mo_s4 mo_s5 mo_s6 mo_s7 ⟨by omega, by omega⟩ ⟨by omega, by omega⟩ ⟨by omega, by omega⟩ ⟨by omega, by omega⟩ ⟨by omega, by omega⟩ ⟨by omega, by omega⟩ ⟨by omega, by omega⟩ ⟨by omega, by omega⟩ ⟨by omega, by omega⟩ ⟨by omega, by omega⟩ ⟨by omega, by omega⟩ ⟨by omega, by omega⟩ ⟨by omega, by omega⟩ ⟨by omega, by omega⟩ ⟨by omega, by omega⟩ h_mo_rweight h_mo_rchairOf ⟨by omega, by omega⟩ ⟨by omega, by omega⟩ ⟨by omega, by omega⟩ ⟨by omega, by omega⟩ ⟨by omega, by omega⟩ (by omega) hh_HallOk) (ci := 7) (q0 := 0) rfl rfl gX9_pence_X9_givesNow rfl ⟨rfl, rfl, Nat.le_of_ble_eq_true rfl, Nat.le_of_ble_eq_true rfl⟩ (by decide +kernel) rfl rfl ⟨by decide, by decide, by decide⟩ ⟨rfl, rfl, Nat.le_of_ble_eq_true rfl, Nat.le_of_ble_eq_true rfl, Nat.le_of_ble_eq_true rfl⟩ dX9_pence_42 (fun r16 u15 H locs hw hP hD hS => ?_)
        have hP : va_P D vwCl ([(mo_aheight, hcI k 8 mo_rheight), (mo, .inr (7, [.int mo_thrown, .ref mo_ascalar, .ref mo_acane, .ref mo_ais, .ref mo_astrandOf, .ref mo_aweight, .ref mo_aheight, .ref mo_achairOf, .ref mo_anoteMinute, .ref mo_anoteWho, .ref mo_anoteIs, .ref mo_atoldCane, .ref mo_anewScalar, .ref mo_anewCane, .ref mo_anewHeight, .ref mo_anewStrand, .ref mo_anewChair, .ref mo_anewWeight, .int mo_taped, .int mo_p, .int mo_fault, .int mo_slot, .int mo_rules, .int mo_entries, .int mo_deep, .int mo_counted, .int mo_opened, .int mo_words, .ref mo_atape, .ref mo_asort, .ref mo_anumber, .ref mo_aclauses, .ref mo_asumAt, .ref mo_atestAt, .ref mo_aendAt, .ref mo_aopen, .ref mo_aasked, .ref mo_astack, .ref mo_amust, .ref mo_apast, .ref mo_apastOf, .int mo_pastMany, .int mo_pastAt, .int mo_takesBack, .ref mo_acanRise, .ref mo_afirstHas, .ref mo_asecondHas, .ref mo_alay, .ref mo_ashows, .ref mo_aimages, .ref mo_aisMade, .int mo_imageAt, .int mo_goesBack])), (mo_acane, hcI k 4 mo_rcane), (mo_ais, hcI k 8 mo_ris), (mo_astrandOf, hcI k 8 mo_rstrandOf), (mo_aweight, hcI k 8 mo_rweight), (mo_achairOf, hcI k 8 mo_rchairOf), (mo_ascalar, hcI k 8 (sc8 mo_s0 mo_s1 mo_s2 mo_s3 mo_s4 mo_s5 mo_s6 mo_s7))]) H := hP
        have hD : va_D A ([(mo_aheight, hcI k 8 mo_rheight), (mo, .inr (7, [.int mo_thrown, .ref mo_ascalar, .ref mo_acane, .ref mo_ais, .ref mo_astrandOf, .ref mo_aweight, .ref mo_aheight, .ref mo_achairOf, .ref mo_anoteMinute, .ref mo_anoteWho, .ref mo_anoteIs, .ref mo_atoldCane, .ref mo_anewScalar, .ref mo_anewCane, .ref mo_anewHeight, .ref mo_anewStrand, .ref mo_anewChair, .ref mo_anewWeight, .int mo_taped, .int mo_p, .int mo_fault, .int mo_slot, .int mo_rules, .int mo_entries, .int mo_deep, .int mo_counted, .int mo_opened, .int mo_words, .ref mo_atape, .ref mo_asort, .ref mo_anumber, .ref mo_aclauses, .ref mo_asumAt, .ref mo_atestAt, .ref mo_aendAt, .ref mo_aopen, .ref mo_aasked, .ref mo_astack, .ref mo_amust, .ref mo_apast, .ref mo_apastOf, .int mo_pastMany, .int mo_pastAt, .int mo_takesBack, .ref mo_acanRise, .ref mo_afirstHas, .ref mo_asecondHas, .ref mo_alay, .ref mo_ashows, .ref mo_aimages, .ref mo_aisMade, .int mo_imageAt, .int mo_goesBack])), (mo_acane, hcI k 4 mo_rcane), (mo_ais, hcI k 8 mo_ris), (mo_astrandOf, hcI k 8 mo_rstrandOf), (mo_aweight, hcI k 8 mo_rweight), (mo_achairOf, hcI k 8 mo_rchairOf), (mo_ascalar, hcI k 8 (sc8 mo_s0 mo_s1 mo_s2 mo_s3 mo_s4 mo_s5 mo_s6 mo_s7))]) := hD
        refine lv_imul hx hb dX9_pence_45 ?_
        refine lv_topi (fun z17 ez17 => ?_)
        refine lv_istore (lv' := [(6, .int z17), (5, .int 0), (4, .int x1), (3, .int r13), (0, .ref mo), (1, .int x1), (2, .int x2)]) hx hb dX9_pence_46 hl (by decide) rfl (fun ls hl => ?_)
        refine lv_iconst (v := 0) hx hb dX9_pence_48 (by decide) ?_
        refine lv_istore (lv' := [(7, .int 0), (6, .int z17), (5, .int 0), (4, .int x1), (3, .int r13), (0, .ref mo), (1, .int x1), (2, .int x2)]) hx hb dX9_pence_49 hl (by decide) rfl (fun ls hl => ?_)
        have loop18 : ∀ (fu : Nat) (L4_18 : Int32) (L5_18 : Int32) (L7_18 : Int32), iv (0) (8) L7_18 → 9 - L7_18.toInt < (fu : Int) → ∀ (H : Heap) (locs : List Loc) (ls : Array Slot), va_P D vwCl ([(mo_aheight, hcI k 8 mo_rheight), (mo, .inr (7, [.int mo_thrown, .ref mo_ascalar, .ref mo_acane, .ref mo_ais, .ref mo_astrandOf, .ref mo_aweight, .ref mo_aheight, .ref mo_achairOf, .ref mo_anoteMinute, .ref mo_anoteWho, .ref mo_anoteIs, .ref mo_atoldCane, .ref mo_anewScalar, .ref mo_anewCane, .ref mo_anewHeight, .ref mo_anewStrand, .ref mo_anewChair, .ref mo_anewWeight, .int mo_taped, .int mo_p, .int mo_fault, .int mo_slot, .int mo_rules, .int mo_entries, .int mo_deep, .int mo_counted, .int mo_opened, .int mo_words, .ref mo_atape, .ref mo_asort, .ref mo_anumber, .ref mo_aclauses, .ref mo_asumAt, .ref mo_atestAt, .ref mo_aendAt, .ref mo_aopen, .ref mo_aasked, .ref mo_astack, .ref mo_amust, .ref mo_apast, .ref mo_apastOf, .int mo_pastMany, .int mo_pastAt, .int mo_takesBack, .ref mo_acanRise, .ref mo_afirstHas, .ref mo_asecondHas, .ref mo_alay, .ref mo_ashows, .ref mo_aimages, .ref mo_aisMade, .int mo_imageAt, .int mo_goesBack])), (mo_acane, hcI k 4 mo_rcane), (mo_ais, hcI k 8 mo_ris), (mo_astrandOf, hcI k 8 mo_rstrandOf), (mo_aweight, hcI k 8 mo_rweight), (mo_achairOf, hcI k 8 mo_rchairOf), (mo_ascalar, hcI k 8 (sc8 mo_s0 mo_s1 mo_s2 mo_s3 mo_s4 mo_s5 mo_s6 mo_s7))]) H → va_D A ([(mo_aheight, hcI k 8 mo_rheight), (mo, .inr (7, [.int mo_thrown, .ref mo_ascalar, .ref mo_acane, .ref mo_ais, .ref mo_astrandOf, .ref mo_aweight, .ref mo_aheight, .ref mo_achairOf, .ref mo_anoteMinute, .ref mo_anoteWho, .ref mo_anoteIs, .ref mo_atoldCane, .ref mo_anewScalar, .ref mo_anewCane, .ref mo_anewHeight, .ref mo_anewStrand, .ref mo_anewChair, .ref mo_anewWeight, .int mo_taped, .int mo_p, .int mo_fault, .int mo_slot, .int mo_rules, .int mo_entries, .int mo_deep, .int mo_counted, .int mo_opened, .int mo_words, .ref mo_atape, .ref mo_asort, .ref mo_anumber, .ref mo_aclauses, .ref mo_asumAt, .ref mo_atestAt, .ref mo_aendAt, .ref mo_aopen, .ref mo_aasked, .ref mo_astack, .ref mo_amust, .ref mo_apast, .ref mo_apastOf, .int mo_pastMany, .int mo_pastAt, .int mo_takesBack, .ref mo_acanRise, .ref mo_afirstHas, .ref mo_asecondHas, .ref mo_alay, .ref mo_ashows, .ref mo_aimages, .ref mo_aisMade, .int mo_imageAt, .int mo_goesBack])), (mo_acane, hcI k 4 mo_rcane), (mo_ais, hcI k 8 mo_ris), (mo_astrandOf, hcI k 8 mo_rstrandOf), (mo_aweight, hcI k 8 mo_rweight), (mo_achairOf, hcI k 8 mo_rchairOf), (mo_ascalar, hcI k 8 (sc8 mo_s0 mo_s1 mo_s2 mo_s3 mo_s4 mo_s5 mo_s6 mo_s7))]) → va_S A s.heap H locs → lv_has ls 10 [(7, .int L7_18), (6, .int z17), (5, .int L5_18), (4, .int L4_18), (3, .int r13), (0, .ref mo), (1, .int x1), (2, .int x2)] → W p l e (rmK 6 0 0) s m (List.toArray [.ref mo, .int x1, .int x2]) below meth c H locs 0 0 (MQ below (va_Qi (fun (r : Int32) (u : Unit) => True) (hcB D (fun u : Unit => [(mo, .inr (7, [.int mo_thrown, .ref mo_ascalar, .ref mo_acane, .ref mo_ais, .ref mo_astrandOf, .ref mo_aweight, .ref mo_aheight, .ref mo_achairOf, .ref mo_anoteMinute, .ref mo_anoteWho, .ref mo_anoteIs, .ref mo_atoldCane, .ref mo_anewScalar, .ref mo_anewCane, .ref mo_anewHeight, .ref mo_anewStrand, .ref mo_anewChair, .ref mo_anewWeight, .int mo_taped, .int mo_p, .int mo_fault, .int mo_slot, .int mo_rules, .int mo_entries, .int mo_deep, .int mo_counted, .int mo_opened, .int mo_words, .ref mo_atape, .ref mo_asort, .ref mo_anumber, .ref mo_aclauses, .ref mo_asumAt, .ref mo_atestAt, .ref mo_aendAt, .ref mo_aopen, .ref mo_aasked, .ref mo_astack, .ref mo_amust, .ref mo_apast, .ref mo_apastOf, .int mo_pastMany, .int mo_pastAt, .int mo_takesBack, .ref mo_acanRise, .ref mo_afirstHas, .ref mo_asecondHas, .ref mo_alay, .ref mo_ashows, .ref mo_aimages, .ref mo_aisMade, .int mo_imageAt, .int mo_goesBack])), (mo_acane, hcI k 4 mo_rcane), (mo_ais, hcI k 8 mo_ris), (mo_astrandOf, hcI k 8 mo_rstrandOf), (mo_aweight, hcI k 8 mo_rweight), (mo_aheight, hcI k 8 mo_rheight), (mo_achairOf, hcI k 8 mo_rchairOf), (mo_ascalar, hcI k 8 (sc8 mo_s0 mo_s1 mo_s2 mo_s3 mo_s4 mo_s5 mo_s6 mo_s7))]) A) A) (List.toArray [.ref mo, .int x1, .int x2]) s 0 0 A) (F0 m 51 ls []) := by
          intro fu
          induction fu with
          | zero =>
            intro L4_18 L5_18 L7_18 bL7_18 hm
            have bL7_18_l := bL7_18.1
            have bL7_18_u := bL7_18.2
            exact absurd hm (by omega)
          | succ fu ih18 =>
            intro L4_18 L5_18 L7_18 bL7_18 hm H locs ls hP hD hS hl
            have bL7_18_l := bL7_18.1
            have bL7_18_u := bL7_18.2
            refine lv_iload hx hb dX9_pence_51 (lv_at hl 0 rfl) ?_
            refine lv_aload_n hx hb dX9_pence_53 rfl (lv_at hl 5 rfl) ?_
            refine va_get (D := D) (ci := 7) (v := .ref mo_ascalar) (C := RX9) (T := TX9) (N := 53) hx hb hts in9 hown hG.1 hP 1 rfl rfl 1 (by decide) (hts (.fieldLink RX9 9 "ChairCaneModel" "scalar" "[I") (by decide +kernel)) (fun _ h9 => h9) rfl dX9_pence_54 ?_
            refine lv_iconst (v := 3) hx hb dX9_pence_57 (by decide) ?_
            refine va_iald hx hb hG.1 hP 7 0 rfl rfl (by unfold vp_in; decide) dX9_pence_58 ?_
            refine hc_is (z := mo_s3) (by rw [show Int32.toNatClampNeg 3 = 3 from by decide]; rfl) ?_
            refine lv_icmp_ge (tgt := 124) hx hb dX9_pence_59 (by decide) (fun c19 => ?_) (fun c19 => ?_)
            · have fc19 := cx_ge_t (a := L7_18.toInt) (b := mo_s3.toInt) rfl rfl c19
              refine lv_iload hx hb dX9_pence_124 (lv_at hl 1 rfl) ?_
              refine lv_iload_n hx hb dX9_pence_126 rfl (lv_at hl 4 rfl) ?_
              refine lv_idiv hx hb dX9_pence_127 (cd_ne_t (a := r13.toInt) (b := 0) rfl (by decide) (by omega)) ?_
              refine lv_topi (fun z20 ez20 => ?_)
              refine lv_iload hx hb dX9_pence_128 (lv_at hl 2 rfl) ?_
              refine lv_iload hx hb dX9_pence_130 (lv_at hl 3 rfl) ?_
              refine lv_icmp_ge (tgt := 139) hx hb dX9_pence_132 (by decide) (fun c21 => ?_) (fun c21 => ?_)
              · have fc21 := cx_ge_t (a := L5_18.toInt) (b := L4_18.toInt) rfl rfl c21
                refine lv_iconst (v := 0) hx hb dX9_pence_139 (by decide) ?_
                refine lv_iadd hx hb dX9_pence_140 ?_
                refine lv_topi (fun z22 ez22 => ?_)
                exact hc_end hx hb hr hlocks () trivial (hP.sub [1, 2, 3, 4, 5, 0, 6, 7] rfl) (hD.sub [1, 2, 3, 4, 5, 0, 6, 7] (by decide) rfl) hS dX9_pence_141
              · have fc21 := cx_ge_f (a := L5_18.toInt) (b := L4_18.toInt) rfl rfl c21
                refine lv_iconst (v := 1) hx hb dX9_pence_135 (by decide) ?_
                refine lv_goto (tgt := 140) hx hb dX9_pence_136 (by decide) ?_
                refine lv_iadd hx hb dX9_pence_140 ?_
                refine lv_topi (fun z23 ez23 => ?_)
                exact hc_end hx hb hr hlocks () trivial (hP.sub [1, 2, 3, 4, 5, 0, 6, 7] rfl) (hD.sub [1, 2, 3, 4, 5, 0, 6, 7] (by decide) rfl) hS dX9_pence_141
            · have fc19 := cx_ge_f (a := L7_18.toInt) (b := mo_s3.toInt) rfl rfl c19
              refine lv_iload_n hx hb dX9_pence_62 rfl (lv_at hl 6 rfl) ?_
              refine lv_aload_n hx hb dX9_pence_63 rfl (lv_at hl 5 rfl) ?_
              refine lv_iload hx hb dX9_pence_64 (lv_at hl 0 rfl) ?_
              refine hc_Vi (As := [.int L7_18]) (rest := [.int x1]) (n := 1) (wr := [(mo_aheight, hcI k 8 mo_rheight)]) hx hb hml hown hts hG hA hP hD hS hl.1 [1, 2, 3, 4, 5, 6, 7] [0] (i_X9_givesNow l D k _ L7_18 mo mo_thrown mo_ascalar mo_acane mo_ais mo_astrandOf mo_aweight mo_aheight mo_achairOf mo_anoteMinute mo_anoteWho mo_anoteIs mo_atoldCane mo_anewScalar mo_anewCane mo_anewHeight mo_anewStrand mo_anewChair mo_anewWeight mo_taped mo_p mo_fault mo_slot mo_rules mo_entries mo_deep mo_counted mo_opened mo_words mo_atape mo_asort mo_anumber mo_aclauses mo_asumAt mo_atestAt mo_aendAt mo_aopen mo_aasked mo_astack mo_amust mo_apast mo_apastOf mo_pastMany mo_pastAt mo_takesBack mo_acanRise mo_afirstHas mo_asecondHas mo_alay mo_ashows mo_aimages mo_aisMade mo_imageAt mo_goesBack mo_rcane mo_ris mo_rstrandOf mo_rweight mo_rchairOf mo_s0 mo_s1 mo_s2 mo_s3 mo_s4 mo_s5 mo_s6 mo_s7 ⟨by omega, by omega⟩ ⟨by omega, by omega⟩ ⟨by omega, by omega⟩ ⟨by omega, by omega⟩ ⟨by omega, by omega⟩ ⟨by omega, by omega⟩ ⟨by omega, by omega⟩ ⟨by omega, by omega⟩ ⟨by omega, by omega⟩ ⟨by omega, by omega⟩ ⟨by omega, by omega⟩ ⟨by omega, by omega⟩ ⟨by omega, by omega⟩ ⟨by omega, by omega⟩ ⟨by omega, by omega⟩ h_mo_rweight h_mo_rchairOf ⟨by omega, by omega⟩ ⟨by omega, by omega⟩ ⟨by omega, by omega⟩ ⟨by omega, by omega⟩ ⟨by omega, by omega⟩ (by omega) hh_HallOk) (ci := 7) (q0 := 1) rfl rfl gX9_pence_X9_givesNow rfl ⟨rfl, rfl, Nat.le_of_ble_eq_true rfl, Nat.le_of_ble_eq_true rfl⟩ (by decide +kernel) rfl rfl ⟨by decide, by decide, by decide⟩ ⟨rfl, rfl, Nat.le_of_ble_eq_true rfl, Nat.le_of_ble_eq_true rfl, Nat.le_of_ble_eq_true rfl⟩ dX9_pence_66 (fun r25 u24 H locs hw hP hD hS => ?_)
              have hP : va_P D vwCl ([(mo_aheight, hcI k 8 mo_rheight), (mo, .inr (7, [.int mo_thrown, .ref mo_ascalar, .ref mo_acane, .ref mo_ais, .ref mo_astrandOf, .ref mo_aweight, .ref mo_aheight, .ref mo_achairOf, .ref mo_anoteMinute, .ref mo_anoteWho, .ref mo_anoteIs, .ref mo_atoldCane, .ref mo_anewScalar, .ref mo_anewCane, .ref mo_anewHeight, .ref mo_anewStrand, .ref mo_anewChair, .ref mo_anewWeight, .int mo_taped, .int mo_p, .int mo_fault, .int mo_slot, .int mo_rules, .int mo_entries, .int mo_deep, .int mo_counted, .int mo_opened, .int mo_words, .ref mo_atape, .ref mo_asort, .ref mo_anumber, .ref mo_aclauses, .ref mo_asumAt, .ref mo_atestAt, .ref mo_aendAt, .ref mo_aopen, .ref mo_aasked, .ref mo_astack, .ref mo_amust, .ref mo_apast, .ref mo_apastOf, .int mo_pastMany, .int mo_pastAt, .int mo_takesBack, .ref mo_acanRise, .ref mo_afirstHas, .ref mo_asecondHas, .ref mo_alay, .ref mo_ashows, .ref mo_aimages, .ref mo_aisMade, .int mo_imageAt, .int mo_goesBack])), (mo_acane, hcI k 4 mo_rcane), (mo_ais, hcI k 8 mo_ris), (mo_astrandOf, hcI k 8 mo_rstrandOf), (mo_aweight, hcI k 8 mo_rweight), (mo_achairOf, hcI k 8 mo_rchairOf), (mo_ascalar, hcI k 8 (sc8 mo_s0 mo_s1 mo_s2 mo_s3 mo_s4 mo_s5 mo_s6 mo_s7))]) H := hP
              have hD : va_D A ([(mo_aheight, hcI k 8 mo_rheight), (mo, .inr (7, [.int mo_thrown, .ref mo_ascalar, .ref mo_acane, .ref mo_ais, .ref mo_astrandOf, .ref mo_aweight, .ref mo_aheight, .ref mo_achairOf, .ref mo_anoteMinute, .ref mo_anoteWho, .ref mo_anoteIs, .ref mo_atoldCane, .ref mo_anewScalar, .ref mo_anewCane, .ref mo_anewHeight, .ref mo_anewStrand, .ref mo_anewChair, .ref mo_anewWeight, .int mo_taped, .int mo_p, .int mo_fault, .int mo_slot, .int mo_rules, .int mo_entries, .int mo_deep, .int mo_counted, .int mo_opened, .int mo_words, .ref mo_atape, .ref mo_asort, .ref mo_anumber, .ref mo_aclauses, .ref mo_asumAt, .ref mo_atestAt, .ref mo_aendAt, .ref mo_aopen, .ref mo_aasked, .ref mo_astack, .ref mo_amust, .ref mo_apast, .ref mo_apastOf, .int mo_pastMany, .int mo_pastAt, .int mo_takesBack, .ref mo_acanRise, .ref mo_afirstHas, .ref mo_asecondHas, .ref mo_alay, .ref mo_ashows, .ref mo_aimages, .ref mo_aisMade, .int mo_imageAt, .int mo_goesBack])), (mo_acane, hcI k 4 mo_rcane), (mo_ais, hcI k 8 mo_ris), (mo_astrandOf, hcI k 8 mo_rstrandOf), (mo_aweight, hcI k 8 mo_rweight), (mo_achairOf, hcI k 8 mo_rchairOf), (mo_ascalar, hcI k 8 (sc8 mo_s0 mo_s1 mo_s2 mo_s3 mo_s4 mo_s5 mo_s6 mo_s7))]) := hD
              refine lv_imul hx hb dX9_pence_69 ?_
              refine lv_topi (fun z26 ez26 => ?_)
              refine lv_istore (lv' := [(8, .int z26), (7, .int L7_18), (6, .int z17), (5, .int L5_18), (4, .int L4_18), (3, .int r13), (0, .ref mo), (1, .int x1), (2, .int x2)]) hx hb dX9_pence_70 hl (by decide) rfl (fun ls hl => ?_)
              refine lv_iload hx hb dX9_pence_72 (lv_at hl 4 rfl) ?_
              refine lv_iload hx hb dX9_pence_74 (lv_at hl 0 rfl) ?_
              refine lv_iload_n hx hb dX9_pence_76 rfl (lv_at hl 5 rfl) ?_
              refine lv_idiv hx hb dX9_pence_77 (cd_ne_t (a := r13.toInt) (b := 0) rfl (by decide) (by omega)) ?_
              refine lv_topi (fun z27 ez27 => ?_)
              refine lv_isub hx hb dX9_pence_78 ?_
              refine lv_topi (fun z28 ez28 => ?_)
              refine lv_istore (lv' := [(4, .int z28), (8, .int z26), (7, .int L7_18), (6, .int z17), (5, .int L5_18), (3, .int r13), (0, .ref mo), (1, .int x1), (2, .int x2)]) hx hb dX9_pence_79 hl (by decide) rfl (fun ls hl => ?_)
              refine lv_iload hx hb dX9_pence_81 (lv_at hl 1 rfl) ?_
              refine lv_iload_n hx hb dX9_pence_83 rfl (lv_at hl 5 rfl) ?_
              refine lv_irem hx hb dX9_pence_84 (cd_ne_t (a := r13.toInt) (b := 0) rfl (by decide) (by omega)) ?_
              refine lv_topi (fun z29 ez29 => ?_)
              refine lv_iload hx hb dX9_pence_85 (lv_at hl 3 rfl) ?_
              refine lv_iload_n hx hb dX9_pence_87 rfl (lv_at hl 5 rfl) ?_
              refine lv_irem hx hb dX9_pence_88 (cd_ne_t (a := r13.toInt) (b := 0) rfl (by decide) (by omega)) ?_
              refine lv_topi (fun z30 ez30 => ?_)
              refine lv_isub hx hb dX9_pence_89 ?_
              refine lv_topi (fun z31 ez31 => ?_)
              refine lv_istore (lv' := [(9, .int z31), (4, .int z28), (8, .int z26), (7, .int L7_18), (6, .int z17), (5, .int L5_18), (3, .int r13), (0, .ref mo), (1, .int x1), (2, .int x2)]) hx hb dX9_pence_90 hl (by decide) rfl (fun ls hl => ?_)
              refine lv_iload hx hb dX9_pence_92 (lv_at hl 5 rfl) ?_
              refine lv_iload hx hb dX9_pence_94 (lv_at hl 0 rfl) ?_
              refine lv_if_gt (tgt := 110) hx hb dX9_pence_96 (by decide) (fun c32 => ?_) (fun c32 => ?_)
              · have fc32 := cx_gt_t (a := z31.toInt) (b := 0) rfl (by decide) c32
                refine lv_iconst (v := 1) hx hb dX9_pence_110 (by decide) ?_
                refine lv_goto (tgt := 115) hx hb dX9_pence_111 (by decide) ?_
                refine lv_iadd hx hb dX9_pence_115 ?_
                refine lv_topi (fun z33 ez33 => ?_)
                refine lv_istore (lv' := [(5, .int z33), (9, .int z31), (4, .int z28), (8, .int z26), (7, .int L7_18), (6, .int z17), (3, .int r13), (0, .ref mo), (1, .int x1), (2, .int x2)]) hx hb dX9_pence_116 hl (by decide) rfl (fun ls hl => ?_)
                obtain ⟨z34, ez34⟩ : ∃ z : Int32, z = L7_18 + 1 := ⟨_, rfl⟩
                have tz34 : z34.toInt = L7_18.toInt + (1) := ai_add rfl (by decide) ez34 (by omega) (by omega)
                refine lv_iinc (v := z34) (lv' := [(7, .int z34), (5, .int z33), (9, .int z31), (4, .int z28), (8, .int z26), (6, .int z17), (3, .int r13), (0, .ref mo), (1, .int x1), (2, .int x2)]) hx hb dX9_pence_118 hl (k := 4) rfl (by rw [ez34]; rfl) (by decide) rfl (fun ls hl => ?_)
                refine lv_goto (tgt := 51) hx hb dX9_pence_121 (by decide) ?_
                exact ih18 z28 z33 z34 ⟨by omega, by omega⟩ (by omega) _ _ _ hP hD hS (lv_sub hl [0, 5, 1, 3, 6, 7, 8, 9] rfl)
              · have fc32 := cx_gt_f (a := z31.toInt) (b := 0) rfl (by decide) c32
                refine lv_iload hx hb dX9_pence_99 (lv_at hl 0 rfl) ?_
                refine lv_if_ne (tgt := 114) hx hb dX9_pence_101 (by decide) (fun c35 => ?_) (fun c35 => ?_)
                · have fc35 := cx_ne_t (a := z31.toInt) (b := 0) rfl (by decide) c35
                  refine lv_iconst (v := 0) hx hb dX9_pence_114 (by decide) ?_
                  refine lv_iadd hx hb dX9_pence_115 ?_
                  refine lv_topi (fun z36 ez36 => ?_)
                  refine lv_istore (lv' := [(5, .int z36), (9, .int z31), (4, .int z28), (8, .int z26), (7, .int L7_18), (6, .int z17), (3, .int r13), (0, .ref mo), (1, .int x1), (2, .int x2)]) hx hb dX9_pence_116 hl (by decide) rfl (fun ls hl => ?_)
                  obtain ⟨z37, ez37⟩ : ∃ z : Int32, z = L7_18 + 1 := ⟨_, rfl⟩
                  have tz37 : z37.toInt = L7_18.toInt + (1) := ai_add rfl (by decide) ez37 (by omega) (by omega)
                  refine lv_iinc (v := z37) (lv' := [(7, .int z37), (5, .int z36), (9, .int z31), (4, .int z28), (8, .int z26), (6, .int z17), (3, .int r13), (0, .ref mo), (1, .int x1), (2, .int x2)]) hx hb dX9_pence_118 hl (k := 4) rfl (by rw [ez37]; rfl) (by decide) rfl (fun ls hl => ?_)
                  refine lv_goto (tgt := 51) hx hb dX9_pence_121 (by decide) ?_
                  exact ih18 z28 z36 z37 ⟨by omega, by omega⟩ (by omega) _ _ _ hP hD hS (lv_sub hl [0, 5, 1, 3, 6, 7, 8, 9] rfl)
                · have fc35 := cx_ne_f (a := z31.toInt) (b := 0) rfl (by decide) c35
                  refine lv_iload hx hb dX9_pence_104 (lv_at hl 3 rfl) ?_
                  refine lv_iload_n hx hb dX9_pence_106 rfl (lv_at hl 9 rfl) ?_
                  refine lv_icmp_ge (tgt := 114) hx hb dX9_pence_107 (by decide) (fun c38 => ?_) (fun c38 => ?_)
                  · have fc38 := cx_ge_t (a := L7_18.toInt) (b := x2.toInt) rfl rfl c38
                    refine lv_iconst (v := 0) hx hb dX9_pence_114 (by decide) ?_
                    refine lv_iadd hx hb dX9_pence_115 ?_
                    refine lv_topi (fun z39 ez39 => ?_)
                    refine lv_istore (lv' := [(5, .int z39), (9, .int z31), (4, .int z28), (8, .int z26), (7, .int L7_18), (6, .int z17), (3, .int r13), (0, .ref mo), (1, .int x1), (2, .int x2)]) hx hb dX9_pence_116 hl (by decide) rfl (fun ls hl => ?_)
                    obtain ⟨z40, ez40⟩ : ∃ z : Int32, z = L7_18 + 1 := ⟨_, rfl⟩
                    have tz40 : z40.toInt = L7_18.toInt + (1) := ai_add rfl (by decide) ez40 (by omega) (by omega)
                    refine lv_iinc (v := z40) (lv' := [(7, .int z40), (5, .int z39), (9, .int z31), (4, .int z28), (8, .int z26), (6, .int z17), (3, .int r13), (0, .ref mo), (1, .int x1), (2, .int x2)]) hx hb dX9_pence_118 hl (k := 4) rfl (by rw [ez40]; rfl) (by decide) rfl (fun ls hl => ?_)
                    refine lv_goto (tgt := 51) hx hb dX9_pence_121 (by decide) ?_
                    exact ih18 z28 z39 z40 ⟨by omega, by omega⟩ (by omega) _ _ _ hP hD hS (lv_sub hl [0, 5, 1, 3, 6, 7, 8, 9] rfl)
                  · have fc38 := cx_ge_f (a := L7_18.toInt) (b := x2.toInt) rfl rfl c38
                    refine lv_iconst (v := 1) hx hb dX9_pence_110 (by decide) ?_
                    refine lv_goto (tgt := 115) hx hb dX9_pence_111 (by decide) ?_
                    refine lv_iadd hx hb dX9_pence_115 ?_
                    refine lv_topi (fun z41 ez41 => ?_)
                    refine lv_istore (lv' := [(5, .int z41), (9, .int z31), (4, .int z28), (8, .int z26), (7, .int L7_18), (6, .int z17), (3, .int r13), (0, .ref mo), (1, .int x1), (2, .int x2)]) hx hb dX9_pence_116 hl (by decide) rfl (fun ls hl => ?_)
                    obtain ⟨z42, ez42⟩ : ∃ z : Int32, z = L7_18 + 1 := ⟨_, rfl⟩
                    have tz42 : z42.toInt = L7_18.toInt + (1) := ai_add rfl (by decide) ez42 (by omega) (by omega)
                    refine lv_iinc (v := z42) (lv' := [(7, .int z42), (5, .int z41), (9, .int z31), (4, .int z28), (8, .int z26), (6, .int z17), (3, .int r13), (0, .ref mo), (1, .int x1), (2, .int x2)]) hx hb dX9_pence_118 hl (k := 4) rfl (by rw [ez42]; rfl) (by decide) rfl (fun ls hl => ?_)
                    refine lv_goto (tgt := 51) hx hb dX9_pence_121 (by decide) ?_
                    exact ih18 z28 z41 z42 ⟨by omega, by omega⟩ (by omega) _ _ _ hP hD hS (lv_sub hl [0, 5, 1, 3, 6, 7, 8, 9] rfl)
        exact loop18 100 x1 0 0 (iv_lit (by decide) (by decide)) (by have q1 : (0 : Int32).toInt = 0 := (by decide); have q2 : (0 : Int32).toInt = 0 := (by decide); omega) _ _ _ hP hD hS hl
      · have fc14 := cx_ne_f (a := r13.toInt) (b := 0) rfl (by decide) c14
        refine lv_iconst (v := 0) hx hb dX9_pence_31 (by decide) ?_
        exact hc_end hx hb hr hlocks () trivial hP hD hS dX9_pence_32
    · have fc11 := cx_ne_f (a := r9.toInt) (b := 0) rfl (by decide) c11
      refine lv_iconst (v := (-1)) hx hb dX9_pence_20 (by decide) ?_
      exact hc_end hx hb hr hlocks () trivial (hP.sub [6, 0, 1, 2, 3, 4, 5, 7] rfl) (hD.sub [6, 0, 1, 2, 3, 4, 5, 7] (by decide) rfl) hS dX9_pence_21
set_option maxHeartbeats 4000000 in
set_option maxRecDepth 100000 in
theorem i_X9_earns (l : Launch) (D : va_G) (k : Nat → ClassId) (sz : Nat) (x2 : Int32) (mo : Nat) (mo_thrown : Int32) (mo_ascalar : Nat) (mo_acane : Nat) (mo_ais : Nat) (mo_astrandOf : Nat) (mo_aweight : Nat) (mo_aheight : Nat) (mo_achairOf : Nat) (mo_anoteMinute : Nat) (mo_anoteWho : Nat) (mo_anoteIs : Nat) (mo_atoldCane : Nat) (mo_anewScalar : Nat) (mo_anewCane : Nat) (mo_anewHeight : Nat) (mo_anewStrand : Nat) (mo_anewChair : Nat) (mo_anewWeight : Nat) (mo_taped : Int32) (mo_p : Int32) (mo_fault : Int32) (mo_slot : Int32) (mo_rules : Int32) (mo_entries : Int32) (mo_deep : Int32) (mo_counted : Int32) (mo_opened : Int32) (mo_words : Int32) (mo_atape : Nat) (mo_asort : Nat) (mo_anumber : Nat) (mo_aclauses : Nat) (mo_asumAt : Nat) (mo_atestAt : Nat) (mo_aendAt : Nat) (mo_aopen : Nat) (mo_aasked : Nat) (mo_astack : Nat) (mo_amust : Nat) (mo_apast : Nat) (mo_apastOf : Nat) (mo_pastMany : Int32) (mo_pastAt : Int32) (mo_takesBack : Int32) (mo_acanRise : Nat) (mo_afirstHas : Nat) (mo_asecondHas : Nat) (mo_alay : Nat) (mo_ashows : Nat) (mo_aimages : Nat) (mo_aisMade : Nat) (mo_imageAt : Int32) (mo_goesBack : Int32) (mo_rcane : Nat → Int32) (mo_ris : Nat → Int32) (mo_rstrandOf : Nat → Int32) (mo_rweight : Nat → Int32) (mo_rheight : Nat → Int32) (mo_rchairOf : Nat → Int32) (mo_s0 : Int32) (mo_s1 : Int32) (mo_s2 : Int32) (mo_s3 : Int32) (mo_s4 : Int32) (mo_s5 : Int32) (mo_s6 : Int32) (mo_s7 : Int32) (h_x2 : iv (0) (7) x2) (h_mo_taped : iv (0) (400) mo_taped) (h_mo_p : iv (0) (402) mo_p) (h_mo_fault : iv (0) (4000) mo_fault) (h_mo_slot : iv (0) (5) mo_slot) (h_mo_rules : iv (0) (6) mo_rules) (h_mo_entries : iv (0) (300) mo_entries) (h_mo_counted : iv (0) (70) mo_counted) (h_mo_opened : iv (0) (402) mo_opened) (h_mo_words : iv (11) (11) mo_words) (h_mo_pastMany : iv (0) (20) mo_pastMany) (h_mo_pastAt : iv (0) (260) mo_pastAt) (h_mo_takesBack : iv (0) (1) mo_takesBack) (h_mo_imageAt : iv (0) (2000) mo_imageAt) (h_mo_goesBack : iv (0) (1) mo_goesBack) (h_mo_rweight : rowIn (0) (20) mo_rweight) (h_mo_rchairOf : rowIn (0) (7) mo_rchairOf) (h_mo_s1 : iv (0) (4) mo_s1) (h_mo_s2 : iv (0) (8) mo_s2) (h_mo_s3 : iv (0) (8) mo_s3) (h_mo_s5 : iv (0) (10) mo_s5) (h_mo_s7 : iv (-1) (5) mo_s7) (hr_q : x2.toInt < mo_s3.toInt) (hh_HallOk : HallOk mo_s2 mo_s3 mo_rstrandOf mo_rchairOf mo_rweight) : CtI l yX9_earns wsX9_earns (rmK 5 0 0) [.ref mo, .int x2] D k sz ([(mo, .inr (7, [.int mo_thrown, .ref mo_ascalar, .ref mo_acane, .ref mo_ais, .ref mo_astrandOf, .ref mo_aweight, .ref mo_aheight, .ref mo_achairOf, .ref mo_anoteMinute, .ref mo_anoteWho, .ref mo_anoteIs, .ref mo_atoldCane, .ref mo_anewScalar, .ref mo_anewCane, .ref mo_anewHeight, .ref mo_anewStrand, .ref mo_anewChair, .ref mo_anewWeight, .int mo_taped, .int mo_p, .int mo_fault, .int mo_slot, .int mo_rules, .int mo_entries, .int mo_deep, .int mo_counted, .int mo_opened, .int mo_words, .ref mo_atape, .ref mo_asort, .ref mo_anumber, .ref mo_aclauses, .ref mo_asumAt, .ref mo_atestAt, .ref mo_aendAt, .ref mo_aopen, .ref mo_aasked, .ref mo_astack, .ref mo_amust, .ref mo_apast, .ref mo_apastOf, .int mo_pastMany, .int mo_pastAt, .int mo_takesBack, .ref mo_acanRise, .ref mo_afirstHas, .ref mo_asecondHas, .ref mo_alay, .ref mo_ashows, .ref mo_aimages, .ref mo_aisMade, .int mo_imageAt, .int mo_goesBack])), (mo_acane, hcI k 4 mo_rcane), (mo_ais, hcI k 8 mo_ris), (mo_astrandOf, hcI k 8 mo_rstrandOf), (mo_aweight, hcI k 8 mo_rweight), (mo_aheight, hcI k 8 mo_rheight), (mo_achairOf, hcI k 8 mo_rchairOf), (mo_ascalar, hcI k 8 (sc8 mo_s0 mo_s1 mo_s2 mo_s3 mo_s4 mo_s5 mo_s6 mo_s7))]) (fun (r : Int32) (u : Unit) => True) (fun u : Unit => [(mo, .inr (7, [.int mo_thrown, .ref mo_ascalar, .ref mo_acane, .ref mo_ais, .ref mo_astrandOf, .ref mo_aweight, .ref mo_aheight, .ref mo_achairOf, .ref mo_anoteMinute, .ref mo_anoteWho, .ref mo_anoteIs, .ref mo_atoldCane, .ref mo_anewScalar, .ref mo_anewCane, .ref mo_anewHeight, .ref mo_anewStrand, .ref mo_anewChair, .ref mo_anewWeight, .int mo_taped, .int mo_p, .int mo_fault, .int mo_slot, .int mo_rules, .int mo_entries, .int mo_deep, .int mo_counted, .int mo_opened, .int mo_words, .ref mo_atape, .ref mo_asort, .ref mo_anumber, .ref mo_aclauses, .ref mo_asumAt, .ref mo_atestAt, .ref mo_aendAt, .ref mo_aopen, .ref mo_aasked, .ref mo_astack, .ref mo_amust, .ref mo_apast, .ref mo_apastOf, .int mo_pastMany, .int mo_pastAt, .int mo_takesBack, .ref mo_acanRise, .ref mo_afirstHas, .ref mo_asecondHas, .ref mo_alay, .ref mo_ashows, .ref mo_aimages, .ref mo_aisMade, .int mo_imageAt, .int mo_goesBack])), (mo_acane, hcI k 4 mo_rcane), (mo_ais, hcI k 8 mo_ris), (mo_astrandOf, hcI k 8 mo_rstrandOf), (mo_aweight, hcI k 8 mo_rweight), (mo_aheight, hcI k 8 mo_rheight), (mo_achairOf, hcI k 8 mo_rchairOf), (mo_ascalar, hcI k 8 (sc8 mo_s0 mo_s1 mo_s2 mo_s3 mo_s4 mo_s5 mo_s6 mo_s7))]) 0 0 := by
  have h_x2_l := h_x2.1
  have h_x2_u := h_x2.2
  have h_mo_taped_l := h_mo_taped.1
  have h_mo_taped_u := h_mo_taped.2
  have h_mo_p_l := h_mo_p.1
  have h_mo_p_u := h_mo_p.2
  have h_mo_fault_l := h_mo_fault.1
  have h_mo_fault_u := h_mo_fault.2
  have h_mo_slot_l := h_mo_slot.1
  have h_mo_slot_u := h_mo_slot.2
  have h_mo_rules_l := h_mo_rules.1
  have h_mo_rules_u := h_mo_rules.2
  have h_mo_entries_l := h_mo_entries.1
  have h_mo_entries_u := h_mo_entries.2
  have h_mo_counted_l := h_mo_counted.1
  have h_mo_counted_u := h_mo_counted.2
  have h_mo_opened_l := h_mo_opened.1
  have h_mo_opened_u := h_mo_opened.2
  have h_mo_words_l := h_mo_words.1
  have h_mo_words_u := h_mo_words.2
  have h_mo_pastMany_l := h_mo_pastMany.1
  have h_mo_pastMany_u := h_mo_pastMany.2
  have h_mo_pastAt_l := h_mo_pastAt.1
  have h_mo_pastAt_u := h_mo_pastAt.2
  have h_mo_takesBack_l := h_mo_takesBack.1
  have h_mo_takesBack_u := h_mo_takesBack.2
  have h_mo_imageAt_l := h_mo_imageAt.1
  have h_mo_imageAt_u := h_mo_imageAt.2
  have h_mo_goesBack_l := h_mo_goesBack.1
  have h_mo_goesBack_u := h_mo_goesBack.2
  have h_mo_s1_l := h_mo_s1.1
  have h_mo_s1_u := h_mo_s1.2
  have h_mo_s2_l := h_mo_s2.1
  have h_mo_s2_u := h_mo_s2.2
  have h_mo_s3_l := h_mo_s3.1
  have h_mo_s3_u := h_mo_s3.2
  have h_mo_s5_l := h_mo_s5.1
  have h_mo_s5_u := h_mo_s5.2
  have h_mo_s7_l := h_mo_s7.1
  have h_mo_s7_u := h_mo_s7.2
  refine CtI.mk (cc := cX9_earns) (maxL := 2) (ret := (some .int)) (by decide) rfl (Nat.le_of_ble_eq_true rfl) ?_
  intro p e s m below meth c A ls E hP hD hS hl
  obtain ⟨hx, hb, hr, hml, hown, hts, hlocks, hin, hG, hA⟩ := E
  have hown : s.vm.findClass RX9 = some m.cls := hown
  have in9 : ∀ w ∈ u_ws RX9 TX9 53, w ∈ wsX9_earns := fun _ h => List.mem_cons_of_mem _ (List.mem_append_right _ h)
  have hl : lv_has ls 2 [(0, .ref mo), (1, .int x2)] := hl
  refine lv_aload_n hx hb dX9_earns_0 rfl (lv_at hl 0 rfl) ?_
  refine va_get (D := D) (ci := 7) (v := .ref mo_ais) (C := RX9) (T := TX9) (N := 53) hx hb hts in9 hown hG.1 hP 0 rfl rfl 3 (by decide) (hts (.fieldLink RX9 16 "ChairCaneModel" "is" "[I") (by decide +kernel)) (fun _ h9 => h9) rfl dX9_earns_1 ?_
  refine lv_iload_n hx hb dX9_earns_4 rfl (lv_at hl 1 rfl) ?_
  refine va_iald hx hb hG.1 hP 2 0 rfl rfl (vp_in_iff.mpr ⟨by omega, by omega⟩) dX9_earns_5 ?_
  refine lv_topi (fun z1 ez1 => ?_)
  refine lv_iconst (v := 1) hx hb dX9_earns_6 (by decide) ?_
  refine lv_icmp_ne (tgt := 23) hx hb dX9_earns_7 (by decide) (fun c2 => ?_) (fun c2 => ?_)
  · have fc2 := cx_ne_t (a := z1.toInt) (b := 1) rfl (by decide) c2
    refine lv_iconst (v := 0) hx hb dX9_earns_23 (by decide) ?_
    exact hc_end hx hb hr hlocks () trivial hP hD hS dX9_earns_24
  · have fc2 := cx_ne_f (a := z1.toInt) (b := 1) rfl (by decide) c2
    refine lv_iconst (v := 1) hx hb dX9_earns_10 (by decide) ?_
    refine lv_aload_n hx hb dX9_earns_11 rfl (lv_at hl 0 rfl) ?_
    refine lv_iload_n hx hb dX9_earns_12 rfl (lv_at hl 1 rfl) ?_
    refine hc_Vi (As := [.int x2]) (rest := [.int 1]) (n := 1) (wr := [(mo_aheight, hcI k 8 mo_rheight)]) hx hb hml hown hts hG hA hP hD hS hl.1 [0, 1, 2, 3, 4, 6, 7] [5] (i_X9_givesNow l D k _ x2 mo mo_thrown mo_ascalar mo_acane mo_ais mo_astrandOf mo_aweight mo_aheight mo_achairOf mo_anoteMinute mo_anoteWho mo_anoteIs mo_atoldCane mo_anewScalar mo_anewCane mo_anewHeight mo_anewStrand mo_anewChair mo_anewWeight mo_taped mo_p mo_fault mo_slot mo_rules mo_entries mo_deep mo_counted mo_opened mo_words mo_atape mo_asort mo_anumber mo_aclauses mo_asumAt mo_atestAt mo_aendAt mo_aopen mo_aasked mo_astack mo_amust mo_apast mo_apastOf mo_pastMany mo_pastAt mo_takesBack mo_acanRise mo_afirstHas mo_asecondHas mo_alay mo_ashows mo_aimages mo_aisMade mo_imageAt mo_goesBack mo_rcane mo_ris mo_rstrandOf mo_rweight mo_rchairOf mo_s0 mo_s1 mo_s2 mo_s3 mo_s4 mo_s5 mo_s6 mo_s7 ⟨by omega, by omega⟩ ⟨by omega, by omega⟩ ⟨by omega, by omega⟩ ⟨by omega, by omega⟩ ⟨by omega, by omega⟩ ⟨by omega, by omega⟩ ⟨by omega, by omega⟩ ⟨by omega, by omega⟩ ⟨by omega, by omega⟩ ⟨by omega, by omega⟩ ⟨by omega, by omega⟩ ⟨by omega, by omega⟩ ⟨by omega, by omega⟩ ⟨by omega, by omega⟩ ⟨by omega, by omega⟩ h_mo_rweight h_mo_rchairOf ⟨by omega, by omega⟩ ⟨by omega, by omega⟩ ⟨by omega, by omega⟩ ⟨by omega, by omega⟩ ⟨by omega, by omega⟩ (by omega) hh_HallOk) (ci := 7) (q0 := 0) rfl rfl gX9_earns_X9_givesNow rfl ⟨rfl, rfl, Nat.le_of_ble_eq_true rfl, Nat.le_of_ble_eq_true rfl⟩ (by decide +kernel) rfl rfl ⟨by decide, by decide, by decide⟩ ⟨rfl, rfl, Nat.le_of_ble_eq_true rfl, Nat.le_of_ble_eq_true rfl, Nat.le_of_ble_eq_true rfl⟩ dX9_earns_13 (fun r4 u3 H locs hw hP hD hS => ?_)
    have hP : va_P D vwCl ([(mo_aheight, hcI k 8 mo_rheight), (mo, .inr (7, [.int mo_thrown, .ref mo_ascalar, .ref mo_acane, .ref mo_ais, .ref mo_astrandOf, .ref mo_aweight, .ref mo_aheight, .ref mo_achairOf, .ref mo_anoteMinute, .ref mo_anoteWho, .ref mo_anoteIs, .ref mo_atoldCane, .ref mo_anewScalar, .ref mo_anewCane, .ref mo_anewHeight, .ref mo_anewStrand, .ref mo_anewChair, .ref mo_anewWeight, .int mo_taped, .int mo_p, .int mo_fault, .int mo_slot, .int mo_rules, .int mo_entries, .int mo_deep, .int mo_counted, .int mo_opened, .int mo_words, .ref mo_atape, .ref mo_asort, .ref mo_anumber, .ref mo_aclauses, .ref mo_asumAt, .ref mo_atestAt, .ref mo_aendAt, .ref mo_aopen, .ref mo_aasked, .ref mo_astack, .ref mo_amust, .ref mo_apast, .ref mo_apastOf, .int mo_pastMany, .int mo_pastAt, .int mo_takesBack, .ref mo_acanRise, .ref mo_afirstHas, .ref mo_asecondHas, .ref mo_alay, .ref mo_ashows, .ref mo_aimages, .ref mo_aisMade, .int mo_imageAt, .int mo_goesBack])), (mo_acane, hcI k 4 mo_rcane), (mo_ais, hcI k 8 mo_ris), (mo_astrandOf, hcI k 8 mo_rstrandOf), (mo_aweight, hcI k 8 mo_rweight), (mo_achairOf, hcI k 8 mo_rchairOf), (mo_ascalar, hcI k 8 (sc8 mo_s0 mo_s1 mo_s2 mo_s3 mo_s4 mo_s5 mo_s6 mo_s7))]) H := hP
    have hD : va_D A ([(mo_aheight, hcI k 8 mo_rheight), (mo, .inr (7, [.int mo_thrown, .ref mo_ascalar, .ref mo_acane, .ref mo_ais, .ref mo_astrandOf, .ref mo_aweight, .ref mo_aheight, .ref mo_achairOf, .ref mo_anoteMinute, .ref mo_anoteWho, .ref mo_anoteIs, .ref mo_atoldCane, .ref mo_anewScalar, .ref mo_anewCane, .ref mo_anewHeight, .ref mo_anewStrand, .ref mo_anewChair, .ref mo_anewWeight, .int mo_taped, .int mo_p, .int mo_fault, .int mo_slot, .int mo_rules, .int mo_entries, .int mo_deep, .int mo_counted, .int mo_opened, .int mo_words, .ref mo_atape, .ref mo_asort, .ref mo_anumber, .ref mo_aclauses, .ref mo_asumAt, .ref mo_atestAt, .ref mo_aendAt, .ref mo_aopen, .ref mo_aasked, .ref mo_astack, .ref mo_amust, .ref mo_apast, .ref mo_apastOf, .int mo_pastMany, .int mo_pastAt, .int mo_takesBack, .ref mo_acanRise, .ref mo_afirstHas, .ref mo_asecondHas, .ref mo_alay, .ref mo_ashows, .ref mo_aimages, .ref mo_aisMade, .int mo_imageAt, .int mo_goesBack])), (mo_acane, hcI k 4 mo_rcane), (mo_ais, hcI k 8 mo_ris), (mo_astrandOf, hcI k 8 mo_rstrandOf), (mo_aweight, hcI k 8 mo_rweight), (mo_achairOf, hcI k 8 mo_rchairOf), (mo_ascalar, hcI k 8 (sc8 mo_s0 mo_s1 mo_s2 mo_s3 mo_s4 mo_s5 mo_s6 mo_s7))]) := hD
    refine lv_bipush (v := 10) hx hb dX9_earns_16 (by decide) ?_
    refine lv_idiv hx hb dX9_earns_18 (by decide) ?_
    refine lv_topi (fun z5 ez5 => ?_)
    refine lv_iadd hx hb dX9_earns_19 ?_
    refine lv_topi (fun z6 ez6 => ?_)
    refine lv_goto (tgt := 24) hx hb dX9_earns_20 (by decide) ?_
    exact hc_end hx hb hr hlocks () trivial (hP.sub [1, 2, 3, 4, 5, 0, 6, 7] rfl) (hD.sub [1, 2, 3, 4, 5, 0, 6, 7] (by decide) rfl) hS dX9_earns_24
set_option maxHeartbeats 4000000 in
set_option maxRecDepth 100000 in
theorem i_X9_isSo (l : Launch) (D : va_G) (k : Nat → ClassId) (sz : Nat) (x1 : Int32) (x3 : Int32) (mo : Nat) (mo_thrown : Int32) (mo_ascalar : Nat) (mo_acane : Nat) (mo_ais : Nat) (mo_astrandOf : Nat) (mo_aweight : Nat) (mo_aheight : Nat) (mo_achairOf : Nat) (mo_anoteMinute : Nat) (mo_anoteWho : Nat) (mo_anoteIs : Nat) (mo_atoldCane : Nat) (mo_anewScalar : Nat) (mo_anewCane : Nat) (mo_anewHeight : Nat) (mo_anewStrand : Nat) (mo_anewChair : Nat) (mo_anewWeight : Nat) (mo_taped : Int32) (mo_p : Int32) (mo_fault : Int32) (mo_slot : Int32) (mo_rules : Int32) (mo_entries : Int32) (mo_deep : Int32) (mo_counted : Int32) (mo_opened : Int32) (mo_words : Int32) (mo_atape : Nat) (mo_asort : Nat) (mo_anumber : Nat) (mo_aclauses : Nat) (mo_asumAt : Nat) (mo_atestAt : Nat) (mo_aendAt : Nat) (mo_aopen : Nat) (mo_aasked : Nat) (mo_astack : Nat) (mo_amust : Nat) (mo_apast : Nat) (mo_apastOf : Nat) (mo_pastMany : Int32) (mo_pastAt : Int32) (mo_takesBack : Int32) (mo_acanRise : Nat) (mo_afirstHas : Nat) (mo_asecondHas : Nat) (mo_alay : Nat) (mo_ashows : Nat) (mo_aimages : Nat) (mo_aisMade : Nat) (mo_imageAt : Int32) (mo_goesBack : Int32) (mo_ris : Nat → Int32) (mo_s0 : Int32) (mo_s1 : Int32) (mo_s2 : Int32) (mo_s3 : Int32) (mo_s4 : Int32) (mo_s5 : Int32) (mo_s6 : Int32) (mo_s7 : Int32) (h_mo_taped : iv (0) (400) mo_taped) (h_mo_p : iv (0) (402) mo_p) (h_mo_fault : iv (0) (4000) mo_fault) (h_mo_slot : iv (0) (5) mo_slot) (h_mo_rules : iv (0) (6) mo_rules) (h_mo_entries : iv (0) (300) mo_entries) (h_mo_counted : iv (0) (70) mo_counted) (h_mo_opened : iv (0) (402) mo_opened) (h_mo_words : iv (11) (11) mo_words) (h_mo_pastMany : iv (0) (20) mo_pastMany) (h_mo_pastAt : iv (0) (260) mo_pastAt) (h_mo_takesBack : iv (0) (1) mo_takesBack) (h_mo_imageAt : iv (0) (2000) mo_imageAt) (h_mo_goesBack : iv (0) (1) mo_goesBack) (h_mo_s1 : iv (0) (4) mo_s1) (h_mo_s2 : iv (0) (8) mo_s2) (h_mo_s3 : iv (0) (8) mo_s3) (h_mo_s5 : iv (0) (10) mo_s5) (h_mo_s7 : iv (-1) (5) mo_s7) : CtI l yX9_isSo wsX9_isSo (rmK 3 0 0) [.ref mo, .int x1, .int x3] D k sz ([(mo, .inr (7, [.int mo_thrown, .ref mo_ascalar, .ref mo_acane, .ref mo_ais, .ref mo_astrandOf, .ref mo_aweight, .ref mo_aheight, .ref mo_achairOf, .ref mo_anoteMinute, .ref mo_anoteWho, .ref mo_anoteIs, .ref mo_atoldCane, .ref mo_anewScalar, .ref mo_anewCane, .ref mo_anewHeight, .ref mo_anewStrand, .ref mo_anewChair, .ref mo_anewWeight, .int mo_taped, .int mo_p, .int mo_fault, .int mo_slot, .int mo_rules, .int mo_entries, .int mo_deep, .int mo_counted, .int mo_opened, .int mo_words, .ref mo_atape, .ref mo_asort, .ref mo_anumber, .ref mo_aclauses, .ref mo_asumAt, .ref mo_atestAt, .ref mo_aendAt, .ref mo_aopen, .ref mo_aasked, .ref mo_astack, .ref mo_amust, .ref mo_apast, .ref mo_apastOf, .int mo_pastMany, .int mo_pastAt, .int mo_takesBack, .ref mo_acanRise, .ref mo_afirstHas, .ref mo_asecondHas, .ref mo_alay, .ref mo_ashows, .ref mo_aimages, .ref mo_aisMade, .int mo_imageAt, .int mo_goesBack])), (mo_ais, hcI k 8 mo_ris), (mo_ascalar, hcI k 8 (sc8 mo_s0 mo_s1 mo_s2 mo_s3 mo_s4 mo_s5 mo_s6 mo_s7))]) (fun (r : Int32) (u : Unit) => iv (0) (1) r ∧ (r.toInt = 0 ∨ (0 ≤ x1.toInt ∧ x1.toInt < mo_s3.toInt))) (fun u : Unit => [(mo, .inr (7, [.int mo_thrown, .ref mo_ascalar, .ref mo_acane, .ref mo_ais, .ref mo_astrandOf, .ref mo_aweight, .ref mo_aheight, .ref mo_achairOf, .ref mo_anoteMinute, .ref mo_anoteWho, .ref mo_anoteIs, .ref mo_atoldCane, .ref mo_anewScalar, .ref mo_anewCane, .ref mo_anewHeight, .ref mo_anewStrand, .ref mo_anewChair, .ref mo_anewWeight, .int mo_taped, .int mo_p, .int mo_fault, .int mo_slot, .int mo_rules, .int mo_entries, .int mo_deep, .int mo_counted, .int mo_opened, .int mo_words, .ref mo_atape, .ref mo_asort, .ref mo_anumber, .ref mo_aclauses, .ref mo_asumAt, .ref mo_atestAt, .ref mo_aendAt, .ref mo_aopen, .ref mo_aasked, .ref mo_astack, .ref mo_amust, .ref mo_apast, .ref mo_apastOf, .int mo_pastMany, .int mo_pastAt, .int mo_takesBack, .ref mo_acanRise, .ref mo_afirstHas, .ref mo_asecondHas, .ref mo_alay, .ref mo_ashows, .ref mo_aimages, .ref mo_aisMade, .int mo_imageAt, .int mo_goesBack])), (mo_ais, hcI k 8 mo_ris), (mo_ascalar, hcI k 8 (sc8 mo_s0 mo_s1 mo_s2 mo_s3 mo_s4 mo_s5 mo_s6 mo_s7))]) 0 0 := by
  have h_mo_taped_l := h_mo_taped.1
  have h_mo_taped_u := h_mo_taped.2
  have h_mo_p_l := h_mo_p.1
  have h_mo_p_u := h_mo_p.2
  have h_mo_fault_l := h_mo_fault.1
  have h_mo_fault_u := h_mo_fault.2
  have h_mo_slot_l := h_mo_slot.1
  have h_mo_slot_u := h_mo_slot.2
  have h_mo_rules_l := h_mo_rules.1
  have h_mo_rules_u := h_mo_rules.2
  have h_mo_entries_l := h_mo_entries.1
  have h_mo_entries_u := h_mo_entries.2
  have h_mo_counted_l := h_mo_counted.1
  have h_mo_counted_u := h_mo_counted.2
  have h_mo_opened_l := h_mo_opened.1
  have h_mo_opened_u := h_mo_opened.2
  have h_mo_words_l := h_mo_words.1
  have h_mo_words_u := h_mo_words.2
  have h_mo_pastMany_l := h_mo_pastMany.1
  have h_mo_pastMany_u := h_mo_pastMany.2
  have h_mo_pastAt_l := h_mo_pastAt.1
  have h_mo_pastAt_u := h_mo_pastAt.2
  have h_mo_takesBack_l := h_mo_takesBack.1
  have h_mo_takesBack_u := h_mo_takesBack.2
  have h_mo_imageAt_l := h_mo_imageAt.1
  have h_mo_imageAt_u := h_mo_imageAt.2
  have h_mo_goesBack_l := h_mo_goesBack.1
  have h_mo_goesBack_u := h_mo_goesBack.2
  have h_mo_s1_l := h_mo_s1.1
  have h_mo_s1_u := h_mo_s1.2
  have h_mo_s2_l := h_mo_s2.1
  have h_mo_s2_u := h_mo_s2.2
  have h_mo_s3_l := h_mo_s3.1
  have h_mo_s3_u := h_mo_s3.2
  have h_mo_s5_l := h_mo_s5.1
  have h_mo_s5_u := h_mo_s5.2
  have h_mo_s7_l := h_mo_s7.1
  have h_mo_s7_u := h_mo_s7.2
  refine CtI.mk (cc := cX9_isSo) (maxL := 3) (ret := (some .boolean)) (by decide) rfl (Nat.le_of_ble_eq_true rfl) ?_
  intro p e s m below meth c A ls E hP hD hS hl
  obtain ⟨hx, hb, hr, hml, hown, hts, hlocks, hin, hG, hA⟩ := E
  have hown : s.vm.findClass RX9 = some m.cls := hown
  have in9 : ∀ w ∈ u_ws RX9 TX9 53, w ∈ wsX9_isSo := fun _ h => List.mem_cons_of_mem _ (List.mem_append_right _ h)
  have hl : lv_has ls 3 [(0, .ref mo), (1, .int x1), (2, .int x3)] := hl
  refine lv_aload_n hx hb dX9_isSo_0 rfl (lv_at hl 0 rfl) ?_
  refine lv_iload_n hx hb dX9_isSo_1 rfl (lv_at hl 1 rfl) ?_
  refine hc_Vi (As := [.int x1]) (rest := []) (n := 1) (wr := [(mo_ais, hcI k 8 mo_ris)]) hx hb hml hown hts hG hA hP hD hS hl.1 [0, 2] [1] (i_X9_isSitter l D k _ x1 mo mo_thrown mo_ascalar mo_acane mo_ais mo_astrandOf mo_aweight mo_aheight mo_achairOf mo_anoteMinute mo_anoteWho mo_anoteIs mo_atoldCane mo_anewScalar mo_anewCane mo_anewHeight mo_anewStrand mo_anewChair mo_anewWeight mo_taped mo_p mo_fault mo_slot mo_rules mo_entries mo_deep mo_counted mo_opened mo_words mo_atape mo_asort mo_anumber mo_aclauses mo_asumAt mo_atestAt mo_aendAt mo_aopen mo_aasked mo_astack mo_amust mo_apast mo_apastOf mo_pastMany mo_pastAt mo_takesBack mo_acanRise mo_afirstHas mo_asecondHas mo_alay mo_ashows mo_aimages mo_aisMade mo_imageAt mo_goesBack mo_s0 mo_s1 mo_s2 mo_s3 mo_s4 mo_s5 mo_s6 mo_s7 ⟨by omega, by omega⟩ ⟨by omega, by omega⟩ ⟨by omega, by omega⟩ ⟨by omega, by omega⟩ ⟨by omega, by omega⟩ ⟨by omega, by omega⟩ ⟨by omega, by omega⟩ ⟨by omega, by omega⟩ ⟨by omega, by omega⟩ ⟨by omega, by omega⟩ ⟨by omega, by omega⟩ ⟨by omega, by omega⟩ ⟨by omega, by omega⟩ ⟨by omega, by omega⟩ ⟨by omega, by omega⟩ ⟨by omega, by omega⟩ ⟨by omega, by omega⟩ ⟨by omega, by omega⟩ ⟨by omega, by omega⟩) (ci := 7) (q0 := 0) rfl rfl gX9_isSo_X9_isSitter rfl ⟨rfl, rfl, Nat.le_of_ble_eq_true rfl, Nat.le_of_ble_eq_true rfl⟩ (by decide +kernel) rfl rfl ⟨by decide, by decide, by decide⟩ ⟨rfl, rfl, Nat.le_of_ble_eq_true rfl, Nat.le_of_ble_eq_true rfl, Nat.le_of_ble_eq_true rfl⟩ dX9_isSo_2 (fun r2 u1 H locs hw hP hD hS => ?_)
  have hP : va_P D vwCl ([(mo_ais, hcI k 8 mo_ris), (mo, .inr (7, [.int mo_thrown, .ref mo_ascalar, .ref mo_acane, .ref mo_ais, .ref mo_astrandOf, .ref mo_aweight, .ref mo_aheight, .ref mo_achairOf, .ref mo_anoteMinute, .ref mo_anoteWho, .ref mo_anoteIs, .ref mo_atoldCane, .ref mo_anewScalar, .ref mo_anewCane, .ref mo_anewHeight, .ref mo_anewStrand, .ref mo_anewChair, .ref mo_anewWeight, .int mo_taped, .int mo_p, .int mo_fault, .int mo_slot, .int mo_rules, .int mo_entries, .int mo_deep, .int mo_counted, .int mo_opened, .int mo_words, .ref mo_atape, .ref mo_asort, .ref mo_anumber, .ref mo_aclauses, .ref mo_asumAt, .ref mo_atestAt, .ref mo_aendAt, .ref mo_aopen, .ref mo_aasked, .ref mo_astack, .ref mo_amust, .ref mo_apast, .ref mo_apastOf, .int mo_pastMany, .int mo_pastAt, .int mo_takesBack, .ref mo_acanRise, .ref mo_afirstHas, .ref mo_asecondHas, .ref mo_alay, .ref mo_ashows, .ref mo_aimages, .ref mo_aisMade, .int mo_imageAt, .int mo_goesBack])), (mo_ascalar, hcI k 8 (sc8 mo_s0 mo_s1 mo_s2 mo_s3 mo_s4 mo_s5 mo_s6 mo_s7))]) H := hP
  have hD : va_D A ([(mo_ais, hcI k 8 mo_ris), (mo, .inr (7, [.int mo_thrown, .ref mo_ascalar, .ref mo_acane, .ref mo_ais, .ref mo_astrandOf, .ref mo_aweight, .ref mo_aheight, .ref mo_achairOf, .ref mo_anoteMinute, .ref mo_anoteWho, .ref mo_anoteIs, .ref mo_atoldCane, .ref mo_anewScalar, .ref mo_anewCane, .ref mo_anewHeight, .ref mo_anewStrand, .ref mo_anewChair, .ref mo_anewWeight, .int mo_taped, .int mo_p, .int mo_fault, .int mo_slot, .int mo_rules, .int mo_entries, .int mo_deep, .int mo_counted, .int mo_opened, .int mo_words, .ref mo_atape, .ref mo_asort, .ref mo_anumber, .ref mo_aclauses, .ref mo_asumAt, .ref mo_atestAt, .ref mo_aendAt, .ref mo_aopen, .ref mo_aasked, .ref mo_astack, .ref mo_amust, .ref mo_apast, .ref mo_apastOf, .int mo_pastMany, .int mo_pastAt, .int mo_takesBack, .ref mo_acanRise, .ref mo_afirstHas, .ref mo_asecondHas, .ref mo_alay, .ref mo_ashows, .ref mo_aimages, .ref mo_aisMade, .int mo_imageAt, .int mo_goesBack])), (mo_ascalar, hcI k 8 (sc8 mo_s0 mo_s1 mo_s2 mo_s3 mo_s4 mo_s5 mo_s6 mo_s7))]) := hD
  obtain ⟨br2, rel3⟩ := hw
  have br2 : iv (0) (1) r2 := br2
  have br2_l := br2.1
  have br2_u := br2.2
  refine lv_if_eq (tgt := 22) hx hb dX9_isSo_5 (by decide) (fun c4 => ?_) (fun c4 => ?_)
  · have fc4 := cx_eq_t (a := r2.toInt) (b := 0) rfl (by decide) c4
    refine lv_iconst (v := 0) hx hb dX9_isSo_22 (by decide) ?_
    exact hc_endZ hx hb hr hlocks rfl () ⟨iv_lit (by decide) (by decide), (by have q9 : (0 : Int32).toInt = 0 := (by decide); omega)⟩ (hP.sub [1, 0, 2] rfl) (hD.sub [1, 0, 2] (by decide) rfl) hS dX9_isSo_23
  · have fc4 := cx_eq_f (a := r2.toInt) (b := 0) rfl (by decide) c4
    refine lv_aload_n hx hb dX9_isSo_8 rfl (lv_at hl 0 rfl) ?_
    refine va_get (D := D) (ci := 7) (v := .ref mo_ais) (C := RX9) (T := TX9) (N := 53) hx hb hts in9 hown hG.1 hP 1 rfl rfl 3 (by decide) (hts (.fieldLink RX9 16 "ChairCaneModel" "is" "[I") (by decide +kernel)) (fun _ h9 => h9) rfl dX9_isSo_9 ?_
    refine lv_iload_n hx hb dX9_isSo_12 rfl (lv_at hl 1 rfl) ?_
    refine va_iald hx hb hG.1 hP 0 0 rfl rfl (vp_in_iff.mpr ⟨by omega, by omega⟩) dX9_isSo_13 ?_
    refine lv_topi (fun z5 ez5 => ?_)
    refine lv_iload_n hx hb dX9_isSo_14 rfl (lv_at hl 2 rfl) ?_
    refine lv_icmp_ne (tgt := 22) hx hb dX9_isSo_15 (by decide) (fun c6 => ?_) (fun c6 => ?_)
    · have fc6 := cx_ne_t (a := z5.toInt) (b := x3.toInt) rfl rfl c6
      refine lv_iconst (v := 0) hx hb dX9_isSo_22 (by decide) ?_
      exact hc_endZ hx hb hr hlocks rfl () ⟨iv_lit (by decide) (by decide), (by have q9 : (0 : Int32).toInt = 0 := (by decide); omega)⟩ (hP.sub [1, 0, 2] rfl) (hD.sub [1, 0, 2] (by decide) rfl) hS dX9_isSo_23
    · have fc6 := cx_ne_f (a := z5.toInt) (b := x3.toInt) rfl rfl c6
      refine lv_iconst (v := 1) hx hb dX9_isSo_18 (by decide) ?_
      refine lv_goto (tgt := 23) hx hb dX9_isSo_19 (by decide) ?_
      exact hc_endZ hx hb hr hlocks rfl () ⟨iv_lit (by decide) (by decide), (by have q9 : (1 : Int32).toInt = 1 := (by decide); omega)⟩ (hP.sub [1, 0, 2] rfl) (hD.sub [1, 0, 2] (by decide) rfl) hS dX9_isSo_23
set_option maxHeartbeats 4000000 in
set_option maxRecDepth 100000 in
theorem i_X9_moves (l : Launch) (D : va_G) (k : Nat → ClassId) (sz : Nat) (x1 : Int32) (mo : Nat) (mo_thrown : Int32) (mo_ascalar : Nat) (mo_acane : Nat) (mo_ais : Nat) (mo_astrandOf : Nat) (mo_aweight : Nat) (mo_aheight : Nat) (mo_achairOf : Nat) (mo_anoteMinute : Nat) (mo_anoteWho : Nat) (mo_anoteIs : Nat) (mo_atoldCane : Nat) (mo_anewScalar : Nat) (mo_anewCane : Nat) (mo_anewHeight : Nat) (mo_anewStrand : Nat) (mo_anewChair : Nat) (mo_anewWeight : Nat) (mo_taped : Int32) (mo_p : Int32) (mo_fault : Int32) (mo_slot : Int32) (mo_rules : Int32) (mo_entries : Int32) (mo_deep : Int32) (mo_counted : Int32) (mo_opened : Int32) (mo_words : Int32) (mo_atape : Nat) (mo_asort : Nat) (mo_anumber : Nat) (mo_aclauses : Nat) (mo_asumAt : Nat) (mo_atestAt : Nat) (mo_aendAt : Nat) (mo_aopen : Nat) (mo_aasked : Nat) (mo_astack : Nat) (mo_amust : Nat) (mo_apast : Nat) (mo_apastOf : Nat) (mo_pastMany : Int32) (mo_pastAt : Int32) (mo_takesBack : Int32) (mo_acanRise : Nat) (mo_afirstHas : Nat) (mo_asecondHas : Nat) (mo_alay : Nat) (mo_ashows : Nat) (mo_aimages : Nat) (mo_aisMade : Nat) (mo_imageAt : Int32) (mo_goesBack : Int32) (mo_rpast : Nat → Int32) (h_mo_taped : iv (0) (400) mo_taped) (h_mo_p : iv (0) (402) mo_p) (h_mo_fault : iv (0) (4000) mo_fault) (h_mo_slot : iv (0) (5) mo_slot) (h_mo_rules : iv (0) (6) mo_rules) (h_mo_entries : iv (0) (300) mo_entries) (h_mo_counted : iv (0) (70) mo_counted) (h_mo_opened : iv (0) (402) mo_opened) (h_mo_words : iv (11) (11) mo_words) (h_mo_pastMany : iv (0) (20) mo_pastMany) (h_mo_pastAt : iv (0) (260) mo_pastAt) (h_mo_takesBack : iv (0) (1) mo_takesBack) (h_mo_imageAt : iv (0) (2000) mo_imageAt) (h_mo_goesBack : iv (0) (1) mo_goesBack) (hr_p : mo_pastAt.toInt ≤ 259) : CtI l yX9_moves wsX9_moves (rmK 1 0 0) [.ref mo, .int x1] D k sz ([(mo, .inr (7, [.int mo_thrown, .ref mo_ascalar, .ref mo_acane, .ref mo_ais, .ref mo_astrandOf, .ref mo_aweight, .ref mo_aheight, .ref mo_achairOf, .ref mo_anoteMinute, .ref mo_anoteWho, .ref mo_anoteIs, .ref mo_atoldCane, .ref mo_anewScalar, .ref mo_anewCane, .ref mo_anewHeight, .ref mo_anewStrand, .ref mo_anewChair, .ref mo_anewWeight, .int mo_taped, .int mo_p, .int mo_fault, .int mo_slot, .int mo_rules, .int mo_entries, .int mo_deep, .int mo_counted, .int mo_opened, .int mo_words, .ref mo_atape, .ref mo_asort, .ref mo_anumber, .ref mo_aclauses, .ref mo_asumAt, .ref mo_atestAt, .ref mo_aendAt, .ref mo_aopen, .ref mo_aasked, .ref mo_astack, .ref mo_amust, .ref mo_apast, .ref mo_apastOf, .int mo_pastMany, .int mo_pastAt, .int mo_takesBack, .ref mo_acanRise, .ref mo_afirstHas, .ref mo_asecondHas, .ref mo_alay, .ref mo_ashows, .ref mo_aimages, .ref mo_aisMade, .int mo_imageAt, .int mo_goesBack])), (mo_apast, hcI k 260 mo_rpast)]) (fun (r : Int32) (u : (Int32) × (Nat → Int32)) => iv (0) (260) (u.1) ∧ ((u.1).toInt = mo_pastAt.toInt + 1)) (fun u : (Int32) × (Nat → Int32) => [(mo, .inr (7, [.int mo_thrown, .ref mo_ascalar, .ref mo_acane, .ref mo_ais, .ref mo_astrandOf, .ref mo_aweight, .ref mo_aheight, .ref mo_achairOf, .ref mo_anoteMinute, .ref mo_anoteWho, .ref mo_anoteIs, .ref mo_atoldCane, .ref mo_anewScalar, .ref mo_anewCane, .ref mo_anewHeight, .ref mo_anewStrand, .ref mo_anewChair, .ref mo_anewWeight, .int mo_taped, .int mo_p, .int mo_fault, .int mo_slot, .int mo_rules, .int mo_entries, .int mo_deep, .int mo_counted, .int mo_opened, .int mo_words, .ref mo_atape, .ref mo_asort, .ref mo_anumber, .ref mo_aclauses, .ref mo_asumAt, .ref mo_atestAt, .ref mo_aendAt, .ref mo_aopen, .ref mo_aasked, .ref mo_astack, .ref mo_amust, .ref mo_apast, .ref mo_apastOf, .int mo_pastMany, .int (u.1), .int mo_takesBack, .ref mo_acanRise, .ref mo_afirstHas, .ref mo_asecondHas, .ref mo_alay, .ref mo_ashows, .ref mo_aimages, .ref mo_aisMade, .int mo_imageAt, .int mo_goesBack])), (mo_apast, hcI k 260 (u.2))]) 0 0 := by
  have h_mo_taped_l := h_mo_taped.1
  have h_mo_taped_u := h_mo_taped.2
  have h_mo_p_l := h_mo_p.1
  have h_mo_p_u := h_mo_p.2
  have h_mo_fault_l := h_mo_fault.1
  have h_mo_fault_u := h_mo_fault.2
  have h_mo_slot_l := h_mo_slot.1
  have h_mo_slot_u := h_mo_slot.2
  have h_mo_rules_l := h_mo_rules.1
  have h_mo_rules_u := h_mo_rules.2
  have h_mo_entries_l := h_mo_entries.1
  have h_mo_entries_u := h_mo_entries.2
  have h_mo_counted_l := h_mo_counted.1
  have h_mo_counted_u := h_mo_counted.2
  have h_mo_opened_l := h_mo_opened.1
  have h_mo_opened_u := h_mo_opened.2
  have h_mo_words_l := h_mo_words.1
  have h_mo_words_u := h_mo_words.2
  have h_mo_pastMany_l := h_mo_pastMany.1
  have h_mo_pastMany_u := h_mo_pastMany.2
  have h_mo_pastAt_l := h_mo_pastAt.1
  have h_mo_pastAt_u := h_mo_pastAt.2
  have h_mo_takesBack_l := h_mo_takesBack.1
  have h_mo_takesBack_u := h_mo_takesBack.2
  have h_mo_imageAt_l := h_mo_imageAt.1
  have h_mo_imageAt_u := h_mo_imageAt.2
  have h_mo_goesBack_l := h_mo_goesBack.1
  have h_mo_goesBack_u := h_mo_goesBack.2
  refine CtI.mk (cc := cX9_moves) (maxL := 3) (ret := (some .int)) (by decide) rfl (Nat.le_of_ble_eq_true rfl) ?_
  intro p e s m below meth c A ls E hP hD hS hl
  obtain ⟨hx, hb, hr, hml, hown, hts, hlocks, hin, hG, hA⟩ := E
  have hown : s.vm.findClass RX9 = some m.cls := hown
  have in9 : ∀ w ∈ u_ws RX9 TX9 53, w ∈ wsX9_moves := fun _ h => List.mem_cons_of_mem _ (List.mem_append_right _ h)
  have hl : lv_has ls 3 [(0, .ref mo), (1, .int x1)] := hl
  refine lv_aload_n hx hb dX9_moves_0 rfl (lv_at hl 0 rfl) ?_
  refine va_get (D := D) (ci := 7) (v := .int mo_takesBack) (C := RX9) (T := TX9) (N := 53) hx hb hts in9 hown hG.1 hP 0 rfl rfl 43 (by decide) (hts (.fieldLink RX9 386 "ChairCaneModel" "takesBack" "Z") (by decide +kernel)) (fun _ h9 => h9) rfl dX9_moves_1 ?_
  refine lv_if_eq (tgt := 19) hx hb dX9_moves_4 (by decide) (fun c1 => ?_) (fun c1 => ?_)
  · have fc1 := cx_eq_t (a := mo_takesBack.toInt) (b := 0) rfl (by decide) c1
    refine lv_iload_n hx hb dX9_moves_19 rfl (lv_at hl 1 rfl) ?_
    refine lv_istore_n (lv' := [(2, .int x1), (0, .ref mo), (1, .int x1)]) hx hb dX9_moves_20 rfl hl (by decide) rfl (fun ls hl => ?_)
    refine lv_aload_n hx hb dX9_moves_21 rfl (lv_at hl 1 rfl) ?_
    refine va_get (D := D) (ci := 7) (v := .ref mo_apast) (C := RX9) (T := TX9) (N := 53) hx hb hts in9 hown hG.1 hP 0 rfl rfl 39 (by decide) (hts (.fieldLink RX9 100 "ChairCaneModel" "past" "[I") (by decide +kernel)) (fun _ h9 => h9) rfl dX9_moves_22 ?_
    refine lv_aload_n hx hb dX9_moves_25 rfl (lv_at hl 1 rfl) ?_
    refine va_get (D := D) (ci := 7) (v := .int mo_pastAt) (C := RX9) (T := TX9) (N := 53) hx hb hts in9 hown hG.1 hP 0 rfl rfl 42 (by decide) (hts (.fieldLink RX9 390 "ChairCaneModel" "pastAt" "I") (by decide +kernel)) (fun _ h9 => h9) rfl dX9_moves_26 ?_
    refine lv_iload_n hx hb dX9_moves_29 rfl (lv_at hl 0 rfl) ?_
    refine va_iast hx hb hG.1 hP hD hS 1 0 rfl rfl (vp_in_iff.mpr ⟨by omega, by omega⟩) dX9_moves_30 (fun H locs hP hD hS => ?_)
    obtain ⟨f2, ef2⟩ : ∃ f, f = upd mo_rpast (Int32.toNatClampNeg mo_pastAt) (x1) := ⟨_, rfl⟩
    rw [← ef2] at hP hD
    have hP : va_P D vwCl ([(mo, .inr (7, [.int mo_thrown, .ref mo_ascalar, .ref mo_acane, .ref mo_ais, .ref mo_astrandOf, .ref mo_aweight, .ref mo_aheight, .ref mo_achairOf, .ref mo_anoteMinute, .ref mo_anoteWho, .ref mo_anoteIs, .ref mo_atoldCane, .ref mo_anewScalar, .ref mo_anewCane, .ref mo_anewHeight, .ref mo_anewStrand, .ref mo_anewChair, .ref mo_anewWeight, .int mo_taped, .int mo_p, .int mo_fault, .int mo_slot, .int mo_rules, .int mo_entries, .int mo_deep, .int mo_counted, .int mo_opened, .int mo_words, .ref mo_atape, .ref mo_asort, .ref mo_anumber, .ref mo_aclauses, .ref mo_asumAt, .ref mo_atestAt, .ref mo_aendAt, .ref mo_aopen, .ref mo_aasked, .ref mo_astack, .ref mo_amust, .ref mo_apast, .ref mo_apastOf, .int mo_pastMany, .int mo_pastAt, .int mo_takesBack, .ref mo_acanRise, .ref mo_afirstHas, .ref mo_asecondHas, .ref mo_alay, .ref mo_ashows, .ref mo_aimages, .ref mo_aisMade, .int mo_imageAt, .int mo_goesBack])), (mo_apast, hcI k 260 f2)]) H := hP
    have hD : va_D A ([(mo, .inr (7, [.int mo_thrown, .ref mo_ascalar, .ref mo_acane, .ref mo_ais, .ref mo_astrandOf, .ref mo_aweight, .ref mo_aheight, .ref mo_achairOf, .ref mo_anoteMinute, .ref mo_anoteWho, .ref mo_anoteIs, .ref mo_atoldCane, .ref mo_anewScalar, .ref mo_anewCane, .ref mo_anewHeight, .ref mo_anewStrand, .ref mo_anewChair, .ref mo_anewWeight, .int mo_taped, .int mo_p, .int mo_fault, .int mo_slot, .int mo_rules, .int mo_entries, .int mo_deep, .int mo_counted, .int mo_opened, .int mo_words, .ref mo_atape, .ref mo_asort, .ref mo_anumber, .ref mo_aclauses, .ref mo_asumAt, .ref mo_atestAt, .ref mo_aendAt, .ref mo_aopen, .ref mo_aasked, .ref mo_astack, .ref mo_amust, .ref mo_apast, .ref mo_apastOf, .int mo_pastMany, .int mo_pastAt, .int mo_takesBack, .ref mo_acanRise, .ref mo_afirstHas, .ref mo_asecondHas, .ref mo_alay, .ref mo_ashows, .ref mo_aimages, .ref mo_aisMade, .int mo_imageAt, .int mo_goesBack])), (mo_apast, hcI k 260 f2)]) := hD
    refine lv_aload_n hx hb dX9_moves_31 rfl (lv_at hl 1 rfl) ?_
    refine lv_dup hx hb dX9_moves_32 rfl ?_
    refine va_get (D := D) (ci := 7) (v := .int mo_pastAt) (C := RX9) (T := TX9) (N := 53) hx hb hts in9 hown hG.1 hP 0 rfl rfl 42 (by decide) (hts (.fieldLink RX9 390 "ChairCaneModel" "pastAt" "I") (by decide +kernel)) (fun _ h9 => h9) rfl dX9_moves_33 ?_
    refine lv_iconst (v := 1) hx hb dX9_moves_36 (by decide) ?_
    refine lv_iadd hx hb dX9_moves_37 ?_
    refine lv_topi (fun z3 ez3 => ?_)
    have tz3 : z3.toInt = mo_pastAt.toInt + 1 := ai_add rfl (by decide) ez3 (by omega) (by omega)
    refine va_put (D := D) (ci := 7) (v := .int z3) (C := RX9) (T := TX9) (N := 53) hx hb hts in9 tyX9 tyX9_ok nmX9 hown hG.1 hP hD hS 0 rfl rfl 42 (by decide) (hts (.fieldLink RX9 390 "ChairCaneModel" "pastAt" "I") (by decide +kernel)) (fun _ h9 => h9) rfl (tyX9_ok 42 (by decide)) rfl rfl (Nat.le_of_ble_eq_true rfl) dX9_moves_38 (fun H locs hP hD hS => ?_)
    have hP : va_P D vwCl ([(mo, .inr (7, [.int mo_thrown, .ref mo_ascalar, .ref mo_acane, .ref mo_ais, .ref mo_astrandOf, .ref mo_aweight, .ref mo_aheight, .ref mo_achairOf, .ref mo_anoteMinute, .ref mo_anoteWho, .ref mo_anoteIs, .ref mo_atoldCane, .ref mo_anewScalar, .ref mo_anewCane, .ref mo_anewHeight, .ref mo_anewStrand, .ref mo_anewChair, .ref mo_anewWeight, .int mo_taped, .int mo_p, .int mo_fault, .int mo_slot, .int mo_rules, .int mo_entries, .int mo_deep, .int mo_counted, .int mo_opened, .int mo_words, .ref mo_atape, .ref mo_asort, .ref mo_anumber, .ref mo_aclauses, .ref mo_asumAt, .ref mo_atestAt, .ref mo_aendAt, .ref mo_aopen, .ref mo_aasked, .ref mo_astack, .ref mo_amust, .ref mo_apast, .ref mo_apastOf, .int mo_pastMany, .int z3, .int mo_takesBack, .ref mo_acanRise, .ref mo_afirstHas, .ref mo_asecondHas, .ref mo_alay, .ref mo_ashows, .ref mo_aimages, .ref mo_aisMade, .int mo_imageAt, .int mo_goesBack])), (mo_apast, hcI k 260 f2)]) H := hP
    have hD : va_D A ([(mo, .inr (7, [.int mo_thrown, .ref mo_ascalar, .ref mo_acane, .ref mo_ais, .ref mo_astrandOf, .ref mo_aweight, .ref mo_aheight, .ref mo_achairOf, .ref mo_anoteMinute, .ref mo_anoteWho, .ref mo_anoteIs, .ref mo_atoldCane, .ref mo_anewScalar, .ref mo_anewCane, .ref mo_anewHeight, .ref mo_anewStrand, .ref mo_anewChair, .ref mo_anewWeight, .int mo_taped, .int mo_p, .int mo_fault, .int mo_slot, .int mo_rules, .int mo_entries, .int mo_deep, .int mo_counted, .int mo_opened, .int mo_words, .ref mo_atape, .ref mo_asort, .ref mo_anumber, .ref mo_aclauses, .ref mo_asumAt, .ref mo_atestAt, .ref mo_aendAt, .ref mo_aopen, .ref mo_aasked, .ref mo_astack, .ref mo_amust, .ref mo_apast, .ref mo_apastOf, .int mo_pastMany, .int z3, .int mo_takesBack, .ref mo_acanRise, .ref mo_afirstHas, .ref mo_asecondHas, .ref mo_alay, .ref mo_ashows, .ref mo_aimages, .ref mo_aisMade, .int mo_imageAt, .int mo_goesBack])), (mo_apast, hcI k 260 f2)]) := hD
    refine lv_iload_n hx hb dX9_moves_41 rfl (lv_at hl 0 rfl) ?_
    exact hc_end hx hb hr hlocks (z3, f2) ⟨(show iv (0) (260) z3 from ⟨by omega, by omega⟩), (by (try dsimp only); omega)⟩ hP hD hS dX9_moves_42
  · have fc1 := cx_eq_f (a := mo_takesBack.toInt) (b := 0) rfl (by decide) c1
    refine lv_aload_n hx hb dX9_moves_7 rfl (lv_at hl 0 rfl) ?_
    refine va_get (D := D) (ci := 7) (v := .ref mo_apast) (C := RX9) (T := TX9) (N := 53) hx hb hts in9 hown hG.1 hP 0 rfl rfl 39 (by decide) (hts (.fieldLink RX9 100 "ChairCaneModel" "past" "[I") (by decide +kernel)) (fun _ h9 => h9) rfl dX9_moves_8 ?_
    refine lv_aload_n hx hb dX9_moves_11 rfl (lv_at hl 0 rfl) ?_
    refine va_get (D := D) (ci := 7) (v := .int mo_pastAt) (C := RX9) (T := TX9) (N := 53) hx hb hts in9 hown hG.1 hP 0 rfl rfl 42 (by decide) (hts (.fieldLink RX9 390 "ChairCaneModel" "pastAt" "I") (by decide +kernel)) (fun _ h9 => h9) rfl dX9_moves_12 ?_
    refine va_iald hx hb hG.1 hP 1 0 rfl rfl (vp_in_iff.mpr ⟨by omega, by omega⟩) dX9_moves_15 ?_
    refine lv_topi (fun z4 ez4 => ?_)
    refine lv_goto (tgt := 20) hx hb dX9_moves_16 (by decide) ?_
    refine lv_istore_n (lv' := [(2, .int z4), (0, .ref mo), (1, .int x1)]) hx hb dX9_moves_20 rfl hl (by decide) rfl (fun ls hl => ?_)
    refine lv_aload_n hx hb dX9_moves_21 rfl (lv_at hl 1 rfl) ?_
    refine va_get (D := D) (ci := 7) (v := .ref mo_apast) (C := RX9) (T := TX9) (N := 53) hx hb hts in9 hown hG.1 hP 0 rfl rfl 39 (by decide) (hts (.fieldLink RX9 100 "ChairCaneModel" "past" "[I") (by decide +kernel)) (fun _ h9 => h9) rfl dX9_moves_22 ?_
    refine lv_aload_n hx hb dX9_moves_25 rfl (lv_at hl 1 rfl) ?_
    refine va_get (D := D) (ci := 7) (v := .int mo_pastAt) (C := RX9) (T := TX9) (N := 53) hx hb hts in9 hown hG.1 hP 0 rfl rfl 42 (by decide) (hts (.fieldLink RX9 390 "ChairCaneModel" "pastAt" "I") (by decide +kernel)) (fun _ h9 => h9) rfl dX9_moves_26 ?_
    refine lv_iload_n hx hb dX9_moves_29 rfl (lv_at hl 0 rfl) ?_
    refine va_iast hx hb hG.1 hP hD hS 1 0 rfl rfl (vp_in_iff.mpr ⟨by omega, by omega⟩) dX9_moves_30 (fun H locs hP hD hS => ?_)
    obtain ⟨f5, ef5⟩ : ∃ f, f = upd mo_rpast (Int32.toNatClampNeg mo_pastAt) (z4) := ⟨_, rfl⟩
    rw [← ef5] at hP hD
    have hP : va_P D vwCl ([(mo, .inr (7, [.int mo_thrown, .ref mo_ascalar, .ref mo_acane, .ref mo_ais, .ref mo_astrandOf, .ref mo_aweight, .ref mo_aheight, .ref mo_achairOf, .ref mo_anoteMinute, .ref mo_anoteWho, .ref mo_anoteIs, .ref mo_atoldCane, .ref mo_anewScalar, .ref mo_anewCane, .ref mo_anewHeight, .ref mo_anewStrand, .ref mo_anewChair, .ref mo_anewWeight, .int mo_taped, .int mo_p, .int mo_fault, .int mo_slot, .int mo_rules, .int mo_entries, .int mo_deep, .int mo_counted, .int mo_opened, .int mo_words, .ref mo_atape, .ref mo_asort, .ref mo_anumber, .ref mo_aclauses, .ref mo_asumAt, .ref mo_atestAt, .ref mo_aendAt, .ref mo_aopen, .ref mo_aasked, .ref mo_astack, .ref mo_amust, .ref mo_apast, .ref mo_apastOf, .int mo_pastMany, .int mo_pastAt, .int mo_takesBack, .ref mo_acanRise, .ref mo_afirstHas, .ref mo_asecondHas, .ref mo_alay, .ref mo_ashows, .ref mo_aimages, .ref mo_aisMade, .int mo_imageAt, .int mo_goesBack])), (mo_apast, hcI k 260 f5)]) H := hP
    have hD : va_D A ([(mo, .inr (7, [.int mo_thrown, .ref mo_ascalar, .ref mo_acane, .ref mo_ais, .ref mo_astrandOf, .ref mo_aweight, .ref mo_aheight, .ref mo_achairOf, .ref mo_anoteMinute, .ref mo_anoteWho, .ref mo_anoteIs, .ref mo_atoldCane, .ref mo_anewScalar, .ref mo_anewCane, .ref mo_anewHeight, .ref mo_anewStrand, .ref mo_anewChair, .ref mo_anewWeight, .int mo_taped, .int mo_p, .int mo_fault, .int mo_slot, .int mo_rules, .int mo_entries, .int mo_deep, .int mo_counted, .int mo_opened, .int mo_words, .ref mo_atape, .ref mo_asort, .ref mo_anumber, .ref mo_aclauses, .ref mo_asumAt, .ref mo_atestAt, .ref mo_aendAt, .ref mo_aopen, .ref mo_aasked, .ref mo_astack, .ref mo_amust, .ref mo_apast, .ref mo_apastOf, .int mo_pastMany, .int mo_pastAt, .int mo_takesBack, .ref mo_acanRise, .ref mo_afirstHas, .ref mo_asecondHas, .ref mo_alay, .ref mo_ashows, .ref mo_aimages, .ref mo_aisMade, .int mo_imageAt, .int mo_goesBack])), (mo_apast, hcI k 260 f5)]) := hD
    refine lv_aload_n hx hb dX9_moves_31 rfl (lv_at hl 1 rfl) ?_
    refine lv_dup hx hb dX9_moves_32 rfl ?_
    refine va_get (D := D) (ci := 7) (v := .int mo_pastAt) (C := RX9) (T := TX9) (N := 53) hx hb hts in9 hown hG.1 hP 0 rfl rfl 42 (by decide) (hts (.fieldLink RX9 390 "ChairCaneModel" "pastAt" "I") (by decide +kernel)) (fun _ h9 => h9) rfl dX9_moves_33 ?_
    refine lv_iconst (v := 1) hx hb dX9_moves_36 (by decide) ?_
    refine lv_iadd hx hb dX9_moves_37 ?_
    refine lv_topi (fun z6 ez6 => ?_)
    have tz6 : z6.toInt = mo_pastAt.toInt + 1 := ai_add rfl (by decide) ez6 (by omega) (by omega)
    refine va_put (D := D) (ci := 7) (v := .int z6) (C := RX9) (T := TX9) (N := 53) hx hb hts in9 tyX9 tyX9_ok nmX9 hown hG.1 hP hD hS 0 rfl rfl 42 (by decide) (hts (.fieldLink RX9 390 "ChairCaneModel" "pastAt" "I") (by decide +kernel)) (fun _ h9 => h9) rfl (tyX9_ok 42 (by decide)) rfl rfl (Nat.le_of_ble_eq_true rfl) dX9_moves_38 (fun H locs hP hD hS => ?_)
    have hP : va_P D vwCl ([(mo, .inr (7, [.int mo_thrown, .ref mo_ascalar, .ref mo_acane, .ref mo_ais, .ref mo_astrandOf, .ref mo_aweight, .ref mo_aheight, .ref mo_achairOf, .ref mo_anoteMinute, .ref mo_anoteWho, .ref mo_anoteIs, .ref mo_atoldCane, .ref mo_anewScalar, .ref mo_anewCane, .ref mo_anewHeight, .ref mo_anewStrand, .ref mo_anewChair, .ref mo_anewWeight, .int mo_taped, .int mo_p, .int mo_fault, .int mo_slot, .int mo_rules, .int mo_entries, .int mo_deep, .int mo_counted, .int mo_opened, .int mo_words, .ref mo_atape, .ref mo_asort, .ref mo_anumber, .ref mo_aclauses, .ref mo_asumAt, .ref mo_atestAt, .ref mo_aendAt, .ref mo_aopen, .ref mo_aasked, .ref mo_astack, .ref mo_amust, .ref mo_apast, .ref mo_apastOf, .int mo_pastMany, .int z6, .int mo_takesBack, .ref mo_acanRise, .ref mo_afirstHas, .ref mo_asecondHas, .ref mo_alay, .ref mo_ashows, .ref mo_aimages, .ref mo_aisMade, .int mo_imageAt, .int mo_goesBack])), (mo_apast, hcI k 260 f5)]) H := hP
    have hD : va_D A ([(mo, .inr (7, [.int mo_thrown, .ref mo_ascalar, .ref mo_acane, .ref mo_ais, .ref mo_astrandOf, .ref mo_aweight, .ref mo_aheight, .ref mo_achairOf, .ref mo_anoteMinute, .ref mo_anoteWho, .ref mo_anoteIs, .ref mo_atoldCane, .ref mo_anewScalar, .ref mo_anewCane, .ref mo_anewHeight, .ref mo_anewStrand, .ref mo_anewChair, .ref mo_anewWeight, .int mo_taped, .int mo_p, .int mo_fault, .int mo_slot, .int mo_rules, .int mo_entries, .int mo_deep, .int mo_counted, .int mo_opened, .int mo_words, .ref mo_atape, .ref mo_asort, .ref mo_anumber, .ref mo_aclauses, .ref mo_asumAt, .ref mo_atestAt, .ref mo_aendAt, .ref mo_aopen, .ref mo_aasked, .ref mo_astack, .ref mo_amust, .ref mo_apast, .ref mo_apastOf, .int mo_pastMany, .int z6, .int mo_takesBack, .ref mo_acanRise, .ref mo_afirstHas, .ref mo_asecondHas, .ref mo_alay, .ref mo_ashows, .ref mo_aimages, .ref mo_aisMade, .int mo_imageAt, .int mo_goesBack])), (mo_apast, hcI k 260 f5)]) := hD
    refine lv_iload_n hx hb dX9_moves_41 rfl (lv_at hl 0 rfl) ?_
    exact hc_end hx hb hr hlocks (z6, f5) ⟨(show iv (0) (260) z6 from ⟨by omega, by omega⟩), (by (try dsimp only); omega)⟩ hP hD hS dX9_moves_42
set_option maxHeartbeats 4000000 in
set_option maxRecDepth 100000 in
theorem i_X9_movesRow_4 (l : Launch) (D : va_G) (k : Nat → ClassId) (sz : Nat) (mo : Nat) (mo_thrown : Int32) (mo_ascalar : Nat) (mo_acane : Nat) (mo_ais : Nat) (mo_astrandOf : Nat) (mo_aweight : Nat) (mo_aheight : Nat) (mo_achairOf : Nat) (mo_anoteMinute : Nat) (mo_anoteWho : Nat) (mo_anoteIs : Nat) (mo_atoldCane : Nat) (mo_anewScalar : Nat) (mo_anewCane : Nat) (mo_anewHeight : Nat) (mo_anewStrand : Nat) (mo_anewChair : Nat) (mo_anewWeight : Nat) (mo_taped : Int32) (mo_p : Int32) (mo_fault : Int32) (mo_slot : Int32) (mo_rules : Int32) (mo_entries : Int32) (mo_deep : Int32) (mo_counted : Int32) (mo_opened : Int32) (mo_words : Int32) (mo_atape : Nat) (mo_asort : Nat) (mo_anumber : Nat) (mo_aclauses : Nat) (mo_asumAt : Nat) (mo_atestAt : Nat) (mo_aendAt : Nat) (mo_aopen : Nat) (mo_aasked : Nat) (mo_astack : Nat) (mo_amust : Nat) (mo_apast : Nat) (mo_apastOf : Nat) (mo_pastMany : Int32) (mo_pastAt : Int32) (mo_takesBack : Int32) (mo_acanRise : Nat) (mo_afirstHas : Nat) (mo_asecondHas : Nat) (mo_alay : Nat) (mo_ashows : Nat) (mo_aimages : Nat) (mo_aisMade : Nat) (mo_imageAt : Int32) (mo_goesBack : Int32) (mo_rpast : Nat → Int32) (a : Nat) (a_r : Nat → Int32) (h_mo_taped : iv (0) (400) mo_taped) (h_mo_p : iv (0) (402) mo_p) (h_mo_fault : iv (0) (4000) mo_fault) (h_mo_slot : iv (0) (5) mo_slot) (h_mo_rules : iv (0) (6) mo_rules) (h_mo_entries : iv (0) (300) mo_entries) (h_mo_counted : iv (0) (70) mo_counted) (h_mo_opened : iv (0) (402) mo_opened) (h_mo_words : iv (11) (11) mo_words) (h_mo_pastMany : iv (0) (20) mo_pastMany) (h_mo_pastAt : iv (0) (260) mo_pastAt) (h_mo_takesBack : iv (0) (1) mo_takesBack) (h_mo_imageAt : iv (0) (2000) mo_imageAt) (h_mo_goesBack : iv (0) (1) mo_goesBack) (hr_p : mo_pastAt.toInt + 4 ≤ 260) : CtV l yX9_movesRow wsX9_movesRow (rmK 2 0 0) [.ref mo, .ref a] D k sz ([(mo, .inr (7, [.int mo_thrown, .ref mo_ascalar, .ref mo_acane, .ref mo_ais, .ref mo_astrandOf, .ref mo_aweight, .ref mo_aheight, .ref mo_achairOf, .ref mo_anoteMinute, .ref mo_anoteWho, .ref mo_anoteIs, .ref mo_atoldCane, .ref mo_anewScalar, .ref mo_anewCane, .ref mo_anewHeight, .ref mo_anewStrand, .ref mo_anewChair, .ref mo_anewWeight, .int mo_taped, .int mo_p, .int mo_fault, .int mo_slot, .int mo_rules, .int mo_entries, .int mo_deep, .int mo_counted, .int mo_opened, .int mo_words, .ref mo_atape, .ref mo_asort, .ref mo_anumber, .ref mo_aclauses, .ref mo_asumAt, .ref mo_atestAt, .ref mo_aendAt, .ref mo_aopen, .ref mo_aasked, .ref mo_astack, .ref mo_amust, .ref mo_apast, .ref mo_apastOf, .int mo_pastMany, .int mo_pastAt, .int mo_takesBack, .ref mo_acanRise, .ref mo_afirstHas, .ref mo_asecondHas, .ref mo_alay, .ref mo_ashows, .ref mo_aimages, .ref mo_aisMade, .int mo_imageAt, .int mo_goesBack])), (mo_apast, hcI k 260 mo_rpast), (a, hcI k 4 a_r)]) (fun u : (Int32) × (Nat → Int32) × (Nat → Int32) => iv (0) (260) (u.1) ∧ ((u.1).toInt = mo_pastAt.toInt + 4)) (fun u : (Int32) × (Nat → Int32) × (Nat → Int32) => [(mo, .inr (7, [.int mo_thrown, .ref mo_ascalar, .ref mo_acane, .ref mo_ais, .ref mo_astrandOf, .ref mo_aweight, .ref mo_aheight, .ref mo_achairOf, .ref mo_anoteMinute, .ref mo_anoteWho, .ref mo_anoteIs, .ref mo_atoldCane, .ref mo_anewScalar, .ref mo_anewCane, .ref mo_anewHeight, .ref mo_anewStrand, .ref mo_anewChair, .ref mo_anewWeight, .int mo_taped, .int mo_p, .int mo_fault, .int mo_slot, .int mo_rules, .int mo_entries, .int mo_deep, .int mo_counted, .int mo_opened, .int mo_words, .ref mo_atape, .ref mo_asort, .ref mo_anumber, .ref mo_aclauses, .ref mo_asumAt, .ref mo_atestAt, .ref mo_aendAt, .ref mo_aopen, .ref mo_aasked, .ref mo_astack, .ref mo_amust, .ref mo_apast, .ref mo_apastOf, .int mo_pastMany, .int (u.1), .int mo_takesBack, .ref mo_acanRise, .ref mo_afirstHas, .ref mo_asecondHas, .ref mo_alay, .ref mo_ashows, .ref mo_aimages, .ref mo_aisMade, .int mo_imageAt, .int mo_goesBack])), (mo_apast, hcI k 260 (u.2.1)), (a, hcI k 4 (u.2.2))]) 0 0 := by
  have h_mo_taped_l := h_mo_taped.1
  have h_mo_taped_u := h_mo_taped.2
  have h_mo_p_l := h_mo_p.1
  have h_mo_p_u := h_mo_p.2
  have h_mo_fault_l := h_mo_fault.1
  have h_mo_fault_u := h_mo_fault.2
  have h_mo_slot_l := h_mo_slot.1
  have h_mo_slot_u := h_mo_slot.2
  have h_mo_rules_l := h_mo_rules.1
  have h_mo_rules_u := h_mo_rules.2
  have h_mo_entries_l := h_mo_entries.1
  have h_mo_entries_u := h_mo_entries.2
  have h_mo_counted_l := h_mo_counted.1
  have h_mo_counted_u := h_mo_counted.2
  have h_mo_opened_l := h_mo_opened.1
  have h_mo_opened_u := h_mo_opened.2
  have h_mo_words_l := h_mo_words.1
  have h_mo_words_u := h_mo_words.2
  have h_mo_pastMany_l := h_mo_pastMany.1
  have h_mo_pastMany_u := h_mo_pastMany.2
  have h_mo_pastAt_l := h_mo_pastAt.1
  have h_mo_pastAt_u := h_mo_pastAt.2
  have h_mo_takesBack_l := h_mo_takesBack.1
  have h_mo_takesBack_u := h_mo_takesBack.2
  have h_mo_imageAt_l := h_mo_imageAt.1
  have h_mo_imageAt_u := h_mo_imageAt.2
  have h_mo_goesBack_l := h_mo_goesBack.1
  have h_mo_goesBack_u := h_mo_goesBack.2
  refine CtV.mk (cc := cX9_movesRow) (maxL := 3) (ret := none) (by decide) rfl (Nat.le_of_ble_eq_true rfl) ?_
  intro p e s m below meth c A ls E hP hD hS hl
  obtain ⟨hx, hb, hr, hml, hown, hts, hlocks, hin, hG, hA⟩ := E
  have hown : s.vm.findClass RX9 = some m.cls := hown
  have in9 : ∀ w ∈ u_ws RX9 TX9 53, w ∈ wsX9_movesRow := fun _ h => List.mem_cons_of_mem _ (List.mem_append_right _ h)
  have hl : lv_has ls 3 [(0, .ref mo), (1, .ref a)] := hl
  refine lv_iconst (v := 0) hx hb dX9_movesRow_0 (by decide) ?_
  refine lv_istore_n (lv' := [(2, .int 0), (0, .ref mo), (1, .ref a)]) hx hb dX9_movesRow_1 rfl hl (by decide) rfl (fun ls hl => ?_)
  have loop1 : ∀ (fu : Nat) (L2_1 : Int32) (K42_1mo : Int32) (g_1mo_apast : Nat → Int32) (g_1a : Nat → Int32), iv (0) (4) L2_1 → iv (0) (260) K42_1mo → K42_1mo.toInt = mo_pastAt.toInt + L2_1.toInt → 5 - L2_1.toInt < (fu : Int) → ∀ (H : Heap) (locs : List Loc) (ls : Array Slot), va_P D vwCl ([(mo, .inr (7, [.int mo_thrown, .ref mo_ascalar, .ref mo_acane, .ref mo_ais, .ref mo_astrandOf, .ref mo_aweight, .ref mo_aheight, .ref mo_achairOf, .ref mo_anoteMinute, .ref mo_anoteWho, .ref mo_anoteIs, .ref mo_atoldCane, .ref mo_anewScalar, .ref mo_anewCane, .ref mo_anewHeight, .ref mo_anewStrand, .ref mo_anewChair, .ref mo_anewWeight, .int mo_taped, .int mo_p, .int mo_fault, .int mo_slot, .int mo_rules, .int mo_entries, .int mo_deep, .int mo_counted, .int mo_opened, .int mo_words, .ref mo_atape, .ref mo_asort, .ref mo_anumber, .ref mo_aclauses, .ref mo_asumAt, .ref mo_atestAt, .ref mo_aendAt, .ref mo_aopen, .ref mo_aasked, .ref mo_astack, .ref mo_amust, .ref mo_apast, .ref mo_apastOf, .int mo_pastMany, .int K42_1mo, .int mo_takesBack, .ref mo_acanRise, .ref mo_afirstHas, .ref mo_asecondHas, .ref mo_alay, .ref mo_ashows, .ref mo_aimages, .ref mo_aisMade, .int mo_imageAt, .int mo_goesBack])), (mo_apast, hcI k 260 g_1mo_apast), (a, hcI k 4 g_1a)]) H → va_D A ([(mo, .inr (7, [.int mo_thrown, .ref mo_ascalar, .ref mo_acane, .ref mo_ais, .ref mo_astrandOf, .ref mo_aweight, .ref mo_aheight, .ref mo_achairOf, .ref mo_anoteMinute, .ref mo_anoteWho, .ref mo_anoteIs, .ref mo_atoldCane, .ref mo_anewScalar, .ref mo_anewCane, .ref mo_anewHeight, .ref mo_anewStrand, .ref mo_anewChair, .ref mo_anewWeight, .int mo_taped, .int mo_p, .int mo_fault, .int mo_slot, .int mo_rules, .int mo_entries, .int mo_deep, .int mo_counted, .int mo_opened, .int mo_words, .ref mo_atape, .ref mo_asort, .ref mo_anumber, .ref mo_aclauses, .ref mo_asumAt, .ref mo_atestAt, .ref mo_aendAt, .ref mo_aopen, .ref mo_aasked, .ref mo_astack, .ref mo_amust, .ref mo_apast, .ref mo_apastOf, .int mo_pastMany, .int K42_1mo, .int mo_takesBack, .ref mo_acanRise, .ref mo_afirstHas, .ref mo_asecondHas, .ref mo_alay, .ref mo_ashows, .ref mo_aimages, .ref mo_aisMade, .int mo_imageAt, .int mo_goesBack])), (mo_apast, hcI k 260 g_1mo_apast), (a, hcI k 4 g_1a)]) → va_S A s.heap H locs → lv_has ls 3 [(2, .int L2_1), (0, .ref mo), (1, .ref a)] → W p l e (rmK 2 0 0) s m (List.toArray [.ref mo, .ref a]) below meth c H locs 0 0 (MQ below (va_Qv (fun u : (Int32) × (Nat → Int32) × (Nat → Int32) => iv (0) (260) (u.1) ∧ ((u.1).toInt = mo_pastAt.toInt + 4)) (hcB D (fun u : (Int32) × (Nat → Int32) × (Nat → Int32) => [(mo, .inr (7, [.int mo_thrown, .ref mo_ascalar, .ref mo_acane, .ref mo_ais, .ref mo_astrandOf, .ref mo_aweight, .ref mo_aheight, .ref mo_achairOf, .ref mo_anoteMinute, .ref mo_anoteWho, .ref mo_anoteIs, .ref mo_atoldCane, .ref mo_anewScalar, .ref mo_anewCane, .ref mo_anewHeight, .ref mo_anewStrand, .ref mo_anewChair, .ref mo_anewWeight, .int mo_taped, .int mo_p, .int mo_fault, .int mo_slot, .int mo_rules, .int mo_entries, .int mo_deep, .int mo_counted, .int mo_opened, .int mo_words, .ref mo_atape, .ref mo_asort, .ref mo_anumber, .ref mo_aclauses, .ref mo_asumAt, .ref mo_atestAt, .ref mo_aendAt, .ref mo_aopen, .ref mo_aasked, .ref mo_astack, .ref mo_amust, .ref mo_apast, .ref mo_apastOf, .int mo_pastMany, .int (u.1), .int mo_takesBack, .ref mo_acanRise, .ref mo_afirstHas, .ref mo_asecondHas, .ref mo_alay, .ref mo_ashows, .ref mo_aimages, .ref mo_aisMade, .int mo_imageAt, .int mo_goesBack])), (mo_apast, hcI k 260 (u.2.1)), (a, hcI k 4 (u.2.2))]) A) A) (List.toArray [.ref mo, .ref a]) s 0 0 A) (F0 m 2 ls []) := by
    intro fu
    induction fu with
    | zero =>
      intro L2_1 K42_1mo g_1mo_apast g_1a bL2_1 bK42_1mo hI1_1 hm
      have bL2_1_l := bL2_1.1
      have bL2_1_u := bL2_1.2
      have bK42_1mo_l := bK42_1mo.1
      have bK42_1mo_u := bK42_1mo.2
      exact absurd hm (by omega)
    | succ fu ih1 =>
      intro L2_1 K42_1mo g_1mo_apast g_1a bL2_1 bK42_1mo hI1_1 hm H locs ls hP hD hS hl
      have bL2_1_l := bL2_1.1
      have bL2_1_u := bL2_1.2
      have bK42_1mo_l := bK42_1mo.1
      have bK42_1mo_u := bK42_1mo.2
      refine lv_iload_n hx hb dX9_movesRow_2 rfl (lv_at hl 0 rfl) ?_
      refine lv_aload_n hx hb dX9_movesRow_3 rfl (lv_at hl 2 rfl) ?_
      refine va_alen hx hb hG.1 hP 2 0 rfl rfl (v := 4) rfl dX9_movesRow_4 ?_
      refine lv_icmp_ge (tgt := 24) hx hb dX9_movesRow_5 (by decide) (fun c2 => ?_) (fun c2 => ?_)
      · have fc2 := cx_ge_t (a := L2_1.toInt) (b := 4) rfl (by decide) c2
        exact hc_endV hx hb hr hlocks (K42_1mo, g_1mo_apast, g_1a) ⟨(show iv (0) (260) K42_1mo from ⟨by omega, by omega⟩), (by (try dsimp only); omega)⟩ hP hD hS dX9_movesRow_24
      · have fc2 := cx_ge_f (a := L2_1.toInt) (b := 4) rfl (by decide) c2
        refine lv_aload_n hx hb dX9_movesRow_8 rfl (lv_at hl 2 rfl) ?_
        refine lv_iload_n hx hb dX9_movesRow_9 rfl (lv_at hl 0 rfl) ?_
        refine lv_aload_n hx hb dX9_movesRow_10 rfl (lv_at hl 1 rfl) ?_
        refine lv_aload_n hx hb dX9_movesRow_11 rfl (lv_at hl 2 rfl) ?_
        refine lv_iload_n hx hb dX9_movesRow_12 rfl (lv_at hl 0 rfl) ?_
        refine va_iald hx hb hG.1 hP 2 0 rfl rfl (vp_in_iff.mpr ⟨by omega, by omega⟩) dX9_movesRow_13 ?_
        refine lv_topi (fun z3 ez3 => ?_)
        refine hc_Vi (As := [.int z3]) (rest := [.int L2_1, .ref a]) (n := 1) (wr := [(a, hcI k 4 g_1a)]) hx hb hml hown hts hG hA hP hD hS hl.1 [0, 1] [2] (i_X9_moves l D k _ z3 mo mo_thrown mo_ascalar mo_acane mo_ais mo_astrandOf mo_aweight mo_aheight mo_achairOf mo_anoteMinute mo_anoteWho mo_anoteIs mo_atoldCane mo_anewScalar mo_anewCane mo_anewHeight mo_anewStrand mo_anewChair mo_anewWeight mo_taped mo_p mo_fault mo_slot mo_rules mo_entries mo_deep mo_counted mo_opened mo_words mo_atape mo_asort mo_anumber mo_aclauses mo_asumAt mo_atestAt mo_aendAt mo_aopen mo_aasked mo_astack mo_amust mo_apast mo_apastOf mo_pastMany K42_1mo mo_takesBack mo_acanRise mo_afirstHas mo_asecondHas mo_alay mo_ashows mo_aimages mo_aisMade mo_imageAt mo_goesBack g_1mo_apast ⟨by omega, by omega⟩ ⟨by omega, by omega⟩ ⟨by omega, by omega⟩ ⟨by omega, by omega⟩ ⟨by omega, by omega⟩ ⟨by omega, by omega⟩ ⟨by omega, by omega⟩ ⟨by omega, by omega⟩ ⟨by omega, by omega⟩ ⟨by omega, by omega⟩ ⟨by omega, by omega⟩ ⟨by omega, by omega⟩ ⟨by omega, by omega⟩ ⟨by omega, by omega⟩ (by omega)) (ci := 7) (q0 := 0) rfl rfl gX9_movesRow_X9_moves rfl ⟨rfl, rfl, Nat.le_of_ble_eq_true rfl, Nat.le_of_ble_eq_true rfl⟩ (by decide +kernel) rfl rfl ⟨by decide, by decide, by decide⟩ ⟨rfl, rfl, Nat.le_of_ble_eq_true rfl, Nat.le_of_ble_eq_true rfl, Nat.le_of_ble_eq_true rfl⟩ dX9_movesRow_14 (fun r5 u4 H locs hw hP hD hS => ?_)
        obtain ⟨w6, w7⟩ := u4
        have hP : va_P D vwCl ([(a, hcI k 4 g_1a), (mo, .inr (7, [.int mo_thrown, .ref mo_ascalar, .ref mo_acane, .ref mo_ais, .ref mo_astrandOf, .ref mo_aweight, .ref mo_aheight, .ref mo_achairOf, .ref mo_anoteMinute, .ref mo_anoteWho, .ref mo_anoteIs, .ref mo_atoldCane, .ref mo_anewScalar, .ref mo_anewCane, .ref mo_anewHeight, .ref mo_anewStrand, .ref mo_anewChair, .ref mo_anewWeight, .int mo_taped, .int mo_p, .int mo_fault, .int mo_slot, .int mo_rules, .int mo_entries, .int mo_deep, .int mo_counted, .int mo_opened, .int mo_words, .ref mo_atape, .ref mo_asort, .ref mo_anumber, .ref mo_aclauses, .ref mo_asumAt, .ref mo_atestAt, .ref mo_aendAt, .ref mo_aopen, .ref mo_aasked, .ref mo_astack, .ref mo_amust, .ref mo_apast, .ref mo_apastOf, .int mo_pastMany, .int w6, .int mo_takesBack, .ref mo_acanRise, .ref mo_afirstHas, .ref mo_asecondHas, .ref mo_alay, .ref mo_ashows, .ref mo_aimages, .ref mo_aisMade, .int mo_imageAt, .int mo_goesBack])), (mo_apast, hcI k 260 w7)]) H := hP
        have hD : va_D A ([(a, hcI k 4 g_1a), (mo, .inr (7, [.int mo_thrown, .ref mo_ascalar, .ref mo_acane, .ref mo_ais, .ref mo_astrandOf, .ref mo_aweight, .ref mo_aheight, .ref mo_achairOf, .ref mo_anoteMinute, .ref mo_anoteWho, .ref mo_anoteIs, .ref mo_atoldCane, .ref mo_anewScalar, .ref mo_anewCane, .ref mo_anewHeight, .ref mo_anewStrand, .ref mo_anewChair, .ref mo_anewWeight, .int mo_taped, .int mo_p, .int mo_fault, .int mo_slot, .int mo_rules, .int mo_entries, .int mo_deep, .int mo_counted, .int mo_opened, .int mo_words, .ref mo_atape, .ref mo_asort, .ref mo_anumber, .ref mo_aclauses, .ref mo_asumAt, .ref mo_atestAt, .ref mo_aendAt, .ref mo_aopen, .ref mo_aasked, .ref mo_astack, .ref mo_amust, .ref mo_apast, .ref mo_apastOf, .int mo_pastMany, .int w6, .int mo_takesBack, .ref mo_acanRise, .ref mo_afirstHas, .ref mo_asecondHas, .ref mo_alay, .ref mo_ashows, .ref mo_aimages, .ref mo_aisMade, .int mo_imageAt, .int mo_goesBack])), (mo_apast, hcI k 260 w7)]) := hD
        obtain ⟨bw6, rel8⟩ := hw
        have bw6 : iv (0) (260) w6 := bw6
        have bw6_l := bw6.1
        have bw6_u := bw6.2
        try dsimp only at rel8
        refine va_iast hx hb hG.1 hP hD hS 0 0 rfl rfl (vp_in_iff.mpr ⟨by omega, by omega⟩) dX9_movesRow_17 (fun H locs hP hD hS => ?_)
        obtain ⟨f9, ef9⟩ : ∃ f, f = upd g_1a (Int32.toNatClampNeg L2_1) (r5) := ⟨_, rfl⟩
        rw [← ef9] at hP hD
        have hP : va_P D vwCl ([(a, hcI k 4 f9), (mo, .inr (7, [.int mo_thrown, .ref mo_ascalar, .ref mo_acane, .ref mo_ais, .ref mo_astrandOf, .ref mo_aweight, .ref mo_aheight, .ref mo_achairOf, .ref mo_anoteMinute, .ref mo_anoteWho, .ref mo_anoteIs, .ref mo_atoldCane, .ref mo_anewScalar, .ref mo_anewCane, .ref mo_anewHeight, .ref mo_anewStrand, .ref mo_anewChair, .ref mo_anewWeight, .int mo_taped, .int mo_p, .int mo_fault, .int mo_slot, .int mo_rules, .int mo_entries, .int mo_deep, .int mo_counted, .int mo_opened, .int mo_words, .ref mo_atape, .ref mo_asort, .ref mo_anumber, .ref mo_aclauses, .ref mo_asumAt, .ref mo_atestAt, .ref mo_aendAt, .ref mo_aopen, .ref mo_aasked, .ref mo_astack, .ref mo_amust, .ref mo_apast, .ref mo_apastOf, .int mo_pastMany, .int w6, .int mo_takesBack, .ref mo_acanRise, .ref mo_afirstHas, .ref mo_asecondHas, .ref mo_alay, .ref mo_ashows, .ref mo_aimages, .ref mo_aisMade, .int mo_imageAt, .int mo_goesBack])), (mo_apast, hcI k 260 w7)]) H := hP
        have hD : va_D A ([(a, hcI k 4 f9), (mo, .inr (7, [.int mo_thrown, .ref mo_ascalar, .ref mo_acane, .ref mo_ais, .ref mo_astrandOf, .ref mo_aweight, .ref mo_aheight, .ref mo_achairOf, .ref mo_anoteMinute, .ref mo_anoteWho, .ref mo_anoteIs, .ref mo_atoldCane, .ref mo_anewScalar, .ref mo_anewCane, .ref mo_anewHeight, .ref mo_anewStrand, .ref mo_anewChair, .ref mo_anewWeight, .int mo_taped, .int mo_p, .int mo_fault, .int mo_slot, .int mo_rules, .int mo_entries, .int mo_deep, .int mo_counted, .int mo_opened, .int mo_words, .ref mo_atape, .ref mo_asort, .ref mo_anumber, .ref mo_aclauses, .ref mo_asumAt, .ref mo_atestAt, .ref mo_aendAt, .ref mo_aopen, .ref mo_aasked, .ref mo_astack, .ref mo_amust, .ref mo_apast, .ref mo_apastOf, .int mo_pastMany, .int w6, .int mo_takesBack, .ref mo_acanRise, .ref mo_afirstHas, .ref mo_asecondHas, .ref mo_alay, .ref mo_ashows, .ref mo_aimages, .ref mo_aisMade, .int mo_imageAt, .int mo_goesBack])), (mo_apast, hcI k 260 w7)]) := hD
        obtain ⟨z10, ez10⟩ : ∃ z : Int32, z = L2_1 + 1 := ⟨_, rfl⟩
        have tz10 : z10.toInt = L2_1.toInt + (1) := ai_add rfl (by decide) ez10 (by omega) (by omega)
        refine lv_iinc (v := z10) (lv' := [(2, .int z10), (0, .ref mo), (1, .ref a)]) hx hb dX9_movesRow_18 hl (k := 0) rfl (by rw [ez10]; rfl) (by decide) rfl (fun ls hl => ?_)
        refine lv_goto (tgt := 2) hx hb dX9_movesRow_21 (by decide) ?_
        exact ih1 z10 w6 w7 f9 ⟨by omega, by omega⟩ ⟨by omega, by omega⟩ (by omega) (by omega) _ _ _ (hP.sub [1, 2, 0] rfl) (hD.sub [1, 2, 0] (by decide) rfl) hS (lv_sub hl [0, 1, 2] rfl)
  exact loop1 100 0 mo_pastAt mo_rpast a_r (iv_lit (by decide) (by decide)) ⟨by omega, by omega⟩ (by have q0 : (0 : Int32).toInt = 0 := (by decide); omega) (by have q0 : (0 : Int32).toInt = 0 := (by decide); omega) _ _ _ hP hD hS hl
set_option maxHeartbeats 4000000 in
set_option maxRecDepth 100000 in
theorem i_X9_movesRow_8 (l : Launch) (D : va_G) (k : Nat → ClassId) (sz : Nat) (mo : Nat) (mo_thrown : Int32) (mo_ascalar : Nat) (mo_acane : Nat) (mo_ais : Nat) (mo_astrandOf : Nat) (mo_aweight : Nat) (mo_aheight : Nat) (mo_achairOf : Nat) (mo_anoteMinute : Nat) (mo_anoteWho : Nat) (mo_anoteIs : Nat) (mo_atoldCane : Nat) (mo_anewScalar : Nat) (mo_anewCane : Nat) (mo_anewHeight : Nat) (mo_anewStrand : Nat) (mo_anewChair : Nat) (mo_anewWeight : Nat) (mo_taped : Int32) (mo_p : Int32) (mo_fault : Int32) (mo_slot : Int32) (mo_rules : Int32) (mo_entries : Int32) (mo_deep : Int32) (mo_counted : Int32) (mo_opened : Int32) (mo_words : Int32) (mo_atape : Nat) (mo_asort : Nat) (mo_anumber : Nat) (mo_aclauses : Nat) (mo_asumAt : Nat) (mo_atestAt : Nat) (mo_aendAt : Nat) (mo_aopen : Nat) (mo_aasked : Nat) (mo_astack : Nat) (mo_amust : Nat) (mo_apast : Nat) (mo_apastOf : Nat) (mo_pastMany : Int32) (mo_pastAt : Int32) (mo_takesBack : Int32) (mo_acanRise : Nat) (mo_afirstHas : Nat) (mo_asecondHas : Nat) (mo_alay : Nat) (mo_ashows : Nat) (mo_aimages : Nat) (mo_aisMade : Nat) (mo_imageAt : Int32) (mo_goesBack : Int32) (mo_rpast : Nat → Int32) (a : Nat) (a_r : Nat → Int32) (h_mo_taped : iv (0) (400) mo_taped) (h_mo_p : iv (0) (402) mo_p) (h_mo_fault : iv (0) (4000) mo_fault) (h_mo_slot : iv (0) (5) mo_slot) (h_mo_rules : iv (0) (6) mo_rules) (h_mo_entries : iv (0) (300) mo_entries) (h_mo_counted : iv (0) (70) mo_counted) (h_mo_opened : iv (0) (402) mo_opened) (h_mo_words : iv (11) (11) mo_words) (h_mo_pastMany : iv (0) (20) mo_pastMany) (h_mo_pastAt : iv (0) (260) mo_pastAt) (h_mo_takesBack : iv (0) (1) mo_takesBack) (h_mo_imageAt : iv (0) (2000) mo_imageAt) (h_mo_goesBack : iv (0) (1) mo_goesBack) (hr_p : mo_pastAt.toInt + 8 ≤ 260) : CtV l yX9_movesRow wsX9_movesRow (rmK 2 0 0) [.ref mo, .ref a] D k sz ([(mo, .inr (7, [.int mo_thrown, .ref mo_ascalar, .ref mo_acane, .ref mo_ais, .ref mo_astrandOf, .ref mo_aweight, .ref mo_aheight, .ref mo_achairOf, .ref mo_anoteMinute, .ref mo_anoteWho, .ref mo_anoteIs, .ref mo_atoldCane, .ref mo_anewScalar, .ref mo_anewCane, .ref mo_anewHeight, .ref mo_anewStrand, .ref mo_anewChair, .ref mo_anewWeight, .int mo_taped, .int mo_p, .int mo_fault, .int mo_slot, .int mo_rules, .int mo_entries, .int mo_deep, .int mo_counted, .int mo_opened, .int mo_words, .ref mo_atape, .ref mo_asort, .ref mo_anumber, .ref mo_aclauses, .ref mo_asumAt, .ref mo_atestAt, .ref mo_aendAt, .ref mo_aopen, .ref mo_aasked, .ref mo_astack, .ref mo_amust, .ref mo_apast, .ref mo_apastOf, .int mo_pastMany, .int mo_pastAt, .int mo_takesBack, .ref mo_acanRise, .ref mo_afirstHas, .ref mo_asecondHas, .ref mo_alay, .ref mo_ashows, .ref mo_aimages, .ref mo_aisMade, .int mo_imageAt, .int mo_goesBack])), (mo_apast, hcI k 260 mo_rpast), (a, hcI k 8 a_r)]) (fun u : (Int32) × (Nat → Int32) × (Nat → Int32) => iv (0) (260) (u.1) ∧ ((u.1).toInt = mo_pastAt.toInt + 8)) (fun u : (Int32) × (Nat → Int32) × (Nat → Int32) => [(mo, .inr (7, [.int mo_thrown, .ref mo_ascalar, .ref mo_acane, .ref mo_ais, .ref mo_astrandOf, .ref mo_aweight, .ref mo_aheight, .ref mo_achairOf, .ref mo_anoteMinute, .ref mo_anoteWho, .ref mo_anoteIs, .ref mo_atoldCane, .ref mo_anewScalar, .ref mo_anewCane, .ref mo_anewHeight, .ref mo_anewStrand, .ref mo_anewChair, .ref mo_anewWeight, .int mo_taped, .int mo_p, .int mo_fault, .int mo_slot, .int mo_rules, .int mo_entries, .int mo_deep, .int mo_counted, .int mo_opened, .int mo_words, .ref mo_atape, .ref mo_asort, .ref mo_anumber, .ref mo_aclauses, .ref mo_asumAt, .ref mo_atestAt, .ref mo_aendAt, .ref mo_aopen, .ref mo_aasked, .ref mo_astack, .ref mo_amust, .ref mo_apast, .ref mo_apastOf, .int mo_pastMany, .int (u.1), .int mo_takesBack, .ref mo_acanRise, .ref mo_afirstHas, .ref mo_asecondHas, .ref mo_alay, .ref mo_ashows, .ref mo_aimages, .ref mo_aisMade, .int mo_imageAt, .int mo_goesBack])), (mo_apast, hcI k 260 (u.2.1)), (a, hcI k 8 (u.2.2))]) 0 0 := by
  have h_mo_taped_l := h_mo_taped.1
  have h_mo_taped_u := h_mo_taped.2
  have h_mo_p_l := h_mo_p.1
  have h_mo_p_u := h_mo_p.2
  have h_mo_fault_l := h_mo_fault.1
  have h_mo_fault_u := h_mo_fault.2
  have h_mo_slot_l := h_mo_slot.1
  have h_mo_slot_u := h_mo_slot.2
  have h_mo_rules_l := h_mo_rules.1
  have h_mo_rules_u := h_mo_rules.2
  have h_mo_entries_l := h_mo_entries.1
  have h_mo_entries_u := h_mo_entries.2
  have h_mo_counted_l := h_mo_counted.1
  have h_mo_counted_u := h_mo_counted.2
  have h_mo_opened_l := h_mo_opened.1
  have h_mo_opened_u := h_mo_opened.2
  have h_mo_words_l := h_mo_words.1
  have h_mo_words_u := h_mo_words.2
  have h_mo_pastMany_l := h_mo_pastMany.1
  have h_mo_pastMany_u := h_mo_pastMany.2
  have h_mo_pastAt_l := h_mo_pastAt.1
  have h_mo_pastAt_u := h_mo_pastAt.2
  have h_mo_takesBack_l := h_mo_takesBack.1
  have h_mo_takesBack_u := h_mo_takesBack.2
  have h_mo_imageAt_l := h_mo_imageAt.1
  have h_mo_imageAt_u := h_mo_imageAt.2
  have h_mo_goesBack_l := h_mo_goesBack.1
  have h_mo_goesBack_u := h_mo_goesBack.2
  refine CtV.mk (cc := cX9_movesRow) (maxL := 3) (ret := none) (by decide) rfl (Nat.le_of_ble_eq_true rfl) ?_
  intro p e s m below meth c A ls E hP hD hS hl
  obtain ⟨hx, hb, hr, hml, hown, hts, hlocks, hin, hG, hA⟩ := E
  have hown : s.vm.findClass RX9 = some m.cls := hown
  have in9 : ∀ w ∈ u_ws RX9 TX9 53, w ∈ wsX9_movesRow := fun _ h => List.mem_cons_of_mem _ (List.mem_append_right _ h)
  have hl : lv_has ls 3 [(0, .ref mo), (1, .ref a)] := hl
  refine lv_iconst (v := 0) hx hb dX9_movesRow_0 (by decide) ?_
  refine lv_istore_n (lv' := [(2, .int 0), (0, .ref mo), (1, .ref a)]) hx hb dX9_movesRow_1 rfl hl (by decide) rfl (fun ls hl => ?_)
  have loop1 : ∀ (fu : Nat) (L2_1 : Int32) (K42_1mo : Int32) (g_1mo_apast : Nat → Int32) (g_1a : Nat → Int32), iv (0) (8) L2_1 → iv (0) (260) K42_1mo → K42_1mo.toInt = mo_pastAt.toInt + L2_1.toInt → 9 - L2_1.toInt < (fu : Int) → ∀ (H : Heap) (locs : List Loc) (ls : Array Slot), va_P D vwCl ([(mo, .inr (7, [.int mo_thrown, .ref mo_ascalar, .ref mo_acane, .ref mo_ais, .ref mo_astrandOf, .ref mo_aweight, .ref mo_aheight, .ref mo_achairOf, .ref mo_anoteMinute, .ref mo_anoteWho, .ref mo_anoteIs, .ref mo_atoldCane, .ref mo_anewScalar, .ref mo_anewCane, .ref mo_anewHeight, .ref mo_anewStrand, .ref mo_anewChair, .ref mo_anewWeight, .int mo_taped, .int mo_p, .int mo_fault, .int mo_slot, .int mo_rules, .int mo_entries, .int mo_deep, .int mo_counted, .int mo_opened, .int mo_words, .ref mo_atape, .ref mo_asort, .ref mo_anumber, .ref mo_aclauses, .ref mo_asumAt, .ref mo_atestAt, .ref mo_aendAt, .ref mo_aopen, .ref mo_aasked, .ref mo_astack, .ref mo_amust, .ref mo_apast, .ref mo_apastOf, .int mo_pastMany, .int K42_1mo, .int mo_takesBack, .ref mo_acanRise, .ref mo_afirstHas, .ref mo_asecondHas, .ref mo_alay, .ref mo_ashows, .ref mo_aimages, .ref mo_aisMade, .int mo_imageAt, .int mo_goesBack])), (mo_apast, hcI k 260 g_1mo_apast), (a, hcI k 8 g_1a)]) H → va_D A ([(mo, .inr (7, [.int mo_thrown, .ref mo_ascalar, .ref mo_acane, .ref mo_ais, .ref mo_astrandOf, .ref mo_aweight, .ref mo_aheight, .ref mo_achairOf, .ref mo_anoteMinute, .ref mo_anoteWho, .ref mo_anoteIs, .ref mo_atoldCane, .ref mo_anewScalar, .ref mo_anewCane, .ref mo_anewHeight, .ref mo_anewStrand, .ref mo_anewChair, .ref mo_anewWeight, .int mo_taped, .int mo_p, .int mo_fault, .int mo_slot, .int mo_rules, .int mo_entries, .int mo_deep, .int mo_counted, .int mo_opened, .int mo_words, .ref mo_atape, .ref mo_asort, .ref mo_anumber, .ref mo_aclauses, .ref mo_asumAt, .ref mo_atestAt, .ref mo_aendAt, .ref mo_aopen, .ref mo_aasked, .ref mo_astack, .ref mo_amust, .ref mo_apast, .ref mo_apastOf, .int mo_pastMany, .int K42_1mo, .int mo_takesBack, .ref mo_acanRise, .ref mo_afirstHas, .ref mo_asecondHas, .ref mo_alay, .ref mo_ashows, .ref mo_aimages, .ref mo_aisMade, .int mo_imageAt, .int mo_goesBack])), (mo_apast, hcI k 260 g_1mo_apast), (a, hcI k 8 g_1a)]) → va_S A s.heap H locs → lv_has ls 3 [(2, .int L2_1), (0, .ref mo), (1, .ref a)] → W p l e (rmK 2 0 0) s m (List.toArray [.ref mo, .ref a]) below meth c H locs 0 0 (MQ below (va_Qv (fun u : (Int32) × (Nat → Int32) × (Nat → Int32) => iv (0) (260) (u.1) ∧ ((u.1).toInt = mo_pastAt.toInt + 8)) (hcB D (fun u : (Int32) × (Nat → Int32) × (Nat → Int32) => [(mo, .inr (7, [.int mo_thrown, .ref mo_ascalar, .ref mo_acane, .ref mo_ais, .ref mo_astrandOf, .ref mo_aweight, .ref mo_aheight, .ref mo_achairOf, .ref mo_anoteMinute, .ref mo_anoteWho, .ref mo_anoteIs, .ref mo_atoldCane, .ref mo_anewScalar, .ref mo_anewCane, .ref mo_anewHeight, .ref mo_anewStrand, .ref mo_anewChair, .ref mo_anewWeight, .int mo_taped, .int mo_p, .int mo_fault, .int mo_slot, .int mo_rules, .int mo_entries, .int mo_deep, .int mo_counted, .int mo_opened, .int mo_words, .ref mo_atape, .ref mo_asort, .ref mo_anumber, .ref mo_aclauses, .ref mo_asumAt, .ref mo_atestAt, .ref mo_aendAt, .ref mo_aopen, .ref mo_aasked, .ref mo_astack, .ref mo_amust, .ref mo_apast, .ref mo_apastOf, .int mo_pastMany, .int (u.1), .int mo_takesBack, .ref mo_acanRise, .ref mo_afirstHas, .ref mo_asecondHas, .ref mo_alay, .ref mo_ashows, .ref mo_aimages, .ref mo_aisMade, .int mo_imageAt, .int mo_goesBack])), (mo_apast, hcI k 260 (u.2.1)), (a, hcI k 8 (u.2.2))]) A) A) (List.toArray [.ref mo, .ref a]) s 0 0 A) (F0 m 2 ls []) := by
    intro fu
    induction fu with
    | zero =>
      intro L2_1 K42_1mo g_1mo_apast g_1a bL2_1 bK42_1mo hI1_1 hm
      have bL2_1_l := bL2_1.1
      have bL2_1_u := bL2_1.2
      have bK42_1mo_l := bK42_1mo.1
      have bK42_1mo_u := bK42_1mo.2
      exact absurd hm (by omega)
    | succ fu ih1 =>
      intro L2_1 K42_1mo g_1mo_apast g_1a bL2_1 bK42_1mo hI1_1 hm H locs ls hP hD hS hl
      have bL2_1_l := bL2_1.1
      have bL2_1_u := bL2_1.2
      have bK42_1mo_l := bK42_1mo.1
      have bK42_1mo_u := bK42_1mo.2
      refine lv_iload_n hx hb dX9_movesRow_2 rfl (lv_at hl 0 rfl) ?_
      refine lv_aload_n hx hb dX9_movesRow_3 rfl (lv_at hl 2 rfl) ?_
      refine va_alen hx hb hG.1 hP 2 0 rfl rfl (v := 8) rfl dX9_movesRow_4 ?_
      refine lv_icmp_ge (tgt := 24) hx hb dX9_movesRow_5 (by decide) (fun c2 => ?_) (fun c2 => ?_)
      · have fc2 := cx_ge_t (a := L2_1.toInt) (b := 8) rfl (by decide) c2
        exact hc_endV hx hb hr hlocks (K42_1mo, g_1mo_apast, g_1a) ⟨(show iv (0) (260) K42_1mo from ⟨by omega, by omega⟩), (by (try dsimp only); omega)⟩ hP hD hS dX9_movesRow_24
      · have fc2 := cx_ge_f (a := L2_1.toInt) (b := 8) rfl (by decide) c2
        refine lv_aload_n hx hb dX9_movesRow_8 rfl (lv_at hl 2 rfl) ?_
        refine lv_iload_n hx hb dX9_movesRow_9 rfl (lv_at hl 0 rfl) ?_
        refine lv_aload_n hx hb dX9_movesRow_10 rfl (lv_at hl 1 rfl) ?_
        refine lv_aload_n hx hb dX9_movesRow_11 rfl (lv_at hl 2 rfl) ?_
        refine lv_iload_n hx hb dX9_movesRow_12 rfl (lv_at hl 0 rfl) ?_
        refine va_iald hx hb hG.1 hP 2 0 rfl rfl (vp_in_iff.mpr ⟨by omega, by omega⟩) dX9_movesRow_13 ?_
        refine lv_topi (fun z3 ez3 => ?_)
        refine hc_Vi (As := [.int z3]) (rest := [.int L2_1, .ref a]) (n := 1) (wr := [(a, hcI k 8 g_1a)]) hx hb hml hown hts hG hA hP hD hS hl.1 [0, 1] [2] (i_X9_moves l D k _ z3 mo mo_thrown mo_ascalar mo_acane mo_ais mo_astrandOf mo_aweight mo_aheight mo_achairOf mo_anoteMinute mo_anoteWho mo_anoteIs mo_atoldCane mo_anewScalar mo_anewCane mo_anewHeight mo_anewStrand mo_anewChair mo_anewWeight mo_taped mo_p mo_fault mo_slot mo_rules mo_entries mo_deep mo_counted mo_opened mo_words mo_atape mo_asort mo_anumber mo_aclauses mo_asumAt mo_atestAt mo_aendAt mo_aopen mo_aasked mo_astack mo_amust mo_apast mo_apastOf mo_pastMany K42_1mo mo_takesBack mo_acanRise mo_afirstHas mo_asecondHas mo_alay mo_ashows mo_aimages mo_aisMade mo_imageAt mo_goesBack g_1mo_apast ⟨by omega, by omega⟩ ⟨by omega, by omega⟩ ⟨by omega, by omega⟩ ⟨by omega, by omega⟩ ⟨by omega, by omega⟩ ⟨by omega, by omega⟩ ⟨by omega, by omega⟩ ⟨by omega, by omega⟩ ⟨by omega, by omega⟩ ⟨by omega, by omega⟩ ⟨by omega, by omega⟩ ⟨by omega, by omega⟩ ⟨by omega, by omega⟩ ⟨by omega, by omega⟩ (by omega)) (ci := 7) (q0 := 0) rfl rfl gX9_movesRow_X9_moves rfl ⟨rfl, rfl, Nat.le_of_ble_eq_true rfl, Nat.le_of_ble_eq_true rfl⟩ (by decide +kernel) rfl rfl ⟨by decide, by decide, by decide⟩ ⟨rfl, rfl, Nat.le_of_ble_eq_true rfl, Nat.le_of_ble_eq_true rfl, Nat.le_of_ble_eq_true rfl⟩ dX9_movesRow_14 (fun r5 u4 H locs hw hP hD hS => ?_)
        obtain ⟨w6, w7⟩ := u4
        have hP : va_P D vwCl ([(a, hcI k 8 g_1a), (mo, .inr (7, [.int mo_thrown, .ref mo_ascalar, .ref mo_acane, .ref mo_ais, .ref mo_astrandOf, .ref mo_aweight, .ref mo_aheight, .ref mo_achairOf, .ref mo_anoteMinute, .ref mo_anoteWho, .ref mo_anoteIs, .ref mo_atoldCane, .ref mo_anewScalar, .ref mo_anewCane, .ref mo_anewHeight, .ref mo_anewStrand, .ref mo_anewChair, .ref mo_anewWeight, .int mo_taped, .int mo_p, .int mo_fault, .int mo_slot, .int mo_rules, .int mo_entries, .int mo_deep, .int mo_counted, .int mo_opened, .int mo_words, .ref mo_atape, .ref mo_asort, .ref mo_anumber, .ref mo_aclauses, .ref mo_asumAt, .ref mo_atestAt, .ref mo_aendAt, .ref mo_aopen, .ref mo_aasked, .ref mo_astack, .ref mo_amust, .ref mo_apast, .ref mo_apastOf, .int mo_pastMany, .int w6, .int mo_takesBack, .ref mo_acanRise, .ref mo_afirstHas, .ref mo_asecondHas, .ref mo_alay, .ref mo_ashows, .ref mo_aimages, .ref mo_aisMade, .int mo_imageAt, .int mo_goesBack])), (mo_apast, hcI k 260 w7)]) H := hP
        have hD : va_D A ([(a, hcI k 8 g_1a), (mo, .inr (7, [.int mo_thrown, .ref mo_ascalar, .ref mo_acane, .ref mo_ais, .ref mo_astrandOf, .ref mo_aweight, .ref mo_aheight, .ref mo_achairOf, .ref mo_anoteMinute, .ref mo_anoteWho, .ref mo_anoteIs, .ref mo_atoldCane, .ref mo_anewScalar, .ref mo_anewCane, .ref mo_anewHeight, .ref mo_anewStrand, .ref mo_anewChair, .ref mo_anewWeight, .int mo_taped, .int mo_p, .int mo_fault, .int mo_slot, .int mo_rules, .int mo_entries, .int mo_deep, .int mo_counted, .int mo_opened, .int mo_words, .ref mo_atape, .ref mo_asort, .ref mo_anumber, .ref mo_aclauses, .ref mo_asumAt, .ref mo_atestAt, .ref mo_aendAt, .ref mo_aopen, .ref mo_aasked, .ref mo_astack, .ref mo_amust, .ref mo_apast, .ref mo_apastOf, .int mo_pastMany, .int w6, .int mo_takesBack, .ref mo_acanRise, .ref mo_afirstHas, .ref mo_asecondHas, .ref mo_alay, .ref mo_ashows, .ref mo_aimages, .ref mo_aisMade, .int mo_imageAt, .int mo_goesBack])), (mo_apast, hcI k 260 w7)]) := hD
        obtain ⟨bw6, rel8⟩ := hw
        have bw6 : iv (0) (260) w6 := bw6
        have bw6_l := bw6.1
        have bw6_u := bw6.2
        try dsimp only at rel8
        refine va_iast hx hb hG.1 hP hD hS 0 0 rfl rfl (vp_in_iff.mpr ⟨by omega, by omega⟩) dX9_movesRow_17 (fun H locs hP hD hS => ?_)
        obtain ⟨f9, ef9⟩ : ∃ f, f = upd g_1a (Int32.toNatClampNeg L2_1) (r5) := ⟨_, rfl⟩
        rw [← ef9] at hP hD
        have hP : va_P D vwCl ([(a, hcI k 8 f9), (mo, .inr (7, [.int mo_thrown, .ref mo_ascalar, .ref mo_acane, .ref mo_ais, .ref mo_astrandOf, .ref mo_aweight, .ref mo_aheight, .ref mo_achairOf, .ref mo_anoteMinute, .ref mo_anoteWho, .ref mo_anoteIs, .ref mo_atoldCane, .ref mo_anewScalar, .ref mo_anewCane, .ref mo_anewHeight, .ref mo_anewStrand, .ref mo_anewChair, .ref mo_anewWeight, .int mo_taped, .int mo_p, .int mo_fault, .int mo_slot, .int mo_rules, .int mo_entries, .int mo_deep, .int mo_counted, .int mo_opened, .int mo_words, .ref mo_atape, .ref mo_asort, .ref mo_anumber, .ref mo_aclauses, .ref mo_asumAt, .ref mo_atestAt, .ref mo_aendAt, .ref mo_aopen, .ref mo_aasked, .ref mo_astack, .ref mo_amust, .ref mo_apast, .ref mo_apastOf, .int mo_pastMany, .int w6, .int mo_takesBack, .ref mo_acanRise, .ref mo_afirstHas, .ref mo_asecondHas, .ref mo_alay, .ref mo_ashows, .ref mo_aimages, .ref mo_aisMade, .int mo_imageAt, .int mo_goesBack])), (mo_apast, hcI k 260 w7)]) H := hP
        have hD : va_D A ([(a, hcI k 8 f9), (mo, .inr (7, [.int mo_thrown, .ref mo_ascalar, .ref mo_acane, .ref mo_ais, .ref mo_astrandOf, .ref mo_aweight, .ref mo_aheight, .ref mo_achairOf, .ref mo_anoteMinute, .ref mo_anoteWho, .ref mo_anoteIs, .ref mo_atoldCane, .ref mo_anewScalar, .ref mo_anewCane, .ref mo_anewHeight, .ref mo_anewStrand, .ref mo_anewChair, .ref mo_anewWeight, .int mo_taped, .int mo_p, .int mo_fault, .int mo_slot, .int mo_rules, .int mo_entries, .int mo_deep, .int mo_counted, .int mo_opened, .int mo_words, .ref mo_atape, .ref mo_asort, .ref mo_anumber, .ref mo_aclauses, .ref mo_asumAt, .ref mo_atestAt, .ref mo_aendAt, .ref mo_aopen, .ref mo_aasked, .ref mo_astack, .ref mo_amust, .ref mo_apast, .ref mo_apastOf, .int mo_pastMany, .int w6, .int mo_takesBack, .ref mo_acanRise, .ref mo_afirstHas, .ref mo_asecondHas, .ref mo_alay, .ref mo_ashows, .ref mo_aimages, .ref mo_aisMade, .int mo_imageAt, .int mo_goesBack])), (mo_apast, hcI k 260 w7)]) := hD
        obtain ⟨z10, ez10⟩ : ∃ z : Int32, z = L2_1 + 1 := ⟨_, rfl⟩
        have tz10 : z10.toInt = L2_1.toInt + (1) := ai_add rfl (by decide) ez10 (by omega) (by omega)
        refine lv_iinc (v := z10) (lv' := [(2, .int z10), (0, .ref mo), (1, .ref a)]) hx hb dX9_movesRow_18 hl (k := 0) rfl (by rw [ez10]; rfl) (by decide) rfl (fun ls hl => ?_)
        refine lv_goto (tgt := 2) hx hb dX9_movesRow_21 (by decide) ?_
        exact ih1 z10 w6 w7 f9 ⟨by omega, by omega⟩ ⟨by omega, by omega⟩ (by omega) (by omega) _ _ _ (hP.sub [1, 2, 0] rfl) (hD.sub [1, 2, 0] (by decide) rfl) hS (lv_sub hl [0, 1, 2] rfl)
  exact loop1 100 0 mo_pastAt mo_rpast a_r (iv_lit (by decide) (by decide)) ⟨by omega, by omega⟩ (by have q0 : (0 : Int32).toInt = 0 := (by decide); omega) (by have q0 : (0 : Int32).toInt = 0 := (by decide); omega) _ _ _ hP hD hS hl
set_option maxHeartbeats 4000000 in
set_option maxRecDepth 100000 in
theorem i_X9_movesAll (l : Launch) (D : va_G) (k : Nat → ClassId) (sz : Nat) (x1 : Int32) (x2 : Int32) (mo : Nat) (mo_thrown : Int32) (mo_ascalar : Nat) (mo_acane : Nat) (mo_ais : Nat) (mo_astrandOf : Nat) (mo_aweight : Nat) (mo_aheight : Nat) (mo_achairOf : Nat) (mo_anoteMinute : Nat) (mo_anoteWho : Nat) (mo_anoteIs : Nat) (mo_atoldCane : Nat) (mo_anewScalar : Nat) (mo_anewCane : Nat) (mo_anewHeight : Nat) (mo_anewStrand : Nat) (mo_anewChair : Nat) (mo_anewWeight : Nat) (mo_taped : Int32) (mo_p : Int32) (mo_fault : Int32) (mo_slot : Int32) (mo_rules : Int32) (mo_entries : Int32) (mo_deep : Int32) (mo_counted : Int32) (mo_opened : Int32) (mo_words : Int32) (mo_atape : Nat) (mo_asort : Nat) (mo_anumber : Nat) (mo_aclauses : Nat) (mo_asumAt : Nat) (mo_atestAt : Nat) (mo_aendAt : Nat) (mo_aopen : Nat) (mo_aasked : Nat) (mo_astack : Nat) (mo_amust : Nat) (mo_apast : Nat) (mo_apastOf : Nat) (mo_pastMany : Int32) (mo_pastAt : Int32) (mo_takesBack : Int32) (mo_acanRise : Nat) (mo_afirstHas : Nat) (mo_asecondHas : Nat) (mo_alay : Nat) (mo_ashows : Nat) (mo_aimages : Nat) (mo_aisMade : Nat) (mo_imageAt : Int32) (mo_goesBack : Int32) (mo_rcane : Nat → Int32) (mo_ris : Nat → Int32) (mo_rpast : Nat → Int32) (mo_s0 : Int32) (mo_s1 : Int32) (mo_s2 : Int32) (mo_s3 : Int32) (mo_s4 : Int32) (mo_s5 : Int32) (mo_s6 : Int32) (mo_s7 : Int32) (h_x1 : iv (0) (19) x1) (h_x2 : iv (0) (1) x2) (h_mo_taped : iv (0) (400) mo_taped) (h_mo_p : iv (0) (402) mo_p) (h_mo_fault : iv (0) (4000) mo_fault) (h_mo_slot : iv (0) (5) mo_slot) (h_mo_rules : iv (0) (6) mo_rules) (h_mo_entries : iv (0) (300) mo_entries) (h_mo_counted : iv (0) (70) mo_counted) (h_mo_opened : iv (0) (402) mo_opened) (h_mo_words : iv (11) (11) mo_words) (h_mo_pastMany : iv (0) (20) mo_pastMany) (h_mo_pastAt : iv (0) (260) mo_pastAt) (h_mo_takesBack : iv (0) (1) mo_takesBack) (h_mo_imageAt : iv (0) (2000) mo_imageAt) (h_mo_goesBack : iv (0) (1) mo_goesBack) (h_mo_s1 : iv (0) (4) mo_s1) (h_mo_s2 : iv (0) (8) mo_s2) (h_mo_s3 : iv (0) (8) mo_s3) (h_mo_s5 : iv (0) (10) mo_s5) (h_mo_s7 : iv (-1) (5) mo_s7) : CtV l yX9_movesAll wsX9_movesAll (rmK 3 0 0) [.ref mo, .int x1, .int x2] D k sz ([(mo, .inr (7, [.int mo_thrown, .ref mo_ascalar, .ref mo_acane, .ref mo_ais, .ref mo_astrandOf, .ref mo_aweight, .ref mo_aheight, .ref mo_achairOf, .ref mo_anoteMinute, .ref mo_anoteWho, .ref mo_anoteIs, .ref mo_atoldCane, .ref mo_anewScalar, .ref mo_anewCane, .ref mo_anewHeight, .ref mo_anewStrand, .ref mo_anewChair, .ref mo_anewWeight, .int mo_taped, .int mo_p, .int mo_fault, .int mo_slot, .int mo_rules, .int mo_entries, .int mo_deep, .int mo_counted, .int mo_opened, .int mo_words, .ref mo_atape, .ref mo_asort, .ref mo_anumber, .ref mo_aclauses, .ref mo_asumAt, .ref mo_atestAt, .ref mo_aendAt, .ref mo_aopen, .ref mo_aasked, .ref mo_astack, .ref mo_amust, .ref mo_apast, .ref mo_apastOf, .int mo_pastMany, .int mo_pastAt, .int mo_takesBack, .ref mo_acanRise, .ref mo_afirstHas, .ref mo_asecondHas, .ref mo_alay, .ref mo_ashows, .ref mo_aimages, .ref mo_aisMade, .int mo_imageAt, .int mo_goesBack])), (mo_acane, hcI k 4 mo_rcane), (mo_ais, hcI k 8 mo_ris), (mo_apast, hcI k 260 mo_rpast), (mo_ascalar, hcI k 8 (sc8 mo_s0 mo_s1 mo_s2 mo_s3 mo_s4 mo_s5 mo_s6 mo_s7))]) (fun u : (Int32) × (Int32) × (Nat → Int32) × (Nat → Int32) × (Nat → Int32) × (Int32) => iv (0) (260) (u.1) ∧ iv (0) (1) (u.2.1)) (fun u : (Int32) × (Int32) × (Nat → Int32) × (Nat → Int32) × (Nat → Int32) × (Int32) => [(mo, .inr (7, [.int mo_thrown, .ref mo_ascalar, .ref mo_acane, .ref mo_ais, .ref mo_astrandOf, .ref mo_aweight, .ref mo_aheight, .ref mo_achairOf, .ref mo_anoteMinute, .ref mo_anoteWho, .ref mo_anoteIs, .ref mo_atoldCane, .ref mo_anewScalar, .ref mo_anewCane, .ref mo_anewHeight, .ref mo_anewStrand, .ref mo_anewChair, .ref mo_anewWeight, .int mo_taped, .int mo_p, .int mo_fault, .int mo_slot, .int mo_rules, .int mo_entries, .int mo_deep, .int mo_counted, .int mo_opened, .int mo_words, .ref mo_atape, .ref mo_asort, .ref mo_anumber, .ref mo_aclauses, .ref mo_asumAt, .ref mo_atestAt, .ref mo_aendAt, .ref mo_aopen, .ref mo_aasked, .ref mo_astack, .ref mo_amust, .ref mo_apast, .ref mo_apastOf, .int mo_pastMany, .int (u.1), .int (u.2.1), .ref mo_acanRise, .ref mo_afirstHas, .ref mo_asecondHas, .ref mo_alay, .ref mo_ashows, .ref mo_aimages, .ref mo_aisMade, .int mo_imageAt, .int mo_goesBack])), (mo_acane, hcI k 4 (u.2.2.1)), (mo_ais, hcI k 8 (u.2.2.2.1)), (mo_apast, hcI k 260 (u.2.2.2.2.1)), (mo_ascalar, hcI k 8 (sc8 mo_s0 mo_s1 mo_s2 mo_s3 (u.2.2.2.2.2) mo_s5 mo_s6 mo_s7))]) 0 0 := by
  have h_x1_l := h_x1.1
  have h_x1_u := h_x1.2
  have h_x2_l := h_x2.1
  have h_x2_u := h_x2.2
  have h_mo_taped_l := h_mo_taped.1
  have h_mo_taped_u := h_mo_taped.2
  have h_mo_p_l := h_mo_p.1
  have h_mo_p_u := h_mo_p.2
  have h_mo_fault_l := h_mo_fault.1
  have h_mo_fault_u := h_mo_fault.2
  have h_mo_slot_l := h_mo_slot.1
  have h_mo_slot_u := h_mo_slot.2
  have h_mo_rules_l := h_mo_rules.1
  have h_mo_rules_u := h_mo_rules.2
  have h_mo_entries_l := h_mo_entries.1
  have h_mo_entries_u := h_mo_entries.2
  have h_mo_counted_l := h_mo_counted.1
  have h_mo_counted_u := h_mo_counted.2
  have h_mo_opened_l := h_mo_opened.1
  have h_mo_opened_u := h_mo_opened.2
  have h_mo_words_l := h_mo_words.1
  have h_mo_words_u := h_mo_words.2
  have h_mo_pastMany_l := h_mo_pastMany.1
  have h_mo_pastMany_u := h_mo_pastMany.2
  have h_mo_pastAt_l := h_mo_pastAt.1
  have h_mo_pastAt_u := h_mo_pastAt.2
  have h_mo_takesBack_l := h_mo_takesBack.1
  have h_mo_takesBack_u := h_mo_takesBack.2
  have h_mo_imageAt_l := h_mo_imageAt.1
  have h_mo_imageAt_u := h_mo_imageAt.2
  have h_mo_goesBack_l := h_mo_goesBack.1
  have h_mo_goesBack_u := h_mo_goesBack.2
  have h_mo_s1_l := h_mo_s1.1
  have h_mo_s1_u := h_mo_s1.2
  have h_mo_s2_l := h_mo_s2.1
  have h_mo_s2_u := h_mo_s2.2
  have h_mo_s3_l := h_mo_s3.1
  have h_mo_s3_u := h_mo_s3.2
  have h_mo_s5_l := h_mo_s5.1
  have h_mo_s5_u := h_mo_s5.2
  have h_mo_s7_l := h_mo_s7.1
  have h_mo_s7_u := h_mo_s7.2
  refine CtV.mk (cc := cX9_movesAll) (maxL := 3) (ret := none) (by decide) rfl (Nat.le_of_ble_eq_true rfl) ?_
  intro p e s m below meth c A ls E hP hD hS hl
  obtain ⟨hx, hb, hr, hml, hown, hts, hlocks, hin, hG, hA⟩ := E
  have hown : s.vm.findClass RX9 = some m.cls := hown
  have in9 : ∀ w ∈ u_ws RX9 TX9 53, w ∈ wsX9_movesAll := fun _ h => List.mem_cons_of_mem _ (List.mem_append_right _ h)
  have hl : lv_has ls 3 [(0, .ref mo), (1, .int x1), (2, .int x2)] := hl
  refine lv_aload_n hx hb dX9_movesAll_0 rfl (lv_at hl 0 rfl) ?_
  refine lv_bipush (v := 13) hx hb dX9_movesAll_1 (by decide) ?_
  refine lv_iload_n hx hb dX9_movesAll_3 rfl (lv_at hl 1 rfl) ?_
  refine lv_imul hx hb dX9_movesAll_4 ?_
  refine lv_topi (fun z1 ez1 => ?_)
  have tz1 : z1.toInt = 13 * x1.toInt := ai_mul (by decide) rfl ez1 (by omega) (by omega)
  refine va_put (D := D) (ci := 7) (v := .int z1) (C := RX9) (T := TX9) (N := 53) hx hb hts in9 tyX9 tyX9_ok nmX9 hown hG.1 hP hD hS 0 rfl rfl 42 (by decide) (hts (.fieldLink RX9 390 "ChairCaneModel" "pastAt" "I") (by decide +kernel)) (fun _ h9 => h9) rfl (tyX9_ok 42 (by decide)) rfl rfl (Nat.le_of_ble_eq_true rfl) dX9_movesAll_5 (fun H locs hP hD hS => ?_)
  have hP : va_P D vwCl ([(mo, .inr (7, [.int mo_thrown, .ref mo_ascalar, .ref mo_acane, .ref mo_ais, .ref mo_astrandOf, .ref mo_aweight, .ref mo_aheight, .ref mo_achairOf, .ref mo_anoteMinute, .ref mo_anoteWho, .ref mo_anoteIs, .ref mo_atoldCane, .ref mo_anewScalar, .ref mo_anewCane, .ref mo_anewHeight, .ref mo_anewStrand, .ref mo_anewChair, .ref mo_anewWeight, .int mo_taped, .int mo_p, .int mo_fault, .int mo_slot, .int mo_rules, .int mo_entries, .int mo_deep, .int mo_counted, .int mo_opened, .int mo_words, .ref mo_atape, .ref mo_asort, .ref mo_anumber, .ref mo_aclauses, .ref mo_asumAt, .ref mo_atestAt, .ref mo_aendAt, .ref mo_aopen, .ref mo_aasked, .ref mo_astack, .ref mo_amust, .ref mo_apast, .ref mo_apastOf, .int mo_pastMany, .int z1, .int mo_takesBack, .ref mo_acanRise, .ref mo_afirstHas, .ref mo_asecondHas, .ref mo_alay, .ref mo_ashows, .ref mo_aimages, .ref mo_aisMade, .int mo_imageAt, .int mo_goesBack])), (mo_acane, hcI k 4 mo_rcane), (mo_ais, hcI k 8 mo_ris), (mo_apast, hcI k 260 mo_rpast), (mo_ascalar, hcI k 8 (sc8 mo_s0 mo_s1 mo_s2 mo_s3 mo_s4 mo_s5 mo_s6 mo_s7))]) H := hP
  have hD : va_D A ([(mo, .inr (7, [.int mo_thrown, .ref mo_ascalar, .ref mo_acane, .ref mo_ais, .ref mo_astrandOf, .ref mo_aweight, .ref mo_aheight, .ref mo_achairOf, .ref mo_anoteMinute, .ref mo_anoteWho, .ref mo_anoteIs, .ref mo_atoldCane, .ref mo_anewScalar, .ref mo_anewCane, .ref mo_anewHeight, .ref mo_anewStrand, .ref mo_anewChair, .ref mo_anewWeight, .int mo_taped, .int mo_p, .int mo_fault, .int mo_slot, .int mo_rules, .int mo_entries, .int mo_deep, .int mo_counted, .int mo_opened, .int mo_words, .ref mo_atape, .ref mo_asort, .ref mo_anumber, .ref mo_aclauses, .ref mo_asumAt, .ref mo_atestAt, .ref mo_aendAt, .ref mo_aopen, .ref mo_aasked, .ref mo_astack, .ref mo_amust, .ref mo_apast, .ref mo_apastOf, .int mo_pastMany, .int z1, .int mo_takesBack, .ref mo_acanRise, .ref mo_afirstHas, .ref mo_asecondHas, .ref mo_alay, .ref mo_ashows, .ref mo_aimages, .ref mo_aisMade, .int mo_imageAt, .int mo_goesBack])), (mo_acane, hcI k 4 mo_rcane), (mo_ais, hcI k 8 mo_ris), (mo_apast, hcI k 260 mo_rpast), (mo_ascalar, hcI k 8 (sc8 mo_s0 mo_s1 mo_s2 mo_s3 mo_s4 mo_s5 mo_s6 mo_s7))]) := hD
  refine lv_aload_n hx hb dX9_movesAll_8 rfl (lv_at hl 0 rfl) ?_
  refine lv_iload_n hx hb dX9_movesAll_9 rfl (lv_at hl 2 rfl) ?_
  refine va_put (D := D) (ci := 7) (v := .int x2) (C := RX9) (T := TX9) (N := 53) hx hb hts in9 tyX9 tyX9_ok nmX9 hown hG.1 hP hD hS 0 rfl rfl 43 (by decide) (hts (.fieldLink RX9 386 "ChairCaneModel" "takesBack" "Z") (by decide +kernel)) (fun _ h9 => h9) rfl (tyX9_ok 43 (by decide)) (iv_z ⟨by omega, by omega⟩) (iv_f ⟨by omega, by omega⟩) (Nat.le_of_ble_eq_true rfl) dX9_movesAll_10 (fun H locs hP hD hS => ?_)
  have hP : va_P D vwCl ([(mo, .inr (7, [.int mo_thrown, .ref mo_ascalar, .ref mo_acane, .ref mo_ais, .ref mo_astrandOf, .ref mo_aweight, .ref mo_aheight, .ref mo_achairOf, .ref mo_anoteMinute, .ref mo_anoteWho, .ref mo_anoteIs, .ref mo_atoldCane, .ref mo_anewScalar, .ref mo_anewCane, .ref mo_anewHeight, .ref mo_anewStrand, .ref mo_anewChair, .ref mo_anewWeight, .int mo_taped, .int mo_p, .int mo_fault, .int mo_slot, .int mo_rules, .int mo_entries, .int mo_deep, .int mo_counted, .int mo_opened, .int mo_words, .ref mo_atape, .ref mo_asort, .ref mo_anumber, .ref mo_aclauses, .ref mo_asumAt, .ref mo_atestAt, .ref mo_aendAt, .ref mo_aopen, .ref mo_aasked, .ref mo_astack, .ref mo_amust, .ref mo_apast, .ref mo_apastOf, .int mo_pastMany, .int z1, .int x2, .ref mo_acanRise, .ref mo_afirstHas, .ref mo_asecondHas, .ref mo_alay, .ref mo_ashows, .ref mo_aimages, .ref mo_aisMade, .int mo_imageAt, .int mo_goesBack])), (mo_acane, hcI k 4 mo_rcane), (mo_ais, hcI k 8 mo_ris), (mo_apast, hcI k 260 mo_rpast), (mo_ascalar, hcI k 8 (sc8 mo_s0 mo_s1 mo_s2 mo_s3 mo_s4 mo_s5 mo_s6 mo_s7))]) H := hP
  have hD : va_D A ([(mo, .inr (7, [.int mo_thrown, .ref mo_ascalar, .ref mo_acane, .ref mo_ais, .ref mo_astrandOf, .ref mo_aweight, .ref mo_aheight, .ref mo_achairOf, .ref mo_anoteMinute, .ref mo_anoteWho, .ref mo_anoteIs, .ref mo_atoldCane, .ref mo_anewScalar, .ref mo_anewCane, .ref mo_anewHeight, .ref mo_anewStrand, .ref mo_anewChair, .ref mo_anewWeight, .int mo_taped, .int mo_p, .int mo_fault, .int mo_slot, .int mo_rules, .int mo_entries, .int mo_deep, .int mo_counted, .int mo_opened, .int mo_words, .ref mo_atape, .ref mo_asort, .ref mo_anumber, .ref mo_aclauses, .ref mo_asumAt, .ref mo_atestAt, .ref mo_aendAt, .ref mo_aopen, .ref mo_aasked, .ref mo_astack, .ref mo_amust, .ref mo_apast, .ref mo_apastOf, .int mo_pastMany, .int z1, .int x2, .ref mo_acanRise, .ref mo_afirstHas, .ref mo_asecondHas, .ref mo_alay, .ref mo_ashows, .ref mo_aimages, .ref mo_aisMade, .int mo_imageAt, .int mo_goesBack])), (mo_acane, hcI k 4 mo_rcane), (mo_ais, hcI k 8 mo_ris), (mo_apast, hcI k 260 mo_rpast), (mo_ascalar, hcI k 8 (sc8 mo_s0 mo_s1 mo_s2 mo_s3 mo_s4 mo_s5 mo_s6 mo_s7))]) := hD
  refine lv_aload_n hx hb dX9_movesAll_13 rfl (lv_at hl 0 rfl) ?_
  refine va_get (D := D) (ci := 7) (v := .ref mo_ascalar) (C := RX9) (T := TX9) (N := 53) hx hb hts in9 hown hG.1 hP 0 rfl rfl 1 (by decide) (hts (.fieldLink RX9 9 "ChairCaneModel" "scalar" "[I") (by decide +kernel)) (fun _ h9 => h9) rfl dX9_movesAll_14 ?_
  refine lv_iconst (v := 4) hx hb dX9_movesAll_17 (by decide) ?_
  refine lv_aload_n hx hb dX9_movesAll_18 rfl (lv_at hl 0 rfl) ?_
  refine lv_aload_n hx hb dX9_movesAll_19 rfl (lv_at hl 0 rfl) ?_
  refine va_get (D := D) (ci := 7) (v := .ref mo_ascalar) (C := RX9) (T := TX9) (N := 53) hx hb hts in9 hown hG.1 hP 0 rfl rfl 1 (by decide) (hts (.fieldLink RX9 9 "ChairCaneModel" "scalar" "[I") (by decide +kernel)) (fun _ h9 => h9) rfl dX9_movesAll_20 ?_
  refine lv_iconst (v := 4) hx hb dX9_movesAll_23 (by decide) ?_
  refine va_iald hx hb hG.1 hP 4 0 rfl rfl (by unfold vp_in; decide) dX9_movesAll_24 ?_
  refine hc_is (z := mo_s4) (by rw [show Int32.toNatClampNeg 4 = 4 from by decide]; rfl) ?_
  refine hc_Vi (As := [.int mo_s4]) (rest := [.int 4, .ref mo_ascalar]) (n := 1) (wr := [(mo_acane, hcI k 4 mo_rcane), (mo_ais, hcI k 8 mo_ris), (mo_ascalar, hcI k 8 (sc8 mo_s0 mo_s1 mo_s2 mo_s3 mo_s4 mo_s5 mo_s6 mo_s7))]) hx hb hml hown hts hG hA hP hD hS hl.1 [0, 3] [1, 2, 4] (i_X9_moves l D k _ mo_s4 mo mo_thrown mo_ascalar mo_acane mo_ais mo_astrandOf mo_aweight mo_aheight mo_achairOf mo_anoteMinute mo_anoteWho mo_anoteIs mo_atoldCane mo_anewScalar mo_anewCane mo_anewHeight mo_anewStrand mo_anewChair mo_anewWeight mo_taped mo_p mo_fault mo_slot mo_rules mo_entries mo_deep mo_counted mo_opened mo_words mo_atape mo_asort mo_anumber mo_aclauses mo_asumAt mo_atestAt mo_aendAt mo_aopen mo_aasked mo_astack mo_amust mo_apast mo_apastOf mo_pastMany z1 x2 mo_acanRise mo_afirstHas mo_asecondHas mo_alay mo_ashows mo_aimages mo_aisMade mo_imageAt mo_goesBack mo_rpast ⟨by omega, by omega⟩ ⟨by omega, by omega⟩ ⟨by omega, by omega⟩ ⟨by omega, by omega⟩ ⟨by omega, by omega⟩ ⟨by omega, by omega⟩ ⟨by omega, by omega⟩ ⟨by omega, by omega⟩ ⟨by omega, by omega⟩ ⟨by omega, by omega⟩ ⟨by omega, by omega⟩ ⟨by omega, by omega⟩ ⟨by omega, by omega⟩ ⟨by omega, by omega⟩ (by omega)) (ci := 7) (q0 := 0) rfl rfl gX9_movesAll_X9_moves rfl ⟨rfl, rfl, Nat.le_of_ble_eq_true rfl, Nat.le_of_ble_eq_true rfl⟩ (by decide +kernel) rfl rfl ⟨by decide, by decide, by decide⟩ ⟨rfl, rfl, Nat.le_of_ble_eq_true rfl, Nat.le_of_ble_eq_true rfl, Nat.le_of_ble_eq_true rfl⟩ dX9_movesAll_25 (fun r3 u2 H locs hw hP hD hS => ?_)
  obtain ⟨w4, w5⟩ := u2
  have hP : va_P D vwCl ([(mo_acane, hcI k 4 mo_rcane), (mo_ais, hcI k 8 mo_ris), (mo_ascalar, hcI k 8 (sc8 mo_s0 mo_s1 mo_s2 mo_s3 mo_s4 mo_s5 mo_s6 mo_s7)), (mo, .inr (7, [.int mo_thrown, .ref mo_ascalar, .ref mo_acane, .ref mo_ais, .ref mo_astrandOf, .ref mo_aweight, .ref mo_aheight, .ref mo_achairOf, .ref mo_anoteMinute, .ref mo_anoteWho, .ref mo_anoteIs, .ref mo_atoldCane, .ref mo_anewScalar, .ref mo_anewCane, .ref mo_anewHeight, .ref mo_anewStrand, .ref mo_anewChair, .ref mo_anewWeight, .int mo_taped, .int mo_p, .int mo_fault, .int mo_slot, .int mo_rules, .int mo_entries, .int mo_deep, .int mo_counted, .int mo_opened, .int mo_words, .ref mo_atape, .ref mo_asort, .ref mo_anumber, .ref mo_aclauses, .ref mo_asumAt, .ref mo_atestAt, .ref mo_aendAt, .ref mo_aopen, .ref mo_aasked, .ref mo_astack, .ref mo_amust, .ref mo_apast, .ref mo_apastOf, .int mo_pastMany, .int w4, .int x2, .ref mo_acanRise, .ref mo_afirstHas, .ref mo_asecondHas, .ref mo_alay, .ref mo_ashows, .ref mo_aimages, .ref mo_aisMade, .int mo_imageAt, .int mo_goesBack])), (mo_apast, hcI k 260 w5)]) H := hP
  have hD : va_D A ([(mo_acane, hcI k 4 mo_rcane), (mo_ais, hcI k 8 mo_ris), (mo_ascalar, hcI k 8 (sc8 mo_s0 mo_s1 mo_s2 mo_s3 mo_s4 mo_s5 mo_s6 mo_s7)), (mo, .inr (7, [.int mo_thrown, .ref mo_ascalar, .ref mo_acane, .ref mo_ais, .ref mo_astrandOf, .ref mo_aweight, .ref mo_aheight, .ref mo_achairOf, .ref mo_anoteMinute, .ref mo_anoteWho, .ref mo_anoteIs, .ref mo_atoldCane, .ref mo_anewScalar, .ref mo_anewCane, .ref mo_anewHeight, .ref mo_anewStrand, .ref mo_anewChair, .ref mo_anewWeight, .int mo_taped, .int mo_p, .int mo_fault, .int mo_slot, .int mo_rules, .int mo_entries, .int mo_deep, .int mo_counted, .int mo_opened, .int mo_words, .ref mo_atape, .ref mo_asort, .ref mo_anumber, .ref mo_aclauses, .ref mo_asumAt, .ref mo_atestAt, .ref mo_aendAt, .ref mo_aopen, .ref mo_aasked, .ref mo_astack, .ref mo_amust, .ref mo_apast, .ref mo_apastOf, .int mo_pastMany, .int w4, .int x2, .ref mo_acanRise, .ref mo_afirstHas, .ref mo_asecondHas, .ref mo_alay, .ref mo_ashows, .ref mo_aimages, .ref mo_aisMade, .int mo_imageAt, .int mo_goesBack])), (mo_apast, hcI k 260 w5)]) := hD
  obtain ⟨bw4, rel6⟩ := hw
  have bw4 : iv (0) (260) w4 := bw4
  have bw4_l := bw4.1
  have bw4_u := bw4.2
  try dsimp only at rel6
  refine va_iast hx hb hG.1 hP hD hS 2 0 rfl rfl (by unfold vp_in; decide) dX9_movesAll_28 (fun H locs hP hD hS => ?_)
  rw [sc8_u4] at hP hD
  have hP : va_P D vwCl ([(mo_acane, hcI k 4 mo_rcane), (mo_ais, hcI k 8 mo_ris), (mo_ascalar, hcI k 8 (sc8 mo_s0 mo_s1 mo_s2 mo_s3 r3 mo_s5 mo_s6 mo_s7)), (mo, .inr (7, [.int mo_thrown, .ref mo_ascalar, .ref mo_acane, .ref mo_ais, .ref mo_astrandOf, .ref mo_aweight, .ref mo_aheight, .ref mo_achairOf, .ref mo_anoteMinute, .ref mo_anoteWho, .ref mo_anoteIs, .ref mo_atoldCane, .ref mo_anewScalar, .ref mo_anewCane, .ref mo_anewHeight, .ref mo_anewStrand, .ref mo_anewChair, .ref mo_anewWeight, .int mo_taped, .int mo_p, .int mo_fault, .int mo_slot, .int mo_rules, .int mo_entries, .int mo_deep, .int mo_counted, .int mo_opened, .int mo_words, .ref mo_atape, .ref mo_asort, .ref mo_anumber, .ref mo_aclauses, .ref mo_asumAt, .ref mo_atestAt, .ref mo_aendAt, .ref mo_aopen, .ref mo_aasked, .ref mo_astack, .ref mo_amust, .ref mo_apast, .ref mo_apastOf, .int mo_pastMany, .int w4, .int x2, .ref mo_acanRise, .ref mo_afirstHas, .ref mo_asecondHas, .ref mo_alay, .ref mo_ashows, .ref mo_aimages, .ref mo_aisMade, .int mo_imageAt, .int mo_goesBack])), (mo_apast, hcI k 260 w5)]) H := hP
  have hD : va_D A ([(mo_acane, hcI k 4 mo_rcane), (mo_ais, hcI k 8 mo_ris), (mo_ascalar, hcI k 8 (sc8 mo_s0 mo_s1 mo_s2 mo_s3 r3 mo_s5 mo_s6 mo_s7)), (mo, .inr (7, [.int mo_thrown, .ref mo_ascalar, .ref mo_acane, .ref mo_ais, .ref mo_astrandOf, .ref mo_aweight, .ref mo_aheight, .ref mo_achairOf, .ref mo_anoteMinute, .ref mo_anoteWho, .ref mo_anoteIs, .ref mo_atoldCane, .ref mo_anewScalar, .ref mo_anewCane, .ref mo_anewHeight, .ref mo_anewStrand, .ref mo_anewChair, .ref mo_anewWeight, .int mo_taped, .int mo_p, .int mo_fault, .int mo_slot, .int mo_rules, .int mo_entries, .int mo_deep, .int mo_counted, .int mo_opened, .int mo_words, .ref mo_atape, .ref mo_asort, .ref mo_anumber, .ref mo_aclauses, .ref mo_asumAt, .ref mo_atestAt, .ref mo_aendAt, .ref mo_aopen, .ref mo_aasked, .ref mo_astack, .ref mo_amust, .ref mo_apast, .ref mo_apastOf, .int mo_pastMany, .int w4, .int x2, .ref mo_acanRise, .ref mo_afirstHas, .ref mo_asecondHas, .ref mo_alay, .ref mo_ashows, .ref mo_aimages, .ref mo_aisMade, .int mo_imageAt, .int mo_goesBack])), (mo_apast, hcI k 260 w5)]) := hD
  refine lv_aload_n hx hb dX9_movesAll_29 rfl (lv_at hl 0 rfl) ?_
  refine lv_aload_n hx hb dX9_movesAll_30 rfl (lv_at hl 0 rfl) ?_
  refine va_get (D := D) (ci := 7) (v := .ref mo_acane) (C := RX9) (T := TX9) (N := 53) hx hb hts in9 hown hG.1 hP 3 rfl rfl 2 (by decide) (hts (.fieldLink RX9 13 "ChairCaneModel" "cane" "[I") (by decide +kernel)) (fun _ h9 => h9) rfl dX9_movesAll_31 ?_
  refine hc_Vv (As := [.ref mo_acane]) (rest := []) (n := 1) (wr := [(mo_ais, hcI k 8 mo_ris), (mo_ascalar, hcI k 8 (sc8 mo_s0 mo_s1 mo_s2 mo_s3 r3 mo_s5 mo_s6 mo_s7))]) hx hb hml hown hts hG hA hP hD hS hl.1 [3, 4, 0] [1, 2] (i_X9_movesRow_4 l D k _ mo mo_thrown mo_ascalar mo_acane mo_ais mo_astrandOf mo_aweight mo_aheight mo_achairOf mo_anoteMinute mo_anoteWho mo_anoteIs mo_atoldCane mo_anewScalar mo_anewCane mo_anewHeight mo_anewStrand mo_anewChair mo_anewWeight mo_taped mo_p mo_fault mo_slot mo_rules mo_entries mo_deep mo_counted mo_opened mo_words mo_atape mo_asort mo_anumber mo_aclauses mo_asumAt mo_atestAt mo_aendAt mo_aopen mo_aasked mo_astack mo_amust mo_apast mo_apastOf mo_pastMany w4 x2 mo_acanRise mo_afirstHas mo_asecondHas mo_alay mo_ashows mo_aimages mo_aisMade mo_imageAt mo_goesBack w5 mo_acane mo_rcane ⟨by omega, by omega⟩ ⟨by omega, by omega⟩ ⟨by omega, by omega⟩ ⟨by omega, by omega⟩ ⟨by omega, by omega⟩ ⟨by omega, by omega⟩ ⟨by omega, by omega⟩ ⟨by omega, by omega⟩ ⟨by omega, by omega⟩ ⟨by omega, by omega⟩ ⟨by omega, by omega⟩ ⟨by omega, by omega⟩ ⟨by omega, by omega⟩ ⟨by omega, by omega⟩ (by omega)) (ci := 7) (q0 := 3) rfl rfl gX9_movesAll_X9_movesRow rfl ⟨rfl, rfl, Nat.le_of_ble_eq_true rfl, Nat.le_of_ble_eq_true rfl⟩ (by decide +kernel) rfl rfl ⟨by decide, by decide, by decide⟩ ⟨rfl, rfl, Nat.le_of_ble_eq_true rfl, Nat.le_of_ble_eq_true rfl, Nat.le_of_ble_eq_true rfl⟩ dX9_movesAll_34 (fun u7 H locs hw hP hD hS => ?_)
  obtain ⟨w9, w10, w11⟩ := u7
  have hP : va_P D vwCl ([(mo_ais, hcI k 8 mo_ris), (mo_ascalar, hcI k 8 (sc8 mo_s0 mo_s1 mo_s2 mo_s3 r3 mo_s5 mo_s6 mo_s7)), (mo, .inr (7, [.int mo_thrown, .ref mo_ascalar, .ref mo_acane, .ref mo_ais, .ref mo_astrandOf, .ref mo_aweight, .ref mo_aheight, .ref mo_achairOf, .ref mo_anoteMinute, .ref mo_anoteWho, .ref mo_anoteIs, .ref mo_atoldCane, .ref mo_anewScalar, .ref mo_anewCane, .ref mo_anewHeight, .ref mo_anewStrand, .ref mo_anewChair, .ref mo_anewWeight, .int mo_taped, .int mo_p, .int mo_fault, .int mo_slot, .int mo_rules, .int mo_entries, .int mo_deep, .int mo_counted, .int mo_opened, .int mo_words, .ref mo_atape, .ref mo_asort, .ref mo_anumber, .ref mo_aclauses, .ref mo_asumAt, .ref mo_atestAt, .ref mo_aendAt, .ref mo_aopen, .ref mo_aasked, .ref mo_astack, .ref mo_amust, .ref mo_apast, .ref mo_apastOf, .int mo_pastMany, .int w9, .int x2, .ref mo_acanRise, .ref mo_afirstHas, .ref mo_asecondHas, .ref mo_alay, .ref mo_ashows, .ref mo_aimages, .ref mo_aisMade, .int mo_imageAt, .int mo_goesBack])), (mo_apast, hcI k 260 w10), (mo_acane, hcI k 4 w11)]) H := hP
  have hD : va_D A ([(mo_ais, hcI k 8 mo_ris), (mo_ascalar, hcI k 8 (sc8 mo_s0 mo_s1 mo_s2 mo_s3 r3 mo_s5 mo_s6 mo_s7)), (mo, .inr (7, [.int mo_thrown, .ref mo_ascalar, .ref mo_acane, .ref mo_ais, .ref mo_astrandOf, .ref mo_aweight, .ref mo_aheight, .ref mo_achairOf, .ref mo_anoteMinute, .ref mo_anoteWho, .ref mo_anoteIs, .ref mo_atoldCane, .ref mo_anewScalar, .ref mo_anewCane, .ref mo_anewHeight, .ref mo_anewStrand, .ref mo_anewChair, .ref mo_anewWeight, .int mo_taped, .int mo_p, .int mo_fault, .int mo_slot, .int mo_rules, .int mo_entries, .int mo_deep, .int mo_counted, .int mo_opened, .int mo_words, .ref mo_atape, .ref mo_asort, .ref mo_anumber, .ref mo_aclauses, .ref mo_asumAt, .ref mo_atestAt, .ref mo_aendAt, .ref mo_aopen, .ref mo_aasked, .ref mo_astack, .ref mo_amust, .ref mo_apast, .ref mo_apastOf, .int mo_pastMany, .int w9, .int x2, .ref mo_acanRise, .ref mo_afirstHas, .ref mo_asecondHas, .ref mo_alay, .ref mo_ashows, .ref mo_aimages, .ref mo_aisMade, .int mo_imageAt, .int mo_goesBack])), (mo_apast, hcI k 260 w10), (mo_acane, hcI k 4 w11)]) := hD
  obtain ⟨bw9, rel12⟩ := hw
  have bw9 : iv (0) (260) w9 := bw9
  have bw9_l := bw9.1
  have bw9_u := bw9.2
  try dsimp only at rel12
  refine lv_aload_n hx hb dX9_movesAll_37 rfl (lv_at hl 0 rfl) ?_
  refine lv_aload_n hx hb dX9_movesAll_38 rfl (lv_at hl 0 rfl) ?_
  refine va_get (D := D) (ci := 7) (v := .ref mo_ais) (C := RX9) (T := TX9) (N := 53) hx hb hts in9 hown hG.1 hP 2 rfl rfl 3 (by decide) (hts (.fieldLink RX9 16 "ChairCaneModel" "is" "[I") (by decide +kernel)) (fun _ h9 => h9) rfl dX9_movesAll_39 ?_
  refine hc_Vv (As := [.ref mo_ais]) (rest := []) (n := 1) (wr := [(mo_ascalar, hcI k 8 (sc8 mo_s0 mo_s1 mo_s2 mo_s3 r3 mo_s5 mo_s6 mo_s7)), (mo_acane, hcI k 4 w11)]) hx hb hml hown hts hG hA hP hD hS hl.1 [2, 3, 0] [1, 4] (i_X9_movesRow_8 l D k _ mo mo_thrown mo_ascalar mo_acane mo_ais mo_astrandOf mo_aweight mo_aheight mo_achairOf mo_anoteMinute mo_anoteWho mo_anoteIs mo_atoldCane mo_anewScalar mo_anewCane mo_anewHeight mo_anewStrand mo_anewChair mo_anewWeight mo_taped mo_p mo_fault mo_slot mo_rules mo_entries mo_deep mo_counted mo_opened mo_words mo_atape mo_asort mo_anumber mo_aclauses mo_asumAt mo_atestAt mo_aendAt mo_aopen mo_aasked mo_astack mo_amust mo_apast mo_apastOf mo_pastMany w9 x2 mo_acanRise mo_afirstHas mo_asecondHas mo_alay mo_ashows mo_aimages mo_aisMade mo_imageAt mo_goesBack w10 mo_ais mo_ris ⟨by omega, by omega⟩ ⟨by omega, by omega⟩ ⟨by omega, by omega⟩ ⟨by omega, by omega⟩ ⟨by omega, by omega⟩ ⟨by omega, by omega⟩ ⟨by omega, by omega⟩ ⟨by omega, by omega⟩ ⟨by omega, by omega⟩ ⟨by omega, by omega⟩ ⟨by omega, by omega⟩ ⟨by omega, by omega⟩ ⟨by omega, by omega⟩ ⟨by omega, by omega⟩ (by omega)) (ci := 7) (q0 := 2) rfl rfl gX9_movesAll_X9_movesRow rfl ⟨rfl, rfl, Nat.le_of_ble_eq_true rfl, Nat.le_of_ble_eq_true rfl⟩ (by decide +kernel) rfl rfl ⟨by decide, by decide, by decide⟩ ⟨rfl, rfl, Nat.le_of_ble_eq_true rfl, Nat.le_of_ble_eq_true rfl, Nat.le_of_ble_eq_true rfl⟩ dX9_movesAll_42 (fun u13 H locs hw hP hD hS => ?_)
  obtain ⟨w15, w16, w17⟩ := u13
  have hP : va_P D vwCl ([(mo_ascalar, hcI k 8 (sc8 mo_s0 mo_s1 mo_s2 mo_s3 r3 mo_s5 mo_s6 mo_s7)), (mo_acane, hcI k 4 w11), (mo, .inr (7, [.int mo_thrown, .ref mo_ascalar, .ref mo_acane, .ref mo_ais, .ref mo_astrandOf, .ref mo_aweight, .ref mo_aheight, .ref mo_achairOf, .ref mo_anoteMinute, .ref mo_anoteWho, .ref mo_anoteIs, .ref mo_atoldCane, .ref mo_anewScalar, .ref mo_anewCane, .ref mo_anewHeight, .ref mo_anewStrand, .ref mo_anewChair, .ref mo_anewWeight, .int mo_taped, .int mo_p, .int mo_fault, .int mo_slot, .int mo_rules, .int mo_entries, .int mo_deep, .int mo_counted, .int mo_opened, .int mo_words, .ref mo_atape, .ref mo_asort, .ref mo_anumber, .ref mo_aclauses, .ref mo_asumAt, .ref mo_atestAt, .ref mo_aendAt, .ref mo_aopen, .ref mo_aasked, .ref mo_astack, .ref mo_amust, .ref mo_apast, .ref mo_apastOf, .int mo_pastMany, .int w15, .int x2, .ref mo_acanRise, .ref mo_afirstHas, .ref mo_asecondHas, .ref mo_alay, .ref mo_ashows, .ref mo_aimages, .ref mo_aisMade, .int mo_imageAt, .int mo_goesBack])), (mo_apast, hcI k 260 w16), (mo_ais, hcI k 8 w17)]) H := hP
  have hD : va_D A ([(mo_ascalar, hcI k 8 (sc8 mo_s0 mo_s1 mo_s2 mo_s3 r3 mo_s5 mo_s6 mo_s7)), (mo_acane, hcI k 4 w11), (mo, .inr (7, [.int mo_thrown, .ref mo_ascalar, .ref mo_acane, .ref mo_ais, .ref mo_astrandOf, .ref mo_aweight, .ref mo_aheight, .ref mo_achairOf, .ref mo_anoteMinute, .ref mo_anoteWho, .ref mo_anoteIs, .ref mo_atoldCane, .ref mo_anewScalar, .ref mo_anewCane, .ref mo_anewHeight, .ref mo_anewStrand, .ref mo_anewChair, .ref mo_anewWeight, .int mo_taped, .int mo_p, .int mo_fault, .int mo_slot, .int mo_rules, .int mo_entries, .int mo_deep, .int mo_counted, .int mo_opened, .int mo_words, .ref mo_atape, .ref mo_asort, .ref mo_anumber, .ref mo_aclauses, .ref mo_asumAt, .ref mo_atestAt, .ref mo_aendAt, .ref mo_aopen, .ref mo_aasked, .ref mo_astack, .ref mo_amust, .ref mo_apast, .ref mo_apastOf, .int mo_pastMany, .int w15, .int x2, .ref mo_acanRise, .ref mo_afirstHas, .ref mo_asecondHas, .ref mo_alay, .ref mo_ashows, .ref mo_aimages, .ref mo_aisMade, .int mo_imageAt, .int mo_goesBack])), (mo_apast, hcI k 260 w16), (mo_ais, hcI k 8 w17)]) := hD
  obtain ⟨bw15, rel18⟩ := hw
  have bw15 : iv (0) (260) w15 := bw15
  have bw15_l := bw15.1
  have bw15_u := bw15.2
  try dsimp only at rel18
  exact hc_endV hx hb hr hlocks (w15, x2, w11, w17, w16, r3) ⟨(show iv (0) (260) w15 from ⟨by omega, by omega⟩), (show iv (0) (1) x2 from ⟨by omega, by omega⟩)⟩ (hP.sub [2, 1, 4, 3, 0] rfl) (hD.sub [2, 1, 4, 3, 0] (by decide) rfl) hS dX9_movesAll_45
set_option maxHeartbeats 4000000 in
set_option maxRecDepth 100000 in
theorem i_X9_keepsAct (l : Launch) (D : va_G) (k : Nat → ClassId) (sz : Nat) (mo : Nat) (mo_thrown : Int32) (mo_ascalar : Nat) (mo_acane : Nat) (mo_ais : Nat) (mo_astrandOf : Nat) (mo_aweight : Nat) (mo_aheight : Nat) (mo_achairOf : Nat) (mo_anoteMinute : Nat) (mo_anoteWho : Nat) (mo_anoteIs : Nat) (mo_atoldCane : Nat) (mo_anewScalar : Nat) (mo_anewCane : Nat) (mo_anewHeight : Nat) (mo_anewStrand : Nat) (mo_anewChair : Nat) (mo_anewWeight : Nat) (mo_taped : Int32) (mo_p : Int32) (mo_fault : Int32) (mo_slot : Int32) (mo_rules : Int32) (mo_entries : Int32) (mo_deep : Int32) (mo_counted : Int32) (mo_opened : Int32) (mo_words : Int32) (mo_atape : Nat) (mo_asort : Nat) (mo_anumber : Nat) (mo_aclauses : Nat) (mo_asumAt : Nat) (mo_atestAt : Nat) (mo_aendAt : Nat) (mo_aopen : Nat) (mo_aasked : Nat) (mo_astack : Nat) (mo_amust : Nat) (mo_apast : Nat) (mo_apastOf : Nat) (mo_pastMany : Int32) (mo_pastAt : Int32) (mo_takesBack : Int32) (mo_acanRise : Nat) (mo_afirstHas : Nat) (mo_asecondHas : Nat) (mo_alay : Nat) (mo_ashows : Nat) (mo_aimages : Nat) (mo_aisMade : Nat) (mo_imageAt : Int32) (mo_goesBack : Int32) (mo_rcane : Nat → Int32) (mo_ris : Nat → Int32) (mo_rpast : Nat → Int32) (mo_s0 : Int32) (mo_s1 : Int32) (mo_s2 : Int32) (mo_s3 : Int32) (mo_s4 : Int32) (mo_s5 : Int32) (mo_s6 : Int32) (mo_s7 : Int32) (h_mo_taped : iv (0) (400) mo_taped) (h_mo_p : iv (0) (402) mo_p) (h_mo_fault : iv (0) (4000) mo_fault) (h_mo_slot : iv (0) (5) mo_slot) (h_mo_rules : iv (0) (6) mo_rules) (h_mo_entries : iv (0) (300) mo_entries) (h_mo_counted : iv (0) (70) mo_counted) (h_mo_opened : iv (0) (402) mo_opened) (h_mo_words : iv (11) (11) mo_words) (h_mo_pastMany : iv (0) (20) mo_pastMany) (h_mo_pastAt : iv (0) (260) mo_pastAt) (h_mo_takesBack : iv (0) (1) mo_takesBack) (h_mo_imageAt : iv (0) (2000) mo_imageAt) (h_mo_goesBack : iv (0) (1) mo_goesBack) (h_mo_s1 : iv (0) (4) mo_s1) (h_mo_s2 : iv (0) (8) mo_s2) (h_mo_s3 : iv (0) (8) mo_s3) (h_mo_s5 : iv (0) (10) mo_s5) (h_mo_s7 : iv (-1) (5) mo_s7) : CtV l yX9_keepsAct wsX9_keepsAct (rmK 4 0 0) [.ref mo] D k sz ([(mo, .inr (7, [.int mo_thrown, .ref mo_ascalar, .ref mo_acane, .ref mo_ais, .ref mo_astrandOf, .ref mo_aweight, .ref mo_aheight, .ref mo_achairOf, .ref mo_anoteMinute, .ref mo_anoteWho, .ref mo_anoteIs, .ref mo_atoldCane, .ref mo_anewScalar, .ref mo_anewCane, .ref mo_anewHeight, .ref mo_anewStrand, .ref mo_anewChair, .ref mo_anewWeight, .int mo_taped, .int mo_p, .int mo_fault, .int mo_slot, .int mo_rules, .int mo_entries, .int mo_deep, .int mo_counted, .int mo_opened, .int mo_words, .ref mo_atape, .ref mo_asort, .ref mo_anumber, .ref mo_aclauses, .ref mo_asumAt, .ref mo_atestAt, .ref mo_aendAt, .ref mo_aopen, .ref mo_aasked, .ref mo_astack, .ref mo_amust, .ref mo_apast, .ref mo_apastOf, .int mo_pastMany, .int mo_pastAt, .int mo_takesBack, .ref mo_acanRise, .ref mo_afirstHas, .ref mo_asecondHas, .ref mo_alay, .ref mo_ashows, .ref mo_aimages, .ref mo_aisMade, .int mo_imageAt, .int mo_goesBack])), (mo_acane, hcI k 4 mo_rcane), (mo_ais, hcI k 8 mo_ris), (mo_apast, hcI k 260 mo_rpast), (mo_ascalar, hcI k 8 (sc8 mo_s0 mo_s1 mo_s2 mo_s3 mo_s4 mo_s5 mo_s6 mo_s7))]) (fun u : (Int32) × (Int32) × (Int32) × (Nat → Int32) × (Nat → Int32) × (Nat → Int32) × (Int32) => iv (0) (20) (u.1) ∧ iv (0) (260) (u.2.1) ∧ iv (0) (1) (u.2.2.1)) (fun u : (Int32) × (Int32) × (Int32) × (Nat → Int32) × (Nat → Int32) × (Nat → Int32) × (Int32) => [(mo, .inr (7, [.int mo_thrown, .ref mo_ascalar, .ref mo_acane, .ref mo_ais, .ref mo_astrandOf, .ref mo_aweight, .ref mo_aheight, .ref mo_achairOf, .ref mo_anoteMinute, .ref mo_anoteWho, .ref mo_anoteIs, .ref mo_atoldCane, .ref mo_anewScalar, .ref mo_anewCane, .ref mo_anewHeight, .ref mo_anewStrand, .ref mo_anewChair, .ref mo_anewWeight, .int mo_taped, .int mo_p, .int mo_fault, .int mo_slot, .int mo_rules, .int mo_entries, .int mo_deep, .int mo_counted, .int mo_opened, .int mo_words, .ref mo_atape, .ref mo_asort, .ref mo_anumber, .ref mo_aclauses, .ref mo_asumAt, .ref mo_atestAt, .ref mo_aendAt, .ref mo_aopen, .ref mo_aasked, .ref mo_astack, .ref mo_amust, .ref mo_apast, .ref mo_apastOf, .int (u.1), .int (u.2.1), .int (u.2.2.1), .ref mo_acanRise, .ref mo_afirstHas, .ref mo_asecondHas, .ref mo_alay, .ref mo_ashows, .ref mo_aimages, .ref mo_aisMade, .int mo_imageAt, .int mo_goesBack])), (mo_acane, hcI k 4 (u.2.2.2.1)), (mo_ais, hcI k 8 (u.2.2.2.2.1)), (mo_apast, hcI k 260 (u.2.2.2.2.2.1)), (mo_ascalar, hcI k 8 (sc8 mo_s0 mo_s1 mo_s2 mo_s3 (u.2.2.2.2.2.2) mo_s5 mo_s6 mo_s7))]) 0 0 := by
  have h_mo_taped_l := h_mo_taped.1
  have h_mo_taped_u := h_mo_taped.2
  have h_mo_p_l := h_mo_p.1
  have h_mo_p_u := h_mo_p.2
  have h_mo_fault_l := h_mo_fault.1
  have h_mo_fault_u := h_mo_fault.2
  have h_mo_slot_l := h_mo_slot.1
  have h_mo_slot_u := h_mo_slot.2
  have h_mo_rules_l := h_mo_rules.1
  have h_mo_rules_u := h_mo_rules.2
  have h_mo_entries_l := h_mo_entries.1
  have h_mo_entries_u := h_mo_entries.2
  have h_mo_counted_l := h_mo_counted.1
  have h_mo_counted_u := h_mo_counted.2
  have h_mo_opened_l := h_mo_opened.1
  have h_mo_opened_u := h_mo_opened.2
  have h_mo_words_l := h_mo_words.1
  have h_mo_words_u := h_mo_words.2
  have h_mo_pastMany_l := h_mo_pastMany.1
  have h_mo_pastMany_u := h_mo_pastMany.2
  have h_mo_pastAt_l := h_mo_pastAt.1
  have h_mo_pastAt_u := h_mo_pastAt.2
  have h_mo_takesBack_l := h_mo_takesBack.1
  have h_mo_takesBack_u := h_mo_takesBack.2
  have h_mo_imageAt_l := h_mo_imageAt.1
  have h_mo_imageAt_u := h_mo_imageAt.2
  have h_mo_goesBack_l := h_mo_goesBack.1
  have h_mo_goesBack_u := h_mo_goesBack.2
  have h_mo_s1_l := h_mo_s1.1
  have h_mo_s1_u := h_mo_s1.2
  have h_mo_s2_l := h_mo_s2.1
  have h_mo_s2_u := h_mo_s2.2
  have h_mo_s3_l := h_mo_s3.1
  have h_mo_s3_u := h_mo_s3.2
  have h_mo_s5_l := h_mo_s5.1
  have h_mo_s5_u := h_mo_s5.2
  have h_mo_s7_l := h_mo_s7.1
  have h_mo_s7_u := h_mo_s7.2
  refine CtV.mk (cc := cX9_keepsAct) (maxL := 2) (ret := none) (by decide) rfl (Nat.le_of_ble_eq_true rfl) ?_
  intro p e s m below meth c A ls E hP hD hS hl
  obtain ⟨hx, hb, hr, hml, hown, hts, hlocks, hin, hG, hA⟩ := E
  have hown : s.vm.findClass RX9 = some m.cls := hown
  have in9 : ∀ w ∈ u_ws RX9 TX9 53, w ∈ wsX9_keepsAct := fun _ h => List.mem_cons_of_mem _ (List.mem_append_right _ h)
  have hl : lv_has ls 2 [(0, .ref mo)] := hl
  refine lv_aload_n hx hb dX9_keepsAct_0 rfl (lv_at hl 0 rfl) ?_
  refine va_get (D := D) (ci := 7) (v := .int mo_pastMany) (C := RX9) (T := TX9) (N := 53) hx hb hts in9 hown hG.1 hP 0 rfl rfl 41 (by decide) (hts (.fieldLink RX9 299 "ChairCaneModel" "pastMany" "I") (by decide +kernel)) (fun _ h9 => h9) rfl dX9_keepsAct_1 ?_
  refine lv_bipush (v := 20) hx hb dX9_keepsAct_4 (by decide) ?_
  refine lv_icmp_ne (tgt := 50) hx hb dX9_keepsAct_6 (by decide) (fun c1 => ?_) (fun c1 => ?_)
  · have fc1 := cx_ne_t (a := mo_pastMany.toInt) (b := 20) rfl (by decide) c1
    refine lv_aload_n hx hb dX9_keepsAct_50 rfl (lv_at hl 0 rfl) ?_
    refine lv_aload_n hx hb dX9_keepsAct_51 rfl (lv_at hl 0 rfl) ?_
    refine va_get (D := D) (ci := 7) (v := .int mo_pastMany) (C := RX9) (T := TX9) (N := 53) hx hb hts in9 hown hG.1 hP 0 rfl rfl 41 (by decide) (hts (.fieldLink RX9 299 "ChairCaneModel" "pastMany" "I") (by decide +kernel)) (fun _ h9 => h9) rfl dX9_keepsAct_52 ?_
    refine lv_iconst (v := 0) hx hb dX9_keepsAct_55 (by decide) ?_
    refine hc_Vv (As := [.int mo_pastMany, .int 0]) (rest := []) (n := 2) (wr := []) hx hb hml hown hts hG hA hP hD hS hl.1 [0, 1, 2, 3, 4] [] (i_X9_movesAll l D k _ mo_pastMany 0 mo mo_thrown mo_ascalar mo_acane mo_ais mo_astrandOf mo_aweight mo_aheight mo_achairOf mo_anoteMinute mo_anoteWho mo_anoteIs mo_atoldCane mo_anewScalar mo_anewCane mo_anewHeight mo_anewStrand mo_anewChair mo_anewWeight mo_taped mo_p mo_fault mo_slot mo_rules mo_entries mo_deep mo_counted mo_opened mo_words mo_atape mo_asort mo_anumber mo_aclauses mo_asumAt mo_atestAt mo_aendAt mo_aopen mo_aasked mo_astack mo_amust mo_apast mo_apastOf mo_pastMany mo_pastAt mo_takesBack mo_acanRise mo_afirstHas mo_asecondHas mo_alay mo_ashows mo_aimages mo_aisMade mo_imageAt mo_goesBack mo_rcane mo_ris mo_rpast mo_s0 mo_s1 mo_s2 mo_s3 mo_s4 mo_s5 mo_s6 mo_s7 ⟨by omega, by omega⟩ (iv_lit (by decide) (by decide)) ⟨by omega, by omega⟩ ⟨by omega, by omega⟩ ⟨by omega, by omega⟩ ⟨by omega, by omega⟩ ⟨by omega, by omega⟩ ⟨by omega, by omega⟩ ⟨by omega, by omega⟩ ⟨by omega, by omega⟩ ⟨by omega, by omega⟩ ⟨by omega, by omega⟩ ⟨by omega, by omega⟩ ⟨by omega, by omega⟩ ⟨by omega, by omega⟩ ⟨by omega, by omega⟩ ⟨by omega, by omega⟩ ⟨by omega, by omega⟩ ⟨by omega, by omega⟩ ⟨by omega, by omega⟩ ⟨by omega, by omega⟩) (ci := 7) (q0 := 0) rfl rfl gX9_keepsAct_X9_movesAll rfl ⟨rfl, rfl, Nat.le_of_ble_eq_true rfl, Nat.le_of_ble_eq_true rfl⟩ (by decide +kernel) rfl rfl ⟨by decide, by decide, by decide⟩ ⟨rfl, rfl, Nat.le_of_ble_eq_true rfl, Nat.le_of_ble_eq_true rfl, Nat.le_of_ble_eq_true rfl⟩ dX9_keepsAct_56 (fun u2 H locs hw hP hD hS => ?_)
    obtain ⟨w4, w5, w6, w7, w8, w9⟩ := u2
    have hP : va_P D vwCl ([(mo, .inr (7, [.int mo_thrown, .ref mo_ascalar, .ref mo_acane, .ref mo_ais, .ref mo_astrandOf, .ref mo_aweight, .ref mo_aheight, .ref mo_achairOf, .ref mo_anoteMinute, .ref mo_anoteWho, .ref mo_anoteIs, .ref mo_atoldCane, .ref mo_anewScalar, .ref mo_anewCane, .ref mo_anewHeight, .ref mo_anewStrand, .ref mo_anewChair, .ref mo_anewWeight, .int mo_taped, .int mo_p, .int mo_fault, .int mo_slot, .int mo_rules, .int mo_entries, .int mo_deep, .int mo_counted, .int mo_opened, .int mo_words, .ref mo_atape, .ref mo_asort, .ref mo_anumber, .ref mo_aclauses, .ref mo_asumAt, .ref mo_atestAt, .ref mo_aendAt, .ref mo_aopen, .ref mo_aasked, .ref mo_astack, .ref mo_amust, .ref mo_apast, .ref mo_apastOf, .int mo_pastMany, .int w4, .int w5, .ref mo_acanRise, .ref mo_afirstHas, .ref mo_asecondHas, .ref mo_alay, .ref mo_ashows, .ref mo_aimages, .ref mo_aisMade, .int mo_imageAt, .int mo_goesBack])), (mo_acane, hcI k 4 w6), (mo_ais, hcI k 8 w7), (mo_apast, hcI k 260 w8), (mo_ascalar, hcI k 8 (sc8 mo_s0 mo_s1 mo_s2 mo_s3 w9 mo_s5 mo_s6 mo_s7))]) H := hP
    have hD : va_D A ([(mo, .inr (7, [.int mo_thrown, .ref mo_ascalar, .ref mo_acane, .ref mo_ais, .ref mo_astrandOf, .ref mo_aweight, .ref mo_aheight, .ref mo_achairOf, .ref mo_anoteMinute, .ref mo_anoteWho, .ref mo_anoteIs, .ref mo_atoldCane, .ref mo_anewScalar, .ref mo_anewCane, .ref mo_anewHeight, .ref mo_anewStrand, .ref mo_anewChair, .ref mo_anewWeight, .int mo_taped, .int mo_p, .int mo_fault, .int mo_slot, .int mo_rules, .int mo_entries, .int mo_deep, .int mo_counted, .int mo_opened, .int mo_words, .ref mo_atape, .ref mo_asort, .ref mo_anumber, .ref mo_aclauses, .ref mo_asumAt, .ref mo_atestAt, .ref mo_aendAt, .ref mo_aopen, .ref mo_aasked, .ref mo_astack, .ref mo_amust, .ref mo_apast, .ref mo_apastOf, .int mo_pastMany, .int w4, .int w5, .ref mo_acanRise, .ref mo_afirstHas, .ref mo_asecondHas, .ref mo_alay, .ref mo_ashows, .ref mo_aimages, .ref mo_aisMade, .int mo_imageAt, .int mo_goesBack])), (mo_acane, hcI k 4 w6), (mo_ais, hcI k 8 w7), (mo_apast, hcI k 260 w8), (mo_ascalar, hcI k 8 (sc8 mo_s0 mo_s1 mo_s2 mo_s3 w9 mo_s5 mo_s6 mo_s7))]) := hD
    obtain ⟨bw4, bw5⟩ := hw
    have bw4 : iv (0) (260) w4 := bw4
    have bw4_l := bw4.1
    have bw4_u := bw4.2
    have bw5 : iv (0) (1) w5 := bw5
    have bw5_l := bw5.1
    have bw5_u := bw5.2
    refine lv_aload_n hx hb dX9_keepsAct_59 rfl (lv_at hl 0 rfl) ?_
    refine lv_dup hx hb dX9_keepsAct_60 rfl ?_
    refine va_get (D := D) (ci := 7) (v := .int mo_pastMany) (C := RX9) (T := TX9) (N := 53) hx hb hts in9 hown hG.1 hP 0 rfl rfl 41 (by decide) (hts (.fieldLink RX9 299 "ChairCaneModel" "pastMany" "I") (by decide +kernel)) (fun _ h9 => h9) rfl dX9_keepsAct_61 ?_
    refine lv_iconst (v := 1) hx hb dX9_keepsAct_64 (by decide) ?_
    refine lv_iadd hx hb dX9_keepsAct_65 ?_
    refine lv_topi (fun z10 ez10 => ?_)
    have tz10 : z10.toInt = mo_pastMany.toInt + 1 := ai_add rfl (by decide) ez10 (by omega) (by omega)
    refine va_put (D := D) (ci := 7) (v := .int z10) (C := RX9) (T := TX9) (N := 53) hx hb hts in9 tyX9 tyX9_ok nmX9 hown hG.1 hP hD hS 0 rfl rfl 41 (by decide) (hts (.fieldLink RX9 299 "ChairCaneModel" "pastMany" "I") (by decide +kernel)) (fun _ h9 => h9) rfl (tyX9_ok 41 (by decide)) rfl rfl (Nat.le_of_ble_eq_true rfl) dX9_keepsAct_66 (fun H locs hP hD hS => ?_)
    have hP : va_P D vwCl ([(mo, .inr (7, [.int mo_thrown, .ref mo_ascalar, .ref mo_acane, .ref mo_ais, .ref mo_astrandOf, .ref mo_aweight, .ref mo_aheight, .ref mo_achairOf, .ref mo_anoteMinute, .ref mo_anoteWho, .ref mo_anoteIs, .ref mo_atoldCane, .ref mo_anewScalar, .ref mo_anewCane, .ref mo_anewHeight, .ref mo_anewStrand, .ref mo_anewChair, .ref mo_anewWeight, .int mo_taped, .int mo_p, .int mo_fault, .int mo_slot, .int mo_rules, .int mo_entries, .int mo_deep, .int mo_counted, .int mo_opened, .int mo_words, .ref mo_atape, .ref mo_asort, .ref mo_anumber, .ref mo_aclauses, .ref mo_asumAt, .ref mo_atestAt, .ref mo_aendAt, .ref mo_aopen, .ref mo_aasked, .ref mo_astack, .ref mo_amust, .ref mo_apast, .ref mo_apastOf, .int z10, .int w4, .int w5, .ref mo_acanRise, .ref mo_afirstHas, .ref mo_asecondHas, .ref mo_alay, .ref mo_ashows, .ref mo_aimages, .ref mo_aisMade, .int mo_imageAt, .int mo_goesBack])), (mo_acane, hcI k 4 w6), (mo_ais, hcI k 8 w7), (mo_apast, hcI k 260 w8), (mo_ascalar, hcI k 8 (sc8 mo_s0 mo_s1 mo_s2 mo_s3 w9 mo_s5 mo_s6 mo_s7))]) H := hP
    have hD : va_D A ([(mo, .inr (7, [.int mo_thrown, .ref mo_ascalar, .ref mo_acane, .ref mo_ais, .ref mo_astrandOf, .ref mo_aweight, .ref mo_aheight, .ref mo_achairOf, .ref mo_anoteMinute, .ref mo_anoteWho, .ref mo_anoteIs, .ref mo_atoldCane, .ref mo_anewScalar, .ref mo_anewCane, .ref mo_anewHeight, .ref mo_anewStrand, .ref mo_anewChair, .ref mo_anewWeight, .int mo_taped, .int mo_p, .int mo_fault, .int mo_slot, .int mo_rules, .int mo_entries, .int mo_deep, .int mo_counted, .int mo_opened, .int mo_words, .ref mo_atape, .ref mo_asort, .ref mo_anumber, .ref mo_aclauses, .ref mo_asumAt, .ref mo_atestAt, .ref mo_aendAt, .ref mo_aopen, .ref mo_aasked, .ref mo_astack, .ref mo_amust, .ref mo_apast, .ref mo_apastOf, .int z10, .int w4, .int w5, .ref mo_acanRise, .ref mo_afirstHas, .ref mo_asecondHas, .ref mo_alay, .ref mo_ashows, .ref mo_aimages, .ref mo_aisMade, .int mo_imageAt, .int mo_goesBack])), (mo_acane, hcI k 4 w6), (mo_ais, hcI k 8 w7), (mo_apast, hcI k 260 w8), (mo_ascalar, hcI k 8 (sc8 mo_s0 mo_s1 mo_s2 mo_s3 w9 mo_s5 mo_s6 mo_s7))]) := hD
    exact hc_endV hx hb hr hlocks (z10, w4, w5, w6, w7, w8, w9) ⟨(show iv (0) (20) z10 from ⟨by omega, by omega⟩), (show iv (0) (260) w4 from ⟨by omega, by omega⟩), (show iv (0) (1) w5 from ⟨by omega, by omega⟩)⟩ hP hD hS dX9_keepsAct_69
  · have fc1 := cx_ne_f (a := mo_pastMany.toInt) (b := 20) rfl (by decide) c1
    refine lv_bipush (v := 13) hx hb dX9_keepsAct_9 (by decide) ?_
    refine lv_istore_n (lv' := [(1, .int 13), (0, .ref mo)]) hx hb dX9_keepsAct_11 rfl hl (by decide) rfl (fun ls hl => ?_)
    have loop11 : ∀ (fu : Nat) (L1_11 : Int32) (g_11mo_apast : Nat → Int32), iv (13) (260) L1_11 → 261 - L1_11.toInt < (fu : Int) → ∀ (H : Heap) (locs : List Loc) (ls : Array Slot), va_P D vwCl ([(mo, .inr (7, [.int mo_thrown, .ref mo_ascalar, .ref mo_acane, .ref mo_ais, .ref mo_astrandOf, .ref mo_aweight, .ref mo_aheight, .ref mo_achairOf, .ref mo_anoteMinute, .ref mo_anoteWho, .ref mo_anoteIs, .ref mo_atoldCane, .ref mo_anewScalar, .ref mo_anewCane, .ref mo_anewHeight, .ref mo_anewStrand, .ref mo_anewChair, .ref mo_anewWeight, .int mo_taped, .int mo_p, .int mo_fault, .int mo_slot, .int mo_rules, .int mo_entries, .int mo_deep, .int mo_counted, .int mo_opened, .int mo_words, .ref mo_atape, .ref mo_asort, .ref mo_anumber, .ref mo_aclauses, .ref mo_asumAt, .ref mo_atestAt, .ref mo_aendAt, .ref mo_aopen, .ref mo_aasked, .ref mo_astack, .ref mo_amust, .ref mo_apast, .ref mo_apastOf, .int mo_pastMany, .int mo_pastAt, .int mo_takesBack, .ref mo_acanRise, .ref mo_afirstHas, .ref mo_asecondHas, .ref mo_alay, .ref mo_ashows, .ref mo_aimages, .ref mo_aisMade, .int mo_imageAt, .int mo_goesBack])), (mo_acane, hcI k 4 mo_rcane), (mo_ais, hcI k 8 mo_ris), (mo_apast, hcI k 260 g_11mo_apast), (mo_ascalar, hcI k 8 (sc8 mo_s0 mo_s1 mo_s2 mo_s3 mo_s4 mo_s5 mo_s6 mo_s7))]) H → va_D A ([(mo, .inr (7, [.int mo_thrown, .ref mo_ascalar, .ref mo_acane, .ref mo_ais, .ref mo_astrandOf, .ref mo_aweight, .ref mo_aheight, .ref mo_achairOf, .ref mo_anoteMinute, .ref mo_anoteWho, .ref mo_anoteIs, .ref mo_atoldCane, .ref mo_anewScalar, .ref mo_anewCane, .ref mo_anewHeight, .ref mo_anewStrand, .ref mo_anewChair, .ref mo_anewWeight, .int mo_taped, .int mo_p, .int mo_fault, .int mo_slot, .int mo_rules, .int mo_entries, .int mo_deep, .int mo_counted, .int mo_opened, .int mo_words, .ref mo_atape, .ref mo_asort, .ref mo_anumber, .ref mo_aclauses, .ref mo_asumAt, .ref mo_atestAt, .ref mo_aendAt, .ref mo_aopen, .ref mo_aasked, .ref mo_astack, .ref mo_amust, .ref mo_apast, .ref mo_apastOf, .int mo_pastMany, .int mo_pastAt, .int mo_takesBack, .ref mo_acanRise, .ref mo_afirstHas, .ref mo_asecondHas, .ref mo_alay, .ref mo_ashows, .ref mo_aimages, .ref mo_aisMade, .int mo_imageAt, .int mo_goesBack])), (mo_acane, hcI k 4 mo_rcane), (mo_ais, hcI k 8 mo_ris), (mo_apast, hcI k 260 g_11mo_apast), (mo_ascalar, hcI k 8 (sc8 mo_s0 mo_s1 mo_s2 mo_s3 mo_s4 mo_s5 mo_s6 mo_s7))]) → va_S A s.heap H locs → lv_has ls 2 [(1, .int L1_11), (0, .ref mo)] → W p l e (rmK 4 0 0) s m (List.toArray [.ref mo]) below meth c H locs 0 0 (MQ below (va_Qv (fun u : (Int32) × (Int32) × (Int32) × (Nat → Int32) × (Nat → Int32) × (Nat → Int32) × (Int32) => iv (0) (20) (u.1) ∧ iv (0) (260) (u.2.1) ∧ iv (0) (1) (u.2.2.1)) (hcB D (fun u : (Int32) × (Int32) × (Int32) × (Nat → Int32) × (Nat → Int32) × (Nat → Int32) × (Int32) => [(mo, .inr (7, [.int mo_thrown, .ref mo_ascalar, .ref mo_acane, .ref mo_ais, .ref mo_astrandOf, .ref mo_aweight, .ref mo_aheight, .ref mo_achairOf, .ref mo_anoteMinute, .ref mo_anoteWho, .ref mo_anoteIs, .ref mo_atoldCane, .ref mo_anewScalar, .ref mo_anewCane, .ref mo_anewHeight, .ref mo_anewStrand, .ref mo_anewChair, .ref mo_anewWeight, .int mo_taped, .int mo_p, .int mo_fault, .int mo_slot, .int mo_rules, .int mo_entries, .int mo_deep, .int mo_counted, .int mo_opened, .int mo_words, .ref mo_atape, .ref mo_asort, .ref mo_anumber, .ref mo_aclauses, .ref mo_asumAt, .ref mo_atestAt, .ref mo_aendAt, .ref mo_aopen, .ref mo_aasked, .ref mo_astack, .ref mo_amust, .ref mo_apast, .ref mo_apastOf, .int (u.1), .int (u.2.1), .int (u.2.2.1), .ref mo_acanRise, .ref mo_afirstHas, .ref mo_asecondHas, .ref mo_alay, .ref mo_ashows, .ref mo_aimages, .ref mo_aisMade, .int mo_imageAt, .int mo_goesBack])), (mo_acane, hcI k 4 (u.2.2.2.1)), (mo_ais, hcI k 8 (u.2.2.2.2.1)), (mo_apast, hcI k 260 (u.2.2.2.2.2.1)), (mo_ascalar, hcI k 8 (sc8 mo_s0 mo_s1 mo_s2 mo_s3 (u.2.2.2.2.2.2) mo_s5 mo_s6 mo_s7))]) A) A) (List.toArray [.ref mo]) s 0 0 A) (F0 m 12 ls []) := by
      intro fu
      induction fu with
      | zero =>
        intro L1_11 g_11mo_apast bL1_11 hm
        have bL1_11_l := bL1_11.1
        have bL1_11_u := bL1_11.2
        exact absurd hm (by omega)
      | succ fu ih11 =>
        intro L1_11 g_11mo_apast bL1_11 hm H locs ls hP hD hS hl
        have bL1_11_l := bL1_11.1
        have bL1_11_u := bL1_11.2
        refine lv_iload_n hx hb dX9_keepsAct_12 rfl (lv_at hl 0 rfl) ?_
        refine lv_sipush (v := 260) hx hb dX9_keepsAct_13 (by decide) ?_
        refine lv_icmp_ge (tgt := 40) hx hb dX9_keepsAct_16 (by decide) (fun c12 => ?_) (fun c12 => ?_)
        · have fc12 := cx_ge_t (a := L1_11.toInt) (b := 260) rfl (by decide) c12
          refine lv_aload_n hx hb dX9_keepsAct_40 rfl (lv_at hl 1 rfl) ?_
          refine lv_dup hx hb dX9_keepsAct_41 rfl ?_
          refine va_get (D := D) (ci := 7) (v := .int mo_pastMany) (C := RX9) (T := TX9) (N := 53) hx hb hts in9 hown hG.1 hP 0 rfl rfl 41 (by decide) (hts (.fieldLink RX9 299 "ChairCaneModel" "pastMany" "I") (by decide +kernel)) (fun _ h9 => h9) rfl dX9_keepsAct_42 ?_
          refine lv_iconst (v := 1) hx hb dX9_keepsAct_45 (by decide) ?_
          refine lv_isub hx hb dX9_keepsAct_46 ?_
          refine lv_topi (fun z13 ez13 => ?_)
          have tz13 : z13.toInt = mo_pastMany.toInt - 1 := ai_sub rfl (by decide) ez13 (by omega) (by omega)
          refine va_put (D := D) (ci := 7) (v := .int z13) (C := RX9) (T := TX9) (N := 53) hx hb hts in9 tyX9 tyX9_ok nmX9 hown hG.1 hP hD hS 0 rfl rfl 41 (by decide) (hts (.fieldLink RX9 299 "ChairCaneModel" "pastMany" "I") (by decide +kernel)) (fun _ h9 => h9) rfl (tyX9_ok 41 (by decide)) rfl rfl (Nat.le_of_ble_eq_true rfl) dX9_keepsAct_47 (fun H locs hP hD hS => ?_)
          have hP : va_P D vwCl ([(mo, .inr (7, [.int mo_thrown, .ref mo_ascalar, .ref mo_acane, .ref mo_ais, .ref mo_astrandOf, .ref mo_aweight, .ref mo_aheight, .ref mo_achairOf, .ref mo_anoteMinute, .ref mo_anoteWho, .ref mo_anoteIs, .ref mo_atoldCane, .ref mo_anewScalar, .ref mo_anewCane, .ref mo_anewHeight, .ref mo_anewStrand, .ref mo_anewChair, .ref mo_anewWeight, .int mo_taped, .int mo_p, .int mo_fault, .int mo_slot, .int mo_rules, .int mo_entries, .int mo_deep, .int mo_counted, .int mo_opened, .int mo_words, .ref mo_atape, .ref mo_asort, .ref mo_anumber, .ref mo_aclauses, .ref mo_asumAt, .ref mo_atestAt, .ref mo_aendAt, .ref mo_aopen, .ref mo_aasked, .ref mo_astack, .ref mo_amust, .ref mo_apast, .ref mo_apastOf, .int z13, .int mo_pastAt, .int mo_takesBack, .ref mo_acanRise, .ref mo_afirstHas, .ref mo_asecondHas, .ref mo_alay, .ref mo_ashows, .ref mo_aimages, .ref mo_aisMade, .int mo_imageAt, .int mo_goesBack])), (mo_acane, hcI k 4 mo_rcane), (mo_ais, hcI k 8 mo_ris), (mo_apast, hcI k 260 g_11mo_apast), (mo_ascalar, hcI k 8 (sc8 mo_s0 mo_s1 mo_s2 mo_s3 mo_s4 mo_s5 mo_s6 mo_s7))]) H := hP
          have hD : va_D A ([(mo, .inr (7, [.int mo_thrown, .ref mo_ascalar, .ref mo_acane, .ref mo_ais, .ref mo_astrandOf, .ref mo_aweight, .ref mo_aheight, .ref mo_achairOf, .ref mo_anoteMinute, .ref mo_anoteWho, .ref mo_anoteIs, .ref mo_atoldCane, .ref mo_anewScalar, .ref mo_anewCane, .ref mo_anewHeight, .ref mo_anewStrand, .ref mo_anewChair, .ref mo_anewWeight, .int mo_taped, .int mo_p, .int mo_fault, .int mo_slot, .int mo_rules, .int mo_entries, .int mo_deep, .int mo_counted, .int mo_opened, .int mo_words, .ref mo_atape, .ref mo_asort, .ref mo_anumber, .ref mo_aclauses, .ref mo_asumAt, .ref mo_atestAt, .ref mo_aendAt, .ref mo_aopen, .ref mo_aasked, .ref mo_astack, .ref mo_amust, .ref mo_apast, .ref mo_apastOf, .int z13, .int mo_pastAt, .int mo_takesBack, .ref mo_acanRise, .ref mo_afirstHas, .ref mo_asecondHas, .ref mo_alay, .ref mo_ashows, .ref mo_aimages, .ref mo_aisMade, .int mo_imageAt, .int mo_goesBack])), (mo_acane, hcI k 4 mo_rcane), (mo_ais, hcI k 8 mo_ris), (mo_apast, hcI k 260 g_11mo_apast), (mo_ascalar, hcI k 8 (sc8 mo_s0 mo_s1 mo_s2 mo_s3 mo_s4 mo_s5 mo_s6 mo_s7))]) := hD
          refine lv_aload_n hx hb dX9_keepsAct_50 rfl (lv_at hl 1 rfl) ?_
          refine lv_aload_n hx hb dX9_keepsAct_51 rfl (lv_at hl 1 rfl) ?_
          refine va_get (D := D) (ci := 7) (v := .int z13) (C := RX9) (T := TX9) (N := 53) hx hb hts in9 hown hG.1 hP 0 rfl rfl 41 (by decide) (hts (.fieldLink RX9 299 "ChairCaneModel" "pastMany" "I") (by decide +kernel)) (fun _ h9 => h9) rfl dX9_keepsAct_52 ?_
          refine lv_iconst (v := 0) hx hb dX9_keepsAct_55 (by decide) ?_
          refine hc_Vv (As := [.int z13, .int 0]) (rest := []) (n := 2) (wr := []) hx hb hml hown hts hG hA hP hD hS hl.1 [0, 1, 2, 3, 4] [] (i_X9_movesAll l D k _ z13 0 mo mo_thrown mo_ascalar mo_acane mo_ais mo_astrandOf mo_aweight mo_aheight mo_achairOf mo_anoteMinute mo_anoteWho mo_anoteIs mo_atoldCane mo_anewScalar mo_anewCane mo_anewHeight mo_anewStrand mo_anewChair mo_anewWeight mo_taped mo_p mo_fault mo_slot mo_rules mo_entries mo_deep mo_counted mo_opened mo_words mo_atape mo_asort mo_anumber mo_aclauses mo_asumAt mo_atestAt mo_aendAt mo_aopen mo_aasked mo_astack mo_amust mo_apast mo_apastOf z13 mo_pastAt mo_takesBack mo_acanRise mo_afirstHas mo_asecondHas mo_alay mo_ashows mo_aimages mo_aisMade mo_imageAt mo_goesBack mo_rcane mo_ris g_11mo_apast mo_s0 mo_s1 mo_s2 mo_s3 mo_s4 mo_s5 mo_s6 mo_s7 ⟨by omega, by omega⟩ (iv_lit (by decide) (by decide)) ⟨by omega, by omega⟩ ⟨by omega, by omega⟩ ⟨by omega, by omega⟩ ⟨by omega, by omega⟩ ⟨by omega, by omega⟩ ⟨by omega, by omega⟩ ⟨by omega, by omega⟩ ⟨by omega, by omega⟩ ⟨by omega, by omega⟩ ⟨by omega, by omega⟩ ⟨by omega, by omega⟩ ⟨by omega, by omega⟩ ⟨by omega, by omega⟩ ⟨by omega, by omega⟩ ⟨by omega, by omega⟩ ⟨by omega, by omega⟩ ⟨by omega, by omega⟩ ⟨by omega, by omega⟩ ⟨by omega, by omega⟩) (ci := 7) (q0 := 0) rfl rfl gX9_keepsAct_X9_movesAll rfl ⟨rfl, rfl, Nat.le_of_ble_eq_true rfl, Nat.le_of_ble_eq_true rfl⟩ (by decide +kernel) rfl rfl ⟨by decide, by decide, by decide⟩ ⟨rfl, rfl, Nat.le_of_ble_eq_true rfl, Nat.le_of_ble_eq_true rfl, Nat.le_of_ble_eq_true rfl⟩ dX9_keepsAct_56 (fun u14 H locs hw hP hD hS => ?_)
          obtain ⟨w16, w17, w18, w19, w20, w21⟩ := u14
          have hP : va_P D vwCl ([(mo, .inr (7, [.int mo_thrown, .ref mo_ascalar, .ref mo_acane, .ref mo_ais, .ref mo_astrandOf, .ref mo_aweight, .ref mo_aheight, .ref mo_achairOf, .ref mo_anoteMinute, .ref mo_anoteWho, .ref mo_anoteIs, .ref mo_atoldCane, .ref mo_anewScalar, .ref mo_anewCane, .ref mo_anewHeight, .ref mo_anewStrand, .ref mo_anewChair, .ref mo_anewWeight, .int mo_taped, .int mo_p, .int mo_fault, .int mo_slot, .int mo_rules, .int mo_entries, .int mo_deep, .int mo_counted, .int mo_opened, .int mo_words, .ref mo_atape, .ref mo_asort, .ref mo_anumber, .ref mo_aclauses, .ref mo_asumAt, .ref mo_atestAt, .ref mo_aendAt, .ref mo_aopen, .ref mo_aasked, .ref mo_astack, .ref mo_amust, .ref mo_apast, .ref mo_apastOf, .int z13, .int w16, .int w17, .ref mo_acanRise, .ref mo_afirstHas, .ref mo_asecondHas, .ref mo_alay, .ref mo_ashows, .ref mo_aimages, .ref mo_aisMade, .int mo_imageAt, .int mo_goesBack])), (mo_acane, hcI k 4 w18), (mo_ais, hcI k 8 w19), (mo_apast, hcI k 260 w20), (mo_ascalar, hcI k 8 (sc8 mo_s0 mo_s1 mo_s2 mo_s3 w21 mo_s5 mo_s6 mo_s7))]) H := hP
          have hD : va_D A ([(mo, .inr (7, [.int mo_thrown, .ref mo_ascalar, .ref mo_acane, .ref mo_ais, .ref mo_astrandOf, .ref mo_aweight, .ref mo_aheight, .ref mo_achairOf, .ref mo_anoteMinute, .ref mo_anoteWho, .ref mo_anoteIs, .ref mo_atoldCane, .ref mo_anewScalar, .ref mo_anewCane, .ref mo_anewHeight, .ref mo_anewStrand, .ref mo_anewChair, .ref mo_anewWeight, .int mo_taped, .int mo_p, .int mo_fault, .int mo_slot, .int mo_rules, .int mo_entries, .int mo_deep, .int mo_counted, .int mo_opened, .int mo_words, .ref mo_atape, .ref mo_asort, .ref mo_anumber, .ref mo_aclauses, .ref mo_asumAt, .ref mo_atestAt, .ref mo_aendAt, .ref mo_aopen, .ref mo_aasked, .ref mo_astack, .ref mo_amust, .ref mo_apast, .ref mo_apastOf, .int z13, .int w16, .int w17, .ref mo_acanRise, .ref mo_afirstHas, .ref mo_asecondHas, .ref mo_alay, .ref mo_ashows, .ref mo_aimages, .ref mo_aisMade, .int mo_imageAt, .int mo_goesBack])), (mo_acane, hcI k 4 w18), (mo_ais, hcI k 8 w19), (mo_apast, hcI k 260 w20), (mo_ascalar, hcI k 8 (sc8 mo_s0 mo_s1 mo_s2 mo_s3 w21 mo_s5 mo_s6 mo_s7))]) := hD
          obtain ⟨bw16, bw17⟩ := hw
          have bw16 : iv (0) (260) w16 := bw16
          have bw16_l := bw16.1
          have bw16_u := bw16.2
          have bw17 : iv (0) (1) w17 := bw17
          have bw17_l := bw17.1
          have bw17_u := bw17.2
          refine lv_aload_n hx hb dX9_keepsAct_59 rfl (lv_at hl 1 rfl) ?_
          refine lv_dup hx hb dX9_keepsAct_60 rfl ?_
          refine va_get (D := D) (ci := 7) (v := .int z13) (C := RX9) (T := TX9) (N := 53) hx hb hts in9 hown hG.1 hP 0 rfl rfl 41 (by decide) (hts (.fieldLink RX9 299 "ChairCaneModel" "pastMany" "I") (by decide +kernel)) (fun _ h9 => h9) rfl dX9_keepsAct_61 ?_
          refine lv_iconst (v := 1) hx hb dX9_keepsAct_64 (by decide) ?_
          refine lv_iadd hx hb dX9_keepsAct_65 ?_
          refine lv_topi (fun z22 ez22 => ?_)
          have tz22 : z22.toInt = z13.toInt + 1 := ai_add rfl (by decide) ez22 (by omega) (by omega)
          refine va_put (D := D) (ci := 7) (v := .int z22) (C := RX9) (T := TX9) (N := 53) hx hb hts in9 tyX9 tyX9_ok nmX9 hown hG.1 hP hD hS 0 rfl rfl 41 (by decide) (hts (.fieldLink RX9 299 "ChairCaneModel" "pastMany" "I") (by decide +kernel)) (fun _ h9 => h9) rfl (tyX9_ok 41 (by decide)) rfl rfl (Nat.le_of_ble_eq_true rfl) dX9_keepsAct_66 (fun H locs hP hD hS => ?_)
          have hP : va_P D vwCl ([(mo, .inr (7, [.int mo_thrown, .ref mo_ascalar, .ref mo_acane, .ref mo_ais, .ref mo_astrandOf, .ref mo_aweight, .ref mo_aheight, .ref mo_achairOf, .ref mo_anoteMinute, .ref mo_anoteWho, .ref mo_anoteIs, .ref mo_atoldCane, .ref mo_anewScalar, .ref mo_anewCane, .ref mo_anewHeight, .ref mo_anewStrand, .ref mo_anewChair, .ref mo_anewWeight, .int mo_taped, .int mo_p, .int mo_fault, .int mo_slot, .int mo_rules, .int mo_entries, .int mo_deep, .int mo_counted, .int mo_opened, .int mo_words, .ref mo_atape, .ref mo_asort, .ref mo_anumber, .ref mo_aclauses, .ref mo_asumAt, .ref mo_atestAt, .ref mo_aendAt, .ref mo_aopen, .ref mo_aasked, .ref mo_astack, .ref mo_amust, .ref mo_apast, .ref mo_apastOf, .int z22, .int w16, .int w17, .ref mo_acanRise, .ref mo_afirstHas, .ref mo_asecondHas, .ref mo_alay, .ref mo_ashows, .ref mo_aimages, .ref mo_aisMade, .int mo_imageAt, .int mo_goesBack])), (mo_acane, hcI k 4 w18), (mo_ais, hcI k 8 w19), (mo_apast, hcI k 260 w20), (mo_ascalar, hcI k 8 (sc8 mo_s0 mo_s1 mo_s2 mo_s3 w21 mo_s5 mo_s6 mo_s7))]) H := hP
          have hD : va_D A ([(mo, .inr (7, [.int mo_thrown, .ref mo_ascalar, .ref mo_acane, .ref mo_ais, .ref mo_astrandOf, .ref mo_aweight, .ref mo_aheight, .ref mo_achairOf, .ref mo_anoteMinute, .ref mo_anoteWho, .ref mo_anoteIs, .ref mo_atoldCane, .ref mo_anewScalar, .ref mo_anewCane, .ref mo_anewHeight, .ref mo_anewStrand, .ref mo_anewChair, .ref mo_anewWeight, .int mo_taped, .int mo_p, .int mo_fault, .int mo_slot, .int mo_rules, .int mo_entries, .int mo_deep, .int mo_counted, .int mo_opened, .int mo_words, .ref mo_atape, .ref mo_asort, .ref mo_anumber, .ref mo_aclauses, .ref mo_asumAt, .ref mo_atestAt, .ref mo_aendAt, .ref mo_aopen, .ref mo_aasked, .ref mo_astack, .ref mo_amust, .ref mo_apast, .ref mo_apastOf, .int z22, .int w16, .int w17, .ref mo_acanRise, .ref mo_afirstHas, .ref mo_asecondHas, .ref mo_alay, .ref mo_ashows, .ref mo_aimages, .ref mo_aisMade, .int mo_imageAt, .int mo_goesBack])), (mo_acane, hcI k 4 w18), (mo_ais, hcI k 8 w19), (mo_apast, hcI k 260 w20), (mo_ascalar, hcI k 8 (sc8 mo_s0 mo_s1 mo_s2 mo_s3 w21 mo_s5 mo_s6 mo_s7))]) := hD
          exact hc_endV hx hb hr hlocks (z22, w16, w17, w18, w19, w20, w21) ⟨(show iv (0) (20) z22 from ⟨by omega, by omega⟩), (show iv (0) (260) w16 from ⟨by omega, by omega⟩), (show iv (0) (1) w17 from ⟨by omega, by omega⟩)⟩ hP hD hS dX9_keepsAct_69
        · have fc12 := cx_ge_f (a := L1_11.toInt) (b := 260) rfl (by decide) c12
          refine lv_aload_n hx hb dX9_keepsAct_19 rfl (lv_at hl 1 rfl) ?_
          refine va_get (D := D) (ci := 7) (v := .ref mo_apast) (C := RX9) (T := TX9) (N := 53) hx hb hts in9 hown hG.1 hP 0 rfl rfl 39 (by decide) (hts (.fieldLink RX9 100 "ChairCaneModel" "past" "[I") (by decide +kernel)) (fun _ h9 => h9) rfl dX9_keepsAct_20 ?_
          refine lv_iload_n hx hb dX9_keepsAct_23 rfl (lv_at hl 0 rfl) ?_
          refine lv_bipush (v := 13) hx hb dX9_keepsAct_24 (by decide) ?_
          refine lv_isub hx hb dX9_keepsAct_26 ?_
          refine lv_topi (fun z23 ez23 => ?_)
          have tz23 : z23.toInt = L1_11.toInt - 13 := ai_sub rfl (by decide) ez23 (by omega) (by omega)
          refine lv_aload_n hx hb dX9_keepsAct_27 rfl (lv_at hl 1 rfl) ?_
          refine va_get (D := D) (ci := 7) (v := .ref mo_apast) (C := RX9) (T := TX9) (N := 53) hx hb hts in9 hown hG.1 hP 0 rfl rfl 39 (by decide) (hts (.fieldLink RX9 100 "ChairCaneModel" "past" "[I") (by decide +kernel)) (fun _ h9 => h9) rfl dX9_keepsAct_28 ?_
          refine lv_iload_n hx hb dX9_keepsAct_31 rfl (lv_at hl 0 rfl) ?_
          refine va_iald hx hb hG.1 hP 3 0 rfl rfl (vp_in_iff.mpr ⟨by omega, by omega⟩) dX9_keepsAct_32 ?_
          refine lv_topi (fun z24 ez24 => ?_)
          refine va_iast hx hb hG.1 hP hD hS 3 0 rfl rfl (vp_in_iff.mpr ⟨by omega, by omega⟩) dX9_keepsAct_33 (fun H locs hP hD hS => ?_)
          obtain ⟨f25, ef25⟩ : ∃ f, f = upd g_11mo_apast (Int32.toNatClampNeg z23) (z24) := ⟨_, rfl⟩
          rw [← ef25] at hP hD
          have hP : va_P D vwCl ([(mo, .inr (7, [.int mo_thrown, .ref mo_ascalar, .ref mo_acane, .ref mo_ais, .ref mo_astrandOf, .ref mo_aweight, .ref mo_aheight, .ref mo_achairOf, .ref mo_anoteMinute, .ref mo_anoteWho, .ref mo_anoteIs, .ref mo_atoldCane, .ref mo_anewScalar, .ref mo_anewCane, .ref mo_anewHeight, .ref mo_anewStrand, .ref mo_anewChair, .ref mo_anewWeight, .int mo_taped, .int mo_p, .int mo_fault, .int mo_slot, .int mo_rules, .int mo_entries, .int mo_deep, .int mo_counted, .int mo_opened, .int mo_words, .ref mo_atape, .ref mo_asort, .ref mo_anumber, .ref mo_aclauses, .ref mo_asumAt, .ref mo_atestAt, .ref mo_aendAt, .ref mo_aopen, .ref mo_aasked, .ref mo_astack, .ref mo_amust, .ref mo_apast, .ref mo_apastOf, .int mo_pastMany, .int mo_pastAt, .int mo_takesBack, .ref mo_acanRise, .ref mo_afirstHas, .ref mo_asecondHas, .ref mo_alay, .ref mo_ashows, .ref mo_aimages, .ref mo_aisMade, .int mo_imageAt, .int mo_goesBack])), (mo_acane, hcI k 4 mo_rcane), (mo_ais, hcI k 8 mo_ris), (mo_apast, hcI k 260 f25), (mo_ascalar, hcI k 8 (sc8 mo_s0 mo_s1 mo_s2 mo_s3 mo_s4 mo_s5 mo_s6 mo_s7))]) H := hP
          have hD : va_D A ([(mo, .inr (7, [.int mo_thrown, .ref mo_ascalar, .ref mo_acane, .ref mo_ais, .ref mo_astrandOf, .ref mo_aweight, .ref mo_aheight, .ref mo_achairOf, .ref mo_anoteMinute, .ref mo_anoteWho, .ref mo_anoteIs, .ref mo_atoldCane, .ref mo_anewScalar, .ref mo_anewCane, .ref mo_anewHeight, .ref mo_anewStrand, .ref mo_anewChair, .ref mo_anewWeight, .int mo_taped, .int mo_p, .int mo_fault, .int mo_slot, .int mo_rules, .int mo_entries, .int mo_deep, .int mo_counted, .int mo_opened, .int mo_words, .ref mo_atape, .ref mo_asort, .ref mo_anumber, .ref mo_aclauses, .ref mo_asumAt, .ref mo_atestAt, .ref mo_aendAt, .ref mo_aopen, .ref mo_aasked, .ref mo_astack, .ref mo_amust, .ref mo_apast, .ref mo_apastOf, .int mo_pastMany, .int mo_pastAt, .int mo_takesBack, .ref mo_acanRise, .ref mo_afirstHas, .ref mo_asecondHas, .ref mo_alay, .ref mo_ashows, .ref mo_aimages, .ref mo_aisMade, .int mo_imageAt, .int mo_goesBack])), (mo_acane, hcI k 4 mo_rcane), (mo_ais, hcI k 8 mo_ris), (mo_apast, hcI k 260 f25), (mo_ascalar, hcI k 8 (sc8 mo_s0 mo_s1 mo_s2 mo_s3 mo_s4 mo_s5 mo_s6 mo_s7))]) := hD
          obtain ⟨z26, ez26⟩ : ∃ z : Int32, z = L1_11 + 1 := ⟨_, rfl⟩
          have tz26 : z26.toInt = L1_11.toInt + (1) := ai_add rfl (by decide) ez26 (by omega) (by omega)
          refine lv_iinc (v := z26) (lv' := [(1, .int z26), (0, .ref mo)]) hx hb dX9_keepsAct_34 hl (k := 0) rfl (by rw [ez26]; rfl) (by decide) rfl (fun ls hl => ?_)
          refine lv_goto (tgt := 12) hx hb dX9_keepsAct_37 (by decide) ?_
          exact ih11 z26 f25 ⟨by omega, by omega⟩ (by omega) _ _ _ hP hD hS (lv_sub hl [0, 1] rfl)
    exact loop11 300 13 mo_rpast (iv_lit (by decide) (by decide)) (by have q0 : (13 : Int32).toInt = 13 := (by decide); omega) _ _ _ hP hD hS hl
set_option maxHeartbeats 4000000 in
set_option maxRecDepth 100000 in
theorem i_X9_undo (l : Launch) (D : va_G) (k : Nat → ClassId) (sz : Nat) (mo : Nat) (mo_thrown : Int32) (mo_ascalar : Nat) (mo_acane : Nat) (mo_ais : Nat) (mo_astrandOf : Nat) (mo_aweight : Nat) (mo_aheight : Nat) (mo_achairOf : Nat) (mo_anoteMinute : Nat) (mo_anoteWho : Nat) (mo_anoteIs : Nat) (mo_atoldCane : Nat) (mo_anewScalar : Nat) (mo_anewCane : Nat) (mo_anewHeight : Nat) (mo_anewStrand : Nat) (mo_anewChair : Nat) (mo_anewWeight : Nat) (mo_taped : Int32) (mo_p : Int32) (mo_fault : Int32) (mo_slot : Int32) (mo_rules : Int32) (mo_entries : Int32) (mo_deep : Int32) (mo_counted : Int32) (mo_opened : Int32) (mo_words : Int32) (mo_atape : Nat) (mo_asort : Nat) (mo_anumber : Nat) (mo_aclauses : Nat) (mo_asumAt : Nat) (mo_atestAt : Nat) (mo_aendAt : Nat) (mo_aopen : Nat) (mo_aasked : Nat) (mo_astack : Nat) (mo_amust : Nat) (mo_apast : Nat) (mo_apastOf : Nat) (mo_pastMany : Int32) (mo_pastAt : Int32) (mo_takesBack : Int32) (mo_acanRise : Nat) (mo_afirstHas : Nat) (mo_asecondHas : Nat) (mo_alay : Nat) (mo_ashows : Nat) (mo_aimages : Nat) (mo_aisMade : Nat) (mo_imageAt : Int32) (mo_goesBack : Int32) (mo_rcane : Nat → Int32) (mo_ris : Nat → Int32) (mo_rpast : Nat → Int32) (mo_s0 : Int32) (mo_s1 : Int32) (mo_s2 : Int32) (mo_s3 : Int32) (mo_s4 : Int32) (mo_s5 : Int32) (mo_s6 : Int32) (mo_s7 : Int32) (h_mo_taped : iv (0) (400) mo_taped) (h_mo_p : iv (0) (402) mo_p) (h_mo_fault : iv (0) (4000) mo_fault) (h_mo_slot : iv (0) (5) mo_slot) (h_mo_rules : iv (0) (6) mo_rules) (h_mo_entries : iv (0) (300) mo_entries) (h_mo_counted : iv (0) (70) mo_counted) (h_mo_opened : iv (0) (402) mo_opened) (h_mo_words : iv (11) (11) mo_words) (h_mo_pastMany : iv (0) (20) mo_pastMany) (h_mo_pastAt : iv (0) (260) mo_pastAt) (h_mo_takesBack : iv (0) (1) mo_takesBack) (h_mo_imageAt : iv (0) (2000) mo_imageAt) (h_mo_goesBack : iv (0) (1) mo_goesBack) (h_mo_s1 : iv (0) (4) mo_s1) (h_mo_s2 : iv (0) (8) mo_s2) (h_mo_s3 : iv (0) (8) mo_s3) (h_mo_s5 : iv (0) (10) mo_s5) (h_mo_s7 : iv (-1) (5) mo_s7) : CtI l yX9_undo wsX9_undo (rmK 4 0 0) [.ref mo] D k sz ([(mo, .inr (7, [.int mo_thrown, .ref mo_ascalar, .ref mo_acane, .ref mo_ais, .ref mo_astrandOf, .ref mo_aweight, .ref mo_aheight, .ref mo_achairOf, .ref mo_anoteMinute, .ref mo_anoteWho, .ref mo_anoteIs, .ref mo_atoldCane, .ref mo_anewScalar, .ref mo_anewCane, .ref mo_anewHeight, .ref mo_anewStrand, .ref mo_anewChair, .ref mo_anewWeight, .int mo_taped, .int mo_p, .int mo_fault, .int mo_slot, .int mo_rules, .int mo_entries, .int mo_deep, .int mo_counted, .int mo_opened, .int mo_words, .ref mo_atape, .ref mo_asort, .ref mo_anumber, .ref mo_aclauses, .ref mo_asumAt, .ref mo_atestAt, .ref mo_aendAt, .ref mo_aopen, .ref mo_aasked, .ref mo_astack, .ref mo_amust, .ref mo_apast, .ref mo_apastOf, .int mo_pastMany, .int mo_pastAt, .int mo_takesBack, .ref mo_acanRise, .ref mo_afirstHas, .ref mo_asecondHas, .ref mo_alay, .ref mo_ashows, .ref mo_aimages, .ref mo_aisMade, .int mo_imageAt, .int mo_goesBack])), (mo_acane, hcI k 4 mo_rcane), (mo_ais, hcI k 8 mo_ris), (mo_apast, hcI k 260 mo_rpast), (mo_ascalar, hcI k 8 (sc8 mo_s0 mo_s1 mo_s2 mo_s3 mo_s4 mo_s5 mo_s6 mo_s7))]) (fun (r : Int32) (u : (Int32) × (Int32) × (Int32) × (Nat → Int32) × (Nat → Int32) × (Nat → Int32) × (Int32)) => iv (-2) (19) r ∧ iv (0) (20) (u.1) ∧ iv (0) (260) (u.2.1) ∧ iv (0) (1) (u.2.2.1)) (fun u : (Int32) × (Int32) × (Int32) × (Nat → Int32) × (Nat → Int32) × (Nat → Int32) × (Int32) => [(mo, .inr (7, [.int mo_thrown, .ref mo_ascalar, .ref mo_acane, .ref mo_ais, .ref mo_astrandOf, .ref mo_aweight, .ref mo_aheight, .ref mo_achairOf, .ref mo_anoteMinute, .ref mo_anoteWho, .ref mo_anoteIs, .ref mo_atoldCane, .ref mo_anewScalar, .ref mo_anewCane, .ref mo_anewHeight, .ref mo_anewStrand, .ref mo_anewChair, .ref mo_anewWeight, .int mo_taped, .int mo_p, .int mo_fault, .int mo_slot, .int mo_rules, .int mo_entries, .int mo_deep, .int mo_counted, .int mo_opened, .int mo_words, .ref mo_atape, .ref mo_asort, .ref mo_anumber, .ref mo_aclauses, .ref mo_asumAt, .ref mo_atestAt, .ref mo_aendAt, .ref mo_aopen, .ref mo_aasked, .ref mo_astack, .ref mo_amust, .ref mo_apast, .ref mo_apastOf, .int (u.1), .int (u.2.1), .int (u.2.2.1), .ref mo_acanRise, .ref mo_afirstHas, .ref mo_asecondHas, .ref mo_alay, .ref mo_ashows, .ref mo_aimages, .ref mo_aisMade, .int mo_imageAt, .int mo_goesBack])), (mo_acane, hcI k 4 (u.2.2.2.1)), (mo_ais, hcI k 8 (u.2.2.2.2.1)), (mo_apast, hcI k 260 (u.2.2.2.2.2.1)), (mo_ascalar, hcI k 8 (sc8 mo_s0 mo_s1 mo_s2 mo_s3 (u.2.2.2.2.2.2) mo_s5 mo_s6 mo_s7))]) 0 0 := by
  have h_mo_taped_l := h_mo_taped.1
  have h_mo_taped_u := h_mo_taped.2
  have h_mo_p_l := h_mo_p.1
  have h_mo_p_u := h_mo_p.2
  have h_mo_fault_l := h_mo_fault.1
  have h_mo_fault_u := h_mo_fault.2
  have h_mo_slot_l := h_mo_slot.1
  have h_mo_slot_u := h_mo_slot.2
  have h_mo_rules_l := h_mo_rules.1
  have h_mo_rules_u := h_mo_rules.2
  have h_mo_entries_l := h_mo_entries.1
  have h_mo_entries_u := h_mo_entries.2
  have h_mo_counted_l := h_mo_counted.1
  have h_mo_counted_u := h_mo_counted.2
  have h_mo_opened_l := h_mo_opened.1
  have h_mo_opened_u := h_mo_opened.2
  have h_mo_words_l := h_mo_words.1
  have h_mo_words_u := h_mo_words.2
  have h_mo_pastMany_l := h_mo_pastMany.1
  have h_mo_pastMany_u := h_mo_pastMany.2
  have h_mo_pastAt_l := h_mo_pastAt.1
  have h_mo_pastAt_u := h_mo_pastAt.2
  have h_mo_takesBack_l := h_mo_takesBack.1
  have h_mo_takesBack_u := h_mo_takesBack.2
  have h_mo_imageAt_l := h_mo_imageAt.1
  have h_mo_imageAt_u := h_mo_imageAt.2
  have h_mo_goesBack_l := h_mo_goesBack.1
  have h_mo_goesBack_u := h_mo_goesBack.2
  have h_mo_s1_l := h_mo_s1.1
  have h_mo_s1_u := h_mo_s1.2
  have h_mo_s2_l := h_mo_s2.1
  have h_mo_s2_u := h_mo_s2.2
  have h_mo_s3_l := h_mo_s3.1
  have h_mo_s3_u := h_mo_s3.2
  have h_mo_s5_l := h_mo_s5.1
  have h_mo_s5_u := h_mo_s5.2
  have h_mo_s7_l := h_mo_s7.1
  have h_mo_s7_u := h_mo_s7.2
  refine CtI.mk (cc := cX9_undo) (maxL := 1) (ret := (some .int)) (by decide) rfl (Nat.le_of_ble_eq_true rfl) ?_
  intro p e s m below meth c A ls E hP hD hS hl
  obtain ⟨hx, hb, hr, hml, hown, hts, hlocks, hin, hG, hA⟩ := E
  have hown : s.vm.findClass RX9 = some m.cls := hown
  have in9 : ∀ w ∈ u_ws RX9 TX9 53, w ∈ wsX9_undo := fun _ h => List.mem_cons_of_mem _ (List.mem_append_right _ h)
  have hl : lv_has ls 1 [(0, .ref mo)] := hl
  refine lv_aload_n hx hb dX9_undo_0 rfl (lv_at hl 0 rfl) ?_
  refine va_get (D := D) (ci := 7) (v := .int mo_pastMany) (C := RX9) (T := TX9) (N := 53) hx hb hts in9 hown hG.1 hP 0 rfl rfl 41 (by decide) (hts (.fieldLink RX9 299 "ChairCaneModel" "pastMany" "I") (by decide +kernel)) (fun _ h9 => h9) rfl dX9_undo_1 ?_
  refine lv_if_ne (tgt := 10) hx hb dX9_undo_4 (by decide) (fun c1 => ?_) (fun c1 => ?_)
  · have fc1 := cx_ne_t (a := mo_pastMany.toInt) (b := 0) rfl (by decide) c1
    refine lv_aload_n hx hb dX9_undo_10 rfl (lv_at hl 0 rfl) ?_
    refine lv_dup hx hb dX9_undo_11 rfl ?_
    refine va_get (D := D) (ci := 7) (v := .int mo_pastMany) (C := RX9) (T := TX9) (N := 53) hx hb hts in9 hown hG.1 hP 0 rfl rfl 41 (by decide) (hts (.fieldLink RX9 299 "ChairCaneModel" "pastMany" "I") (by decide +kernel)) (fun _ h9 => h9) rfl dX9_undo_12 ?_
    refine lv_iconst (v := 1) hx hb dX9_undo_15 (by decide) ?_
    refine lv_isub hx hb dX9_undo_16 ?_
    refine lv_topi (fun z2 ez2 => ?_)
    have tz2 : z2.toInt = mo_pastMany.toInt - 1 := ai_sub rfl (by decide) ez2 (by omega) (by omega)
    refine va_put (D := D) (ci := 7) (v := .int z2) (C := RX9) (T := TX9) (N := 53) hx hb hts in9 tyX9 tyX9_ok nmX9 hown hG.1 hP hD hS 0 rfl rfl 41 (by decide) (hts (.fieldLink RX9 299 "ChairCaneModel" "pastMany" "I") (by decide +kernel)) (fun _ h9 => h9) rfl (tyX9_ok 41 (by decide)) rfl rfl (Nat.le_of_ble_eq_true rfl) dX9_undo_17 (fun H locs hP hD hS => ?_)
    have hP : va_P D vwCl ([(mo, .inr (7, [.int mo_thrown, .ref mo_ascalar, .ref mo_acane, .ref mo_ais, .ref mo_astrandOf, .ref mo_aweight, .ref mo_aheight, .ref mo_achairOf, .ref mo_anoteMinute, .ref mo_anoteWho, .ref mo_anoteIs, .ref mo_atoldCane, .ref mo_anewScalar, .ref mo_anewCane, .ref mo_anewHeight, .ref mo_anewStrand, .ref mo_anewChair, .ref mo_anewWeight, .int mo_taped, .int mo_p, .int mo_fault, .int mo_slot, .int mo_rules, .int mo_entries, .int mo_deep, .int mo_counted, .int mo_opened, .int mo_words, .ref mo_atape, .ref mo_asort, .ref mo_anumber, .ref mo_aclauses, .ref mo_asumAt, .ref mo_atestAt, .ref mo_aendAt, .ref mo_aopen, .ref mo_aasked, .ref mo_astack, .ref mo_amust, .ref mo_apast, .ref mo_apastOf, .int z2, .int mo_pastAt, .int mo_takesBack, .ref mo_acanRise, .ref mo_afirstHas, .ref mo_asecondHas, .ref mo_alay, .ref mo_ashows, .ref mo_aimages, .ref mo_aisMade, .int mo_imageAt, .int mo_goesBack])), (mo_acane, hcI k 4 mo_rcane), (mo_ais, hcI k 8 mo_ris), (mo_apast, hcI k 260 mo_rpast), (mo_ascalar, hcI k 8 (sc8 mo_s0 mo_s1 mo_s2 mo_s3 mo_s4 mo_s5 mo_s6 mo_s7))]) H := hP
    have hD : va_D A ([(mo, .inr (7, [.int mo_thrown, .ref mo_ascalar, .ref mo_acane, .ref mo_ais, .ref mo_astrandOf, .ref mo_aweight, .ref mo_aheight, .ref mo_achairOf, .ref mo_anoteMinute, .ref mo_anoteWho, .ref mo_anoteIs, .ref mo_atoldCane, .ref mo_anewScalar, .ref mo_anewCane, .ref mo_anewHeight, .ref mo_anewStrand, .ref mo_anewChair, .ref mo_anewWeight, .int mo_taped, .int mo_p, .int mo_fault, .int mo_slot, .int mo_rules, .int mo_entries, .int mo_deep, .int mo_counted, .int mo_opened, .int mo_words, .ref mo_atape, .ref mo_asort, .ref mo_anumber, .ref mo_aclauses, .ref mo_asumAt, .ref mo_atestAt, .ref mo_aendAt, .ref mo_aopen, .ref mo_aasked, .ref mo_astack, .ref mo_amust, .ref mo_apast, .ref mo_apastOf, .int z2, .int mo_pastAt, .int mo_takesBack, .ref mo_acanRise, .ref mo_afirstHas, .ref mo_asecondHas, .ref mo_alay, .ref mo_ashows, .ref mo_aimages, .ref mo_aisMade, .int mo_imageAt, .int mo_goesBack])), (mo_acane, hcI k 4 mo_rcane), (mo_ais, hcI k 8 mo_ris), (mo_apast, hcI k 260 mo_rpast), (mo_ascalar, hcI k 8 (sc8 mo_s0 mo_s1 mo_s2 mo_s3 mo_s4 mo_s5 mo_s6 mo_s7))]) := hD
    refine lv_aload_n hx hb dX9_undo_20 rfl (lv_at hl 0 rfl) ?_
    refine lv_aload_n hx hb dX9_undo_21 rfl (lv_at hl 0 rfl) ?_
    refine va_get (D := D) (ci := 7) (v := .int z2) (C := RX9) (T := TX9) (N := 53) hx hb hts in9 hown hG.1 hP 0 rfl rfl 41 (by decide) (hts (.fieldLink RX9 299 "ChairCaneModel" "pastMany" "I") (by decide +kernel)) (fun _ h9 => h9) rfl dX9_undo_22 ?_
    refine lv_iconst (v := 1) hx hb dX9_undo_25 (by decide) ?_
    refine hc_Vv (As := [.int z2, .int 1]) (rest := []) (n := 2) (wr := []) hx hb hml hown hts hG hA hP hD hS hl.1 [0, 1, 2, 3, 4] [] (i_X9_movesAll l D k _ z2 1 mo mo_thrown mo_ascalar mo_acane mo_ais mo_astrandOf mo_aweight mo_aheight mo_achairOf mo_anoteMinute mo_anoteWho mo_anoteIs mo_atoldCane mo_anewScalar mo_anewCane mo_anewHeight mo_anewStrand mo_anewChair mo_anewWeight mo_taped mo_p mo_fault mo_slot mo_rules mo_entries mo_deep mo_counted mo_opened mo_words mo_atape mo_asort mo_anumber mo_aclauses mo_asumAt mo_atestAt mo_aendAt mo_aopen mo_aasked mo_astack mo_amust mo_apast mo_apastOf z2 mo_pastAt mo_takesBack mo_acanRise mo_afirstHas mo_asecondHas mo_alay mo_ashows mo_aimages mo_aisMade mo_imageAt mo_goesBack mo_rcane mo_ris mo_rpast mo_s0 mo_s1 mo_s2 mo_s3 mo_s4 mo_s5 mo_s6 mo_s7 ⟨by omega, by omega⟩ (iv_lit (by decide) (by decide)) ⟨by omega, by omega⟩ ⟨by omega, by omega⟩ ⟨by omega, by omega⟩ ⟨by omega, by omega⟩ ⟨by omega, by omega⟩ ⟨by omega, by omega⟩ ⟨by omega, by omega⟩ ⟨by omega, by omega⟩ ⟨by omega, by omega⟩ ⟨by omega, by omega⟩ ⟨by omega, by omega⟩ ⟨by omega, by omega⟩ ⟨by omega, by omega⟩ ⟨by omega, by omega⟩ ⟨by omega, by omega⟩ ⟨by omega, by omega⟩ ⟨by omega, by omega⟩ ⟨by omega, by omega⟩ ⟨by omega, by omega⟩) (ci := 7) (q0 := 0) rfl rfl gX9_undo_X9_movesAll rfl ⟨rfl, rfl, Nat.le_of_ble_eq_true rfl, Nat.le_of_ble_eq_true rfl⟩ (by decide +kernel) rfl rfl ⟨by decide, by decide, by decide⟩ ⟨rfl, rfl, Nat.le_of_ble_eq_true rfl, Nat.le_of_ble_eq_true rfl, Nat.le_of_ble_eq_true rfl⟩ dX9_undo_26 (fun u3 H locs hw hP hD hS => ?_)
    obtain ⟨w5, w6, w7, w8, w9, w10⟩ := u3
    have hP : va_P D vwCl ([(mo, .inr (7, [.int mo_thrown, .ref mo_ascalar, .ref mo_acane, .ref mo_ais, .ref mo_astrandOf, .ref mo_aweight, .ref mo_aheight, .ref mo_achairOf, .ref mo_anoteMinute, .ref mo_anoteWho, .ref mo_anoteIs, .ref mo_atoldCane, .ref mo_anewScalar, .ref mo_anewCane, .ref mo_anewHeight, .ref mo_anewStrand, .ref mo_anewChair, .ref mo_anewWeight, .int mo_taped, .int mo_p, .int mo_fault, .int mo_slot, .int mo_rules, .int mo_entries, .int mo_deep, .int mo_counted, .int mo_opened, .int mo_words, .ref mo_atape, .ref mo_asort, .ref mo_anumber, .ref mo_aclauses, .ref mo_asumAt, .ref mo_atestAt, .ref mo_aendAt, .ref mo_aopen, .ref mo_aasked, .ref mo_astack, .ref mo_amust, .ref mo_apast, .ref mo_apastOf, .int z2, .int w5, .int w6, .ref mo_acanRise, .ref mo_afirstHas, .ref mo_asecondHas, .ref mo_alay, .ref mo_ashows, .ref mo_aimages, .ref mo_aisMade, .int mo_imageAt, .int mo_goesBack])), (mo_acane, hcI k 4 w7), (mo_ais, hcI k 8 w8), (mo_apast, hcI k 260 w9), (mo_ascalar, hcI k 8 (sc8 mo_s0 mo_s1 mo_s2 mo_s3 w10 mo_s5 mo_s6 mo_s7))]) H := hP
    have hD : va_D A ([(mo, .inr (7, [.int mo_thrown, .ref mo_ascalar, .ref mo_acane, .ref mo_ais, .ref mo_astrandOf, .ref mo_aweight, .ref mo_aheight, .ref mo_achairOf, .ref mo_anoteMinute, .ref mo_anoteWho, .ref mo_anoteIs, .ref mo_atoldCane, .ref mo_anewScalar, .ref mo_anewCane, .ref mo_anewHeight, .ref mo_anewStrand, .ref mo_anewChair, .ref mo_anewWeight, .int mo_taped, .int mo_p, .int mo_fault, .int mo_slot, .int mo_rules, .int mo_entries, .int mo_deep, .int mo_counted, .int mo_opened, .int mo_words, .ref mo_atape, .ref mo_asort, .ref mo_anumber, .ref mo_aclauses, .ref mo_asumAt, .ref mo_atestAt, .ref mo_aendAt, .ref mo_aopen, .ref mo_aasked, .ref mo_astack, .ref mo_amust, .ref mo_apast, .ref mo_apastOf, .int z2, .int w5, .int w6, .ref mo_acanRise, .ref mo_afirstHas, .ref mo_asecondHas, .ref mo_alay, .ref mo_ashows, .ref mo_aimages, .ref mo_aisMade, .int mo_imageAt, .int mo_goesBack])), (mo_acane, hcI k 4 w7), (mo_ais, hcI k 8 w8), (mo_apast, hcI k 260 w9), (mo_ascalar, hcI k 8 (sc8 mo_s0 mo_s1 mo_s2 mo_s3 w10 mo_s5 mo_s6 mo_s7))]) := hD
    obtain ⟨bw5, bw6⟩ := hw
    have bw5 : iv (0) (260) w5 := bw5
    have bw5_l := bw5.1
    have bw5_u := bw5.2
    have bw6 : iv (0) (1) w6 := bw6
    have bw6_l := bw6.1
    have bw6_u := bw6.2
    refine lv_aload_n hx hb dX9_undo_29 rfl (lv_at hl 0 rfl) ?_
    refine va_get (D := D) (ci := 7) (v := .int z2) (C := RX9) (T := TX9) (N := 53) hx hb hts in9 hown hG.1 hP 0 rfl rfl 41 (by decide) (hts (.fieldLink RX9 299 "ChairCaneModel" "pastMany" "I") (by decide +kernel)) (fun _ h9 => h9) rfl dX9_undo_30 ?_
    exact hc_end hx hb hr hlocks (z2, w5, w6, w7, w8, w9, w10) ⟨⟨by omega, by omega⟩, (show iv (0) (20) z2 from ⟨by omega, by omega⟩), (show iv (0) (260) w5 from ⟨by omega, by omega⟩), (show iv (0) (1) w6 from ⟨by omega, by omega⟩)⟩ hP hD hS dX9_undo_33
  · have fc1 := cx_ne_f (a := mo_pastMany.toInt) (b := 0) rfl (by decide) c1
    refine lv_bipush (v := (-2)) hx hb dX9_undo_7 (by decide) ?_
    exact hc_end hx hb hr hlocks (mo_pastMany, mo_pastAt, mo_takesBack, mo_rcane, mo_ris, mo_rpast, mo_s4) ⟨iv_lit (by decide) (by decide), (show iv (0) (20) mo_pastMany from ⟨by omega, by omega⟩), (show iv (0) (260) mo_pastAt from ⟨by omega, by omega⟩), (show iv (0) (1) mo_takesBack from ⟨by omega, by omega⟩)⟩ hP hD hS dX9_undo_9
set_option maxHeartbeats 4000000 in
set_option maxRecDepth 100000 in
theorem i_X9_sit (l : Launch) (D : va_G) (k : Nat → ClassId) (sz : Nat) (x1 : Int32) (mo : Nat) (mo_thrown : Int32) (mo_ascalar : Nat) (mo_acane : Nat) (mo_ais : Nat) (mo_astrandOf : Nat) (mo_aweight : Nat) (mo_aheight : Nat) (mo_achairOf : Nat) (mo_anoteMinute : Nat) (mo_anoteWho : Nat) (mo_anoteIs : Nat) (mo_atoldCane : Nat) (mo_anewScalar : Nat) (mo_anewCane : Nat) (mo_anewHeight : Nat) (mo_anewStrand : Nat) (mo_anewChair : Nat) (mo_anewWeight : Nat) (mo_taped : Int32) (mo_p : Int32) (mo_fault : Int32) (mo_slot : Int32) (mo_rules : Int32) (mo_entries : Int32) (mo_deep : Int32) (mo_counted : Int32) (mo_opened : Int32) (mo_words : Int32) (mo_atape : Nat) (mo_asort : Nat) (mo_anumber : Nat) (mo_aclauses : Nat) (mo_asumAt : Nat) (mo_atestAt : Nat) (mo_aendAt : Nat) (mo_aopen : Nat) (mo_aasked : Nat) (mo_astack : Nat) (mo_amust : Nat) (mo_apast : Nat) (mo_apastOf : Nat) (mo_pastMany : Int32) (mo_pastAt : Int32) (mo_takesBack : Int32) (mo_acanRise : Nat) (mo_afirstHas : Nat) (mo_asecondHas : Nat) (mo_alay : Nat) (mo_ashows : Nat) (mo_aimages : Nat) (mo_aisMade : Nat) (mo_imageAt : Int32) (mo_goesBack : Int32) (mo_rcane : Nat → Int32) (mo_ris : Nat → Int32) (mo_rstrandOf : Nat → Int32) (mo_rweight : Nat → Int32) (mo_rheight : Nat → Int32) (mo_rchairOf : Nat → Int32) (mo_rpast : Nat → Int32) (mo_s0 : Int32) (mo_s1 : Int32) (mo_s2 : Int32) (mo_s3 : Int32) (mo_s4 : Int32) (mo_s5 : Int32) (mo_s6 : Int32) (mo_s7 : Int32) (h_mo_taped : iv (0) (400) mo_taped) (h_mo_p : iv (0) (402) mo_p) (h_mo_fault : iv (0) (4000) mo_fault) (h_mo_slot : iv (0) (5) mo_slot) (h_mo_rules : iv (0) (6) mo_rules) (h_mo_entries : iv (0) (300) mo_entries) (h_mo_counted : iv (0) (70) mo_counted) (h_mo_opened : iv (0) (402) mo_opened) (h_mo_words : iv (11) (11) mo_words) (h_mo_pastMany : iv (0) (20) mo_pastMany) (h_mo_pastAt : iv (0) (260) mo_pastAt) (h_mo_takesBack : iv (0) (1) mo_takesBack) (h_mo_imageAt : iv (0) (2000) mo_imageAt) (h_mo_goesBack : iv (0) (1) mo_goesBack) (h_mo_rweight : rowIn (0) (20) mo_rweight) (h_mo_rchairOf : rowIn (0) (7) mo_rchairOf) (h_mo_s1 : iv (0) (4) mo_s1) (h_mo_s2 : iv (0) (8) mo_s2) (h_mo_s3 : iv (0) (8) mo_s3) (h_mo_s5 : iv (0) (10) mo_s5) (h_mo_s7 : iv (-1) (5) mo_s7) (hh_HallOk : HallOk mo_s2 mo_s3 mo_rstrandOf mo_rchairOf mo_rweight) : CtI l yX9_sit wsX9_sit (rmK 6 0 0) [.ref mo, .int x1] D k sz ([(mo, .inr (7, [.int mo_thrown, .ref mo_ascalar, .ref mo_acane, .ref mo_ais, .ref mo_astrandOf, .ref mo_aweight, .ref mo_aheight, .ref mo_achairOf, .ref mo_anoteMinute, .ref mo_anoteWho, .ref mo_anoteIs, .ref mo_atoldCane, .ref mo_anewScalar, .ref mo_anewCane, .ref mo_anewHeight, .ref mo_anewStrand, .ref mo_anewChair, .ref mo_anewWeight, .int mo_taped, .int mo_p, .int mo_fault, .int mo_slot, .int mo_rules, .int mo_entries, .int mo_deep, .int mo_counted, .int mo_opened, .int mo_words, .ref mo_atape, .ref mo_asort, .ref mo_anumber, .ref mo_aclauses, .ref mo_asumAt, .ref mo_atestAt, .ref mo_aendAt, .ref mo_aopen, .ref mo_aasked, .ref mo_astack, .ref mo_amust, .ref mo_apast, .ref mo_apastOf, .int mo_pastMany, .int mo_pastAt, .int mo_takesBack, .ref mo_acanRise, .ref mo_afirstHas, .ref mo_asecondHas, .ref mo_alay, .ref mo_ashows, .ref mo_aimages, .ref mo_aisMade, .int mo_imageAt, .int mo_goesBack])), (mo_acane, hcI k 4 mo_rcane), (mo_ais, hcI k 8 mo_ris), (mo_astrandOf, hcI k 8 mo_rstrandOf), (mo_aweight, hcI k 8 mo_rweight), (mo_aheight, hcI k 8 mo_rheight), (mo_achairOf, hcI k 8 mo_rchairOf), (mo_apast, hcI k 260 mo_rpast), (mo_ascalar, hcI k 8 (sc8 mo_s0 mo_s1 mo_s2 mo_s3 mo_s4 mo_s5 mo_s6 mo_s7))]) (fun (r : Int32) (u : (Int32) × (Int32) × (Int32) × (Nat → Int32) × (Nat → Int32) × (Nat → Int32) × (Int32)) => iv (0) (20) (u.1) ∧ iv (0) (260) (u.2.1) ∧ iv (0) (1) (u.2.2.1)) (fun u : (Int32) × (Int32) × (Int32) × (Nat → Int32) × (Nat → Int32) × (Nat → Int32) × (Int32) => [(mo, .inr (7, [.int mo_thrown, .ref mo_ascalar, .ref mo_acane, .ref mo_ais, .ref mo_astrandOf, .ref mo_aweight, .ref mo_aheight, .ref mo_achairOf, .ref mo_anoteMinute, .ref mo_anoteWho, .ref mo_anoteIs, .ref mo_atoldCane, .ref mo_anewScalar, .ref mo_anewCane, .ref mo_anewHeight, .ref mo_anewStrand, .ref mo_anewChair, .ref mo_anewWeight, .int mo_taped, .int mo_p, .int mo_fault, .int mo_slot, .int mo_rules, .int mo_entries, .int mo_deep, .int mo_counted, .int mo_opened, .int mo_words, .ref mo_atape, .ref mo_asort, .ref mo_anumber, .ref mo_aclauses, .ref mo_asumAt, .ref mo_atestAt, .ref mo_aendAt, .ref mo_aopen, .ref mo_aasked, .ref mo_astack, .ref mo_amust, .ref mo_apast, .ref mo_apastOf, .int (u.1), .int (u.2.1), .int (u.2.2.1), .ref mo_acanRise, .ref mo_afirstHas, .ref mo_asecondHas, .ref mo_alay, .ref mo_ashows, .ref mo_aimages, .ref mo_aisMade, .int mo_imageAt, .int mo_goesBack])), (mo_acane, hcI k 4 (u.2.2.2.1)), (mo_ais, hcI k 8 (u.2.2.2.2.1)), (mo_astrandOf, hcI k 8 mo_rstrandOf), (mo_aweight, hcI k 8 mo_rweight), (mo_aheight, hcI k 8 mo_rheight), (mo_achairOf, hcI k 8 mo_rchairOf), (mo_apast, hcI k 260 (u.2.2.2.2.2.1)), (mo_ascalar, hcI k 8 (sc8 mo_s0 mo_s1 mo_s2 mo_s3 (u.2.2.2.2.2.2) mo_s5 mo_s6 mo_s7))]) 0 0 := by
  have h_mo_taped_l := h_mo_taped.1
  have h_mo_taped_u := h_mo_taped.2
  have h_mo_p_l := h_mo_p.1
  have h_mo_p_u := h_mo_p.2
  have h_mo_fault_l := h_mo_fault.1
  have h_mo_fault_u := h_mo_fault.2
  have h_mo_slot_l := h_mo_slot.1
  have h_mo_slot_u := h_mo_slot.2
  have h_mo_rules_l := h_mo_rules.1
  have h_mo_rules_u := h_mo_rules.2
  have h_mo_entries_l := h_mo_entries.1
  have h_mo_entries_u := h_mo_entries.2
  have h_mo_counted_l := h_mo_counted.1
  have h_mo_counted_u := h_mo_counted.2
  have h_mo_opened_l := h_mo_opened.1
  have h_mo_opened_u := h_mo_opened.2
  have h_mo_words_l := h_mo_words.1
  have h_mo_words_u := h_mo_words.2
  have h_mo_pastMany_l := h_mo_pastMany.1
  have h_mo_pastMany_u := h_mo_pastMany.2
  have h_mo_pastAt_l := h_mo_pastAt.1
  have h_mo_pastAt_u := h_mo_pastAt.2
  have h_mo_takesBack_l := h_mo_takesBack.1
  have h_mo_takesBack_u := h_mo_takesBack.2
  have h_mo_imageAt_l := h_mo_imageAt.1
  have h_mo_imageAt_u := h_mo_imageAt.2
  have h_mo_goesBack_l := h_mo_goesBack.1
  have h_mo_goesBack_u := h_mo_goesBack.2
  have h_mo_s1_l := h_mo_s1.1
  have h_mo_s1_u := h_mo_s1.2
  have h_mo_s2_l := h_mo_s2.1
  have h_mo_s2_u := h_mo_s2.2
  have h_mo_s3_l := h_mo_s3.1
  have h_mo_s3_u := h_mo_s3.2
  have h_mo_s5_l := h_mo_s5.1
  have h_mo_s5_u := h_mo_s5.2
  have h_mo_s7_l := h_mo_s7.1
  have h_mo_s7_u := h_mo_s7.2
  refine CtI.mk (cc := cX9_sit) (maxL := 2) (ret := (some .int)) (by decide) rfl (Nat.le_of_ble_eq_true rfl) ?_
  intro p e s m below meth c A ls E hP hD hS hl
  obtain ⟨hx, hb, hr, hml, hown, hts, hlocks, hin, hG, hA⟩ := E
  have hown : s.vm.findClass RX9 = some m.cls := hown
  have in9 : ∀ w ∈ u_ws RX9 TX9 53, w ∈ wsX9_sit := fun _ h => List.mem_cons_of_mem _ (List.mem_append_right _ h)
  have hl : lv_has ls 2 [(0, .ref mo), (1, .int x1)] := hl
  refine lv_aload_n hx hb dX9_sit_0 rfl (lv_at hl 0 rfl) ?_
  refine lv_iload_n hx hb dX9_sit_1 rfl (lv_at hl 1 rfl) ?_
  refine lv_iconst (v := 0) hx hb dX9_sit_2 (by decide) ?_
  have ql1 : (0 : Int32).toInt = 0 := by decide
  refine hc_Vi (As := [.int x1, .int 0]) (rest := []) (n := 2) (wr := [(mo_acane, hcI k 4 mo_rcane), (mo_astrandOf, hcI k 8 mo_rstrandOf), (mo_aweight, hcI k 8 mo_rweight), (mo_aheight, hcI k 8 mo_rheight), (mo_achairOf, hcI k 8 mo_rchairOf), (mo_apast, hcI k 260 mo_rpast)]) hx hb hml hown hts hG hA hP hD hS hl.1 [0, 2, 8] [1, 3, 4, 5, 6, 7] (i_X9_isSo l D k _ x1 0 mo mo_thrown mo_ascalar mo_acane mo_ais mo_astrandOf mo_aweight mo_aheight mo_achairOf mo_anoteMinute mo_anoteWho mo_anoteIs mo_atoldCane mo_anewScalar mo_anewCane mo_anewHeight mo_anewStrand mo_anewChair mo_anewWeight mo_taped mo_p mo_fault mo_slot mo_rules mo_entries mo_deep mo_counted mo_opened mo_words mo_atape mo_asort mo_anumber mo_aclauses mo_asumAt mo_atestAt mo_aendAt mo_aopen mo_aasked mo_astack mo_amust mo_apast mo_apastOf mo_pastMany mo_pastAt mo_takesBack mo_acanRise mo_afirstHas mo_asecondHas mo_alay mo_ashows mo_aimages mo_aisMade mo_imageAt mo_goesBack mo_ris mo_s0 mo_s1 mo_s2 mo_s3 mo_s4 mo_s5 mo_s6 mo_s7 ⟨by omega, by omega⟩ ⟨by omega, by omega⟩ ⟨by omega, by omega⟩ ⟨by omega, by omega⟩ ⟨by omega, by omega⟩ ⟨by omega, by omega⟩ ⟨by omega, by omega⟩ ⟨by omega, by omega⟩ ⟨by omega, by omega⟩ ⟨by omega, by omega⟩ ⟨by omega, by omega⟩ ⟨by omega, by omega⟩ ⟨by omega, by omega⟩ ⟨by omega, by omega⟩ ⟨by omega, by omega⟩ ⟨by omega, by omega⟩ ⟨by omega, by omega⟩ ⟨by omega, by omega⟩ ⟨by omega, by omega⟩) (ci := 7) (q0 := 0) rfl rfl gX9_sit_X9_isSo rfl ⟨rfl, rfl, Nat.le_of_ble_eq_true rfl, Nat.le_of_ble_eq_true rfl⟩ (by decide +kernel) rfl rfl ⟨by decide, by decide, by decide⟩ ⟨rfl, rfl, Nat.le_of_ble_eq_true rfl, Nat.le_of_ble_eq_true rfl, Nat.le_of_ble_eq_true rfl⟩ dX9_sit_3 (fun r3 u2 H locs hw hP hD hS => ?_)
  have hP : va_P D vwCl ([(mo_acane, hcI k 4 mo_rcane), (mo_astrandOf, hcI k 8 mo_rstrandOf), (mo_aweight, hcI k 8 mo_rweight), (mo_aheight, hcI k 8 mo_rheight), (mo_achairOf, hcI k 8 mo_rchairOf), (mo_apast, hcI k 260 mo_rpast), (mo, .inr (7, [.int mo_thrown, .ref mo_ascalar, .ref mo_acane, .ref mo_ais, .ref mo_astrandOf, .ref mo_aweight, .ref mo_aheight, .ref mo_achairOf, .ref mo_anoteMinute, .ref mo_anoteWho, .ref mo_anoteIs, .ref mo_atoldCane, .ref mo_anewScalar, .ref mo_anewCane, .ref mo_anewHeight, .ref mo_anewStrand, .ref mo_anewChair, .ref mo_anewWeight, .int mo_taped, .int mo_p, .int mo_fault, .int mo_slot, .int mo_rules, .int mo_entries, .int mo_deep, .int mo_counted, .int mo_opened, .int mo_words, .ref mo_atape, .ref mo_asort, .ref mo_anumber, .ref mo_aclauses, .ref mo_asumAt, .ref mo_atestAt, .ref mo_aendAt, .ref mo_aopen, .ref mo_aasked, .ref mo_astack, .ref mo_amust, .ref mo_apast, .ref mo_apastOf, .int mo_pastMany, .int mo_pastAt, .int mo_takesBack, .ref mo_acanRise, .ref mo_afirstHas, .ref mo_asecondHas, .ref mo_alay, .ref mo_ashows, .ref mo_aimages, .ref mo_aisMade, .int mo_imageAt, .int mo_goesBack])), (mo_ais, hcI k 8 mo_ris), (mo_ascalar, hcI k 8 (sc8 mo_s0 mo_s1 mo_s2 mo_s3 mo_s4 mo_s5 mo_s6 mo_s7))]) H := hP
  have hD : va_D A ([(mo_acane, hcI k 4 mo_rcane), (mo_astrandOf, hcI k 8 mo_rstrandOf), (mo_aweight, hcI k 8 mo_rweight), (mo_aheight, hcI k 8 mo_rheight), (mo_achairOf, hcI k 8 mo_rchairOf), (mo_apast, hcI k 260 mo_rpast), (mo, .inr (7, [.int mo_thrown, .ref mo_ascalar, .ref mo_acane, .ref mo_ais, .ref mo_astrandOf, .ref mo_aweight, .ref mo_aheight, .ref mo_achairOf, .ref mo_anoteMinute, .ref mo_anoteWho, .ref mo_anoteIs, .ref mo_atoldCane, .ref mo_anewScalar, .ref mo_anewCane, .ref mo_anewHeight, .ref mo_anewStrand, .ref mo_anewChair, .ref mo_anewWeight, .int mo_taped, .int mo_p, .int mo_fault, .int mo_slot, .int mo_rules, .int mo_entries, .int mo_deep, .int mo_counted, .int mo_opened, .int mo_words, .ref mo_atape, .ref mo_asort, .ref mo_anumber, .ref mo_aclauses, .ref mo_asumAt, .ref mo_atestAt, .ref mo_aendAt, .ref mo_aopen, .ref mo_aasked, .ref mo_astack, .ref mo_amust, .ref mo_apast, .ref mo_apastOf, .int mo_pastMany, .int mo_pastAt, .int mo_takesBack, .ref mo_acanRise, .ref mo_afirstHas, .ref mo_asecondHas, .ref mo_alay, .ref mo_ashows, .ref mo_aimages, .ref mo_aisMade, .int mo_imageAt, .int mo_goesBack])), (mo_ais, hcI k 8 mo_ris), (mo_ascalar, hcI k 8 (sc8 mo_s0 mo_s1 mo_s2 mo_s3 mo_s4 mo_s5 mo_s6 mo_s7))]) := hD
  have ql5 : (0 : Int32).toInt = 0 := by decide
  obtain ⟨br3, rel4⟩ := hw
  have br3 : iv (0) (1) r3 := br3
  have br3_l := br3.1
  have br3_u := br3.2
  refine lv_if_ne (tgt := 11) hx hb dX9_sit_6 (by decide) (fun c6 => ?_) (fun c6 => ?_)
  · have fc6 := cx_ne_t (a := r3.toInt) (b := 0) rfl (by decide) c6
    refine lv_aload_n hx hb dX9_sit_11 rfl (lv_at hl 0 rfl) ?_
    refine hc_Vv (As := []) (rest := []) (n := 0) (wr := [(mo_astrandOf, hcI k 8 mo_rstrandOf), (mo_aweight, hcI k 8 mo_rweight), (mo_aheight, hcI k 8 mo_rheight), (mo_achairOf, hcI k 8 mo_rchairOf)]) hx hb hml hown hts hG hA hP hD hS hl.1 [6, 0, 7, 5, 8] [1, 2, 3, 4] (i_X9_keepsAct l D k _ mo mo_thrown mo_ascalar mo_acane mo_ais mo_astrandOf mo_aweight mo_aheight mo_achairOf mo_anoteMinute mo_anoteWho mo_anoteIs mo_atoldCane mo_anewScalar mo_anewCane mo_anewHeight mo_anewStrand mo_anewChair mo_anewWeight mo_taped mo_p mo_fault mo_slot mo_rules mo_entries mo_deep mo_counted mo_opened mo_words mo_atape mo_asort mo_anumber mo_aclauses mo_asumAt mo_atestAt mo_aendAt mo_aopen mo_aasked mo_astack mo_amust mo_apast mo_apastOf mo_pastMany mo_pastAt mo_takesBack mo_acanRise mo_afirstHas mo_asecondHas mo_alay mo_ashows mo_aimages mo_aisMade mo_imageAt mo_goesBack mo_rcane mo_ris mo_rpast mo_s0 mo_s1 mo_s2 mo_s3 mo_s4 mo_s5 mo_s6 mo_s7 ⟨by omega, by omega⟩ ⟨by omega, by omega⟩ ⟨by omega, by omega⟩ ⟨by omega, by omega⟩ ⟨by omega, by omega⟩ ⟨by omega, by omega⟩ ⟨by omega, by omega⟩ ⟨by omega, by omega⟩ ⟨by omega, by omega⟩ ⟨by omega, by omega⟩ ⟨by omega, by omega⟩ ⟨by omega, by omega⟩ ⟨by omega, by omega⟩ ⟨by omega, by omega⟩ ⟨by omega, by omega⟩ ⟨by omega, by omega⟩ ⟨by omega, by omega⟩ ⟨by omega, by omega⟩ ⟨by omega, by omega⟩) (ci := 7) (q0 := 6) rfl rfl gX9_sit_X9_keepsAct rfl ⟨rfl, rfl, Nat.le_of_ble_eq_true rfl, Nat.le_of_ble_eq_true rfl⟩ (by decide +kernel) rfl rfl ⟨by decide, by decide, by decide⟩ ⟨rfl, rfl, Nat.le_of_ble_eq_true rfl, Nat.le_of_ble_eq_true rfl, Nat.le_of_ble_eq_true rfl⟩ dX9_sit_12 (fun u7 H locs hw hP hD hS => ?_)
    obtain ⟨w9, w10, w11, w12, w13, w14, w15⟩ := u7
    have hP : va_P D vwCl ([(mo_astrandOf, hcI k 8 mo_rstrandOf), (mo_aweight, hcI k 8 mo_rweight), (mo_aheight, hcI k 8 mo_rheight), (mo_achairOf, hcI k 8 mo_rchairOf), (mo, .inr (7, [.int mo_thrown, .ref mo_ascalar, .ref mo_acane, .ref mo_ais, .ref mo_astrandOf, .ref mo_aweight, .ref mo_aheight, .ref mo_achairOf, .ref mo_anoteMinute, .ref mo_anoteWho, .ref mo_anoteIs, .ref mo_atoldCane, .ref mo_anewScalar, .ref mo_anewCane, .ref mo_anewHeight, .ref mo_anewStrand, .ref mo_anewChair, .ref mo_anewWeight, .int mo_taped, .int mo_p, .int mo_fault, .int mo_slot, .int mo_rules, .int mo_entries, .int mo_deep, .int mo_counted, .int mo_opened, .int mo_words, .ref mo_atape, .ref mo_asort, .ref mo_anumber, .ref mo_aclauses, .ref mo_asumAt, .ref mo_atestAt, .ref mo_aendAt, .ref mo_aopen, .ref mo_aasked, .ref mo_astack, .ref mo_amust, .ref mo_apast, .ref mo_apastOf, .int w9, .int w10, .int w11, .ref mo_acanRise, .ref mo_afirstHas, .ref mo_asecondHas, .ref mo_alay, .ref mo_ashows, .ref mo_aimages, .ref mo_aisMade, .int mo_imageAt, .int mo_goesBack])), (mo_acane, hcI k 4 w12), (mo_ais, hcI k 8 w13), (mo_apast, hcI k 260 w14), (mo_ascalar, hcI k 8 (sc8 mo_s0 mo_s1 mo_s2 mo_s3 w15 mo_s5 mo_s6 mo_s7))]) H := hP
    have hD : va_D A ([(mo_astrandOf, hcI k 8 mo_rstrandOf), (mo_aweight, hcI k 8 mo_rweight), (mo_aheight, hcI k 8 mo_rheight), (mo_achairOf, hcI k 8 mo_rchairOf), (mo, .inr (7, [.int mo_thrown, .ref mo_ascalar, .ref mo_acane, .ref mo_ais, .ref mo_astrandOf, .ref mo_aweight, .ref mo_aheight, .ref mo_achairOf, .ref mo_anoteMinute, .ref mo_anoteWho, .ref mo_anoteIs, .ref mo_atoldCane, .ref mo_anewScalar, .ref mo_anewCane, .ref mo_anewHeight, .ref mo_anewStrand, .ref mo_anewChair, .ref mo_anewWeight, .int mo_taped, .int mo_p, .int mo_fault, .int mo_slot, .int mo_rules, .int mo_entries, .int mo_deep, .int mo_counted, .int mo_opened, .int mo_words, .ref mo_atape, .ref mo_asort, .ref mo_anumber, .ref mo_aclauses, .ref mo_asumAt, .ref mo_atestAt, .ref mo_aendAt, .ref mo_aopen, .ref mo_aasked, .ref mo_astack, .ref mo_amust, .ref mo_apast, .ref mo_apastOf, .int w9, .int w10, .int w11, .ref mo_acanRise, .ref mo_afirstHas, .ref mo_asecondHas, .ref mo_alay, .ref mo_ashows, .ref mo_aimages, .ref mo_aisMade, .int mo_imageAt, .int mo_goesBack])), (mo_acane, hcI k 4 w12), (mo_ais, hcI k 8 w13), (mo_apast, hcI k 260 w14), (mo_ascalar, hcI k 8 (sc8 mo_s0 mo_s1 mo_s2 mo_s3 w15 mo_s5 mo_s6 mo_s7))]) := hD
    obtain ⟨bw9, bw10, bw11⟩ := hw
    have bw9 : iv (0) (20) w9 := bw9
    have bw9_l := bw9.1
    have bw9_u := bw9.2
    have bw10 : iv (0) (260) w10 := bw10
    have bw10_l := bw10.1
    have bw10_u := bw10.2
    have bw11 : iv (0) (1) w11 := bw11
    have bw11_l := bw11.1
    have bw11_u := bw11.2
    refine lv_aload_n hx hb dX9_sit_15 rfl (lv_at hl 0 rfl) ?_
    refine va_get (D := D) (ci := 7) (v := .ref mo_ais) (C := RX9) (T := TX9) (N := 53) hx hb hts in9 hown hG.1 hP 4 rfl rfl 3 (by decide) (hts (.fieldLink RX9 16 "ChairCaneModel" "is" "[I") (by decide +kernel)) (fun _ h9 => h9) rfl dX9_sit_16 ?_
    refine lv_iload_n hx hb dX9_sit_19 rfl (lv_at hl 1 rfl) ?_
    refine lv_iconst (v := 1) hx hb dX9_sit_20 (by decide) ?_
    refine va_iast hx hb hG.1 hP hD hS 6 0 rfl rfl (vp_in_iff.mpr ⟨by omega, by omega⟩) dX9_sit_21 (fun H locs hP hD hS => ?_)
    obtain ⟨f16, ef16⟩ : ∃ f, f = upd w13 (Int32.toNatClampNeg x1) (1) := ⟨_, rfl⟩
    rw [← ef16] at hP hD
    have hP : va_P D vwCl ([(mo_astrandOf, hcI k 8 mo_rstrandOf), (mo_aweight, hcI k 8 mo_rweight), (mo_aheight, hcI k 8 mo_rheight), (mo_achairOf, hcI k 8 mo_rchairOf), (mo, .inr (7, [.int mo_thrown, .ref mo_ascalar, .ref mo_acane, .ref mo_ais, .ref mo_astrandOf, .ref mo_aweight, .ref mo_aheight, .ref mo_achairOf, .ref mo_anoteMinute, .ref mo_anoteWho, .ref mo_anoteIs, .ref mo_atoldCane, .ref mo_anewScalar, .ref mo_anewCane, .ref mo_anewHeight, .ref mo_anewStrand, .ref mo_anewChair, .ref mo_anewWeight, .int mo_taped, .int mo_p, .int mo_fault, .int mo_slot, .int mo_rules, .int mo_entries, .int mo_deep, .int mo_counted, .int mo_opened, .int mo_words, .ref mo_atape, .ref mo_asort, .ref mo_anumber, .ref mo_aclauses, .ref mo_asumAt, .ref mo_atestAt, .ref mo_aendAt, .ref mo_aopen, .ref mo_aasked, .ref mo_astack, .ref mo_amust, .ref mo_apast, .ref mo_apastOf, .int w9, .int w10, .int w11, .ref mo_acanRise, .ref mo_afirstHas, .ref mo_asecondHas, .ref mo_alay, .ref mo_ashows, .ref mo_aimages, .ref mo_aisMade, .int mo_imageAt, .int mo_goesBack])), (mo_acane, hcI k 4 w12), (mo_ais, hcI k 8 f16), (mo_apast, hcI k 260 w14), (mo_ascalar, hcI k 8 (sc8 mo_s0 mo_s1 mo_s2 mo_s3 w15 mo_s5 mo_s6 mo_s7))]) H := hP
    have hD : va_D A ([(mo_astrandOf, hcI k 8 mo_rstrandOf), (mo_aweight, hcI k 8 mo_rweight), (mo_aheight, hcI k 8 mo_rheight), (mo_achairOf, hcI k 8 mo_rchairOf), (mo, .inr (7, [.int mo_thrown, .ref mo_ascalar, .ref mo_acane, .ref mo_ais, .ref mo_astrandOf, .ref mo_aweight, .ref mo_aheight, .ref mo_achairOf, .ref mo_anoteMinute, .ref mo_anoteWho, .ref mo_anoteIs, .ref mo_atoldCane, .ref mo_anewScalar, .ref mo_anewCane, .ref mo_anewHeight, .ref mo_anewStrand, .ref mo_anewChair, .ref mo_anewWeight, .int mo_taped, .int mo_p, .int mo_fault, .int mo_slot, .int mo_rules, .int mo_entries, .int mo_deep, .int mo_counted, .int mo_opened, .int mo_words, .ref mo_atape, .ref mo_asort, .ref mo_anumber, .ref mo_aclauses, .ref mo_asumAt, .ref mo_atestAt, .ref mo_aendAt, .ref mo_aopen, .ref mo_aasked, .ref mo_astack, .ref mo_amust, .ref mo_apast, .ref mo_apastOf, .int w9, .int w10, .int w11, .ref mo_acanRise, .ref mo_afirstHas, .ref mo_asecondHas, .ref mo_alay, .ref mo_ashows, .ref mo_aimages, .ref mo_aisMade, .int mo_imageAt, .int mo_goesBack])), (mo_acane, hcI k 4 w12), (mo_ais, hcI k 8 f16), (mo_apast, hcI k 260 w14), (mo_ascalar, hcI k 8 (sc8 mo_s0 mo_s1 mo_s2 mo_s3 w15 mo_s5 mo_s6 mo_s7))]) := hD
    refine lv_aload_n hx hb dX9_sit_22 rfl (lv_at hl 0 rfl) ?_
    refine hc_Vi (As := []) (rest := []) (n := 0) (wr := [(mo_apast, hcI k 260 w14)]) hx hb hml hown hts hG hA hP hD hS hl.1 [4, 5, 6, 0, 1, 2, 3, 8] [7] (i_X9_settles l D k _ mo mo_thrown mo_ascalar mo_acane mo_ais mo_astrandOf mo_aweight mo_aheight mo_achairOf mo_anoteMinute mo_anoteWho mo_anoteIs mo_atoldCane mo_anewScalar mo_anewCane mo_anewHeight mo_anewStrand mo_anewChair mo_anewWeight mo_taped mo_p mo_fault mo_slot mo_rules mo_entries mo_deep mo_counted mo_opened mo_words mo_atape mo_asort mo_anumber mo_aclauses mo_asumAt mo_atestAt mo_aendAt mo_aopen mo_aasked mo_astack mo_amust mo_apast mo_apastOf w9 w10 w11 mo_acanRise mo_afirstHas mo_asecondHas mo_alay mo_ashows mo_aimages mo_aisMade mo_imageAt mo_goesBack w12 f16 mo_rstrandOf mo_rweight mo_rheight mo_rchairOf mo_s0 mo_s1 mo_s2 mo_s3 w15 mo_s5 mo_s6 mo_s7 ⟨by omega, by omega⟩ ⟨by omega, by omega⟩ ⟨by omega, by omega⟩ ⟨by omega, by omega⟩ ⟨by omega, by omega⟩ ⟨by omega, by omega⟩ ⟨by omega, by omega⟩ ⟨by omega, by omega⟩ ⟨by omega, by omega⟩ ⟨by omega, by omega⟩ ⟨by omega, by omega⟩ ⟨by omega, by omega⟩ ⟨by omega, by omega⟩ ⟨by omega, by omega⟩ h_mo_rweight h_mo_rchairOf ⟨by omega, by omega⟩ ⟨by omega, by omega⟩ ⟨by omega, by omega⟩ ⟨by omega, by omega⟩ ⟨by omega, by omega⟩ hh_HallOk) (ci := 7) (q0 := 4) rfl rfl gX9_sit_X9_settles rfl ⟨rfl, rfl, Nat.le_of_ble_eq_true rfl, Nat.le_of_ble_eq_true rfl⟩ (by decide +kernel) rfl rfl ⟨by decide, by decide, by decide⟩ ⟨rfl, rfl, Nat.le_of_ble_eq_true rfl, Nat.le_of_ble_eq_true rfl, Nat.le_of_ble_eq_true rfl⟩ dX9_sit_23 (fun r18 u17 H locs hw hP hD hS => ?_)
    obtain ⟨w19, rfl⟩ : ∃ z, z = u17 := ⟨_, rfl⟩
    have hP : va_P D vwCl ([(mo_apast, hcI k 260 w14), (mo, .inr (7, [.int mo_thrown, .ref mo_ascalar, .ref mo_acane, .ref mo_ais, .ref mo_astrandOf, .ref mo_aweight, .ref mo_aheight, .ref mo_achairOf, .ref mo_anoteMinute, .ref mo_anoteWho, .ref mo_anoteIs, .ref mo_atoldCane, .ref mo_anewScalar, .ref mo_anewCane, .ref mo_anewHeight, .ref mo_anewStrand, .ref mo_anewChair, .ref mo_anewWeight, .int mo_taped, .int mo_p, .int mo_fault, .int mo_slot, .int mo_rules, .int mo_entries, .int mo_deep, .int mo_counted, .int mo_opened, .int mo_words, .ref mo_atape, .ref mo_asort, .ref mo_anumber, .ref mo_aclauses, .ref mo_asumAt, .ref mo_atestAt, .ref mo_aendAt, .ref mo_aopen, .ref mo_aasked, .ref mo_astack, .ref mo_amust, .ref mo_apast, .ref mo_apastOf, .int w9, .int w10, .int w11, .ref mo_acanRise, .ref mo_afirstHas, .ref mo_asecondHas, .ref mo_alay, .ref mo_ashows, .ref mo_aimages, .ref mo_aisMade, .int mo_imageAt, .int mo_goesBack])), (mo_acane, hcI k 4 w12), (mo_ais, hcI k 8 w19), (mo_astrandOf, hcI k 8 mo_rstrandOf), (mo_aweight, hcI k 8 mo_rweight), (mo_aheight, hcI k 8 mo_rheight), (mo_achairOf, hcI k 8 mo_rchairOf), (mo_ascalar, hcI k 8 (sc8 mo_s0 mo_s1 mo_s2 mo_s3 w15 mo_s5 mo_s6 mo_s7))]) H := hP
    have hD : va_D A ([(mo_apast, hcI k 260 w14), (mo, .inr (7, [.int mo_thrown, .ref mo_ascalar, .ref mo_acane, .ref mo_ais, .ref mo_astrandOf, .ref mo_aweight, .ref mo_aheight, .ref mo_achairOf, .ref mo_anoteMinute, .ref mo_anoteWho, .ref mo_anoteIs, .ref mo_atoldCane, .ref mo_anewScalar, .ref mo_anewCane, .ref mo_anewHeight, .ref mo_anewStrand, .ref mo_anewChair, .ref mo_anewWeight, .int mo_taped, .int mo_p, .int mo_fault, .int mo_slot, .int mo_rules, .int mo_entries, .int mo_deep, .int mo_counted, .int mo_opened, .int mo_words, .ref mo_atape, .ref mo_asort, .ref mo_anumber, .ref mo_aclauses, .ref mo_asumAt, .ref mo_atestAt, .ref mo_aendAt, .ref mo_aopen, .ref mo_aasked, .ref mo_astack, .ref mo_amust, .ref mo_apast, .ref mo_apastOf, .int w9, .int w10, .int w11, .ref mo_acanRise, .ref mo_afirstHas, .ref mo_asecondHas, .ref mo_alay, .ref mo_ashows, .ref mo_aimages, .ref mo_aisMade, .int mo_imageAt, .int mo_goesBack])), (mo_acane, hcI k 4 w12), (mo_ais, hcI k 8 w19), (mo_astrandOf, hcI k 8 mo_rstrandOf), (mo_aweight, hcI k 8 mo_rweight), (mo_aheight, hcI k 8 mo_rheight), (mo_achairOf, hcI k 8 mo_rchairOf), (mo_ascalar, hcI k 8 (sc8 mo_s0 mo_s1 mo_s2 mo_s3 w15 mo_s5 mo_s6 mo_s7))]) := hD
    exact hc_end hx hb hr hlocks (w9, w10, w11, w12, w19, w14, w15) ⟨(show iv (0) (20) w9 from ⟨by omega, by omega⟩), (show iv (0) (260) w10 from ⟨by omega, by omega⟩), (show iv (0) (1) w11 from ⟨by omega, by omega⟩)⟩ (hP.sub [1, 2, 3, 4, 5, 6, 7, 0, 8] rfl) (hD.sub [1, 2, 3, 4, 5, 6, 7, 0, 8] (by decide) rfl) hS dX9_sit_26
  · have fc6 := cx_ne_f (a := r3.toInt) (b := 0) rfl (by decide) c6
    refine lv_iconst (v := (-1)) hx hb dX9_sit_9 (by decide) ?_
    exact hc_end hx hb hr hlocks (mo_pastMany, mo_pastAt, mo_takesBack, mo_rcane, mo_ris, mo_rpast, mo_s4) ⟨(show iv (0) (20) mo_pastMany from ⟨by omega, by omega⟩), (show iv (0) (260) mo_pastAt from ⟨by omega, by omega⟩), (show iv (0) (1) mo_takesBack from ⟨by omega, by omega⟩)⟩ (hP.sub [6, 0, 7, 1, 2, 3, 4, 5, 8] rfl) (hD.sub [6, 0, 7, 1, 2, 3, 4, 5, 8] (by decide) rfl) hS dX9_sit_10
set_option maxHeartbeats 4000000 in
set_option maxRecDepth 100000 in
theorem i_X9_rise (l : Launch) (D : va_G) (k : Nat → ClassId) (sz : Nat) (x1 : Int32) (mo : Nat) (mo_thrown : Int32) (mo_ascalar : Nat) (mo_acane : Nat) (mo_ais : Nat) (mo_astrandOf : Nat) (mo_aweight : Nat) (mo_aheight : Nat) (mo_achairOf : Nat) (mo_anoteMinute : Nat) (mo_anoteWho : Nat) (mo_anoteIs : Nat) (mo_atoldCane : Nat) (mo_anewScalar : Nat) (mo_anewCane : Nat) (mo_anewHeight : Nat) (mo_anewStrand : Nat) (mo_anewChair : Nat) (mo_anewWeight : Nat) (mo_taped : Int32) (mo_p : Int32) (mo_fault : Int32) (mo_slot : Int32) (mo_rules : Int32) (mo_entries : Int32) (mo_deep : Int32) (mo_counted : Int32) (mo_opened : Int32) (mo_words : Int32) (mo_atape : Nat) (mo_asort : Nat) (mo_anumber : Nat) (mo_aclauses : Nat) (mo_asumAt : Nat) (mo_atestAt : Nat) (mo_aendAt : Nat) (mo_aopen : Nat) (mo_aasked : Nat) (mo_astack : Nat) (mo_amust : Nat) (mo_apast : Nat) (mo_apastOf : Nat) (mo_pastMany : Int32) (mo_pastAt : Int32) (mo_takesBack : Int32) (mo_acanRise : Nat) (mo_afirstHas : Nat) (mo_asecondHas : Nat) (mo_alay : Nat) (mo_ashows : Nat) (mo_aimages : Nat) (mo_aisMade : Nat) (mo_imageAt : Int32) (mo_goesBack : Int32) (mo_rcane : Nat → Int32) (mo_ris : Nat → Int32) (mo_rstrandOf : Nat → Int32) (mo_rweight : Nat → Int32) (mo_rheight : Nat → Int32) (mo_rchairOf : Nat → Int32) (mo_rpast : Nat → Int32) (mo_s0 : Int32) (mo_s1 : Int32) (mo_s2 : Int32) (mo_s3 : Int32) (mo_s4 : Int32) (mo_s5 : Int32) (mo_s6 : Int32) (mo_s7 : Int32) (h_mo_taped : iv (0) (400) mo_taped) (h_mo_p : iv (0) (402) mo_p) (h_mo_fault : iv (0) (4000) mo_fault) (h_mo_slot : iv (0) (5) mo_slot) (h_mo_rules : iv (0) (6) mo_rules) (h_mo_entries : iv (0) (300) mo_entries) (h_mo_counted : iv (0) (70) mo_counted) (h_mo_opened : iv (0) (402) mo_opened) (h_mo_words : iv (11) (11) mo_words) (h_mo_pastMany : iv (0) (20) mo_pastMany) (h_mo_pastAt : iv (0) (260) mo_pastAt) (h_mo_takesBack : iv (0) (1) mo_takesBack) (h_mo_imageAt : iv (0) (2000) mo_imageAt) (h_mo_goesBack : iv (0) (1) mo_goesBack) (h_mo_rweight : rowIn (0) (20) mo_rweight) (h_mo_rchairOf : rowIn (0) (7) mo_rchairOf) (h_mo_s1 : iv (0) (4) mo_s1) (h_mo_s2 : iv (0) (8) mo_s2) (h_mo_s3 : iv (0) (8) mo_s3) (h_mo_s5 : iv (0) (10) mo_s5) (h_mo_s7 : iv (-1) (5) mo_s7) (hh_HallOk : HallOk mo_s2 mo_s3 mo_rstrandOf mo_rchairOf mo_rweight) : CtI l yX9_rise wsX9_rise (rmK 6 0 0) [.ref mo, .int x1] D k sz ([(mo, .inr (7, [.int mo_thrown, .ref mo_ascalar, .ref mo_acane, .ref mo_ais, .ref mo_astrandOf, .ref mo_aweight, .ref mo_aheight, .ref mo_achairOf, .ref mo_anoteMinute, .ref mo_anoteWho, .ref mo_anoteIs, .ref mo_atoldCane, .ref mo_anewScalar, .ref mo_anewCane, .ref mo_anewHeight, .ref mo_anewStrand, .ref mo_anewChair, .ref mo_anewWeight, .int mo_taped, .int mo_p, .int mo_fault, .int mo_slot, .int mo_rules, .int mo_entries, .int mo_deep, .int mo_counted, .int mo_opened, .int mo_words, .ref mo_atape, .ref mo_asort, .ref mo_anumber, .ref mo_aclauses, .ref mo_asumAt, .ref mo_atestAt, .ref mo_aendAt, .ref mo_aopen, .ref mo_aasked, .ref mo_astack, .ref mo_amust, .ref mo_apast, .ref mo_apastOf, .int mo_pastMany, .int mo_pastAt, .int mo_takesBack, .ref mo_acanRise, .ref mo_afirstHas, .ref mo_asecondHas, .ref mo_alay, .ref mo_ashows, .ref mo_aimages, .ref mo_aisMade, .int mo_imageAt, .int mo_goesBack])), (mo_acane, hcI k 4 mo_rcane), (mo_ais, hcI k 8 mo_ris), (mo_astrandOf, hcI k 8 mo_rstrandOf), (mo_aweight, hcI k 8 mo_rweight), (mo_aheight, hcI k 8 mo_rheight), (mo_achairOf, hcI k 8 mo_rchairOf), (mo_apast, hcI k 260 mo_rpast), (mo_ascalar, hcI k 8 (sc8 mo_s0 mo_s1 mo_s2 mo_s3 mo_s4 mo_s5 mo_s6 mo_s7))]) (fun (r : Int32) (u : (Int32) × (Int32) × (Int32) × (Nat → Int32) × (Nat → Int32) × (Nat → Int32) × (Int32)) => iv (0) (20) (u.1) ∧ iv (0) (260) (u.2.1) ∧ iv (0) (1) (u.2.2.1)) (fun u : (Int32) × (Int32) × (Int32) × (Nat → Int32) × (Nat → Int32) × (Nat → Int32) × (Int32) => [(mo, .inr (7, [.int mo_thrown, .ref mo_ascalar, .ref mo_acane, .ref mo_ais, .ref mo_astrandOf, .ref mo_aweight, .ref mo_aheight, .ref mo_achairOf, .ref mo_anoteMinute, .ref mo_anoteWho, .ref mo_anoteIs, .ref mo_atoldCane, .ref mo_anewScalar, .ref mo_anewCane, .ref mo_anewHeight, .ref mo_anewStrand, .ref mo_anewChair, .ref mo_anewWeight, .int mo_taped, .int mo_p, .int mo_fault, .int mo_slot, .int mo_rules, .int mo_entries, .int mo_deep, .int mo_counted, .int mo_opened, .int mo_words, .ref mo_atape, .ref mo_asort, .ref mo_anumber, .ref mo_aclauses, .ref mo_asumAt, .ref mo_atestAt, .ref mo_aendAt, .ref mo_aopen, .ref mo_aasked, .ref mo_astack, .ref mo_amust, .ref mo_apast, .ref mo_apastOf, .int (u.1), .int (u.2.1), .int (u.2.2.1), .ref mo_acanRise, .ref mo_afirstHas, .ref mo_asecondHas, .ref mo_alay, .ref mo_ashows, .ref mo_aimages, .ref mo_aisMade, .int mo_imageAt, .int mo_goesBack])), (mo_acane, hcI k 4 (u.2.2.2.1)), (mo_ais, hcI k 8 (u.2.2.2.2.1)), (mo_astrandOf, hcI k 8 mo_rstrandOf), (mo_aweight, hcI k 8 mo_rweight), (mo_aheight, hcI k 8 mo_rheight), (mo_achairOf, hcI k 8 mo_rchairOf), (mo_apast, hcI k 260 (u.2.2.2.2.2.1)), (mo_ascalar, hcI k 8 (sc8 mo_s0 mo_s1 mo_s2 mo_s3 (u.2.2.2.2.2.2) mo_s5 mo_s6 mo_s7))]) 0 0 := by
  have h_mo_taped_l := h_mo_taped.1
  have h_mo_taped_u := h_mo_taped.2
  have h_mo_p_l := h_mo_p.1
  have h_mo_p_u := h_mo_p.2
  have h_mo_fault_l := h_mo_fault.1
  have h_mo_fault_u := h_mo_fault.2
  have h_mo_slot_l := h_mo_slot.1
  have h_mo_slot_u := h_mo_slot.2
  have h_mo_rules_l := h_mo_rules.1
  have h_mo_rules_u := h_mo_rules.2
  have h_mo_entries_l := h_mo_entries.1
  have h_mo_entries_u := h_mo_entries.2
  have h_mo_counted_l := h_mo_counted.1
  have h_mo_counted_u := h_mo_counted.2
  have h_mo_opened_l := h_mo_opened.1
  have h_mo_opened_u := h_mo_opened.2
  have h_mo_words_l := h_mo_words.1
  have h_mo_words_u := h_mo_words.2
  have h_mo_pastMany_l := h_mo_pastMany.1
  have h_mo_pastMany_u := h_mo_pastMany.2
  have h_mo_pastAt_l := h_mo_pastAt.1
  have h_mo_pastAt_u := h_mo_pastAt.2
  have h_mo_takesBack_l := h_mo_takesBack.1
  have h_mo_takesBack_u := h_mo_takesBack.2
  have h_mo_imageAt_l := h_mo_imageAt.1
  have h_mo_imageAt_u := h_mo_imageAt.2
  have h_mo_goesBack_l := h_mo_goesBack.1
  have h_mo_goesBack_u := h_mo_goesBack.2
  have h_mo_s1_l := h_mo_s1.1
  have h_mo_s1_u := h_mo_s1.2
  have h_mo_s2_l := h_mo_s2.1
  have h_mo_s2_u := h_mo_s2.2
  have h_mo_s3_l := h_mo_s3.1
  have h_mo_s3_u := h_mo_s3.2
  have h_mo_s5_l := h_mo_s5.1
  have h_mo_s5_u := h_mo_s5.2
  have h_mo_s7_l := h_mo_s7.1
  have h_mo_s7_u := h_mo_s7.2
  refine CtI.mk (cc := cX9_rise) (maxL := 2) (ret := (some .int)) (by decide) rfl (Nat.le_of_ble_eq_true rfl) ?_
  intro p e s m below meth c A ls E hP hD hS hl
  obtain ⟨hx, hb, hr, hml, hown, hts, hlocks, hin, hG, hA⟩ := E
  have hown : s.vm.findClass RX9 = some m.cls := hown
  have in9 : ∀ w ∈ u_ws RX9 TX9 53, w ∈ wsX9_rise := fun _ h => List.mem_cons_of_mem _ (List.mem_append_right _ h)
  have hl : lv_has ls 2 [(0, .ref mo), (1, .int x1)] := hl
  refine lv_aload_n hx hb dX9_rise_0 rfl (lv_at hl 0 rfl) ?_
  refine lv_iload_n hx hb dX9_rise_1 rfl (lv_at hl 1 rfl) ?_
  refine lv_iconst (v := 1) hx hb dX9_rise_2 (by decide) ?_
  have ql1 : (1 : Int32).toInt = 1 := by decide
  refine hc_Vi (As := [.int x1, .int 1]) (rest := []) (n := 2) (wr := [(mo_acane, hcI k 4 mo_rcane), (mo_astrandOf, hcI k 8 mo_rstrandOf), (mo_aweight, hcI k 8 mo_rweight), (mo_aheight, hcI k 8 mo_rheight), (mo_achairOf, hcI k 8 mo_rchairOf), (mo_apast, hcI k 260 mo_rpast)]) hx hb hml hown hts hG hA hP hD hS hl.1 [0, 2, 8] [1, 3, 4, 5, 6, 7] (i_X9_isSo l D k _ x1 1 mo mo_thrown mo_ascalar mo_acane mo_ais mo_astrandOf mo_aweight mo_aheight mo_achairOf mo_anoteMinute mo_anoteWho mo_anoteIs mo_atoldCane mo_anewScalar mo_anewCane mo_anewHeight mo_anewStrand mo_anewChair mo_anewWeight mo_taped mo_p mo_fault mo_slot mo_rules mo_entries mo_deep mo_counted mo_opened mo_words mo_atape mo_asort mo_anumber mo_aclauses mo_asumAt mo_atestAt mo_aendAt mo_aopen mo_aasked mo_astack mo_amust mo_apast mo_apastOf mo_pastMany mo_pastAt mo_takesBack mo_acanRise mo_afirstHas mo_asecondHas mo_alay mo_ashows mo_aimages mo_aisMade mo_imageAt mo_goesBack mo_ris mo_s0 mo_s1 mo_s2 mo_s3 mo_s4 mo_s5 mo_s6 mo_s7 ⟨by omega, by omega⟩ ⟨by omega, by omega⟩ ⟨by omega, by omega⟩ ⟨by omega, by omega⟩ ⟨by omega, by omega⟩ ⟨by omega, by omega⟩ ⟨by omega, by omega⟩ ⟨by omega, by omega⟩ ⟨by omega, by omega⟩ ⟨by omega, by omega⟩ ⟨by omega, by omega⟩ ⟨by omega, by omega⟩ ⟨by omega, by omega⟩ ⟨by omega, by omega⟩ ⟨by omega, by omega⟩ ⟨by omega, by omega⟩ ⟨by omega, by omega⟩ ⟨by omega, by omega⟩ ⟨by omega, by omega⟩) (ci := 7) (q0 := 0) rfl rfl gX9_rise_X9_isSo rfl ⟨rfl, rfl, Nat.le_of_ble_eq_true rfl, Nat.le_of_ble_eq_true rfl⟩ (by decide +kernel) rfl rfl ⟨by decide, by decide, by decide⟩ ⟨rfl, rfl, Nat.le_of_ble_eq_true rfl, Nat.le_of_ble_eq_true rfl, Nat.le_of_ble_eq_true rfl⟩ dX9_rise_3 (fun r3 u2 H locs hw hP hD hS => ?_)
  have hP : va_P D vwCl ([(mo_acane, hcI k 4 mo_rcane), (mo_astrandOf, hcI k 8 mo_rstrandOf), (mo_aweight, hcI k 8 mo_rweight), (mo_aheight, hcI k 8 mo_rheight), (mo_achairOf, hcI k 8 mo_rchairOf), (mo_apast, hcI k 260 mo_rpast), (mo, .inr (7, [.int mo_thrown, .ref mo_ascalar, .ref mo_acane, .ref mo_ais, .ref mo_astrandOf, .ref mo_aweight, .ref mo_aheight, .ref mo_achairOf, .ref mo_anoteMinute, .ref mo_anoteWho, .ref mo_anoteIs, .ref mo_atoldCane, .ref mo_anewScalar, .ref mo_anewCane, .ref mo_anewHeight, .ref mo_anewStrand, .ref mo_anewChair, .ref mo_anewWeight, .int mo_taped, .int mo_p, .int mo_fault, .int mo_slot, .int mo_rules, .int mo_entries, .int mo_deep, .int mo_counted, .int mo_opened, .int mo_words, .ref mo_atape, .ref mo_asort, .ref mo_anumber, .ref mo_aclauses, .ref mo_asumAt, .ref mo_atestAt, .ref mo_aendAt, .ref mo_aopen, .ref mo_aasked, .ref mo_astack, .ref mo_amust, .ref mo_apast, .ref mo_apastOf, .int mo_pastMany, .int mo_pastAt, .int mo_takesBack, .ref mo_acanRise, .ref mo_afirstHas, .ref mo_asecondHas, .ref mo_alay, .ref mo_ashows, .ref mo_aimages, .ref mo_aisMade, .int mo_imageAt, .int mo_goesBack])), (mo_ais, hcI k 8 mo_ris), (mo_ascalar, hcI k 8 (sc8 mo_s0 mo_s1 mo_s2 mo_s3 mo_s4 mo_s5 mo_s6 mo_s7))]) H := hP
  have hD : va_D A ([(mo_acane, hcI k 4 mo_rcane), (mo_astrandOf, hcI k 8 mo_rstrandOf), (mo_aweight, hcI k 8 mo_rweight), (mo_aheight, hcI k 8 mo_rheight), (mo_achairOf, hcI k 8 mo_rchairOf), (mo_apast, hcI k 260 mo_rpast), (mo, .inr (7, [.int mo_thrown, .ref mo_ascalar, .ref mo_acane, .ref mo_ais, .ref mo_astrandOf, .ref mo_aweight, .ref mo_aheight, .ref mo_achairOf, .ref mo_anoteMinute, .ref mo_anoteWho, .ref mo_anoteIs, .ref mo_atoldCane, .ref mo_anewScalar, .ref mo_anewCane, .ref mo_anewHeight, .ref mo_anewStrand, .ref mo_anewChair, .ref mo_anewWeight, .int mo_taped, .int mo_p, .int mo_fault, .int mo_slot, .int mo_rules, .int mo_entries, .int mo_deep, .int mo_counted, .int mo_opened, .int mo_words, .ref mo_atape, .ref mo_asort, .ref mo_anumber, .ref mo_aclauses, .ref mo_asumAt, .ref mo_atestAt, .ref mo_aendAt, .ref mo_aopen, .ref mo_aasked, .ref mo_astack, .ref mo_amust, .ref mo_apast, .ref mo_apastOf, .int mo_pastMany, .int mo_pastAt, .int mo_takesBack, .ref mo_acanRise, .ref mo_afirstHas, .ref mo_asecondHas, .ref mo_alay, .ref mo_ashows, .ref mo_aimages, .ref mo_aisMade, .int mo_imageAt, .int mo_goesBack])), (mo_ais, hcI k 8 mo_ris), (mo_ascalar, hcI k 8 (sc8 mo_s0 mo_s1 mo_s2 mo_s3 mo_s4 mo_s5 mo_s6 mo_s7))]) := hD
  have ql5 : (1 : Int32).toInt = 1 := by decide
  obtain ⟨br3, rel4⟩ := hw
  have br3 : iv (0) (1) r3 := br3
  have br3_l := br3.1
  have br3_u := br3.2
  refine lv_if_ne (tgt := 11) hx hb dX9_rise_6 (by decide) (fun c6 => ?_) (fun c6 => ?_)
  · have fc6 := cx_ne_t (a := r3.toInt) (b := 0) rfl (by decide) c6
    refine lv_aload_n hx hb dX9_rise_11 rfl (lv_at hl 0 rfl) ?_
    refine hc_Vv (As := []) (rest := []) (n := 0) (wr := [(mo_astrandOf, hcI k 8 mo_rstrandOf), (mo_aweight, hcI k 8 mo_rweight), (mo_aheight, hcI k 8 mo_rheight), (mo_achairOf, hcI k 8 mo_rchairOf)]) hx hb hml hown hts hG hA hP hD hS hl.1 [6, 0, 7, 5, 8] [1, 2, 3, 4] (i_X9_keepsAct l D k _ mo mo_thrown mo_ascalar mo_acane mo_ais mo_astrandOf mo_aweight mo_aheight mo_achairOf mo_anoteMinute mo_anoteWho mo_anoteIs mo_atoldCane mo_anewScalar mo_anewCane mo_anewHeight mo_anewStrand mo_anewChair mo_anewWeight mo_taped mo_p mo_fault mo_slot mo_rules mo_entries mo_deep mo_counted mo_opened mo_words mo_atape mo_asort mo_anumber mo_aclauses mo_asumAt mo_atestAt mo_aendAt mo_aopen mo_aasked mo_astack mo_amust mo_apast mo_apastOf mo_pastMany mo_pastAt mo_takesBack mo_acanRise mo_afirstHas mo_asecondHas mo_alay mo_ashows mo_aimages mo_aisMade mo_imageAt mo_goesBack mo_rcane mo_ris mo_rpast mo_s0 mo_s1 mo_s2 mo_s3 mo_s4 mo_s5 mo_s6 mo_s7 ⟨by omega, by omega⟩ ⟨by omega, by omega⟩ ⟨by omega, by omega⟩ ⟨by omega, by omega⟩ ⟨by omega, by omega⟩ ⟨by omega, by omega⟩ ⟨by omega, by omega⟩ ⟨by omega, by omega⟩ ⟨by omega, by omega⟩ ⟨by omega, by omega⟩ ⟨by omega, by omega⟩ ⟨by omega, by omega⟩ ⟨by omega, by omega⟩ ⟨by omega, by omega⟩ ⟨by omega, by omega⟩ ⟨by omega, by omega⟩ ⟨by omega, by omega⟩ ⟨by omega, by omega⟩ ⟨by omega, by omega⟩) (ci := 7) (q0 := 6) rfl rfl gX9_rise_X9_keepsAct rfl ⟨rfl, rfl, Nat.le_of_ble_eq_true rfl, Nat.le_of_ble_eq_true rfl⟩ (by decide +kernel) rfl rfl ⟨by decide, by decide, by decide⟩ ⟨rfl, rfl, Nat.le_of_ble_eq_true rfl, Nat.le_of_ble_eq_true rfl, Nat.le_of_ble_eq_true rfl⟩ dX9_rise_12 (fun u7 H locs hw hP hD hS => ?_)
    obtain ⟨w9, w10, w11, w12, w13, w14, w15⟩ := u7
    have hP : va_P D vwCl ([(mo_astrandOf, hcI k 8 mo_rstrandOf), (mo_aweight, hcI k 8 mo_rweight), (mo_aheight, hcI k 8 mo_rheight), (mo_achairOf, hcI k 8 mo_rchairOf), (mo, .inr (7, [.int mo_thrown, .ref mo_ascalar, .ref mo_acane, .ref mo_ais, .ref mo_astrandOf, .ref mo_aweight, .ref mo_aheight, .ref mo_achairOf, .ref mo_anoteMinute, .ref mo_anoteWho, .ref mo_anoteIs, .ref mo_atoldCane, .ref mo_anewScalar, .ref mo_anewCane, .ref mo_anewHeight, .ref mo_anewStrand, .ref mo_anewChair, .ref mo_anewWeight, .int mo_taped, .int mo_p, .int mo_fault, .int mo_slot, .int mo_rules, .int mo_entries, .int mo_deep, .int mo_counted, .int mo_opened, .int mo_words, .ref mo_atape, .ref mo_asort, .ref mo_anumber, .ref mo_aclauses, .ref mo_asumAt, .ref mo_atestAt, .ref mo_aendAt, .ref mo_aopen, .ref mo_aasked, .ref mo_astack, .ref mo_amust, .ref mo_apast, .ref mo_apastOf, .int w9, .int w10, .int w11, .ref mo_acanRise, .ref mo_afirstHas, .ref mo_asecondHas, .ref mo_alay, .ref mo_ashows, .ref mo_aimages, .ref mo_aisMade, .int mo_imageAt, .int mo_goesBack])), (mo_acane, hcI k 4 w12), (mo_ais, hcI k 8 w13), (mo_apast, hcI k 260 w14), (mo_ascalar, hcI k 8 (sc8 mo_s0 mo_s1 mo_s2 mo_s3 w15 mo_s5 mo_s6 mo_s7))]) H := hP
    have hD : va_D A ([(mo_astrandOf, hcI k 8 mo_rstrandOf), (mo_aweight, hcI k 8 mo_rweight), (mo_aheight, hcI k 8 mo_rheight), (mo_achairOf, hcI k 8 mo_rchairOf), (mo, .inr (7, [.int mo_thrown, .ref mo_ascalar, .ref mo_acane, .ref mo_ais, .ref mo_astrandOf, .ref mo_aweight, .ref mo_aheight, .ref mo_achairOf, .ref mo_anoteMinute, .ref mo_anoteWho, .ref mo_anoteIs, .ref mo_atoldCane, .ref mo_anewScalar, .ref mo_anewCane, .ref mo_anewHeight, .ref mo_anewStrand, .ref mo_anewChair, .ref mo_anewWeight, .int mo_taped, .int mo_p, .int mo_fault, .int mo_slot, .int mo_rules, .int mo_entries, .int mo_deep, .int mo_counted, .int mo_opened, .int mo_words, .ref mo_atape, .ref mo_asort, .ref mo_anumber, .ref mo_aclauses, .ref mo_asumAt, .ref mo_atestAt, .ref mo_aendAt, .ref mo_aopen, .ref mo_aasked, .ref mo_astack, .ref mo_amust, .ref mo_apast, .ref mo_apastOf, .int w9, .int w10, .int w11, .ref mo_acanRise, .ref mo_afirstHas, .ref mo_asecondHas, .ref mo_alay, .ref mo_ashows, .ref mo_aimages, .ref mo_aisMade, .int mo_imageAt, .int mo_goesBack])), (mo_acane, hcI k 4 w12), (mo_ais, hcI k 8 w13), (mo_apast, hcI k 260 w14), (mo_ascalar, hcI k 8 (sc8 mo_s0 mo_s1 mo_s2 mo_s3 w15 mo_s5 mo_s6 mo_s7))]) := hD
    obtain ⟨bw9, bw10, bw11⟩ := hw
    have bw9 : iv (0) (20) w9 := bw9
    have bw9_l := bw9.1
    have bw9_u := bw9.2
    have bw10 : iv (0) (260) w10 := bw10
    have bw10_l := bw10.1
    have bw10_u := bw10.2
    have bw11 : iv (0) (1) w11 := bw11
    have bw11_l := bw11.1
    have bw11_u := bw11.2
    refine lv_aload_n hx hb dX9_rise_15 rfl (lv_at hl 0 rfl) ?_
    refine va_get (D := D) (ci := 7) (v := .ref mo_ais) (C := RX9) (T := TX9) (N := 53) hx hb hts in9 hown hG.1 hP 4 rfl rfl 3 (by decide) (hts (.fieldLink RX9 16 "ChairCaneModel" "is" "[I") (by decide +kernel)) (fun _ h9 => h9) rfl dX9_rise_16 ?_
    refine lv_iload_n hx hb dX9_rise_19 rfl (lv_at hl 1 rfl) ?_
    refine lv_iconst (v := 0) hx hb dX9_rise_20 (by decide) ?_
    refine va_iast hx hb hG.1 hP hD hS 6 0 rfl rfl (vp_in_iff.mpr ⟨by omega, by omega⟩) dX9_rise_21 (fun H locs hP hD hS => ?_)
    obtain ⟨f16, ef16⟩ : ∃ f, f = upd w13 (Int32.toNatClampNeg x1) (0) := ⟨_, rfl⟩
    rw [← ef16] at hP hD
    have hP : va_P D vwCl ([(mo_astrandOf, hcI k 8 mo_rstrandOf), (mo_aweight, hcI k 8 mo_rweight), (mo_aheight, hcI k 8 mo_rheight), (mo_achairOf, hcI k 8 mo_rchairOf), (mo, .inr (7, [.int mo_thrown, .ref mo_ascalar, .ref mo_acane, .ref mo_ais, .ref mo_astrandOf, .ref mo_aweight, .ref mo_aheight, .ref mo_achairOf, .ref mo_anoteMinute, .ref mo_anoteWho, .ref mo_anoteIs, .ref mo_atoldCane, .ref mo_anewScalar, .ref mo_anewCane, .ref mo_anewHeight, .ref mo_anewStrand, .ref mo_anewChair, .ref mo_anewWeight, .int mo_taped, .int mo_p, .int mo_fault, .int mo_slot, .int mo_rules, .int mo_entries, .int mo_deep, .int mo_counted, .int mo_opened, .int mo_words, .ref mo_atape, .ref mo_asort, .ref mo_anumber, .ref mo_aclauses, .ref mo_asumAt, .ref mo_atestAt, .ref mo_aendAt, .ref mo_aopen, .ref mo_aasked, .ref mo_astack, .ref mo_amust, .ref mo_apast, .ref mo_apastOf, .int w9, .int w10, .int w11, .ref mo_acanRise, .ref mo_afirstHas, .ref mo_asecondHas, .ref mo_alay, .ref mo_ashows, .ref mo_aimages, .ref mo_aisMade, .int mo_imageAt, .int mo_goesBack])), (mo_acane, hcI k 4 w12), (mo_ais, hcI k 8 f16), (mo_apast, hcI k 260 w14), (mo_ascalar, hcI k 8 (sc8 mo_s0 mo_s1 mo_s2 mo_s3 w15 mo_s5 mo_s6 mo_s7))]) H := hP
    have hD : va_D A ([(mo_astrandOf, hcI k 8 mo_rstrandOf), (mo_aweight, hcI k 8 mo_rweight), (mo_aheight, hcI k 8 mo_rheight), (mo_achairOf, hcI k 8 mo_rchairOf), (mo, .inr (7, [.int mo_thrown, .ref mo_ascalar, .ref mo_acane, .ref mo_ais, .ref mo_astrandOf, .ref mo_aweight, .ref mo_aheight, .ref mo_achairOf, .ref mo_anoteMinute, .ref mo_anoteWho, .ref mo_anoteIs, .ref mo_atoldCane, .ref mo_anewScalar, .ref mo_anewCane, .ref mo_anewHeight, .ref mo_anewStrand, .ref mo_anewChair, .ref mo_anewWeight, .int mo_taped, .int mo_p, .int mo_fault, .int mo_slot, .int mo_rules, .int mo_entries, .int mo_deep, .int mo_counted, .int mo_opened, .int mo_words, .ref mo_atape, .ref mo_asort, .ref mo_anumber, .ref mo_aclauses, .ref mo_asumAt, .ref mo_atestAt, .ref mo_aendAt, .ref mo_aopen, .ref mo_aasked, .ref mo_astack, .ref mo_amust, .ref mo_apast, .ref mo_apastOf, .int w9, .int w10, .int w11, .ref mo_acanRise, .ref mo_afirstHas, .ref mo_asecondHas, .ref mo_alay, .ref mo_ashows, .ref mo_aimages, .ref mo_aisMade, .int mo_imageAt, .int mo_goesBack])), (mo_acane, hcI k 4 w12), (mo_ais, hcI k 8 f16), (mo_apast, hcI k 260 w14), (mo_ascalar, hcI k 8 (sc8 mo_s0 mo_s1 mo_s2 mo_s3 w15 mo_s5 mo_s6 mo_s7))]) := hD
    refine lv_aload_n hx hb dX9_rise_22 rfl (lv_at hl 0 rfl) ?_
    refine hc_Vi (As := []) (rest := []) (n := 0) (wr := [(mo_apast, hcI k 260 w14)]) hx hb hml hown hts hG hA hP hD hS hl.1 [4, 5, 6, 0, 1, 2, 3, 8] [7] (i_X9_settles l D k _ mo mo_thrown mo_ascalar mo_acane mo_ais mo_astrandOf mo_aweight mo_aheight mo_achairOf mo_anoteMinute mo_anoteWho mo_anoteIs mo_atoldCane mo_anewScalar mo_anewCane mo_anewHeight mo_anewStrand mo_anewChair mo_anewWeight mo_taped mo_p mo_fault mo_slot mo_rules mo_entries mo_deep mo_counted mo_opened mo_words mo_atape mo_asort mo_anumber mo_aclauses mo_asumAt mo_atestAt mo_aendAt mo_aopen mo_aasked mo_astack mo_amust mo_apast mo_apastOf w9 w10 w11 mo_acanRise mo_afirstHas mo_asecondHas mo_alay mo_ashows mo_aimages mo_aisMade mo_imageAt mo_goesBack w12 f16 mo_rstrandOf mo_rweight mo_rheight mo_rchairOf mo_s0 mo_s1 mo_s2 mo_s3 w15 mo_s5 mo_s6 mo_s7 ⟨by omega, by omega⟩ ⟨by omega, by omega⟩ ⟨by omega, by omega⟩ ⟨by omega, by omega⟩ ⟨by omega, by omega⟩ ⟨by omega, by omega⟩ ⟨by omega, by omega⟩ ⟨by omega, by omega⟩ ⟨by omega, by omega⟩ ⟨by omega, by omega⟩ ⟨by omega, by omega⟩ ⟨by omega, by omega⟩ ⟨by omega, by omega⟩ ⟨by omega, by omega⟩ h_mo_rweight h_mo_rchairOf ⟨by omega, by omega⟩ ⟨by omega, by omega⟩ ⟨by omega, by omega⟩ ⟨by omega, by omega⟩ ⟨by omega, by omega⟩ hh_HallOk) (ci := 7) (q0 := 4) rfl rfl gX9_rise_X9_settles rfl ⟨rfl, rfl, Nat.le_of_ble_eq_true rfl, Nat.le_of_ble_eq_true rfl⟩ (by decide +kernel) rfl rfl ⟨by decide, by decide, by decide⟩ ⟨rfl, rfl, Nat.le_of_ble_eq_true rfl, Nat.le_of_ble_eq_true rfl, Nat.le_of_ble_eq_true rfl⟩ dX9_rise_23 (fun r18 u17 H locs hw hP hD hS => ?_)
    obtain ⟨w19, rfl⟩ : ∃ z, z = u17 := ⟨_, rfl⟩
    have hP : va_P D vwCl ([(mo_apast, hcI k 260 w14), (mo, .inr (7, [.int mo_thrown, .ref mo_ascalar, .ref mo_acane, .ref mo_ais, .ref mo_astrandOf, .ref mo_aweight, .ref mo_aheight, .ref mo_achairOf, .ref mo_anoteMinute, .ref mo_anoteWho, .ref mo_anoteIs, .ref mo_atoldCane, .ref mo_anewScalar, .ref mo_anewCane, .ref mo_anewHeight, .ref mo_anewStrand, .ref mo_anewChair, .ref mo_anewWeight, .int mo_taped, .int mo_p, .int mo_fault, .int mo_slot, .int mo_rules, .int mo_entries, .int mo_deep, .int mo_counted, .int mo_opened, .int mo_words, .ref mo_atape, .ref mo_asort, .ref mo_anumber, .ref mo_aclauses, .ref mo_asumAt, .ref mo_atestAt, .ref mo_aendAt, .ref mo_aopen, .ref mo_aasked, .ref mo_astack, .ref mo_amust, .ref mo_apast, .ref mo_apastOf, .int w9, .int w10, .int w11, .ref mo_acanRise, .ref mo_afirstHas, .ref mo_asecondHas, .ref mo_alay, .ref mo_ashows, .ref mo_aimages, .ref mo_aisMade, .int mo_imageAt, .int mo_goesBack])), (mo_acane, hcI k 4 w12), (mo_ais, hcI k 8 w19), (mo_astrandOf, hcI k 8 mo_rstrandOf), (mo_aweight, hcI k 8 mo_rweight), (mo_aheight, hcI k 8 mo_rheight), (mo_achairOf, hcI k 8 mo_rchairOf), (mo_ascalar, hcI k 8 (sc8 mo_s0 mo_s1 mo_s2 mo_s3 w15 mo_s5 mo_s6 mo_s7))]) H := hP
    have hD : va_D A ([(mo_apast, hcI k 260 w14), (mo, .inr (7, [.int mo_thrown, .ref mo_ascalar, .ref mo_acane, .ref mo_ais, .ref mo_astrandOf, .ref mo_aweight, .ref mo_aheight, .ref mo_achairOf, .ref mo_anoteMinute, .ref mo_anoteWho, .ref mo_anoteIs, .ref mo_atoldCane, .ref mo_anewScalar, .ref mo_anewCane, .ref mo_anewHeight, .ref mo_anewStrand, .ref mo_anewChair, .ref mo_anewWeight, .int mo_taped, .int mo_p, .int mo_fault, .int mo_slot, .int mo_rules, .int mo_entries, .int mo_deep, .int mo_counted, .int mo_opened, .int mo_words, .ref mo_atape, .ref mo_asort, .ref mo_anumber, .ref mo_aclauses, .ref mo_asumAt, .ref mo_atestAt, .ref mo_aendAt, .ref mo_aopen, .ref mo_aasked, .ref mo_astack, .ref mo_amust, .ref mo_apast, .ref mo_apastOf, .int w9, .int w10, .int w11, .ref mo_acanRise, .ref mo_afirstHas, .ref mo_asecondHas, .ref mo_alay, .ref mo_ashows, .ref mo_aimages, .ref mo_aisMade, .int mo_imageAt, .int mo_goesBack])), (mo_acane, hcI k 4 w12), (mo_ais, hcI k 8 w19), (mo_astrandOf, hcI k 8 mo_rstrandOf), (mo_aweight, hcI k 8 mo_rweight), (mo_aheight, hcI k 8 mo_rheight), (mo_achairOf, hcI k 8 mo_rchairOf), (mo_ascalar, hcI k 8 (sc8 mo_s0 mo_s1 mo_s2 mo_s3 w15 mo_s5 mo_s6 mo_s7))]) := hD
    exact hc_end hx hb hr hlocks (w9, w10, w11, w12, w19, w14, w15) ⟨(show iv (0) (20) w9 from ⟨by omega, by omega⟩), (show iv (0) (260) w10 from ⟨by omega, by omega⟩), (show iv (0) (1) w11 from ⟨by omega, by omega⟩)⟩ (hP.sub [1, 2, 3, 4, 5, 6, 7, 0, 8] rfl) (hD.sub [1, 2, 3, 4, 5, 6, 7, 0, 8] (by decide) rfl) hS dX9_rise_26
  · have fc6 := cx_ne_f (a := r3.toInt) (b := 0) rfl (by decide) c6
    refine lv_iconst (v := (-1)) hx hb dX9_rise_9 (by decide) ?_
    exact hc_end hx hb hr hlocks (mo_pastMany, mo_pastAt, mo_takesBack, mo_rcane, mo_ris, mo_rpast, mo_s4) ⟨(show iv (0) (20) mo_pastMany from ⟨by omega, by omega⟩), (show iv (0) (260) mo_pastAt from ⟨by omega, by omega⟩), (show iv (0) (1) mo_takesBack from ⟨by omega, by omega⟩)⟩ (hP.sub [6, 0, 7, 1, 2, 3, 4, 5, 8] rfl) (hD.sub [6, 0, 7, 1, 2, 3, 4, 5, 8] (by decide) rfl) hS dX9_rise_10
set_option maxHeartbeats 4000000 in
set_option maxRecDepth 100000 in
theorem i_X9_help (l : Launch) (D : va_G) (k : Nat → ClassId) (sz : Nat) (x1 : Int32) (mo : Nat) (mo_thrown : Int32) (mo_ascalar : Nat) (mo_acane : Nat) (mo_ais : Nat) (mo_astrandOf : Nat) (mo_aweight : Nat) (mo_aheight : Nat) (mo_achairOf : Nat) (mo_anoteMinute : Nat) (mo_anoteWho : Nat) (mo_anoteIs : Nat) (mo_atoldCane : Nat) (mo_anewScalar : Nat) (mo_anewCane : Nat) (mo_anewHeight : Nat) (mo_anewStrand : Nat) (mo_anewChair : Nat) (mo_anewWeight : Nat) (mo_taped : Int32) (mo_p : Int32) (mo_fault : Int32) (mo_slot : Int32) (mo_rules : Int32) (mo_entries : Int32) (mo_deep : Int32) (mo_counted : Int32) (mo_opened : Int32) (mo_words : Int32) (mo_atape : Nat) (mo_asort : Nat) (mo_anumber : Nat) (mo_aclauses : Nat) (mo_asumAt : Nat) (mo_atestAt : Nat) (mo_aendAt : Nat) (mo_aopen : Nat) (mo_aasked : Nat) (mo_astack : Nat) (mo_amust : Nat) (mo_apast : Nat) (mo_apastOf : Nat) (mo_pastMany : Int32) (mo_pastAt : Int32) (mo_takesBack : Int32) (mo_acanRise : Nat) (mo_afirstHas : Nat) (mo_asecondHas : Nat) (mo_alay : Nat) (mo_ashows : Nat) (mo_aimages : Nat) (mo_aisMade : Nat) (mo_imageAt : Int32) (mo_goesBack : Int32) (mo_rcane : Nat → Int32) (mo_ris : Nat → Int32) (mo_rstrandOf : Nat → Int32) (mo_rweight : Nat → Int32) (mo_rheight : Nat → Int32) (mo_rchairOf : Nat → Int32) (mo_rpast : Nat → Int32) (mo_s0 : Int32) (mo_s1 : Int32) (mo_s2 : Int32) (mo_s3 : Int32) (mo_s4 : Int32) (mo_s5 : Int32) (mo_s6 : Int32) (mo_s7 : Int32) (h_mo_taped : iv (0) (400) mo_taped) (h_mo_p : iv (0) (402) mo_p) (h_mo_fault : iv (0) (4000) mo_fault) (h_mo_slot : iv (0) (5) mo_slot) (h_mo_rules : iv (0) (6) mo_rules) (h_mo_entries : iv (0) (300) mo_entries) (h_mo_counted : iv (0) (70) mo_counted) (h_mo_opened : iv (0) (402) mo_opened) (h_mo_words : iv (11) (11) mo_words) (h_mo_pastMany : iv (0) (20) mo_pastMany) (h_mo_pastAt : iv (0) (260) mo_pastAt) (h_mo_takesBack : iv (0) (1) mo_takesBack) (h_mo_imageAt : iv (0) (2000) mo_imageAt) (h_mo_goesBack : iv (0) (1) mo_goesBack) (h_mo_rweight : rowIn (0) (20) mo_rweight) (h_mo_rchairOf : rowIn (0) (7) mo_rchairOf) (h_mo_s1 : iv (0) (4) mo_s1) (h_mo_s2 : iv (0) (8) mo_s2) (h_mo_s3 : iv (0) (8) mo_s3) (h_mo_s5 : iv (0) (10) mo_s5) (h_mo_s7 : iv (-1) (5) mo_s7) (hh_HallOk : HallOk mo_s2 mo_s3 mo_rstrandOf mo_rchairOf mo_rweight) : CtI l yX9_help wsX9_help (rmK 6 0 0) [.ref mo, .int x1] D k sz ([(mo, .inr (7, [.int mo_thrown, .ref mo_ascalar, .ref mo_acane, .ref mo_ais, .ref mo_astrandOf, .ref mo_aweight, .ref mo_aheight, .ref mo_achairOf, .ref mo_anoteMinute, .ref mo_anoteWho, .ref mo_anoteIs, .ref mo_atoldCane, .ref mo_anewScalar, .ref mo_anewCane, .ref mo_anewHeight, .ref mo_anewStrand, .ref mo_anewChair, .ref mo_anewWeight, .int mo_taped, .int mo_p, .int mo_fault, .int mo_slot, .int mo_rules, .int mo_entries, .int mo_deep, .int mo_counted, .int mo_opened, .int mo_words, .ref mo_atape, .ref mo_asort, .ref mo_anumber, .ref mo_aclauses, .ref mo_asumAt, .ref mo_atestAt, .ref mo_aendAt, .ref mo_aopen, .ref mo_aasked, .ref mo_astack, .ref mo_amust, .ref mo_apast, .ref mo_apastOf, .int mo_pastMany, .int mo_pastAt, .int mo_takesBack, .ref mo_acanRise, .ref mo_afirstHas, .ref mo_asecondHas, .ref mo_alay, .ref mo_ashows, .ref mo_aimages, .ref mo_aisMade, .int mo_imageAt, .int mo_goesBack])), (mo_acane, hcI k 4 mo_rcane), (mo_ais, hcI k 8 mo_ris), (mo_astrandOf, hcI k 8 mo_rstrandOf), (mo_aweight, hcI k 8 mo_rweight), (mo_aheight, hcI k 8 mo_rheight), (mo_achairOf, hcI k 8 mo_rchairOf), (mo_apast, hcI k 260 mo_rpast), (mo_ascalar, hcI k 8 (sc8 mo_s0 mo_s1 mo_s2 mo_s3 mo_s4 mo_s5 mo_s6 mo_s7))]) (fun (r : Int32) (u : (Int32) × (Int32) × (Int32) × (Nat → Int32) × (Nat → Int32) × (Nat → Int32) × (Int32)) => iv (-1) (16) r ∧ iv (0) (20) (u.1) ∧ iv (0) (260) (u.2.1) ∧ iv (0) (1) (u.2.2.1)) (fun u : (Int32) × (Int32) × (Int32) × (Nat → Int32) × (Nat → Int32) × (Nat → Int32) × (Int32) => [(mo, .inr (7, [.int mo_thrown, .ref mo_ascalar, .ref mo_acane, .ref mo_ais, .ref mo_astrandOf, .ref mo_aweight, .ref mo_aheight, .ref mo_achairOf, .ref mo_anoteMinute, .ref mo_anoteWho, .ref mo_anoteIs, .ref mo_atoldCane, .ref mo_anewScalar, .ref mo_anewCane, .ref mo_anewHeight, .ref mo_anewStrand, .ref mo_anewChair, .ref mo_anewWeight, .int mo_taped, .int mo_p, .int mo_fault, .int mo_slot, .int mo_rules, .int mo_entries, .int mo_deep, .int mo_counted, .int mo_opened, .int mo_words, .ref mo_atape, .ref mo_asort, .ref mo_anumber, .ref mo_aclauses, .ref mo_asumAt, .ref mo_atestAt, .ref mo_aendAt, .ref mo_aopen, .ref mo_aasked, .ref mo_astack, .ref mo_amust, .ref mo_apast, .ref mo_apastOf, .int (u.1), .int (u.2.1), .int (u.2.2.1), .ref mo_acanRise, .ref mo_afirstHas, .ref mo_asecondHas, .ref mo_alay, .ref mo_ashows, .ref mo_aimages, .ref mo_aisMade, .int mo_imageAt, .int mo_goesBack])), (mo_acane, hcI k 4 (u.2.2.2.1)), (mo_ais, hcI k 8 (u.2.2.2.2.1)), (mo_astrandOf, hcI k 8 mo_rstrandOf), (mo_aweight, hcI k 8 mo_rweight), (mo_aheight, hcI k 8 mo_rheight), (mo_achairOf, hcI k 8 mo_rchairOf), (mo_apast, hcI k 260 (u.2.2.2.2.2.1)), (mo_ascalar, hcI k 8 (sc8 mo_s0 mo_s1 mo_s2 mo_s3 (u.2.2.2.2.2.2) mo_s5 mo_s6 mo_s7))]) 0 0 := by
  have h_mo_taped_l := h_mo_taped.1
  have h_mo_taped_u := h_mo_taped.2
  have h_mo_p_l := h_mo_p.1
  have h_mo_p_u := h_mo_p.2
  have h_mo_fault_l := h_mo_fault.1
  have h_mo_fault_u := h_mo_fault.2
  have h_mo_slot_l := h_mo_slot.1
  have h_mo_slot_u := h_mo_slot.2
  have h_mo_rules_l := h_mo_rules.1
  have h_mo_rules_u := h_mo_rules.2
  have h_mo_entries_l := h_mo_entries.1
  have h_mo_entries_u := h_mo_entries.2
  have h_mo_counted_l := h_mo_counted.1
  have h_mo_counted_u := h_mo_counted.2
  have h_mo_opened_l := h_mo_opened.1
  have h_mo_opened_u := h_mo_opened.2
  have h_mo_words_l := h_mo_words.1
  have h_mo_words_u := h_mo_words.2
  have h_mo_pastMany_l := h_mo_pastMany.1
  have h_mo_pastMany_u := h_mo_pastMany.2
  have h_mo_pastAt_l := h_mo_pastAt.1
  have h_mo_pastAt_u := h_mo_pastAt.2
  have h_mo_takesBack_l := h_mo_takesBack.1
  have h_mo_takesBack_u := h_mo_takesBack.2
  have h_mo_imageAt_l := h_mo_imageAt.1
  have h_mo_imageAt_u := h_mo_imageAt.2
  have h_mo_goesBack_l := h_mo_goesBack.1
  have h_mo_goesBack_u := h_mo_goesBack.2
  have h_mo_s1_l := h_mo_s1.1
  have h_mo_s1_u := h_mo_s1.2
  have h_mo_s2_l := h_mo_s2.1
  have h_mo_s2_u := h_mo_s2.2
  have h_mo_s3_l := h_mo_s3.1
  have h_mo_s3_u := h_mo_s3.2
  have h_mo_s5_l := h_mo_s5.1
  have h_mo_s5_u := h_mo_s5.2
  have h_mo_s7_l := h_mo_s7.1
  have h_mo_s7_u := h_mo_s7.2
  refine CtI.mk (cc := cX9_help) (maxL := 2) (ret := (some .int)) (by decide) rfl (Nat.le_of_ble_eq_true rfl) ?_
  intro p e s m below meth c A ls E hP hD hS hl
  obtain ⟨hx, hb, hr, hml, hown, hts, hlocks, hin, hG, hA⟩ := E
  have hown : s.vm.findClass RX9 = some m.cls := hown
  have in9 : ∀ w ∈ u_ws RX9 TX9 53, w ∈ wsX9_help := fun _ h => List.mem_cons_of_mem _ (List.mem_append_right _ h)
  have hl : lv_has ls 2 [(0, .ref mo), (1, .int x1)] := hl
  refine lv_aload_n hx hb dX9_help_0 rfl (lv_at hl 0 rfl) ?_
  refine lv_iload_n hx hb dX9_help_1 rfl (lv_at hl 1 rfl) ?_
  refine lv_iconst (v := 2) hx hb dX9_help_2 (by decide) ?_
  have ql1 : (2 : Int32).toInt = 2 := by decide
  refine hc_Vi (As := [.int x1, .int 2]) (rest := []) (n := 2) (wr := [(mo_acane, hcI k 4 mo_rcane), (mo_astrandOf, hcI k 8 mo_rstrandOf), (mo_aweight, hcI k 8 mo_rweight), (mo_aheight, hcI k 8 mo_rheight), (mo_achairOf, hcI k 8 mo_rchairOf), (mo_apast, hcI k 260 mo_rpast)]) hx hb hml hown hts hG hA hP hD hS hl.1 [0, 2, 8] [1, 3, 4, 5, 6, 7] (i_X9_isSo l D k _ x1 2 mo mo_thrown mo_ascalar mo_acane mo_ais mo_astrandOf mo_aweight mo_aheight mo_achairOf mo_anoteMinute mo_anoteWho mo_anoteIs mo_atoldCane mo_anewScalar mo_anewCane mo_anewHeight mo_anewStrand mo_anewChair mo_anewWeight mo_taped mo_p mo_fault mo_slot mo_rules mo_entries mo_deep mo_counted mo_opened mo_words mo_atape mo_asort mo_anumber mo_aclauses mo_asumAt mo_atestAt mo_aendAt mo_aopen mo_aasked mo_astack mo_amust mo_apast mo_apastOf mo_pastMany mo_pastAt mo_takesBack mo_acanRise mo_afirstHas mo_asecondHas mo_alay mo_ashows mo_aimages mo_aisMade mo_imageAt mo_goesBack mo_ris mo_s0 mo_s1 mo_s2 mo_s3 mo_s4 mo_s5 mo_s6 mo_s7 ⟨by omega, by omega⟩ ⟨by omega, by omega⟩ ⟨by omega, by omega⟩ ⟨by omega, by omega⟩ ⟨by omega, by omega⟩ ⟨by omega, by omega⟩ ⟨by omega, by omega⟩ ⟨by omega, by omega⟩ ⟨by omega, by omega⟩ ⟨by omega, by omega⟩ ⟨by omega, by omega⟩ ⟨by omega, by omega⟩ ⟨by omega, by omega⟩ ⟨by omega, by omega⟩ ⟨by omega, by omega⟩ ⟨by omega, by omega⟩ ⟨by omega, by omega⟩ ⟨by omega, by omega⟩ ⟨by omega, by omega⟩) (ci := 7) (q0 := 0) rfl rfl gX9_help_X9_isSo rfl ⟨rfl, rfl, Nat.le_of_ble_eq_true rfl, Nat.le_of_ble_eq_true rfl⟩ (by decide +kernel) rfl rfl ⟨by decide, by decide, by decide⟩ ⟨rfl, rfl, Nat.le_of_ble_eq_true rfl, Nat.le_of_ble_eq_true rfl, Nat.le_of_ble_eq_true rfl⟩ dX9_help_3 (fun r3 u2 H locs hw hP hD hS => ?_)
  have hP : va_P D vwCl ([(mo_acane, hcI k 4 mo_rcane), (mo_astrandOf, hcI k 8 mo_rstrandOf), (mo_aweight, hcI k 8 mo_rweight), (mo_aheight, hcI k 8 mo_rheight), (mo_achairOf, hcI k 8 mo_rchairOf), (mo_apast, hcI k 260 mo_rpast), (mo, .inr (7, [.int mo_thrown, .ref mo_ascalar, .ref mo_acane, .ref mo_ais, .ref mo_astrandOf, .ref mo_aweight, .ref mo_aheight, .ref mo_achairOf, .ref mo_anoteMinute, .ref mo_anoteWho, .ref mo_anoteIs, .ref mo_atoldCane, .ref mo_anewScalar, .ref mo_anewCane, .ref mo_anewHeight, .ref mo_anewStrand, .ref mo_anewChair, .ref mo_anewWeight, .int mo_taped, .int mo_p, .int mo_fault, .int mo_slot, .int mo_rules, .int mo_entries, .int mo_deep, .int mo_counted, .int mo_opened, .int mo_words, .ref mo_atape, .ref mo_asort, .ref mo_anumber, .ref mo_aclauses, .ref mo_asumAt, .ref mo_atestAt, .ref mo_aendAt, .ref mo_aopen, .ref mo_aasked, .ref mo_astack, .ref mo_amust, .ref mo_apast, .ref mo_apastOf, .int mo_pastMany, .int mo_pastAt, .int mo_takesBack, .ref mo_acanRise, .ref mo_afirstHas, .ref mo_asecondHas, .ref mo_alay, .ref mo_ashows, .ref mo_aimages, .ref mo_aisMade, .int mo_imageAt, .int mo_goesBack])), (mo_ais, hcI k 8 mo_ris), (mo_ascalar, hcI k 8 (sc8 mo_s0 mo_s1 mo_s2 mo_s3 mo_s4 mo_s5 mo_s6 mo_s7))]) H := hP
  have hD : va_D A ([(mo_acane, hcI k 4 mo_rcane), (mo_astrandOf, hcI k 8 mo_rstrandOf), (mo_aweight, hcI k 8 mo_rweight), (mo_aheight, hcI k 8 mo_rheight), (mo_achairOf, hcI k 8 mo_rchairOf), (mo_apast, hcI k 260 mo_rpast), (mo, .inr (7, [.int mo_thrown, .ref mo_ascalar, .ref mo_acane, .ref mo_ais, .ref mo_astrandOf, .ref mo_aweight, .ref mo_aheight, .ref mo_achairOf, .ref mo_anoteMinute, .ref mo_anoteWho, .ref mo_anoteIs, .ref mo_atoldCane, .ref mo_anewScalar, .ref mo_anewCane, .ref mo_anewHeight, .ref mo_anewStrand, .ref mo_anewChair, .ref mo_anewWeight, .int mo_taped, .int mo_p, .int mo_fault, .int mo_slot, .int mo_rules, .int mo_entries, .int mo_deep, .int mo_counted, .int mo_opened, .int mo_words, .ref mo_atape, .ref mo_asort, .ref mo_anumber, .ref mo_aclauses, .ref mo_asumAt, .ref mo_atestAt, .ref mo_aendAt, .ref mo_aopen, .ref mo_aasked, .ref mo_astack, .ref mo_amust, .ref mo_apast, .ref mo_apastOf, .int mo_pastMany, .int mo_pastAt, .int mo_takesBack, .ref mo_acanRise, .ref mo_afirstHas, .ref mo_asecondHas, .ref mo_alay, .ref mo_ashows, .ref mo_aimages, .ref mo_aisMade, .int mo_imageAt, .int mo_goesBack])), (mo_ais, hcI k 8 mo_ris), (mo_ascalar, hcI k 8 (sc8 mo_s0 mo_s1 mo_s2 mo_s3 mo_s4 mo_s5 mo_s6 mo_s7))]) := hD
  have ql5 : (2 : Int32).toInt = 2 := by decide
  obtain ⟨br3, rel4⟩ := hw
  have br3 : iv (0) (1) r3 := br3
  have br3_l := br3.1
  have br3_u := br3.2
  refine lv_if_ne (tgt := 11) hx hb dX9_help_6 (by decide) (fun c6 => ?_) (fun c6 => ?_)
  · have fc6 := cx_ne_t (a := r3.toInt) (b := 0) rfl (by decide) c6
    refine lv_aload_n hx hb dX9_help_11 rfl (lv_at hl 0 rfl) ?_
    refine hc_Vv (As := []) (rest := []) (n := 0) (wr := [(mo_astrandOf, hcI k 8 mo_rstrandOf), (mo_aweight, hcI k 8 mo_rweight), (mo_aheight, hcI k 8 mo_rheight), (mo_achairOf, hcI k 8 mo_rchairOf)]) hx hb hml hown hts hG hA hP hD hS hl.1 [6, 0, 7, 5, 8] [1, 2, 3, 4] (i_X9_keepsAct l D k _ mo mo_thrown mo_ascalar mo_acane mo_ais mo_astrandOf mo_aweight mo_aheight mo_achairOf mo_anoteMinute mo_anoteWho mo_anoteIs mo_atoldCane mo_anewScalar mo_anewCane mo_anewHeight mo_anewStrand mo_anewChair mo_anewWeight mo_taped mo_p mo_fault mo_slot mo_rules mo_entries mo_deep mo_counted mo_opened mo_words mo_atape mo_asort mo_anumber mo_aclauses mo_asumAt mo_atestAt mo_aendAt mo_aopen mo_aasked mo_astack mo_amust mo_apast mo_apastOf mo_pastMany mo_pastAt mo_takesBack mo_acanRise mo_afirstHas mo_asecondHas mo_alay mo_ashows mo_aimages mo_aisMade mo_imageAt mo_goesBack mo_rcane mo_ris mo_rpast mo_s0 mo_s1 mo_s2 mo_s3 mo_s4 mo_s5 mo_s6 mo_s7 ⟨by omega, by omega⟩ ⟨by omega, by omega⟩ ⟨by omega, by omega⟩ ⟨by omega, by omega⟩ ⟨by omega, by omega⟩ ⟨by omega, by omega⟩ ⟨by omega, by omega⟩ ⟨by omega, by omega⟩ ⟨by omega, by omega⟩ ⟨by omega, by omega⟩ ⟨by omega, by omega⟩ ⟨by omega, by omega⟩ ⟨by omega, by omega⟩ ⟨by omega, by omega⟩ ⟨by omega, by omega⟩ ⟨by omega, by omega⟩ ⟨by omega, by omega⟩ ⟨by omega, by omega⟩ ⟨by omega, by omega⟩) (ci := 7) (q0 := 6) rfl rfl gX9_help_X9_keepsAct rfl ⟨rfl, rfl, Nat.le_of_ble_eq_true rfl, Nat.le_of_ble_eq_true rfl⟩ (by decide +kernel) rfl rfl ⟨by decide, by decide, by decide⟩ ⟨rfl, rfl, Nat.le_of_ble_eq_true rfl, Nat.le_of_ble_eq_true rfl, Nat.le_of_ble_eq_true rfl⟩ dX9_help_12 (fun u7 H locs hw hP hD hS => ?_)
    obtain ⟨w9, w10, w11, w12, w13, w14, w15⟩ := u7
    have hP : va_P D vwCl ([(mo_astrandOf, hcI k 8 mo_rstrandOf), (mo_aweight, hcI k 8 mo_rweight), (mo_aheight, hcI k 8 mo_rheight), (mo_achairOf, hcI k 8 mo_rchairOf), (mo, .inr (7, [.int mo_thrown, .ref mo_ascalar, .ref mo_acane, .ref mo_ais, .ref mo_astrandOf, .ref mo_aweight, .ref mo_aheight, .ref mo_achairOf, .ref mo_anoteMinute, .ref mo_anoteWho, .ref mo_anoteIs, .ref mo_atoldCane, .ref mo_anewScalar, .ref mo_anewCane, .ref mo_anewHeight, .ref mo_anewStrand, .ref mo_anewChair, .ref mo_anewWeight, .int mo_taped, .int mo_p, .int mo_fault, .int mo_slot, .int mo_rules, .int mo_entries, .int mo_deep, .int mo_counted, .int mo_opened, .int mo_words, .ref mo_atape, .ref mo_asort, .ref mo_anumber, .ref mo_aclauses, .ref mo_asumAt, .ref mo_atestAt, .ref mo_aendAt, .ref mo_aopen, .ref mo_aasked, .ref mo_astack, .ref mo_amust, .ref mo_apast, .ref mo_apastOf, .int w9, .int w10, .int w11, .ref mo_acanRise, .ref mo_afirstHas, .ref mo_asecondHas, .ref mo_alay, .ref mo_ashows, .ref mo_aimages, .ref mo_aisMade, .int mo_imageAt, .int mo_goesBack])), (mo_acane, hcI k 4 w12), (mo_ais, hcI k 8 w13), (mo_apast, hcI k 260 w14), (mo_ascalar, hcI k 8 (sc8 mo_s0 mo_s1 mo_s2 mo_s3 w15 mo_s5 mo_s6 mo_s7))]) H := hP
    have hD : va_D A ([(mo_astrandOf, hcI k 8 mo_rstrandOf), (mo_aweight, hcI k 8 mo_rweight), (mo_aheight, hcI k 8 mo_rheight), (mo_achairOf, hcI k 8 mo_rchairOf), (mo, .inr (7, [.int mo_thrown, .ref mo_ascalar, .ref mo_acane, .ref mo_ais, .ref mo_astrandOf, .ref mo_aweight, .ref mo_aheight, .ref mo_achairOf, .ref mo_anoteMinute, .ref mo_anoteWho, .ref mo_anoteIs, .ref mo_atoldCane, .ref mo_anewScalar, .ref mo_anewCane, .ref mo_anewHeight, .ref mo_anewStrand, .ref mo_anewChair, .ref mo_anewWeight, .int mo_taped, .int mo_p, .int mo_fault, .int mo_slot, .int mo_rules, .int mo_entries, .int mo_deep, .int mo_counted, .int mo_opened, .int mo_words, .ref mo_atape, .ref mo_asort, .ref mo_anumber, .ref mo_aclauses, .ref mo_asumAt, .ref mo_atestAt, .ref mo_aendAt, .ref mo_aopen, .ref mo_aasked, .ref mo_astack, .ref mo_amust, .ref mo_apast, .ref mo_apastOf, .int w9, .int w10, .int w11, .ref mo_acanRise, .ref mo_afirstHas, .ref mo_asecondHas, .ref mo_alay, .ref mo_ashows, .ref mo_aimages, .ref mo_aisMade, .int mo_imageAt, .int mo_goesBack])), (mo_acane, hcI k 4 w12), (mo_ais, hcI k 8 w13), (mo_apast, hcI k 260 w14), (mo_ascalar, hcI k 8 (sc8 mo_s0 mo_s1 mo_s2 mo_s3 w15 mo_s5 mo_s6 mo_s7))]) := hD
    obtain ⟨bw9, bw10, bw11⟩ := hw
    have bw9 : iv (0) (20) w9 := bw9
    have bw9_l := bw9.1
    have bw9_u := bw9.2
    have bw10 : iv (0) (260) w10 := bw10
    have bw10_l := bw10.1
    have bw10_u := bw10.2
    have bw11 : iv (0) (1) w11 := bw11
    have bw11_l := bw11.1
    have bw11_u := bw11.2
    refine lv_aload_n hx hb dX9_help_15 rfl (lv_at hl 0 rfl) ?_
    refine va_get (D := D) (ci := 7) (v := .ref mo_ais) (C := RX9) (T := TX9) (N := 53) hx hb hts in9 hown hG.1 hP 4 rfl rfl 3 (by decide) (hts (.fieldLink RX9 16 "ChairCaneModel" "is" "[I") (by decide +kernel)) (fun _ h9 => h9) rfl dX9_help_16 ?_
    refine lv_iload_n hx hb dX9_help_19 rfl (lv_at hl 1 rfl) ?_
    refine lv_iconst (v := 0) hx hb dX9_help_20 (by decide) ?_
    refine va_iast hx hb hG.1 hP hD hS 6 0 rfl rfl (vp_in_iff.mpr ⟨by omega, by omega⟩) dX9_help_21 (fun H locs hP hD hS => ?_)
    obtain ⟨f16, ef16⟩ : ∃ f, f = upd w13 (Int32.toNatClampNeg x1) (0) := ⟨_, rfl⟩
    rw [← ef16] at hP hD
    have hP : va_P D vwCl ([(mo_astrandOf, hcI k 8 mo_rstrandOf), (mo_aweight, hcI k 8 mo_rweight), (mo_aheight, hcI k 8 mo_rheight), (mo_achairOf, hcI k 8 mo_rchairOf), (mo, .inr (7, [.int mo_thrown, .ref mo_ascalar, .ref mo_acane, .ref mo_ais, .ref mo_astrandOf, .ref mo_aweight, .ref mo_aheight, .ref mo_achairOf, .ref mo_anoteMinute, .ref mo_anoteWho, .ref mo_anoteIs, .ref mo_atoldCane, .ref mo_anewScalar, .ref mo_anewCane, .ref mo_anewHeight, .ref mo_anewStrand, .ref mo_anewChair, .ref mo_anewWeight, .int mo_taped, .int mo_p, .int mo_fault, .int mo_slot, .int mo_rules, .int mo_entries, .int mo_deep, .int mo_counted, .int mo_opened, .int mo_words, .ref mo_atape, .ref mo_asort, .ref mo_anumber, .ref mo_aclauses, .ref mo_asumAt, .ref mo_atestAt, .ref mo_aendAt, .ref mo_aopen, .ref mo_aasked, .ref mo_astack, .ref mo_amust, .ref mo_apast, .ref mo_apastOf, .int w9, .int w10, .int w11, .ref mo_acanRise, .ref mo_afirstHas, .ref mo_asecondHas, .ref mo_alay, .ref mo_ashows, .ref mo_aimages, .ref mo_aisMade, .int mo_imageAt, .int mo_goesBack])), (mo_acane, hcI k 4 w12), (mo_ais, hcI k 8 f16), (mo_apast, hcI k 260 w14), (mo_ascalar, hcI k 8 (sc8 mo_s0 mo_s1 mo_s2 mo_s3 w15 mo_s5 mo_s6 mo_s7))]) H := hP
    have hD : va_D A ([(mo_astrandOf, hcI k 8 mo_rstrandOf), (mo_aweight, hcI k 8 mo_rweight), (mo_aheight, hcI k 8 mo_rheight), (mo_achairOf, hcI k 8 mo_rchairOf), (mo, .inr (7, [.int mo_thrown, .ref mo_ascalar, .ref mo_acane, .ref mo_ais, .ref mo_astrandOf, .ref mo_aweight, .ref mo_aheight, .ref mo_achairOf, .ref mo_anoteMinute, .ref mo_anoteWho, .ref mo_anoteIs, .ref mo_atoldCane, .ref mo_anewScalar, .ref mo_anewCane, .ref mo_anewHeight, .ref mo_anewStrand, .ref mo_anewChair, .ref mo_anewWeight, .int mo_taped, .int mo_p, .int mo_fault, .int mo_slot, .int mo_rules, .int mo_entries, .int mo_deep, .int mo_counted, .int mo_opened, .int mo_words, .ref mo_atape, .ref mo_asort, .ref mo_anumber, .ref mo_aclauses, .ref mo_asumAt, .ref mo_atestAt, .ref mo_aendAt, .ref mo_aopen, .ref mo_aasked, .ref mo_astack, .ref mo_amust, .ref mo_apast, .ref mo_apastOf, .int w9, .int w10, .int w11, .ref mo_acanRise, .ref mo_afirstHas, .ref mo_asecondHas, .ref mo_alay, .ref mo_ashows, .ref mo_aimages, .ref mo_aisMade, .int mo_imageAt, .int mo_goesBack])), (mo_acane, hcI k 4 w12), (mo_ais, hcI k 8 f16), (mo_apast, hcI k 260 w14), (mo_ascalar, hcI k 8 (sc8 mo_s0 mo_s1 mo_s2 mo_s3 w15 mo_s5 mo_s6 mo_s7))]) := hD
    refine lv_aload_n hx hb dX9_help_22 rfl (lv_at hl 0 rfl) ?_
    refine lv_iconst (v := 2) hx hb dX9_help_23 (by decide) ?_
    have ql17 : (2 : Int32).toInt = 2 := by decide
    refine hc_Vi (As := [.int 2]) (rest := []) (n := 1) (wr := [(mo_astrandOf, hcI k 8 mo_rstrandOf), (mo_aweight, hcI k 8 mo_rweight), (mo_aheight, hcI k 8 mo_rheight), (mo_achairOf, hcI k 8 mo_rchairOf), (mo_acane, hcI k 4 w12), (mo_apast, hcI k 260 w14)]) hx hb hml hown hts hG hA hP hD hS hl.1 [4, 6, 8] [0, 1, 2, 3, 5, 7] (i_X9_those l D k _ 2 mo mo_thrown mo_ascalar mo_acane mo_ais mo_astrandOf mo_aweight mo_aheight mo_achairOf mo_anoteMinute mo_anoteWho mo_anoteIs mo_atoldCane mo_anewScalar mo_anewCane mo_anewHeight mo_anewStrand mo_anewChair mo_anewWeight mo_taped mo_p mo_fault mo_slot mo_rules mo_entries mo_deep mo_counted mo_opened mo_words mo_atape mo_asort mo_anumber mo_aclauses mo_asumAt mo_atestAt mo_aendAt mo_aopen mo_aasked mo_astack mo_amust mo_apast mo_apastOf w9 w10 w11 mo_acanRise mo_afirstHas mo_asecondHas mo_alay mo_ashows mo_aimages mo_aisMade mo_imageAt mo_goesBack f16 mo_s0 mo_s1 mo_s2 mo_s3 w15 mo_s5 mo_s6 mo_s7 ⟨by omega, by omega⟩ ⟨by omega, by omega⟩ ⟨by omega, by omega⟩ ⟨by omega, by omega⟩ ⟨by omega, by omega⟩ ⟨by omega, by omega⟩ ⟨by omega, by omega⟩ ⟨by omega, by omega⟩ ⟨by omega, by omega⟩ ⟨by omega, by omega⟩ ⟨by omega, by omega⟩ ⟨by omega, by omega⟩ ⟨by omega, by omega⟩ ⟨by omega, by omega⟩ ⟨by omega, by omega⟩ ⟨by omega, by omega⟩ ⟨by omega, by omega⟩ ⟨by omega, by omega⟩ ⟨by omega, by omega⟩) (ci := 7) (q0 := 4) rfl rfl gX9_help_X9_those rfl ⟨rfl, rfl, Nat.le_of_ble_eq_true rfl, Nat.le_of_ble_eq_true rfl⟩ (by decide +kernel) rfl rfl ⟨by decide, by decide, by decide⟩ ⟨rfl, rfl, Nat.le_of_ble_eq_true rfl, Nat.le_of_ble_eq_true rfl, Nat.le_of_ble_eq_true rfl⟩ dX9_help_24 (fun r19 u18 H locs hw hP hD hS => ?_)
    have hP : va_P D vwCl ([(mo_astrandOf, hcI k 8 mo_rstrandOf), (mo_aweight, hcI k 8 mo_rweight), (mo_aheight, hcI k 8 mo_rheight), (mo_achairOf, hcI k 8 mo_rchairOf), (mo_acane, hcI k 4 w12), (mo_apast, hcI k 260 w14), (mo, .inr (7, [.int mo_thrown, .ref mo_ascalar, .ref mo_acane, .ref mo_ais, .ref mo_astrandOf, .ref mo_aweight, .ref mo_aheight, .ref mo_achairOf, .ref mo_anoteMinute, .ref mo_anoteWho, .ref mo_anoteIs, .ref mo_atoldCane, .ref mo_anewScalar, .ref mo_anewCane, .ref mo_anewHeight, .ref mo_anewStrand, .ref mo_anewChair, .ref mo_anewWeight, .int mo_taped, .int mo_p, .int mo_fault, .int mo_slot, .int mo_rules, .int mo_entries, .int mo_deep, .int mo_counted, .int mo_opened, .int mo_words, .ref mo_atape, .ref mo_asort, .ref mo_anumber, .ref mo_aclauses, .ref mo_asumAt, .ref mo_atestAt, .ref mo_aendAt, .ref mo_aopen, .ref mo_aasked, .ref mo_astack, .ref mo_amust, .ref mo_apast, .ref mo_apastOf, .int w9, .int w10, .int w11, .ref mo_acanRise, .ref mo_afirstHas, .ref mo_asecondHas, .ref mo_alay, .ref mo_ashows, .ref mo_aimages, .ref mo_aisMade, .int mo_imageAt, .int mo_goesBack])), (mo_ais, hcI k 8 f16), (mo_ascalar, hcI k 8 (sc8 mo_s0 mo_s1 mo_s2 mo_s3 w15 mo_s5 mo_s6 mo_s7))]) H := hP
    have hD : va_D A ([(mo_astrandOf, hcI k 8 mo_rstrandOf), (mo_aweight, hcI k 8 mo_rweight), (mo_aheight, hcI k 8 mo_rheight), (mo_achairOf, hcI k 8 mo_rchairOf), (mo_acane, hcI k 4 w12), (mo_apast, hcI k 260 w14), (mo, .inr (7, [.int mo_thrown, .ref mo_ascalar, .ref mo_acane, .ref mo_ais, .ref mo_astrandOf, .ref mo_aweight, .ref mo_aheight, .ref mo_achairOf, .ref mo_anoteMinute, .ref mo_anoteWho, .ref mo_anoteIs, .ref mo_atoldCane, .ref mo_anewScalar, .ref mo_anewCane, .ref mo_anewHeight, .ref mo_anewStrand, .ref mo_anewChair, .ref mo_anewWeight, .int mo_taped, .int mo_p, .int mo_fault, .int mo_slot, .int mo_rules, .int mo_entries, .int mo_deep, .int mo_counted, .int mo_opened, .int mo_words, .ref mo_atape, .ref mo_asort, .ref mo_anumber, .ref mo_aclauses, .ref mo_asumAt, .ref mo_atestAt, .ref mo_aendAt, .ref mo_aopen, .ref mo_aasked, .ref mo_astack, .ref mo_amust, .ref mo_apast, .ref mo_apastOf, .int w9, .int w10, .int w11, .ref mo_acanRise, .ref mo_afirstHas, .ref mo_asecondHas, .ref mo_alay, .ref mo_ashows, .ref mo_aimages, .ref mo_aisMade, .int mo_imageAt, .int mo_goesBack])), (mo_ais, hcI k 8 f16), (mo_ascalar, hcI k 8 (sc8 mo_s0 mo_s1 mo_s2 mo_s3 w15 mo_s5 mo_s6 mo_s7))]) := hD
    have ql21 : (2 : Int32).toInt = 2 := by decide
    have rel20 := hw
    refine hc_Si (As := [.int r19]) (rest := []) (n := 1) (wr := [(mo_astrandOf, hcI k 8 mo_rstrandOf), (mo_aweight, hcI k 8 mo_rweight), (mo_aheight, hcI k 8 mo_rheight), (mo_achairOf, hcI k 8 mo_rchairOf), (mo_acane, hcI k 4 w12), (mo_apast, hcI k 260 w14), (mo, .inr (7, [.int mo_thrown, .ref mo_ascalar, .ref mo_acane, .ref mo_ais, .ref mo_astrandOf, .ref mo_aweight, .ref mo_aheight, .ref mo_achairOf, .ref mo_anoteMinute, .ref mo_anoteWho, .ref mo_anoteIs, .ref mo_atoldCane, .ref mo_anewScalar, .ref mo_anewCane, .ref mo_anewHeight, .ref mo_anewStrand, .ref mo_anewChair, .ref mo_anewWeight, .int mo_taped, .int mo_p, .int mo_fault, .int mo_slot, .int mo_rules, .int mo_entries, .int mo_deep, .int mo_counted, .int mo_opened, .int mo_words, .ref mo_atape, .ref mo_asort, .ref mo_anumber, .ref mo_aclauses, .ref mo_asumAt, .ref mo_atestAt, .ref mo_aendAt, .ref mo_aopen, .ref mo_aasked, .ref mo_astack, .ref mo_amust, .ref mo_apast, .ref mo_apastOf, .int w9, .int w10, .int w11, .ref mo_acanRise, .ref mo_afirstHas, .ref mo_asecondHas, .ref mo_alay, .ref mo_ashows, .ref mo_aimages, .ref mo_aisMade, .int mo_imageAt, .int mo_goesBack])), (mo_ais, hcI k 8 f16), (mo_ascalar, hcI k 8 (sc8 mo_s0 mo_s1 mo_s2 mo_s3 w15 mo_s5 mo_s6 mo_s7))]) hx hb hml hown hts hG hA hP hD hS hl.1 [] [0, 1, 2, 3, 4, 5, 6, 7, 8] (i_X9_bits l D k _ r19 ) gX9_help_X9_bits rfl ⟨rfl, rfl, Nat.le_of_ble_eq_true rfl, Nat.le_of_ble_eq_true rfl⟩ (by decide +kernel) rfl rfl ⟨by decide, by decide, by decide⟩ ⟨rfl, rfl, Nat.le_of_ble_eq_true rfl, Nat.le_of_ble_eq_true rfl, Nat.le_of_ble_eq_true rfl⟩ dX9_help_27 (fun r23 u22 H locs hw hP hD hS => ?_)
    have hP : va_P D vwCl ([(mo_astrandOf, hcI k 8 mo_rstrandOf), (mo_aweight, hcI k 8 mo_rweight), (mo_aheight, hcI k 8 mo_rheight), (mo_achairOf, hcI k 8 mo_rchairOf), (mo_acane, hcI k 4 w12), (mo_apast, hcI k 260 w14), (mo, .inr (7, [.int mo_thrown, .ref mo_ascalar, .ref mo_acane, .ref mo_ais, .ref mo_astrandOf, .ref mo_aweight, .ref mo_aheight, .ref mo_achairOf, .ref mo_anoteMinute, .ref mo_anoteWho, .ref mo_anoteIs, .ref mo_atoldCane, .ref mo_anewScalar, .ref mo_anewCane, .ref mo_anewHeight, .ref mo_anewStrand, .ref mo_anewChair, .ref mo_anewWeight, .int mo_taped, .int mo_p, .int mo_fault, .int mo_slot, .int mo_rules, .int mo_entries, .int mo_deep, .int mo_counted, .int mo_opened, .int mo_words, .ref mo_atape, .ref mo_asort, .ref mo_anumber, .ref mo_aclauses, .ref mo_asumAt, .ref mo_atestAt, .ref mo_aendAt, .ref mo_aopen, .ref mo_aasked, .ref mo_astack, .ref mo_amust, .ref mo_apast, .ref mo_apastOf, .int w9, .int w10, .int w11, .ref mo_acanRise, .ref mo_afirstHas, .ref mo_asecondHas, .ref mo_alay, .ref mo_ashows, .ref mo_aimages, .ref mo_aisMade, .int mo_imageAt, .int mo_goesBack])), (mo_ais, hcI k 8 f16), (mo_ascalar, hcI k 8 (sc8 mo_s0 mo_s1 mo_s2 mo_s3 w15 mo_s5 mo_s6 mo_s7))]) H := hP
    have hD : va_D A ([(mo_astrandOf, hcI k 8 mo_rstrandOf), (mo_aweight, hcI k 8 mo_rweight), (mo_aheight, hcI k 8 mo_rheight), (mo_achairOf, hcI k 8 mo_rchairOf), (mo_acane, hcI k 4 w12), (mo_apast, hcI k 260 w14), (mo, .inr (7, [.int mo_thrown, .ref mo_ascalar, .ref mo_acane, .ref mo_ais, .ref mo_astrandOf, .ref mo_aweight, .ref mo_aheight, .ref mo_achairOf, .ref mo_anoteMinute, .ref mo_anoteWho, .ref mo_anoteIs, .ref mo_atoldCane, .ref mo_anewScalar, .ref mo_anewCane, .ref mo_anewHeight, .ref mo_anewStrand, .ref mo_anewChair, .ref mo_anewWeight, .int mo_taped, .int mo_p, .int mo_fault, .int mo_slot, .int mo_rules, .int mo_entries, .int mo_deep, .int mo_counted, .int mo_opened, .int mo_words, .ref mo_atape, .ref mo_asort, .ref mo_anumber, .ref mo_aclauses, .ref mo_asumAt, .ref mo_atestAt, .ref mo_aendAt, .ref mo_aopen, .ref mo_aasked, .ref mo_astack, .ref mo_amust, .ref mo_apast, .ref mo_apastOf, .int w9, .int w10, .int w11, .ref mo_acanRise, .ref mo_afirstHas, .ref mo_asecondHas, .ref mo_alay, .ref mo_ashows, .ref mo_aimages, .ref mo_aisMade, .int mo_imageAt, .int mo_goesBack])), (mo_ais, hcI k 8 f16), (mo_ascalar, hcI k 8 (sc8 mo_s0 mo_s1 mo_s2 mo_s3 w15 mo_s5 mo_s6 mo_s7))]) := hD
    have br23 := hw
    have br23 : iv (0) (16) r23 := br23
    have br23_l := br23.1
    have br23_u := br23.2
    exact hc_end hx hb hr hlocks (w9, w10, w11, w12, f16, w14, w15) ⟨⟨by omega, by omega⟩, (show iv (0) (20) w9 from ⟨by omega, by omega⟩), (show iv (0) (260) w10 from ⟨by omega, by omega⟩), (show iv (0) (1) w11 from ⟨by omega, by omega⟩)⟩ (hP.sub [6, 4, 7, 0, 1, 2, 3, 5, 8] rfl) (hD.sub [6, 4, 7, 0, 1, 2, 3, 5, 8] (by decide) rfl) hS dX9_help_30
  · have fc6 := cx_ne_f (a := r3.toInt) (b := 0) rfl (by decide) c6
    refine lv_iconst (v := (-1)) hx hb dX9_help_9 (by decide) ?_
    exact hc_end hx hb hr hlocks (mo_pastMany, mo_pastAt, mo_takesBack, mo_rcane, mo_ris, mo_rpast, mo_s4) ⟨iv_lit (by decide) (by decide), (show iv (0) (20) mo_pastMany from ⟨by omega, by omega⟩), (show iv (0) (260) mo_pastAt from ⟨by omega, by omega⟩), (show iv (0) (1) mo_takesBack from ⟨by omega, by omega⟩)⟩ (hP.sub [6, 0, 7, 1, 2, 3, 4, 5, 8] rfl) (hD.sub [6, 0, 7, 1, 2, 3, 4, 5, 8] (by decide) rfl) hS dX9_help_10
set_option maxHeartbeats 4000000 in
set_option maxRecDepth 100000 in
theorem i_X9_let (l : Launch) (D : va_G) (k : Nat → ClassId) (sz : Nat) (x1 : Int32) (x2 : Int32) (mo : Nat) (mo_thrown : Int32) (mo_ascalar : Nat) (mo_acane : Nat) (mo_ais : Nat) (mo_astrandOf : Nat) (mo_aweight : Nat) (mo_aheight : Nat) (mo_achairOf : Nat) (mo_anoteMinute : Nat) (mo_anoteWho : Nat) (mo_anoteIs : Nat) (mo_atoldCane : Nat) (mo_anewScalar : Nat) (mo_anewCane : Nat) (mo_anewHeight : Nat) (mo_anewStrand : Nat) (mo_anewChair : Nat) (mo_anewWeight : Nat) (mo_taped : Int32) (mo_p : Int32) (mo_fault : Int32) (mo_slot : Int32) (mo_rules : Int32) (mo_entries : Int32) (mo_deep : Int32) (mo_counted : Int32) (mo_opened : Int32) (mo_words : Int32) (mo_atape : Nat) (mo_asort : Nat) (mo_anumber : Nat) (mo_aclauses : Nat) (mo_asumAt : Nat) (mo_atestAt : Nat) (mo_aendAt : Nat) (mo_aopen : Nat) (mo_aasked : Nat) (mo_astack : Nat) (mo_amust : Nat) (mo_apast : Nat) (mo_apastOf : Nat) (mo_pastMany : Int32) (mo_pastAt : Int32) (mo_takesBack : Int32) (mo_acanRise : Nat) (mo_afirstHas : Nat) (mo_asecondHas : Nat) (mo_alay : Nat) (mo_ashows : Nat) (mo_aimages : Nat) (mo_aisMade : Nat) (mo_imageAt : Int32) (mo_goesBack : Int32) (mo_rcane : Nat → Int32) (mo_ris : Nat → Int32) (mo_rstrandOf : Nat → Int32) (mo_rweight : Nat → Int32) (mo_rheight : Nat → Int32) (mo_rchairOf : Nat → Int32) (mo_rpast : Nat → Int32) (mo_s0 : Int32) (mo_s1 : Int32) (mo_s2 : Int32) (mo_s3 : Int32) (mo_s4 : Int32) (mo_s5 : Int32) (mo_s6 : Int32) (mo_s7 : Int32) (h_mo_taped : iv (0) (400) mo_taped) (h_mo_p : iv (0) (402) mo_p) (h_mo_fault : iv (0) (4000) mo_fault) (h_mo_slot : iv (0) (5) mo_slot) (h_mo_rules : iv (0) (6) mo_rules) (h_mo_entries : iv (0) (300) mo_entries) (h_mo_counted : iv (0) (70) mo_counted) (h_mo_opened : iv (0) (402) mo_opened) (h_mo_words : iv (11) (11) mo_words) (h_mo_pastMany : iv (0) (20) mo_pastMany) (h_mo_pastAt : iv (0) (260) mo_pastAt) (h_mo_takesBack : iv (0) (1) mo_takesBack) (h_mo_imageAt : iv (0) (2000) mo_imageAt) (h_mo_goesBack : iv (0) (1) mo_goesBack) (h_mo_rweight : rowIn (0) (20) mo_rweight) (h_mo_rchairOf : rowIn (0) (7) mo_rchairOf) (h_mo_s1 : iv (0) (4) mo_s1) (h_mo_s2 : iv (0) (8) mo_s2) (h_mo_s3 : iv (0) (8) mo_s3) (h_mo_s5 : iv (0) (10) mo_s5) (h_mo_s7 : iv (-1) (5) mo_s7) (hh_HallOk : HallOk mo_s2 mo_s3 mo_rstrandOf mo_rchairOf mo_rweight) : CtI l yX9_let wsX9_let (rmK 6 0 0) [.ref mo, .int x1, .int x2] D k sz ([(mo, .inr (7, [.int mo_thrown, .ref mo_ascalar, .ref mo_acane, .ref mo_ais, .ref mo_astrandOf, .ref mo_aweight, .ref mo_aheight, .ref mo_achairOf, .ref mo_anoteMinute, .ref mo_anoteWho, .ref mo_anoteIs, .ref mo_atoldCane, .ref mo_anewScalar, .ref mo_anewCane, .ref mo_anewHeight, .ref mo_anewStrand, .ref mo_anewChair, .ref mo_anewWeight, .int mo_taped, .int mo_p, .int mo_fault, .int mo_slot, .int mo_rules, .int mo_entries, .int mo_deep, .int mo_counted, .int mo_opened, .int mo_words, .ref mo_atape, .ref mo_asort, .ref mo_anumber, .ref mo_aclauses, .ref mo_asumAt, .ref mo_atestAt, .ref mo_aendAt, .ref mo_aopen, .ref mo_aasked, .ref mo_astack, .ref mo_amust, .ref mo_apast, .ref mo_apastOf, .int mo_pastMany, .int mo_pastAt, .int mo_takesBack, .ref mo_acanRise, .ref mo_afirstHas, .ref mo_asecondHas, .ref mo_alay, .ref mo_ashows, .ref mo_aimages, .ref mo_aisMade, .int mo_imageAt, .int mo_goesBack])), (mo_acane, hcI k 4 mo_rcane), (mo_ais, hcI k 8 mo_ris), (mo_astrandOf, hcI k 8 mo_rstrandOf), (mo_aweight, hcI k 8 mo_rweight), (mo_aheight, hcI k 8 mo_rheight), (mo_achairOf, hcI k 8 mo_rchairOf), (mo_apast, hcI k 260 mo_rpast), (mo_ascalar, hcI k 8 (sc8 mo_s0 mo_s1 mo_s2 mo_s3 mo_s4 mo_s5 mo_s6 mo_s7))]) (fun (r : Int32) (u : (Int32) × (Int32) × (Int32) × (Nat → Int32) × (Nat → Int32) × (Nat → Int32) × (Int32)) => iv (0) (20) (u.1) ∧ iv (0) (260) (u.2.1) ∧ iv (0) (1) (u.2.2.1)) (fun u : (Int32) × (Int32) × (Int32) × (Nat → Int32) × (Nat → Int32) × (Nat → Int32) × (Int32) => [(mo, .inr (7, [.int mo_thrown, .ref mo_ascalar, .ref mo_acane, .ref mo_ais, .ref mo_astrandOf, .ref mo_aweight, .ref mo_aheight, .ref mo_achairOf, .ref mo_anoteMinute, .ref mo_anoteWho, .ref mo_anoteIs, .ref mo_atoldCane, .ref mo_anewScalar, .ref mo_anewCane, .ref mo_anewHeight, .ref mo_anewStrand, .ref mo_anewChair, .ref mo_anewWeight, .int mo_taped, .int mo_p, .int mo_fault, .int mo_slot, .int mo_rules, .int mo_entries, .int mo_deep, .int mo_counted, .int mo_opened, .int mo_words, .ref mo_atape, .ref mo_asort, .ref mo_anumber, .ref mo_aclauses, .ref mo_asumAt, .ref mo_atestAt, .ref mo_aendAt, .ref mo_aopen, .ref mo_aasked, .ref mo_astack, .ref mo_amust, .ref mo_apast, .ref mo_apastOf, .int (u.1), .int (u.2.1), .int (u.2.2.1), .ref mo_acanRise, .ref mo_afirstHas, .ref mo_asecondHas, .ref mo_alay, .ref mo_ashows, .ref mo_aimages, .ref mo_aisMade, .int mo_imageAt, .int mo_goesBack])), (mo_acane, hcI k 4 (u.2.2.2.1)), (mo_ais, hcI k 8 (u.2.2.2.2.1)), (mo_astrandOf, hcI k 8 mo_rstrandOf), (mo_aweight, hcI k 8 mo_rweight), (mo_aheight, hcI k 8 mo_rheight), (mo_achairOf, hcI k 8 mo_rchairOf), (mo_apast, hcI k 260 (u.2.2.2.2.2.1)), (mo_ascalar, hcI k 8 (sc8 mo_s0 mo_s1 mo_s2 mo_s3 (u.2.2.2.2.2.2) mo_s5 mo_s6 mo_s7))]) 0 0 := by
  have h_mo_taped_l := h_mo_taped.1
  have h_mo_taped_u := h_mo_taped.2
  have h_mo_p_l := h_mo_p.1
  have h_mo_p_u := h_mo_p.2
  have h_mo_fault_l := h_mo_fault.1
  have h_mo_fault_u := h_mo_fault.2
  have h_mo_slot_l := h_mo_slot.1
  have h_mo_slot_u := h_mo_slot.2
  have h_mo_rules_l := h_mo_rules.1
  have h_mo_rules_u := h_mo_rules.2
  have h_mo_entries_l := h_mo_entries.1
  have h_mo_entries_u := h_mo_entries.2
  have h_mo_counted_l := h_mo_counted.1
  have h_mo_counted_u := h_mo_counted.2
  have h_mo_opened_l := h_mo_opened.1
  have h_mo_opened_u := h_mo_opened.2
  have h_mo_words_l := h_mo_words.1
  have h_mo_words_u := h_mo_words.2
  have h_mo_pastMany_l := h_mo_pastMany.1
  have h_mo_pastMany_u := h_mo_pastMany.2
  have h_mo_pastAt_l := h_mo_pastAt.1
  have h_mo_pastAt_u := h_mo_pastAt.2
  have h_mo_takesBack_l := h_mo_takesBack.1
  have h_mo_takesBack_u := h_mo_takesBack.2
  have h_mo_imageAt_l := h_mo_imageAt.1
  have h_mo_imageAt_u := h_mo_imageAt.2
  have h_mo_goesBack_l := h_mo_goesBack.1
  have h_mo_goesBack_u := h_mo_goesBack.2
  have h_mo_s1_l := h_mo_s1.1
  have h_mo_s1_u := h_mo_s1.2
  have h_mo_s2_l := h_mo_s2.1
  have h_mo_s2_u := h_mo_s2.2
  have h_mo_s3_l := h_mo_s3.1
  have h_mo_s3_u := h_mo_s3.2
  have h_mo_s5_l := h_mo_s5.1
  have h_mo_s5_u := h_mo_s5.2
  have h_mo_s7_l := h_mo_s7.1
  have h_mo_s7_u := h_mo_s7.2
  refine CtI.mk (cc := cX9_let) (maxL := 3) (ret := (some .int)) (by decide) rfl (Nat.le_of_ble_eq_true rfl) ?_
  intro p e s m below meth c A ls E hP hD hS hl
  obtain ⟨hx, hb, hr, hml, hown, hts, hlocks, hin, hG, hA⟩ := E
  have hown : s.vm.findClass RX9 = some m.cls := hown
  have in9 : ∀ w ∈ u_ws RX9 TX9 53, w ∈ wsX9_let := fun _ h => List.mem_cons_of_mem _ (List.mem_append_right _ h)
  have hl : lv_has ls 3 [(0, .ref mo), (1, .int x1), (2, .int x2)] := hl
  refine lv_aload_n hx hb dX9_let_0 rfl (lv_at hl 0 rfl) ?_
  refine lv_iload_n hx hb dX9_let_1 rfl (lv_at hl 1 rfl) ?_
  refine hc_Vi (As := [.int x1]) (rest := []) (n := 1) (wr := [(mo_acane, hcI k 4 mo_rcane), (mo_ais, hcI k 8 mo_ris), (mo_astrandOf, hcI k 8 mo_rstrandOf), (mo_aweight, hcI k 8 mo_rweight), (mo_aheight, hcI k 8 mo_rheight), (mo_achairOf, hcI k 8 mo_rchairOf), (mo_apast, hcI k 260 mo_rpast)]) hx hb hml hown hts hG hA hP hD hS hl.1 [0, 8] [1, 2, 3, 4, 5, 6, 7] (i_X9_isStrand l D k _ x1 mo mo_thrown mo_ascalar mo_acane mo_ais mo_astrandOf mo_aweight mo_aheight mo_achairOf mo_anoteMinute mo_anoteWho mo_anoteIs mo_atoldCane mo_anewScalar mo_anewCane mo_anewHeight mo_anewStrand mo_anewChair mo_anewWeight mo_taped mo_p mo_fault mo_slot mo_rules mo_entries mo_deep mo_counted mo_opened mo_words mo_atape mo_asort mo_anumber mo_aclauses mo_asumAt mo_atestAt mo_aendAt mo_aopen mo_aasked mo_astack mo_amust mo_apast mo_apastOf mo_pastMany mo_pastAt mo_takesBack mo_acanRise mo_afirstHas mo_asecondHas mo_alay mo_ashows mo_aimages mo_aisMade mo_imageAt mo_goesBack mo_s0 mo_s1 mo_s2 mo_s3 mo_s4 mo_s5 mo_s6 mo_s7 ⟨by omega, by omega⟩ ⟨by omega, by omega⟩ ⟨by omega, by omega⟩ ⟨by omega, by omega⟩ ⟨by omega, by omega⟩ ⟨by omega, by omega⟩ ⟨by omega, by omega⟩ ⟨by omega, by omega⟩ ⟨by omega, by omega⟩ ⟨by omega, by omega⟩ ⟨by omega, by omega⟩ ⟨by omega, by omega⟩ ⟨by omega, by omega⟩ ⟨by omega, by omega⟩ ⟨by omega, by omega⟩ ⟨by omega, by omega⟩ ⟨by omega, by omega⟩ ⟨by omega, by omega⟩ ⟨by omega, by omega⟩) (ci := 7) (q0 := 0) rfl rfl gX9_let_X9_isStrand rfl ⟨rfl, rfl, Nat.le_of_ble_eq_true rfl, Nat.le_of_ble_eq_true rfl⟩ (by decide +kernel) rfl rfl ⟨by decide, by decide, by decide⟩ ⟨rfl, rfl, Nat.le_of_ble_eq_true rfl, Nat.le_of_ble_eq_true rfl, Nat.le_of_ble_eq_true rfl⟩ dX9_let_2 (fun r2 u1 H locs hw hP hD hS => ?_)
  have hP : va_P D vwCl ([(mo_acane, hcI k 4 mo_rcane), (mo_ais, hcI k 8 mo_ris), (mo_astrandOf, hcI k 8 mo_rstrandOf), (mo_aweight, hcI k 8 mo_rweight), (mo_aheight, hcI k 8 mo_rheight), (mo_achairOf, hcI k 8 mo_rchairOf), (mo_apast, hcI k 260 mo_rpast), (mo, .inr (7, [.int mo_thrown, .ref mo_ascalar, .ref mo_acane, .ref mo_ais, .ref mo_astrandOf, .ref mo_aweight, .ref mo_aheight, .ref mo_achairOf, .ref mo_anoteMinute, .ref mo_anoteWho, .ref mo_anoteIs, .ref mo_atoldCane, .ref mo_anewScalar, .ref mo_anewCane, .ref mo_anewHeight, .ref mo_anewStrand, .ref mo_anewChair, .ref mo_anewWeight, .int mo_taped, .int mo_p, .int mo_fault, .int mo_slot, .int mo_rules, .int mo_entries, .int mo_deep, .int mo_counted, .int mo_opened, .int mo_words, .ref mo_atape, .ref mo_asort, .ref mo_anumber, .ref mo_aclauses, .ref mo_asumAt, .ref mo_atestAt, .ref mo_aendAt, .ref mo_aopen, .ref mo_aasked, .ref mo_astack, .ref mo_amust, .ref mo_apast, .ref mo_apastOf, .int mo_pastMany, .int mo_pastAt, .int mo_takesBack, .ref mo_acanRise, .ref mo_afirstHas, .ref mo_asecondHas, .ref mo_alay, .ref mo_ashows, .ref mo_aimages, .ref mo_aisMade, .int mo_imageAt, .int mo_goesBack])), (mo_ascalar, hcI k 8 (sc8 mo_s0 mo_s1 mo_s2 mo_s3 mo_s4 mo_s5 mo_s6 mo_s7))]) H := hP
  have hD : va_D A ([(mo_acane, hcI k 4 mo_rcane), (mo_ais, hcI k 8 mo_ris), (mo_astrandOf, hcI k 8 mo_rstrandOf), (mo_aweight, hcI k 8 mo_rweight), (mo_aheight, hcI k 8 mo_rheight), (mo_achairOf, hcI k 8 mo_rchairOf), (mo_apast, hcI k 260 mo_rpast), (mo, .inr (7, [.int mo_thrown, .ref mo_ascalar, .ref mo_acane, .ref mo_ais, .ref mo_astrandOf, .ref mo_aweight, .ref mo_aheight, .ref mo_achairOf, .ref mo_anoteMinute, .ref mo_anoteWho, .ref mo_anoteIs, .ref mo_atoldCane, .ref mo_anewScalar, .ref mo_anewCane, .ref mo_anewHeight, .ref mo_anewStrand, .ref mo_anewChair, .ref mo_anewWeight, .int mo_taped, .int mo_p, .int mo_fault, .int mo_slot, .int mo_rules, .int mo_entries, .int mo_deep, .int mo_counted, .int mo_opened, .int mo_words, .ref mo_atape, .ref mo_asort, .ref mo_anumber, .ref mo_aclauses, .ref mo_asumAt, .ref mo_atestAt, .ref mo_aendAt, .ref mo_aopen, .ref mo_aasked, .ref mo_astack, .ref mo_amust, .ref mo_apast, .ref mo_apastOf, .int mo_pastMany, .int mo_pastAt, .int mo_takesBack, .ref mo_acanRise, .ref mo_afirstHas, .ref mo_asecondHas, .ref mo_alay, .ref mo_ashows, .ref mo_aimages, .ref mo_aisMade, .int mo_imageAt, .int mo_goesBack])), (mo_ascalar, hcI k 8 (sc8 mo_s0 mo_s1 mo_s2 mo_s3 mo_s4 mo_s5 mo_s6 mo_s7))]) := hD
  obtain ⟨br2, rel3⟩ := hw
  have br2 : iv (0) (1) r2 := br2
  have br2_l := br2.1
  have br2_u := br2.2
  refine lv_if_eq (tgt := 30) hx hb dX9_let_5 (by decide) (fun c4 => ?_) (fun c4 => ?_)
  · have fc4 := cx_eq_t (a := r2.toInt) (b := 0) rfl (by decide) c4
    refine lv_iconst (v := (-1)) hx hb dX9_let_30 (by decide) ?_
    exact hc_end hx hb hr hlocks (mo_pastMany, mo_pastAt, mo_takesBack, mo_rcane, mo_ris, mo_rpast, mo_s4) ⟨(show iv (0) (20) mo_pastMany from ⟨by omega, by omega⟩), (show iv (0) (260) mo_pastAt from ⟨by omega, by omega⟩), (show iv (0) (1) mo_takesBack from ⟨by omega, by omega⟩)⟩ (hP.sub [7, 0, 1, 2, 3, 4, 5, 6, 8] rfl) (hD.sub [7, 0, 1, 2, 3, 4, 5, 6, 8] (by decide) rfl) hS dX9_let_31
  · have fc4 := cx_eq_f (a := r2.toInt) (b := 0) rfl (by decide) c4
    refine lv_iload_n hx hb dX9_let_8 rfl (lv_at hl 2 rfl) ?_
    refine lv_i2l hx hb dX9_let_9 rfl ?_
    refine lv_topl (fun y5 ey5 => ?_)
    have ty5 : y5.toInt = x2.toInt := ai_i2l rfl ey5
    refine lv_lconst (v := 0) hx hb dX9_let_10 (by decide) ?_
    refine lv_ldc2 (v := 99) hx hb hown (hts (.constantLong RX9 413 (99)) (by decide +kernel)) dX9_let_11 ?_
    have ql6 : (0 : Int64).toInt = 0 := by decide
    have ql7 : (99 : Int64).toInt = 99 := by decide
    refine hc_Si (As := [.long y5, .long 0, .long 99]) (rest := []) (n := 3) (wr := [(mo_acane, hcI k 4 mo_rcane), (mo_ais, hcI k 8 mo_ris), (mo_astrandOf, hcI k 8 mo_rstrandOf), (mo_aweight, hcI k 8 mo_rweight), (mo_aheight, hcI k 8 mo_rheight), (mo_achairOf, hcI k 8 mo_rchairOf), (mo_apast, hcI k 260 mo_rpast), (mo, .inr (7, [.int mo_thrown, .ref mo_ascalar, .ref mo_acane, .ref mo_ais, .ref mo_astrandOf, .ref mo_aweight, .ref mo_aheight, .ref mo_achairOf, .ref mo_anoteMinute, .ref mo_anoteWho, .ref mo_anoteIs, .ref mo_atoldCane, .ref mo_anewScalar, .ref mo_anewCane, .ref mo_anewHeight, .ref mo_anewStrand, .ref mo_anewChair, .ref mo_anewWeight, .int mo_taped, .int mo_p, .int mo_fault, .int mo_slot, .int mo_rules, .int mo_entries, .int mo_deep, .int mo_counted, .int mo_opened, .int mo_words, .ref mo_atape, .ref mo_asort, .ref mo_anumber, .ref mo_aclauses, .ref mo_asumAt, .ref mo_atestAt, .ref mo_aendAt, .ref mo_aopen, .ref mo_aasked, .ref mo_astack, .ref mo_amust, .ref mo_apast, .ref mo_apastOf, .int mo_pastMany, .int mo_pastAt, .int mo_takesBack, .ref mo_acanRise, .ref mo_afirstHas, .ref mo_asecondHas, .ref mo_alay, .ref mo_ashows, .ref mo_aimages, .ref mo_aisMade, .int mo_imageAt, .int mo_goesBack])), (mo_ascalar, hcI k 8 (sc8 mo_s0 mo_s1 mo_s2 mo_s3 mo_s4 mo_s5 mo_s6 mo_s7))]) hx hb hml hown hts hG hA hP hD hS hl.1 [] [0, 1, 2, 3, 4, 5, 6, 7, 8] (i_X9_in l D k _ y5 0 99 ) gX9_let_X9_in rfl ⟨rfl, rfl, Nat.le_of_ble_eq_true rfl, Nat.le_of_ble_eq_true rfl⟩ (by decide +kernel) rfl rfl ⟨by decide, by decide, by decide⟩ ⟨rfl, rfl, Nat.le_of_ble_eq_true rfl, Nat.le_of_ble_eq_true rfl, Nat.le_of_ble_eq_true rfl⟩ dX9_let_14 (fun r9 u8 H locs hw hP hD hS => ?_)
    have hP : va_P D vwCl ([(mo_acane, hcI k 4 mo_rcane), (mo_ais, hcI k 8 mo_ris), (mo_astrandOf, hcI k 8 mo_rstrandOf), (mo_aweight, hcI k 8 mo_rweight), (mo_aheight, hcI k 8 mo_rheight), (mo_achairOf, hcI k 8 mo_rchairOf), (mo_apast, hcI k 260 mo_rpast), (mo, .inr (7, [.int mo_thrown, .ref mo_ascalar, .ref mo_acane, .ref mo_ais, .ref mo_astrandOf, .ref mo_aweight, .ref mo_aheight, .ref mo_achairOf, .ref mo_anoteMinute, .ref mo_anoteWho, .ref mo_anoteIs, .ref mo_atoldCane, .ref mo_anewScalar, .ref mo_anewCane, .ref mo_anewHeight, .ref mo_anewStrand, .ref mo_anewChair, .ref mo_anewWeight, .int mo_taped, .int mo_p, .int mo_fault, .int mo_slot, .int mo_rules, .int mo_entries, .int mo_deep, .int mo_counted, .int mo_opened, .int mo_words, .ref mo_atape, .ref mo_asort, .ref mo_anumber, .ref mo_aclauses, .ref mo_asumAt, .ref mo_atestAt, .ref mo_aendAt, .ref mo_aopen, .ref mo_aasked, .ref mo_astack, .ref mo_amust, .ref mo_apast, .ref mo_apastOf, .int mo_pastMany, .int mo_pastAt, .int mo_takesBack, .ref mo_acanRise, .ref mo_afirstHas, .ref mo_asecondHas, .ref mo_alay, .ref mo_ashows, .ref mo_aimages, .ref mo_aisMade, .int mo_imageAt, .int mo_goesBack])), (mo_ascalar, hcI k 8 (sc8 mo_s0 mo_s1 mo_s2 mo_s3 mo_s4 mo_s5 mo_s6 mo_s7))]) H := hP
    have hD : va_D A ([(mo_acane, hcI k 4 mo_rcane), (mo_ais, hcI k 8 mo_ris), (mo_astrandOf, hcI k 8 mo_rstrandOf), (mo_aweight, hcI k 8 mo_rweight), (mo_aheight, hcI k 8 mo_rheight), (mo_achairOf, hcI k 8 mo_rchairOf), (mo_apast, hcI k 260 mo_rpast), (mo, .inr (7, [.int mo_thrown, .ref mo_ascalar, .ref mo_acane, .ref mo_ais, .ref mo_astrandOf, .ref mo_aweight, .ref mo_aheight, .ref mo_achairOf, .ref mo_anoteMinute, .ref mo_anoteWho, .ref mo_anoteIs, .ref mo_atoldCane, .ref mo_anewScalar, .ref mo_anewCane, .ref mo_anewHeight, .ref mo_anewStrand, .ref mo_anewChair, .ref mo_anewWeight, .int mo_taped, .int mo_p, .int mo_fault, .int mo_slot, .int mo_rules, .int mo_entries, .int mo_deep, .int mo_counted, .int mo_opened, .int mo_words, .ref mo_atape, .ref mo_asort, .ref mo_anumber, .ref mo_aclauses, .ref mo_asumAt, .ref mo_atestAt, .ref mo_aendAt, .ref mo_aopen, .ref mo_aasked, .ref mo_astack, .ref mo_amust, .ref mo_apast, .ref mo_apastOf, .int mo_pastMany, .int mo_pastAt, .int mo_takesBack, .ref mo_acanRise, .ref mo_afirstHas, .ref mo_asecondHas, .ref mo_alay, .ref mo_ashows, .ref mo_aimages, .ref mo_aisMade, .int mo_imageAt, .int mo_goesBack])), (mo_ascalar, hcI k 8 (sc8 mo_s0 mo_s1 mo_s2 mo_s3 mo_s4 mo_s5 mo_s6 mo_s7))]) := hD
    obtain ⟨br9, rel10⟩ := hw
    have br9 : iv (0) (1) r9 := br9
    have br9_l := br9.1
    have br9_u := br9.2
    refine lv_if_eq (tgt := 30) hx hb dX9_let_17 (by decide) (fun c11 => ?_) (fun c11 => ?_)
    · have fc11 := cx_eq_t (a := r9.toInt) (b := 0) rfl (by decide) c11
      refine lv_iconst (v := (-1)) hx hb dX9_let_30 (by decide) ?_
      exact hc_end hx hb hr hlocks (mo_pastMany, mo_pastAt, mo_takesBack, mo_rcane, mo_ris, mo_rpast, mo_s4) ⟨(show iv (0) (20) mo_pastMany from ⟨by omega, by omega⟩), (show iv (0) (260) mo_pastAt from ⟨by omega, by omega⟩), (show iv (0) (1) mo_takesBack from ⟨by omega, by omega⟩)⟩ (hP.sub [7, 0, 1, 2, 3, 4, 5, 6, 8] rfl) (hD.sub [7, 0, 1, 2, 3, 4, 5, 6, 8] (by decide) rfl) hS dX9_let_31
    · have fc11 := cx_eq_f (a := r9.toInt) (b := 0) rfl (by decide) c11
      refine lv_aload_n hx hb dX9_let_20 rfl (lv_at hl 0 rfl) ?_
      refine va_get (D := D) (ci := 7) (v := .ref mo_acane) (C := RX9) (T := TX9) (N := 53) hx hb hts in9 hown hG.1 hP 7 rfl rfl 2 (by decide) (hts (.fieldLink RX9 13 "ChairCaneModel" "cane" "[I") (by decide +kernel)) (fun _ h9 => h9) rfl dX9_let_21 ?_
      refine lv_iload_n hx hb dX9_let_24 rfl (lv_at hl 1 rfl) ?_
      refine va_iald hx hb hG.1 hP 0 0 rfl rfl (vp_in_iff.mpr ⟨by omega, by omega⟩) dX9_let_25 ?_
      refine lv_topi (fun z12 ez12 => ?_)
      refine lv_iload_n hx hb dX9_let_26 rfl (lv_at hl 2 rfl) ?_
      refine lv_icmp_ne (tgt := 32) hx hb dX9_let_27 (by decide) (fun c13 => ?_) (fun c13 => ?_)
      · have fc13 := cx_ne_t (a := z12.toInt) (b := x2.toInt) rfl rfl c13
        refine lv_aload_n hx hb dX9_let_32 rfl (lv_at hl 0 rfl) ?_
        refine hc_Vv (As := []) (rest := []) (n := 0) (wr := [(mo_astrandOf, hcI k 8 mo_rstrandOf), (mo_aweight, hcI k 8 mo_rweight), (mo_aheight, hcI k 8 mo_rheight), (mo_achairOf, hcI k 8 mo_rchairOf)]) hx hb hml hown hts hG hA hP hD hS hl.1 [7, 0, 1, 6, 8] [2, 3, 4, 5] (i_X9_keepsAct l D k _ mo mo_thrown mo_ascalar mo_acane mo_ais mo_astrandOf mo_aweight mo_aheight mo_achairOf mo_anoteMinute mo_anoteWho mo_anoteIs mo_atoldCane mo_anewScalar mo_anewCane mo_anewHeight mo_anewStrand mo_anewChair mo_anewWeight mo_taped mo_p mo_fault mo_slot mo_rules mo_entries mo_deep mo_counted mo_opened mo_words mo_atape mo_asort mo_anumber mo_aclauses mo_asumAt mo_atestAt mo_aendAt mo_aopen mo_aasked mo_astack mo_amust mo_apast mo_apastOf mo_pastMany mo_pastAt mo_takesBack mo_acanRise mo_afirstHas mo_asecondHas mo_alay mo_ashows mo_aimages mo_aisMade mo_imageAt mo_goesBack mo_rcane mo_ris mo_rpast mo_s0 mo_s1 mo_s2 mo_s3 mo_s4 mo_s5 mo_s6 mo_s7 ⟨by omega, by omega⟩ ⟨by omega, by omega⟩ ⟨by omega, by omega⟩ ⟨by omega, by omega⟩ ⟨by omega, by omega⟩ ⟨by omega, by omega⟩ ⟨by omega, by omega⟩ ⟨by omega, by omega⟩ ⟨by omega, by omega⟩ ⟨by omega, by omega⟩ ⟨by omega, by omega⟩ ⟨by omega, by omega⟩ ⟨by omega, by omega⟩ ⟨by omega, by omega⟩ ⟨by omega, by omega⟩ ⟨by omega, by omega⟩ ⟨by omega, by omega⟩ ⟨by omega, by omega⟩ ⟨by omega, by omega⟩) (ci := 7) (q0 := 7) rfl rfl gX9_let_X9_keepsAct rfl ⟨rfl, rfl, Nat.le_of_ble_eq_true rfl, Nat.le_of_ble_eq_true rfl⟩ (by decide +kernel) rfl rfl ⟨by decide, by decide, by decide⟩ ⟨rfl, rfl, Nat.le_of_ble_eq_true rfl, Nat.le_of_ble_eq_true rfl, Nat.le_of_ble_eq_true rfl⟩ dX9_let_33 (fun u14 H locs hw hP hD hS => ?_)
        obtain ⟨w16, w17, w18, w19, w20, w21, w22⟩ := u14
        have hP : va_P D vwCl ([(mo_astrandOf, hcI k 8 mo_rstrandOf), (mo_aweight, hcI k 8 mo_rweight), (mo_aheight, hcI k 8 mo_rheight), (mo_achairOf, hcI k 8 mo_rchairOf), (mo, .inr (7, [.int mo_thrown, .ref mo_ascalar, .ref mo_acane, .ref mo_ais, .ref mo_astrandOf, .ref mo_aweight, .ref mo_aheight, .ref mo_achairOf, .ref mo_anoteMinute, .ref mo_anoteWho, .ref mo_anoteIs, .ref mo_atoldCane, .ref mo_anewScalar, .ref mo_anewCane, .ref mo_anewHeight, .ref mo_anewStrand, .ref mo_anewChair, .ref mo_anewWeight, .int mo_taped, .int mo_p, .int mo_fault, .int mo_slot, .int mo_rules, .int mo_entries, .int mo_deep, .int mo_counted, .int mo_opened, .int mo_words, .ref mo_atape, .ref mo_asort, .ref mo_anumber, .ref mo_aclauses, .ref mo_asumAt, .ref mo_atestAt, .ref mo_aendAt, .ref mo_aopen, .ref mo_aasked, .ref mo_astack, .ref mo_amust, .ref mo_apast, .ref mo_apastOf, .int w16, .int w17, .int w18, .ref mo_acanRise, .ref mo_afirstHas, .ref mo_asecondHas, .ref mo_alay, .ref mo_ashows, .ref mo_aimages, .ref mo_aisMade, .int mo_imageAt, .int mo_goesBack])), (mo_acane, hcI k 4 w19), (mo_ais, hcI k 8 w20), (mo_apast, hcI k 260 w21), (mo_ascalar, hcI k 8 (sc8 mo_s0 mo_s1 mo_s2 mo_s3 w22 mo_s5 mo_s6 mo_s7))]) H := hP
        have hD : va_D A ([(mo_astrandOf, hcI k 8 mo_rstrandOf), (mo_aweight, hcI k 8 mo_rweight), (mo_aheight, hcI k 8 mo_rheight), (mo_achairOf, hcI k 8 mo_rchairOf), (mo, .inr (7, [.int mo_thrown, .ref mo_ascalar, .ref mo_acane, .ref mo_ais, .ref mo_astrandOf, .ref mo_aweight, .ref mo_aheight, .ref mo_achairOf, .ref mo_anoteMinute, .ref mo_anoteWho, .ref mo_anoteIs, .ref mo_atoldCane, .ref mo_anewScalar, .ref mo_anewCane, .ref mo_anewHeight, .ref mo_anewStrand, .ref mo_anewChair, .ref mo_anewWeight, .int mo_taped, .int mo_p, .int mo_fault, .int mo_slot, .int mo_rules, .int mo_entries, .int mo_deep, .int mo_counted, .int mo_opened, .int mo_words, .ref mo_atape, .ref mo_asort, .ref mo_anumber, .ref mo_aclauses, .ref mo_asumAt, .ref mo_atestAt, .ref mo_aendAt, .ref mo_aopen, .ref mo_aasked, .ref mo_astack, .ref mo_amust, .ref mo_apast, .ref mo_apastOf, .int w16, .int w17, .int w18, .ref mo_acanRise, .ref mo_afirstHas, .ref mo_asecondHas, .ref mo_alay, .ref mo_ashows, .ref mo_aimages, .ref mo_aisMade, .int mo_imageAt, .int mo_goesBack])), (mo_acane, hcI k 4 w19), (mo_ais, hcI k 8 w20), (mo_apast, hcI k 260 w21), (mo_ascalar, hcI k 8 (sc8 mo_s0 mo_s1 mo_s2 mo_s3 w22 mo_s5 mo_s6 mo_s7))]) := hD
        obtain ⟨bw16, bw17, bw18⟩ := hw
        have bw16 : iv (0) (20) w16 := bw16
        have bw16_l := bw16.1
        have bw16_u := bw16.2
        have bw17 : iv (0) (260) w17 := bw17
        have bw17_l := bw17.1
        have bw17_u := bw17.2
        have bw18 : iv (0) (1) w18 := bw18
        have bw18_l := bw18.1
        have bw18_u := bw18.2
        refine lv_aload_n hx hb dX9_let_36 rfl (lv_at hl 0 rfl) ?_
        refine va_get (D := D) (ci := 7) (v := .ref mo_acane) (C := RX9) (T := TX9) (N := 53) hx hb hts in9 hown hG.1 hP 4 rfl rfl 2 (by decide) (hts (.fieldLink RX9 13 "ChairCaneModel" "cane" "[I") (by decide +kernel)) (fun _ h9 => h9) rfl dX9_let_37 ?_
        refine lv_iload_n hx hb dX9_let_40 rfl (lv_at hl 1 rfl) ?_
        refine lv_iload_n hx hb dX9_let_41 rfl (lv_at hl 2 rfl) ?_
        refine va_iast hx hb hG.1 hP hD hS 5 0 rfl rfl (vp_in_iff.mpr ⟨by omega, by omega⟩) dX9_let_42 (fun H locs hP hD hS => ?_)
        obtain ⟨f23, ef23⟩ : ∃ f, f = upd w19 (Int32.toNatClampNeg x1) (x2) := ⟨_, rfl⟩
        rw [← ef23] at hP hD
        have hP : va_P D vwCl ([(mo_astrandOf, hcI k 8 mo_rstrandOf), (mo_aweight, hcI k 8 mo_rweight), (mo_aheight, hcI k 8 mo_rheight), (mo_achairOf, hcI k 8 mo_rchairOf), (mo, .inr (7, [.int mo_thrown, .ref mo_ascalar, .ref mo_acane, .ref mo_ais, .ref mo_astrandOf, .ref mo_aweight, .ref mo_aheight, .ref mo_achairOf, .ref mo_anoteMinute, .ref mo_anoteWho, .ref mo_anoteIs, .ref mo_atoldCane, .ref mo_anewScalar, .ref mo_anewCane, .ref mo_anewHeight, .ref mo_anewStrand, .ref mo_anewChair, .ref mo_anewWeight, .int mo_taped, .int mo_p, .int mo_fault, .int mo_slot, .int mo_rules, .int mo_entries, .int mo_deep, .int mo_counted, .int mo_opened, .int mo_words, .ref mo_atape, .ref mo_asort, .ref mo_anumber, .ref mo_aclauses, .ref mo_asumAt, .ref mo_atestAt, .ref mo_aendAt, .ref mo_aopen, .ref mo_aasked, .ref mo_astack, .ref mo_amust, .ref mo_apast, .ref mo_apastOf, .int w16, .int w17, .int w18, .ref mo_acanRise, .ref mo_afirstHas, .ref mo_asecondHas, .ref mo_alay, .ref mo_ashows, .ref mo_aimages, .ref mo_aisMade, .int mo_imageAt, .int mo_goesBack])), (mo_acane, hcI k 4 f23), (mo_ais, hcI k 8 w20), (mo_apast, hcI k 260 w21), (mo_ascalar, hcI k 8 (sc8 mo_s0 mo_s1 mo_s2 mo_s3 w22 mo_s5 mo_s6 mo_s7))]) H := hP
        have hD : va_D A ([(mo_astrandOf, hcI k 8 mo_rstrandOf), (mo_aweight, hcI k 8 mo_rweight), (mo_aheight, hcI k 8 mo_rheight), (mo_achairOf, hcI k 8 mo_rchairOf), (mo, .inr (7, [.int mo_thrown, .ref mo_ascalar, .ref mo_acane, .ref mo_ais, .ref mo_astrandOf, .ref mo_aweight, .ref mo_aheight, .ref mo_achairOf, .ref mo_anoteMinute, .ref mo_anoteWho, .ref mo_anoteIs, .ref mo_atoldCane, .ref mo_anewScalar, .ref mo_anewCane, .ref mo_anewHeight, .ref mo_anewStrand, .ref mo_anewChair, .ref mo_anewWeight, .int mo_taped, .int mo_p, .int mo_fault, .int mo_slot, .int mo_rules, .int mo_entries, .int mo_deep, .int mo_counted, .int mo_opened, .int mo_words, .ref mo_atape, .ref mo_asort, .ref mo_anumber, .ref mo_aclauses, .ref mo_asumAt, .ref mo_atestAt, .ref mo_aendAt, .ref mo_aopen, .ref mo_aasked, .ref mo_astack, .ref mo_amust, .ref mo_apast, .ref mo_apastOf, .int w16, .int w17, .int w18, .ref mo_acanRise, .ref mo_afirstHas, .ref mo_asecondHas, .ref mo_alay, .ref mo_ashows, .ref mo_aimages, .ref mo_aisMade, .int mo_imageAt, .int mo_goesBack])), (mo_acane, hcI k 4 f23), (mo_ais, hcI k 8 w20), (mo_apast, hcI k 260 w21), (mo_ascalar, hcI k 8 (sc8 mo_s0 mo_s1 mo_s2 mo_s3 w22 mo_s5 mo_s6 mo_s7))]) := hD
        refine lv_aload_n hx hb dX9_let_43 rfl (lv_at hl 0 rfl) ?_
        refine hc_Vi (As := []) (rest := []) (n := 0) (wr := [(mo_apast, hcI k 260 w21)]) hx hb hml hown hts hG hA hP hD hS hl.1 [4, 5, 6, 0, 1, 2, 3, 8] [7] (i_X9_settles l D k _ mo mo_thrown mo_ascalar mo_acane mo_ais mo_astrandOf mo_aweight mo_aheight mo_achairOf mo_anoteMinute mo_anoteWho mo_anoteIs mo_atoldCane mo_anewScalar mo_anewCane mo_anewHeight mo_anewStrand mo_anewChair mo_anewWeight mo_taped mo_p mo_fault mo_slot mo_rules mo_entries mo_deep mo_counted mo_opened mo_words mo_atape mo_asort mo_anumber mo_aclauses mo_asumAt mo_atestAt mo_aendAt mo_aopen mo_aasked mo_astack mo_amust mo_apast mo_apastOf w16 w17 w18 mo_acanRise mo_afirstHas mo_asecondHas mo_alay mo_ashows mo_aimages mo_aisMade mo_imageAt mo_goesBack f23 w20 mo_rstrandOf mo_rweight mo_rheight mo_rchairOf mo_s0 mo_s1 mo_s2 mo_s3 w22 mo_s5 mo_s6 mo_s7 ⟨by omega, by omega⟩ ⟨by omega, by omega⟩ ⟨by omega, by omega⟩ ⟨by omega, by omega⟩ ⟨by omega, by omega⟩ ⟨by omega, by omega⟩ ⟨by omega, by omega⟩ ⟨by omega, by omega⟩ ⟨by omega, by omega⟩ ⟨by omega, by omega⟩ ⟨by omega, by omega⟩ ⟨by omega, by omega⟩ ⟨by omega, by omega⟩ ⟨by omega, by omega⟩ h_mo_rweight h_mo_rchairOf ⟨by omega, by omega⟩ ⟨by omega, by omega⟩ ⟨by omega, by omega⟩ ⟨by omega, by omega⟩ ⟨by omega, by omega⟩ hh_HallOk) (ci := 7) (q0 := 4) rfl rfl gX9_let_X9_settles rfl ⟨rfl, rfl, Nat.le_of_ble_eq_true rfl, Nat.le_of_ble_eq_true rfl⟩ (by decide +kernel) rfl rfl ⟨by decide, by decide, by decide⟩ ⟨rfl, rfl, Nat.le_of_ble_eq_true rfl, Nat.le_of_ble_eq_true rfl, Nat.le_of_ble_eq_true rfl⟩ dX9_let_44 (fun r25 u24 H locs hw hP hD hS => ?_)
        obtain ⟨w26, rfl⟩ : ∃ z, z = u24 := ⟨_, rfl⟩
        have hP : va_P D vwCl ([(mo_apast, hcI k 260 w21), (mo, .inr (7, [.int mo_thrown, .ref mo_ascalar, .ref mo_acane, .ref mo_ais, .ref mo_astrandOf, .ref mo_aweight, .ref mo_aheight, .ref mo_achairOf, .ref mo_anoteMinute, .ref mo_anoteWho, .ref mo_anoteIs, .ref mo_atoldCane, .ref mo_anewScalar, .ref mo_anewCane, .ref mo_anewHeight, .ref mo_anewStrand, .ref mo_anewChair, .ref mo_anewWeight, .int mo_taped, .int mo_p, .int mo_fault, .int mo_slot, .int mo_rules, .int mo_entries, .int mo_deep, .int mo_counted, .int mo_opened, .int mo_words, .ref mo_atape, .ref mo_asort, .ref mo_anumber, .ref mo_aclauses, .ref mo_asumAt, .ref mo_atestAt, .ref mo_aendAt, .ref mo_aopen, .ref mo_aasked, .ref mo_astack, .ref mo_amust, .ref mo_apast, .ref mo_apastOf, .int w16, .int w17, .int w18, .ref mo_acanRise, .ref mo_afirstHas, .ref mo_asecondHas, .ref mo_alay, .ref mo_ashows, .ref mo_aimages, .ref mo_aisMade, .int mo_imageAt, .int mo_goesBack])), (mo_acane, hcI k 4 f23), (mo_ais, hcI k 8 w26), (mo_astrandOf, hcI k 8 mo_rstrandOf), (mo_aweight, hcI k 8 mo_rweight), (mo_aheight, hcI k 8 mo_rheight), (mo_achairOf, hcI k 8 mo_rchairOf), (mo_ascalar, hcI k 8 (sc8 mo_s0 mo_s1 mo_s2 mo_s3 w22 mo_s5 mo_s6 mo_s7))]) H := hP
        have hD : va_D A ([(mo_apast, hcI k 260 w21), (mo, .inr (7, [.int mo_thrown, .ref mo_ascalar, .ref mo_acane, .ref mo_ais, .ref mo_astrandOf, .ref mo_aweight, .ref mo_aheight, .ref mo_achairOf, .ref mo_anoteMinute, .ref mo_anoteWho, .ref mo_anoteIs, .ref mo_atoldCane, .ref mo_anewScalar, .ref mo_anewCane, .ref mo_anewHeight, .ref mo_anewStrand, .ref mo_anewChair, .ref mo_anewWeight, .int mo_taped, .int mo_p, .int mo_fault, .int mo_slot, .int mo_rules, .int mo_entries, .int mo_deep, .int mo_counted, .int mo_opened, .int mo_words, .ref mo_atape, .ref mo_asort, .ref mo_anumber, .ref mo_aclauses, .ref mo_asumAt, .ref mo_atestAt, .ref mo_aendAt, .ref mo_aopen, .ref mo_aasked, .ref mo_astack, .ref mo_amust, .ref mo_apast, .ref mo_apastOf, .int w16, .int w17, .int w18, .ref mo_acanRise, .ref mo_afirstHas, .ref mo_asecondHas, .ref mo_alay, .ref mo_ashows, .ref mo_aimages, .ref mo_aisMade, .int mo_imageAt, .int mo_goesBack])), (mo_acane, hcI k 4 f23), (mo_ais, hcI k 8 w26), (mo_astrandOf, hcI k 8 mo_rstrandOf), (mo_aweight, hcI k 8 mo_rweight), (mo_aheight, hcI k 8 mo_rheight), (mo_achairOf, hcI k 8 mo_rchairOf), (mo_ascalar, hcI k 8 (sc8 mo_s0 mo_s1 mo_s2 mo_s3 w22 mo_s5 mo_s6 mo_s7))]) := hD
        exact hc_end hx hb hr hlocks (w16, w17, w18, f23, w26, w21, w22) ⟨(show iv (0) (20) w16 from ⟨by omega, by omega⟩), (show iv (0) (260) w17 from ⟨by omega, by omega⟩), (show iv (0) (1) w18 from ⟨by omega, by omega⟩)⟩ (hP.sub [1, 2, 3, 4, 5, 6, 7, 0, 8] rfl) (hD.sub [1, 2, 3, 4, 5, 6, 7, 0, 8] (by decide) rfl) hS dX9_let_47
      · have fc13 := cx_ne_f (a := z12.toInt) (b := x2.toInt) rfl rfl c13
        refine lv_iconst (v := (-1)) hx hb dX9_let_30 (by decide) ?_
        exact hc_end hx hb hr hlocks (mo_pastMany, mo_pastAt, mo_takesBack, mo_rcane, mo_ris, mo_rpast, mo_s4) ⟨(show iv (0) (20) mo_pastMany from ⟨by omega, by omega⟩), (show iv (0) (260) mo_pastAt from ⟨by omega, by omega⟩), (show iv (0) (1) mo_takesBack from ⟨by omega, by omega⟩)⟩ (hP.sub [7, 0, 1, 2, 3, 4, 5, 6, 8] rfl) (hD.sub [7, 0, 1, 2, 3, 4, 5, 6, 8] (by decide) rfl) hS dX9_let_31
set_option maxHeartbeats 4000000 in
set_option maxRecDepth 100000 in
theorem i_X9_note (l : Launch) (D : va_G) (k : Nat → ClassId) (sz : Nat) (x1 : Int32) (x2 : Int32) (x3 : Int32) (mo : Nat) (mo_thrown : Int32) (mo_ascalar : Nat) (mo_acane : Nat) (mo_ais : Nat) (mo_astrandOf : Nat) (mo_aweight : Nat) (mo_aheight : Nat) (mo_achairOf : Nat) (mo_anoteMinute : Nat) (mo_anoteWho : Nat) (mo_anoteIs : Nat) (mo_atoldCane : Nat) (mo_anewScalar : Nat) (mo_anewCane : Nat) (mo_anewHeight : Nat) (mo_anewStrand : Nat) (mo_anewChair : Nat) (mo_anewWeight : Nat) (mo_taped : Int32) (mo_p : Int32) (mo_fault : Int32) (mo_slot : Int32) (mo_rules : Int32) (mo_entries : Int32) (mo_deep : Int32) (mo_counted : Int32) (mo_opened : Int32) (mo_words : Int32) (mo_atape : Nat) (mo_asort : Nat) (mo_anumber : Nat) (mo_aclauses : Nat) (mo_asumAt : Nat) (mo_atestAt : Nat) (mo_aendAt : Nat) (mo_aopen : Nat) (mo_aasked : Nat) (mo_astack : Nat) (mo_amust : Nat) (mo_apast : Nat) (mo_apastOf : Nat) (mo_pastMany : Int32) (mo_pastAt : Int32) (mo_takesBack : Int32) (mo_acanRise : Nat) (mo_afirstHas : Nat) (mo_asecondHas : Nat) (mo_alay : Nat) (mo_ashows : Nat) (mo_aimages : Nat) (mo_aisMade : Nat) (mo_imageAt : Int32) (mo_goesBack : Int32) (mo_rnoteMinute : Nat → Int32) (mo_rnoteWho : Nat → Int32) (mo_rnoteIs : Nat → Int32) (mo_s0 : Int32) (mo_s1 : Int32) (mo_s2 : Int32) (mo_s3 : Int32) (mo_s4 : Int32) (mo_s5 : Int32) (mo_s6 : Int32) (mo_s7 : Int32) (h_mo_taped : iv (0) (400) mo_taped) (h_mo_p : iv (0) (402) mo_p) (h_mo_fault : iv (0) (4000) mo_fault) (h_mo_slot : iv (0) (5) mo_slot) (h_mo_rules : iv (0) (6) mo_rules) (h_mo_entries : iv (0) (300) mo_entries) (h_mo_counted : iv (0) (70) mo_counted) (h_mo_opened : iv (0) (402) mo_opened) (h_mo_words : iv (11) (11) mo_words) (h_mo_pastMany : iv (0) (20) mo_pastMany) (h_mo_pastAt : iv (0) (260) mo_pastAt) (h_mo_takesBack : iv (0) (1) mo_takesBack) (h_mo_imageAt : iv (0) (2000) mo_imageAt) (h_mo_goesBack : iv (0) (1) mo_goesBack) (h_mo_rnoteMinute : rowIn (0) (60) mo_rnoteMinute) (h_mo_rnoteWho : rowIn (0) (7) mo_rnoteWho) (h_mo_s1 : iv (0) (4) mo_s1) (h_mo_s2 : iv (0) (8) mo_s2) (h_mo_s3 : iv (0) (8) mo_s3) (h_mo_s5 : iv (0) (10) mo_s5) (h_mo_s7 : iv (-1) (5) mo_s7) : CtI l yX9_note wsX9_note (rmK 3 0 0) [.ref mo, .int x1, .int x2, .int x3] D k sz ([(mo, .inr (7, [.int mo_thrown, .ref mo_ascalar, .ref mo_acane, .ref mo_ais, .ref mo_astrandOf, .ref mo_aweight, .ref mo_aheight, .ref mo_achairOf, .ref mo_anoteMinute, .ref mo_anoteWho, .ref mo_anoteIs, .ref mo_atoldCane, .ref mo_anewScalar, .ref mo_anewCane, .ref mo_anewHeight, .ref mo_anewStrand, .ref mo_anewChair, .ref mo_anewWeight, .int mo_taped, .int mo_p, .int mo_fault, .int mo_slot, .int mo_rules, .int mo_entries, .int mo_deep, .int mo_counted, .int mo_opened, .int mo_words, .ref mo_atape, .ref mo_asort, .ref mo_anumber, .ref mo_aclauses, .ref mo_asumAt, .ref mo_atestAt, .ref mo_aendAt, .ref mo_aopen, .ref mo_aasked, .ref mo_astack, .ref mo_amust, .ref mo_apast, .ref mo_apastOf, .int mo_pastMany, .int mo_pastAt, .int mo_takesBack, .ref mo_acanRise, .ref mo_afirstHas, .ref mo_asecondHas, .ref mo_alay, .ref mo_ashows, .ref mo_aimages, .ref mo_aisMade, .int mo_imageAt, .int mo_goesBack])), (mo_anoteMinute, hcI k 10 mo_rnoteMinute), (mo_anoteWho, hcI k 10 mo_rnoteWho), (mo_anoteIs, hcI k 10 mo_rnoteIs), (mo_ascalar, hcI k 8 (sc8 mo_s0 mo_s1 mo_s2 mo_s3 mo_s4 mo_s5 mo_s6 mo_s7))]) (fun (r : Int32) (u : (Nat → Int32) × (Nat → Int32) × (Nat → Int32) × (Int32)) => iv (-2) (11) r ∧ rowIn (0) (60) (u.1) ∧ rowIn (0) (7) (u.2.1) ∧ iv (0) (10) (u.2.2.2)) (fun u : (Nat → Int32) × (Nat → Int32) × (Nat → Int32) × (Int32) => [(mo, .inr (7, [.int mo_thrown, .ref mo_ascalar, .ref mo_acane, .ref mo_ais, .ref mo_astrandOf, .ref mo_aweight, .ref mo_aheight, .ref mo_achairOf, .ref mo_anoteMinute, .ref mo_anoteWho, .ref mo_anoteIs, .ref mo_atoldCane, .ref mo_anewScalar, .ref mo_anewCane, .ref mo_anewHeight, .ref mo_anewStrand, .ref mo_anewChair, .ref mo_anewWeight, .int mo_taped, .int mo_p, .int mo_fault, .int mo_slot, .int mo_rules, .int mo_entries, .int mo_deep, .int mo_counted, .int mo_opened, .int mo_words, .ref mo_atape, .ref mo_asort, .ref mo_anumber, .ref mo_aclauses, .ref mo_asumAt, .ref mo_atestAt, .ref mo_aendAt, .ref mo_aopen, .ref mo_aasked, .ref mo_astack, .ref mo_amust, .ref mo_apast, .ref mo_apastOf, .int mo_pastMany, .int mo_pastAt, .int mo_takesBack, .ref mo_acanRise, .ref mo_afirstHas, .ref mo_asecondHas, .ref mo_alay, .ref mo_ashows, .ref mo_aimages, .ref mo_aisMade, .int mo_imageAt, .int mo_goesBack])), (mo_anoteMinute, hcI k 10 (u.1)), (mo_anoteWho, hcI k 10 (u.2.1)), (mo_anoteIs, hcI k 10 (u.2.2.1)), (mo_ascalar, hcI k 8 (sc8 mo_s0 mo_s1 mo_s2 mo_s3 mo_s4 (u.2.2.2) mo_s6 mo_s7))]) 0 0 := by
  have h_mo_taped_l := h_mo_taped.1
  have h_mo_taped_u := h_mo_taped.2
  have h_mo_p_l := h_mo_p.1
  have h_mo_p_u := h_mo_p.2
  have h_mo_fault_l := h_mo_fault.1
  have h_mo_fault_u := h_mo_fault.2
  have h_mo_slot_l := h_mo_slot.1
  have h_mo_slot_u := h_mo_slot.2
  have h_mo_rules_l := h_mo_rules.1
  have h_mo_rules_u := h_mo_rules.2
  have h_mo_entries_l := h_mo_entries.1
  have h_mo_entries_u := h_mo_entries.2
  have h_mo_counted_l := h_mo_counted.1
  have h_mo_counted_u := h_mo_counted.2
  have h_mo_opened_l := h_mo_opened.1
  have h_mo_opened_u := h_mo_opened.2
  have h_mo_words_l := h_mo_words.1
  have h_mo_words_u := h_mo_words.2
  have h_mo_pastMany_l := h_mo_pastMany.1
  have h_mo_pastMany_u := h_mo_pastMany.2
  have h_mo_pastAt_l := h_mo_pastAt.1
  have h_mo_pastAt_u := h_mo_pastAt.2
  have h_mo_takesBack_l := h_mo_takesBack.1
  have h_mo_takesBack_u := h_mo_takesBack.2
  have h_mo_imageAt_l := h_mo_imageAt.1
  have h_mo_imageAt_u := h_mo_imageAt.2
  have h_mo_goesBack_l := h_mo_goesBack.1
  have h_mo_goesBack_u := h_mo_goesBack.2
  have h_mo_s1_l := h_mo_s1.1
  have h_mo_s1_u := h_mo_s1.2
  have h_mo_s2_l := h_mo_s2.1
  have h_mo_s2_u := h_mo_s2.2
  have h_mo_s3_l := h_mo_s3.1
  have h_mo_s3_u := h_mo_s3.2
  have h_mo_s5_l := h_mo_s5.1
  have h_mo_s5_u := h_mo_s5.2
  have h_mo_s7_l := h_mo_s7.1
  have h_mo_s7_u := h_mo_s7.2
  refine CtI.mk (cc := cX9_note) (maxL := 5) (ret := (some .int)) (by decide) rfl (Nat.le_of_ble_eq_true rfl) ?_
  intro p e s m below meth c A ls E hP hD hS hl
  obtain ⟨hx, hb, hr, hml, hown, hts, hlocks, hin, hG, hA⟩ := E
  have hown : s.vm.findClass RX9 = some m.cls := hown
  have in9 : ∀ w ∈ u_ws RX9 TX9 53, w ∈ wsX9_note := fun _ h => List.mem_cons_of_mem _ (List.mem_append_right _ h)
  have hl : lv_has ls 5 [(0, .ref mo), (1, .int x1), (2, .int x2), (3, .int x3)] := hl
  refine lv_iload_n hx hb dX9_note_0 rfl (lv_at hl 1 rfl) ?_
  refine lv_iconst (v := (-1)) hx hb dX9_note_1 (by decide) ?_
  refine lv_icmp_ne (tgt := 14) hx hb dX9_note_2 (by decide) (fun c1 => ?_) (fun c1 => ?_)
  · have fc1 := cx_ne_t (a := x1.toInt) (b := (-1)) rfl (by decide) c1
    refine lv_aload_n hx hb dX9_note_14 rfl (lv_at hl 0 rfl) ?_
    refine va_get (D := D) (ci := 7) (v := .ref mo_ascalar) (C := RX9) (T := TX9) (N := 53) hx hb hts in9 hown hG.1 hP 0 rfl rfl 1 (by decide) (hts (.fieldLink RX9 9 "ChairCaneModel" "scalar" "[I") (by decide +kernel)) (fun _ h9 => h9) rfl dX9_note_15 ?_
    refine lv_iconst (v := 5) hx hb dX9_note_18 (by decide) ?_
    refine va_iald hx hb hG.1 hP 4 0 rfl rfl (by unfold vp_in; decide) dX9_note_19 ?_
    refine hc_is (z := mo_s5) (by rw [show Int32.toNatClampNeg 5 = 5 from by decide]; rfl) ?_
    refine lv_istore (lv' := [(4, .int mo_s5), (0, .ref mo), (1, .int x1), (2, .int x2), (3, .int x3)]) hx hb dX9_note_20 hl (by decide) rfl (fun ls hl => ?_)
    refine lv_iload_n hx hb dX9_note_22 rfl (lv_at hl 2 rfl) ?_
    refine lv_i2l hx hb dX9_note_23 rfl ?_
    refine lv_topl (fun y2 ey2 => ?_)
    have ty2 : y2.toInt = x1.toInt := ai_i2l rfl ey2
    refine lv_lconst (v := 0) hx hb dX9_note_24 (by decide) ?_
    refine lv_ldc2 (v := 60) hx hb hown (hts (.constantLong RX9 457 (60)) (by decide +kernel)) dX9_note_25 ?_
    have ql3 : (0 : Int64).toInt = 0 := by decide
    have ql4 : (60 : Int64).toInt = 60 := by decide
    refine hc_Si (As := [.long y2, .long 0, .long 60]) (rest := []) (n := 3) (wr := [(mo, .inr (7, [.int mo_thrown, .ref mo_ascalar, .ref mo_acane, .ref mo_ais, .ref mo_astrandOf, .ref mo_aweight, .ref mo_aheight, .ref mo_achairOf, .ref mo_anoteMinute, .ref mo_anoteWho, .ref mo_anoteIs, .ref mo_atoldCane, .ref mo_anewScalar, .ref mo_anewCane, .ref mo_anewHeight, .ref mo_anewStrand, .ref mo_anewChair, .ref mo_anewWeight, .int mo_taped, .int mo_p, .int mo_fault, .int mo_slot, .int mo_rules, .int mo_entries, .int mo_deep, .int mo_counted, .int mo_opened, .int mo_words, .ref mo_atape, .ref mo_asort, .ref mo_anumber, .ref mo_aclauses, .ref mo_asumAt, .ref mo_atestAt, .ref mo_aendAt, .ref mo_aopen, .ref mo_aasked, .ref mo_astack, .ref mo_amust, .ref mo_apast, .ref mo_apastOf, .int mo_pastMany, .int mo_pastAt, .int mo_takesBack, .ref mo_acanRise, .ref mo_afirstHas, .ref mo_asecondHas, .ref mo_alay, .ref mo_ashows, .ref mo_aimages, .ref mo_aisMade, .int mo_imageAt, .int mo_goesBack])), (mo_anoteMinute, hcI k 10 mo_rnoteMinute), (mo_anoteWho, hcI k 10 mo_rnoteWho), (mo_anoteIs, hcI k 10 mo_rnoteIs), (mo_ascalar, hcI k 8 (sc8 mo_s0 mo_s1 mo_s2 mo_s3 mo_s4 mo_s5 mo_s6 mo_s7))]) hx hb hml hown hts hG hA hP hD hS hl.1 [] [0, 1, 2, 3, 4] (i_X9_in l D k _ y2 0 60 ) gX9_note_X9_in rfl ⟨rfl, rfl, Nat.le_of_ble_eq_true rfl, Nat.le_of_ble_eq_true rfl⟩ (by decide +kernel) rfl rfl ⟨by decide, by decide, by decide⟩ ⟨rfl, rfl, Nat.le_of_ble_eq_true rfl, Nat.le_of_ble_eq_true rfl, Nat.le_of_ble_eq_true rfl⟩ dX9_note_28 (fun r6 u5 H locs hw hP hD hS => ?_)
    have hP : va_P D vwCl ([(mo, .inr (7, [.int mo_thrown, .ref mo_ascalar, .ref mo_acane, .ref mo_ais, .ref mo_astrandOf, .ref mo_aweight, .ref mo_aheight, .ref mo_achairOf, .ref mo_anoteMinute, .ref mo_anoteWho, .ref mo_anoteIs, .ref mo_atoldCane, .ref mo_anewScalar, .ref mo_anewCane, .ref mo_anewHeight, .ref mo_anewStrand, .ref mo_anewChair, .ref mo_anewWeight, .int mo_taped, .int mo_p, .int mo_fault, .int mo_slot, .int mo_rules, .int mo_entries, .int mo_deep, .int mo_counted, .int mo_opened, .int mo_words, .ref mo_atape, .ref mo_asort, .ref mo_anumber, .ref mo_aclauses, .ref mo_asumAt, .ref mo_atestAt, .ref mo_aendAt, .ref mo_aopen, .ref mo_aasked, .ref mo_astack, .ref mo_amust, .ref mo_apast, .ref mo_apastOf, .int mo_pastMany, .int mo_pastAt, .int mo_takesBack, .ref mo_acanRise, .ref mo_afirstHas, .ref mo_asecondHas, .ref mo_alay, .ref mo_ashows, .ref mo_aimages, .ref mo_aisMade, .int mo_imageAt, .int mo_goesBack])), (mo_anoteMinute, hcI k 10 mo_rnoteMinute), (mo_anoteWho, hcI k 10 mo_rnoteWho), (mo_anoteIs, hcI k 10 mo_rnoteIs), (mo_ascalar, hcI k 8 (sc8 mo_s0 mo_s1 mo_s2 mo_s3 mo_s4 mo_s5 mo_s6 mo_s7))]) H := hP
    have hD : va_D A ([(mo, .inr (7, [.int mo_thrown, .ref mo_ascalar, .ref mo_acane, .ref mo_ais, .ref mo_astrandOf, .ref mo_aweight, .ref mo_aheight, .ref mo_achairOf, .ref mo_anoteMinute, .ref mo_anoteWho, .ref mo_anoteIs, .ref mo_atoldCane, .ref mo_anewScalar, .ref mo_anewCane, .ref mo_anewHeight, .ref mo_anewStrand, .ref mo_anewChair, .ref mo_anewWeight, .int mo_taped, .int mo_p, .int mo_fault, .int mo_slot, .int mo_rules, .int mo_entries, .int mo_deep, .int mo_counted, .int mo_opened, .int mo_words, .ref mo_atape, .ref mo_asort, .ref mo_anumber, .ref mo_aclauses, .ref mo_asumAt, .ref mo_atestAt, .ref mo_aendAt, .ref mo_aopen, .ref mo_aasked, .ref mo_astack, .ref mo_amust, .ref mo_apast, .ref mo_apastOf, .int mo_pastMany, .int mo_pastAt, .int mo_takesBack, .ref mo_acanRise, .ref mo_afirstHas, .ref mo_asecondHas, .ref mo_alay, .ref mo_ashows, .ref mo_aimages, .ref mo_aisMade, .int mo_imageAt, .int mo_goesBack])), (mo_anoteMinute, hcI k 10 mo_rnoteMinute), (mo_anoteWho, hcI k 10 mo_rnoteWho), (mo_anoteIs, hcI k 10 mo_rnoteIs), (mo_ascalar, hcI k 8 (sc8 mo_s0 mo_s1 mo_s2 mo_s3 mo_s4 mo_s5 mo_s6 mo_s7))]) := hD
    obtain ⟨br6, rel7⟩ := hw
    have br6 : iv (0) (1) r6 := br6
    have br6_l := br6.1
    have br6_u := br6.2
    refine lv_if_eq (tgt := 61) hx hb dX9_note_31 (by decide) (fun c8 => ?_) (fun c8 => ?_)
    · have fc8 := cx_eq_t (a := r6.toInt) (b := 0) rfl (by decide) c8
      refine lv_bipush (v := (-2)) hx hb dX9_note_61 (by decide) ?_
      exact hc_end hx hb hr hlocks (mo_rnoteMinute, mo_rnoteWho, mo_rnoteIs, mo_s5) ⟨iv_lit (by decide) (by decide), h_mo_rnoteMinute, h_mo_rnoteWho, (show iv (0) (10) mo_s5 from ⟨by omega, by omega⟩)⟩ hP hD hS dX9_note_63
    · have fc8 := cx_eq_f (a := r6.toInt) (b := 0) rfl (by decide) c8
      refine lv_aload_n hx hb dX9_note_34 rfl (lv_at hl 1 rfl) ?_
      refine lv_iload_n hx hb dX9_note_35 rfl (lv_at hl 3 rfl) ?_
      refine hc_Vi (As := [.int x2]) (rest := []) (n := 1) (wr := [(mo_anoteMinute, hcI k 10 mo_rnoteMinute), (mo_anoteWho, hcI k 10 mo_rnoteWho), (mo_anoteIs, hcI k 10 mo_rnoteIs)]) hx hb hml hown hts hG hA hP hD hS hl.1 [0, 4] [1, 2, 3] (i_X9_isSitter l D k _ x2 mo mo_thrown mo_ascalar mo_acane mo_ais mo_astrandOf mo_aweight mo_aheight mo_achairOf mo_anoteMinute mo_anoteWho mo_anoteIs mo_atoldCane mo_anewScalar mo_anewCane mo_anewHeight mo_anewStrand mo_anewChair mo_anewWeight mo_taped mo_p mo_fault mo_slot mo_rules mo_entries mo_deep mo_counted mo_opened mo_words mo_atape mo_asort mo_anumber mo_aclauses mo_asumAt mo_atestAt mo_aendAt mo_aopen mo_aasked mo_astack mo_amust mo_apast mo_apastOf mo_pastMany mo_pastAt mo_takesBack mo_acanRise mo_afirstHas mo_asecondHas mo_alay mo_ashows mo_aimages mo_aisMade mo_imageAt mo_goesBack mo_s0 mo_s1 mo_s2 mo_s3 mo_s4 mo_s5 mo_s6 mo_s7 ⟨by omega, by omega⟩ ⟨by omega, by omega⟩ ⟨by omega, by omega⟩ ⟨by omega, by omega⟩ ⟨by omega, by omega⟩ ⟨by omega, by omega⟩ ⟨by omega, by omega⟩ ⟨by omega, by omega⟩ ⟨by omega, by omega⟩ ⟨by omega, by omega⟩ ⟨by omega, by omega⟩ ⟨by omega, by omega⟩ ⟨by omega, by omega⟩ ⟨by omega, by omega⟩ ⟨by omega, by omega⟩ ⟨by omega, by omega⟩ ⟨by omega, by omega⟩ ⟨by omega, by omega⟩ ⟨by omega, by omega⟩) (ci := 7) (q0 := 0) rfl rfl gX9_note_X9_isSitter rfl ⟨rfl, rfl, Nat.le_of_ble_eq_true rfl, Nat.le_of_ble_eq_true rfl⟩ (by decide +kernel) rfl rfl ⟨by decide, by decide, by decide⟩ ⟨rfl, rfl, Nat.le_of_ble_eq_true rfl, Nat.le_of_ble_eq_true rfl, Nat.le_of_ble_eq_true rfl⟩ dX9_note_36 (fun r10 u9 H locs hw hP hD hS => ?_)
      have hP : va_P D vwCl ([(mo_anoteMinute, hcI k 10 mo_rnoteMinute), (mo_anoteWho, hcI k 10 mo_rnoteWho), (mo_anoteIs, hcI k 10 mo_rnoteIs), (mo, .inr (7, [.int mo_thrown, .ref mo_ascalar, .ref mo_acane, .ref mo_ais, .ref mo_astrandOf, .ref mo_aweight, .ref mo_aheight, .ref mo_achairOf, .ref mo_anoteMinute, .ref mo_anoteWho, .ref mo_anoteIs, .ref mo_atoldCane, .ref mo_anewScalar, .ref mo_anewCane, .ref mo_anewHeight, .ref mo_anewStrand, .ref mo_anewChair, .ref mo_anewWeight, .int mo_taped, .int mo_p, .int mo_fault, .int mo_slot, .int mo_rules, .int mo_entries, .int mo_deep, .int mo_counted, .int mo_opened, .int mo_words, .ref mo_atape, .ref mo_asort, .ref mo_anumber, .ref mo_aclauses, .ref mo_asumAt, .ref mo_atestAt, .ref mo_aendAt, .ref mo_aopen, .ref mo_aasked, .ref mo_astack, .ref mo_amust, .ref mo_apast, .ref mo_apastOf, .int mo_pastMany, .int mo_pastAt, .int mo_takesBack, .ref mo_acanRise, .ref mo_afirstHas, .ref mo_asecondHas, .ref mo_alay, .ref mo_ashows, .ref mo_aimages, .ref mo_aisMade, .int mo_imageAt, .int mo_goesBack])), (mo_ascalar, hcI k 8 (sc8 mo_s0 mo_s1 mo_s2 mo_s3 mo_s4 mo_s5 mo_s6 mo_s7))]) H := hP
      have hD : va_D A ([(mo_anoteMinute, hcI k 10 mo_rnoteMinute), (mo_anoteWho, hcI k 10 mo_rnoteWho), (mo_anoteIs, hcI k 10 mo_rnoteIs), (mo, .inr (7, [.int mo_thrown, .ref mo_ascalar, .ref mo_acane, .ref mo_ais, .ref mo_astrandOf, .ref mo_aweight, .ref mo_aheight, .ref mo_achairOf, .ref mo_anoteMinute, .ref mo_anoteWho, .ref mo_anoteIs, .ref mo_atoldCane, .ref mo_anewScalar, .ref mo_anewCane, .ref mo_anewHeight, .ref mo_anewStrand, .ref mo_anewChair, .ref mo_anewWeight, .int mo_taped, .int mo_p, .int mo_fault, .int mo_slot, .int mo_rules, .int mo_entries, .int mo_deep, .int mo_counted, .int mo_opened, .int mo_words, .ref mo_atape, .ref mo_asort, .ref mo_anumber, .ref mo_aclauses, .ref mo_asumAt, .ref mo_atestAt, .ref mo_aendAt, .ref mo_aopen, .ref mo_aasked, .ref mo_astack, .ref mo_amust, .ref mo_apast, .ref mo_apastOf, .int mo_pastMany, .int mo_pastAt, .int mo_takesBack, .ref mo_acanRise, .ref mo_afirstHas, .ref mo_asecondHas, .ref mo_alay, .ref mo_ashows, .ref mo_aimages, .ref mo_aisMade, .int mo_imageAt, .int mo_goesBack])), (mo_ascalar, hcI k 8 (sc8 mo_s0 mo_s1 mo_s2 mo_s3 mo_s4 mo_s5 mo_s6 mo_s7))]) := hD
      obtain ⟨br10, rel11⟩ := hw
      have br10 : iv (0) (1) r10 := br10
      have br10_l := br10.1
      have br10_u := br10.2
      refine lv_if_eq (tgt := 61) hx hb dX9_note_39 (by decide) (fun c12 => ?_) (fun c12 => ?_)
      · have fc12 := cx_eq_t (a := r10.toInt) (b := 0) rfl (by decide) c12
        refine lv_bipush (v := (-2)) hx hb dX9_note_61 (by decide) ?_
        exact hc_end hx hb hr hlocks (mo_rnoteMinute, mo_rnoteWho, mo_rnoteIs, mo_s5) ⟨iv_lit (by decide) (by decide), h_mo_rnoteMinute, h_mo_rnoteWho, (show iv (0) (10) mo_s5 from ⟨by omega, by omega⟩)⟩ (hP.sub [3, 0, 1, 2, 4] rfl) (hD.sub [3, 0, 1, 2, 4] (by decide) rfl) hS dX9_note_63
      · have fc12 := cx_eq_f (a := r10.toInt) (b := 0) rfl (by decide) c12
        refine lv_iload_n hx hb dX9_note_42 rfl (lv_at hl 4 rfl) ?_
        refine lv_i2l hx hb dX9_note_43 rfl ?_
        refine lv_topl (fun y13 ey13 => ?_)
        have ty13 : y13.toInt = x3.toInt := ai_i2l rfl ey13
        refine lv_lconst (v := 0) hx hb dX9_note_44 (by decide) ?_
        refine lv_ldc2 (v := 2) hx hb hown (hts (.constantLong RX9 365 (2)) (by decide +kernel)) dX9_note_45 ?_
        have ql14 : (0 : Int64).toInt = 0 := by decide
        have ql15 : (2 : Int64).toInt = 2 := by decide
        refine hc_Si (As := [.long y13, .long 0, .long 2]) (rest := []) (n := 3) (wr := [(mo_anoteMinute, hcI k 10 mo_rnoteMinute), (mo_anoteWho, hcI k 10 mo_rnoteWho), (mo_anoteIs, hcI k 10 mo_rnoteIs), (mo, .inr (7, [.int mo_thrown, .ref mo_ascalar, .ref mo_acane, .ref mo_ais, .ref mo_astrandOf, .ref mo_aweight, .ref mo_aheight, .ref mo_achairOf, .ref mo_anoteMinute, .ref mo_anoteWho, .ref mo_anoteIs, .ref mo_atoldCane, .ref mo_anewScalar, .ref mo_anewCane, .ref mo_anewHeight, .ref mo_anewStrand, .ref mo_anewChair, .ref mo_anewWeight, .int mo_taped, .int mo_p, .int mo_fault, .int mo_slot, .int mo_rules, .int mo_entries, .int mo_deep, .int mo_counted, .int mo_opened, .int mo_words, .ref mo_atape, .ref mo_asort, .ref mo_anumber, .ref mo_aclauses, .ref mo_asumAt, .ref mo_atestAt, .ref mo_aendAt, .ref mo_aopen, .ref mo_aasked, .ref mo_astack, .ref mo_amust, .ref mo_apast, .ref mo_apastOf, .int mo_pastMany, .int mo_pastAt, .int mo_takesBack, .ref mo_acanRise, .ref mo_afirstHas, .ref mo_asecondHas, .ref mo_alay, .ref mo_ashows, .ref mo_aimages, .ref mo_aisMade, .int mo_imageAt, .int mo_goesBack])), (mo_ascalar, hcI k 8 (sc8 mo_s0 mo_s1 mo_s2 mo_s3 mo_s4 mo_s5 mo_s6 mo_s7))]) hx hb hml hown hts hG hA hP hD hS hl.1 [] [0, 1, 2, 3, 4] (i_X9_in l D k _ y13 0 2 ) gX9_note_X9_in rfl ⟨rfl, rfl, Nat.le_of_ble_eq_true rfl, Nat.le_of_ble_eq_true rfl⟩ (by decide +kernel) rfl rfl ⟨by decide, by decide, by decide⟩ ⟨rfl, rfl, Nat.le_of_ble_eq_true rfl, Nat.le_of_ble_eq_true rfl, Nat.le_of_ble_eq_true rfl⟩ dX9_note_48 (fun r17 u16 H locs hw hP hD hS => ?_)
        have hP : va_P D vwCl ([(mo_anoteMinute, hcI k 10 mo_rnoteMinute), (mo_anoteWho, hcI k 10 mo_rnoteWho), (mo_anoteIs, hcI k 10 mo_rnoteIs), (mo, .inr (7, [.int mo_thrown, .ref mo_ascalar, .ref mo_acane, .ref mo_ais, .ref mo_astrandOf, .ref mo_aweight, .ref mo_aheight, .ref mo_achairOf, .ref mo_anoteMinute, .ref mo_anoteWho, .ref mo_anoteIs, .ref mo_atoldCane, .ref mo_anewScalar, .ref mo_anewCane, .ref mo_anewHeight, .ref mo_anewStrand, .ref mo_anewChair, .ref mo_anewWeight, .int mo_taped, .int mo_p, .int mo_fault, .int mo_slot, .int mo_rules, .int mo_entries, .int mo_deep, .int mo_counted, .int mo_opened, .int mo_words, .ref mo_atape, .ref mo_asort, .ref mo_anumber, .ref mo_aclauses, .ref mo_asumAt, .ref mo_atestAt, .ref mo_aendAt, .ref mo_aopen, .ref mo_aasked, .ref mo_astack, .ref mo_amust, .ref mo_apast, .ref mo_apastOf, .int mo_pastMany, .int mo_pastAt, .int mo_takesBack, .ref mo_acanRise, .ref mo_afirstHas, .ref mo_asecondHas, .ref mo_alay, .ref mo_ashows, .ref mo_aimages, .ref mo_aisMade, .int mo_imageAt, .int mo_goesBack])), (mo_ascalar, hcI k 8 (sc8 mo_s0 mo_s1 mo_s2 mo_s3 mo_s4 mo_s5 mo_s6 mo_s7))]) H := hP
        have hD : va_D A ([(mo_anoteMinute, hcI k 10 mo_rnoteMinute), (mo_anoteWho, hcI k 10 mo_rnoteWho), (mo_anoteIs, hcI k 10 mo_rnoteIs), (mo, .inr (7, [.int mo_thrown, .ref mo_ascalar, .ref mo_acane, .ref mo_ais, .ref mo_astrandOf, .ref mo_aweight, .ref mo_aheight, .ref mo_achairOf, .ref mo_anoteMinute, .ref mo_anoteWho, .ref mo_anoteIs, .ref mo_atoldCane, .ref mo_anewScalar, .ref mo_anewCane, .ref mo_anewHeight, .ref mo_anewStrand, .ref mo_anewChair, .ref mo_anewWeight, .int mo_taped, .int mo_p, .int mo_fault, .int mo_slot, .int mo_rules, .int mo_entries, .int mo_deep, .int mo_counted, .int mo_opened, .int mo_words, .ref mo_atape, .ref mo_asort, .ref mo_anumber, .ref mo_aclauses, .ref mo_asumAt, .ref mo_atestAt, .ref mo_aendAt, .ref mo_aopen, .ref mo_aasked, .ref mo_astack, .ref mo_amust, .ref mo_apast, .ref mo_apastOf, .int mo_pastMany, .int mo_pastAt, .int mo_takesBack, .ref mo_acanRise, .ref mo_afirstHas, .ref mo_asecondHas, .ref mo_alay, .ref mo_ashows, .ref mo_aimages, .ref mo_aisMade, .int mo_imageAt, .int mo_goesBack])), (mo_ascalar, hcI k 8 (sc8 mo_s0 mo_s1 mo_s2 mo_s3 mo_s4 mo_s5 mo_s6 mo_s7))]) := hD
        obtain ⟨br17, rel18⟩ := hw
        have br17 : iv (0) (1) r17 := br17
        have br17_l := br17.1
        have br17_u := br17.2
        refine lv_if_eq (tgt := 61) hx hb dX9_note_51 (by decide) (fun c19 => ?_) (fun c19 => ?_)
        · have fc19 := cx_eq_t (a := r17.toInt) (b := 0) rfl (by decide) c19
          refine lv_bipush (v := (-2)) hx hb dX9_note_61 (by decide) ?_
          exact hc_end hx hb hr hlocks (mo_rnoteMinute, mo_rnoteWho, mo_rnoteIs, mo_s5) ⟨iv_lit (by decide) (by decide), h_mo_rnoteMinute, h_mo_rnoteWho, (show iv (0) (10) mo_s5 from ⟨by omega, by omega⟩)⟩ (hP.sub [3, 0, 1, 2, 4] rfl) (hD.sub [3, 0, 1, 2, 4] (by decide) rfl) hS dX9_note_63
        · have fc19 := cx_eq_f (a := r17.toInt) (b := 0) rfl (by decide) c19
          refine lv_iload hx hb dX9_note_54 (lv_at hl 0 rfl) ?_
          refine lv_bipush (v := 10) hx hb dX9_note_56 (by decide) ?_
          refine lv_icmp_ne (tgt := 64) hx hb dX9_note_58 (by decide) (fun c20 => ?_) (fun c20 => ?_)
          · have fc20 := cx_ne_t (a := mo_s5.toInt) (b := 10) rfl (by decide) c20
            refine lv_aload_n hx hb dX9_note_64 rfl (lv_at hl 1 rfl) ?_
            refine va_get (D := D) (ci := 7) (v := .ref mo_anoteMinute) (C := RX9) (T := TX9) (N := 53) hx hb hts in9 hown hG.1 hP 3 rfl rfl 8 (by decide) (hts (.fieldLink RX9 31 "ChairCaneModel" "noteMinute" "[I") (by decide +kernel)) (fun _ h9 => h9) rfl dX9_note_65 ?_
            refine lv_iload hx hb dX9_note_68 (lv_at hl 0 rfl) ?_
            refine lv_iload_n hx hb dX9_note_70 rfl (lv_at hl 2 rfl) ?_
            refine va_iast hx hb hG.1 hP hD hS 0 0 rfl rfl (vp_in_iff.mpr ⟨by omega, by omega⟩) dX9_note_71 (fun H locs hP hD hS => ?_)
            obtain ⟨f21, ef21⟩ : ∃ f, f = upd mo_rnoteMinute (Int32.toNatClampNeg mo_s5) (x1) := ⟨_, rfl⟩
            rw [← ef21] at hP hD
            have h_f21 : rowIn (0) (60) f21 := by rw [ef21]; exact row_upd h_mo_rnoteMinute ⟨by omega, by omega⟩
            have hP : va_P D vwCl ([(mo_anoteMinute, hcI k 10 f21), (mo_anoteWho, hcI k 10 mo_rnoteWho), (mo_anoteIs, hcI k 10 mo_rnoteIs), (mo, .inr (7, [.int mo_thrown, .ref mo_ascalar, .ref mo_acane, .ref mo_ais, .ref mo_astrandOf, .ref mo_aweight, .ref mo_aheight, .ref mo_achairOf, .ref mo_anoteMinute, .ref mo_anoteWho, .ref mo_anoteIs, .ref mo_atoldCane, .ref mo_anewScalar, .ref mo_anewCane, .ref mo_anewHeight, .ref mo_anewStrand, .ref mo_anewChair, .ref mo_anewWeight, .int mo_taped, .int mo_p, .int mo_fault, .int mo_slot, .int mo_rules, .int mo_entries, .int mo_deep, .int mo_counted, .int mo_opened, .int mo_words, .ref mo_atape, .ref mo_asort, .ref mo_anumber, .ref mo_aclauses, .ref mo_asumAt, .ref mo_atestAt, .ref mo_aendAt, .ref mo_aopen, .ref mo_aasked, .ref mo_astack, .ref mo_amust, .ref mo_apast, .ref mo_apastOf, .int mo_pastMany, .int mo_pastAt, .int mo_takesBack, .ref mo_acanRise, .ref mo_afirstHas, .ref mo_asecondHas, .ref mo_alay, .ref mo_ashows, .ref mo_aimages, .ref mo_aisMade, .int mo_imageAt, .int mo_goesBack])), (mo_ascalar, hcI k 8 (sc8 mo_s0 mo_s1 mo_s2 mo_s3 mo_s4 mo_s5 mo_s6 mo_s7))]) H := hP
            have hD : va_D A ([(mo_anoteMinute, hcI k 10 f21), (mo_anoteWho, hcI k 10 mo_rnoteWho), (mo_anoteIs, hcI k 10 mo_rnoteIs), (mo, .inr (7, [.int mo_thrown, .ref mo_ascalar, .ref mo_acane, .ref mo_ais, .ref mo_astrandOf, .ref mo_aweight, .ref mo_aheight, .ref mo_achairOf, .ref mo_anoteMinute, .ref mo_anoteWho, .ref mo_anoteIs, .ref mo_atoldCane, .ref mo_anewScalar, .ref mo_anewCane, .ref mo_anewHeight, .ref mo_anewStrand, .ref mo_anewChair, .ref mo_anewWeight, .int mo_taped, .int mo_p, .int mo_fault, .int mo_slot, .int mo_rules, .int mo_entries, .int mo_deep, .int mo_counted, .int mo_opened, .int mo_words, .ref mo_atape, .ref mo_asort, .ref mo_anumber, .ref mo_aclauses, .ref mo_asumAt, .ref mo_atestAt, .ref mo_aendAt, .ref mo_aopen, .ref mo_aasked, .ref mo_astack, .ref mo_amust, .ref mo_apast, .ref mo_apastOf, .int mo_pastMany, .int mo_pastAt, .int mo_takesBack, .ref mo_acanRise, .ref mo_afirstHas, .ref mo_asecondHas, .ref mo_alay, .ref mo_ashows, .ref mo_aimages, .ref mo_aisMade, .int mo_imageAt, .int mo_goesBack])), (mo_ascalar, hcI k 8 (sc8 mo_s0 mo_s1 mo_s2 mo_s3 mo_s4 mo_s5 mo_s6 mo_s7))]) := hD
            refine lv_aload_n hx hb dX9_note_72 rfl (lv_at hl 1 rfl) ?_
            refine va_get (D := D) (ci := 7) (v := .ref mo_anoteWho) (C := RX9) (T := TX9) (N := 53) hx hb hts in9 hown hG.1 hP 3 rfl rfl 9 (by decide) (hts (.fieldLink RX9 34 "ChairCaneModel" "noteWho" "[I") (by decide +kernel)) (fun _ h9 => h9) rfl dX9_note_73 ?_
            refine lv_iload hx hb dX9_note_76 (lv_at hl 0 rfl) ?_
            refine lv_iload_n hx hb dX9_note_78 rfl (lv_at hl 3 rfl) ?_
            refine va_iast hx hb hG.1 hP hD hS 1 0 rfl rfl (vp_in_iff.mpr ⟨by omega, by omega⟩) dX9_note_79 (fun H locs hP hD hS => ?_)
            obtain ⟨f22, ef22⟩ : ∃ f, f = upd mo_rnoteWho (Int32.toNatClampNeg mo_s5) (x2) := ⟨_, rfl⟩
            rw [← ef22] at hP hD
            have h_f22 : rowIn (0) (7) f22 := by rw [ef22]; exact row_upd h_mo_rnoteWho ⟨by omega, by omega⟩
            have hP : va_P D vwCl ([(mo_anoteMinute, hcI k 10 f21), (mo_anoteWho, hcI k 10 f22), (mo_anoteIs, hcI k 10 mo_rnoteIs), (mo, .inr (7, [.int mo_thrown, .ref mo_ascalar, .ref mo_acane, .ref mo_ais, .ref mo_astrandOf, .ref mo_aweight, .ref mo_aheight, .ref mo_achairOf, .ref mo_anoteMinute, .ref mo_anoteWho, .ref mo_anoteIs, .ref mo_atoldCane, .ref mo_anewScalar, .ref mo_anewCane, .ref mo_anewHeight, .ref mo_anewStrand, .ref mo_anewChair, .ref mo_anewWeight, .int mo_taped, .int mo_p, .int mo_fault, .int mo_slot, .int mo_rules, .int mo_entries, .int mo_deep, .int mo_counted, .int mo_opened, .int mo_words, .ref mo_atape, .ref mo_asort, .ref mo_anumber, .ref mo_aclauses, .ref mo_asumAt, .ref mo_atestAt, .ref mo_aendAt, .ref mo_aopen, .ref mo_aasked, .ref mo_astack, .ref mo_amust, .ref mo_apast, .ref mo_apastOf, .int mo_pastMany, .int mo_pastAt, .int mo_takesBack, .ref mo_acanRise, .ref mo_afirstHas, .ref mo_asecondHas, .ref mo_alay, .ref mo_ashows, .ref mo_aimages, .ref mo_aisMade, .int mo_imageAt, .int mo_goesBack])), (mo_ascalar, hcI k 8 (sc8 mo_s0 mo_s1 mo_s2 mo_s3 mo_s4 mo_s5 mo_s6 mo_s7))]) H := hP
            have hD : va_D A ([(mo_anoteMinute, hcI k 10 f21), (mo_anoteWho, hcI k 10 f22), (mo_anoteIs, hcI k 10 mo_rnoteIs), (mo, .inr (7, [.int mo_thrown, .ref mo_ascalar, .ref mo_acane, .ref mo_ais, .ref mo_astrandOf, .ref mo_aweight, .ref mo_aheight, .ref mo_achairOf, .ref mo_anoteMinute, .ref mo_anoteWho, .ref mo_anoteIs, .ref mo_atoldCane, .ref mo_anewScalar, .ref mo_anewCane, .ref mo_anewHeight, .ref mo_anewStrand, .ref mo_anewChair, .ref mo_anewWeight, .int mo_taped, .int mo_p, .int mo_fault, .int mo_slot, .int mo_rules, .int mo_entries, .int mo_deep, .int mo_counted, .int mo_opened, .int mo_words, .ref mo_atape, .ref mo_asort, .ref mo_anumber, .ref mo_aclauses, .ref mo_asumAt, .ref mo_atestAt, .ref mo_aendAt, .ref mo_aopen, .ref mo_aasked, .ref mo_astack, .ref mo_amust, .ref mo_apast, .ref mo_apastOf, .int mo_pastMany, .int mo_pastAt, .int mo_takesBack, .ref mo_acanRise, .ref mo_afirstHas, .ref mo_asecondHas, .ref mo_alay, .ref mo_ashows, .ref mo_aimages, .ref mo_aisMade, .int mo_imageAt, .int mo_goesBack])), (mo_ascalar, hcI k 8 (sc8 mo_s0 mo_s1 mo_s2 mo_s3 mo_s4 mo_s5 mo_s6 mo_s7))]) := hD
            refine lv_aload_n hx hb dX9_note_80 rfl (lv_at hl 1 rfl) ?_
            refine va_get (D := D) (ci := 7) (v := .ref mo_anoteIs) (C := RX9) (T := TX9) (N := 53) hx hb hts in9 hown hG.1 hP 3 rfl rfl 10 (by decide) (hts (.fieldLink RX9 37 "ChairCaneModel" "noteIs" "[I") (by decide +kernel)) (fun _ h9 => h9) rfl dX9_note_81 ?_
            refine lv_iload hx hb dX9_note_84 (lv_at hl 0 rfl) ?_
            refine lv_iload_n hx hb dX9_note_86 rfl (lv_at hl 4 rfl) ?_
            refine va_iast hx hb hG.1 hP hD hS 2 0 rfl rfl (vp_in_iff.mpr ⟨by omega, by omega⟩) dX9_note_87 (fun H locs hP hD hS => ?_)
            obtain ⟨f23, ef23⟩ : ∃ f, f = upd mo_rnoteIs (Int32.toNatClampNeg mo_s5) (x3) := ⟨_, rfl⟩
            rw [← ef23] at hP hD
            have hP : va_P D vwCl ([(mo_anoteMinute, hcI k 10 f21), (mo_anoteWho, hcI k 10 f22), (mo_anoteIs, hcI k 10 f23), (mo, .inr (7, [.int mo_thrown, .ref mo_ascalar, .ref mo_acane, .ref mo_ais, .ref mo_astrandOf, .ref mo_aweight, .ref mo_aheight, .ref mo_achairOf, .ref mo_anoteMinute, .ref mo_anoteWho, .ref mo_anoteIs, .ref mo_atoldCane, .ref mo_anewScalar, .ref mo_anewCane, .ref mo_anewHeight, .ref mo_anewStrand, .ref mo_anewChair, .ref mo_anewWeight, .int mo_taped, .int mo_p, .int mo_fault, .int mo_slot, .int mo_rules, .int mo_entries, .int mo_deep, .int mo_counted, .int mo_opened, .int mo_words, .ref mo_atape, .ref mo_asort, .ref mo_anumber, .ref mo_aclauses, .ref mo_asumAt, .ref mo_atestAt, .ref mo_aendAt, .ref mo_aopen, .ref mo_aasked, .ref mo_astack, .ref mo_amust, .ref mo_apast, .ref mo_apastOf, .int mo_pastMany, .int mo_pastAt, .int mo_takesBack, .ref mo_acanRise, .ref mo_afirstHas, .ref mo_asecondHas, .ref mo_alay, .ref mo_ashows, .ref mo_aimages, .ref mo_aisMade, .int mo_imageAt, .int mo_goesBack])), (mo_ascalar, hcI k 8 (sc8 mo_s0 mo_s1 mo_s2 mo_s3 mo_s4 mo_s5 mo_s6 mo_s7))]) H := hP
            have hD : va_D A ([(mo_anoteMinute, hcI k 10 f21), (mo_anoteWho, hcI k 10 f22), (mo_anoteIs, hcI k 10 f23), (mo, .inr (7, [.int mo_thrown, .ref mo_ascalar, .ref mo_acane, .ref mo_ais, .ref mo_astrandOf, .ref mo_aweight, .ref mo_aheight, .ref mo_achairOf, .ref mo_anoteMinute, .ref mo_anoteWho, .ref mo_anoteIs, .ref mo_atoldCane, .ref mo_anewScalar, .ref mo_anewCane, .ref mo_anewHeight, .ref mo_anewStrand, .ref mo_anewChair, .ref mo_anewWeight, .int mo_taped, .int mo_p, .int mo_fault, .int mo_slot, .int mo_rules, .int mo_entries, .int mo_deep, .int mo_counted, .int mo_opened, .int mo_words, .ref mo_atape, .ref mo_asort, .ref mo_anumber, .ref mo_aclauses, .ref mo_asumAt, .ref mo_atestAt, .ref mo_aendAt, .ref mo_aopen, .ref mo_aasked, .ref mo_astack, .ref mo_amust, .ref mo_apast, .ref mo_apastOf, .int mo_pastMany, .int mo_pastAt, .int mo_takesBack, .ref mo_acanRise, .ref mo_afirstHas, .ref mo_asecondHas, .ref mo_alay, .ref mo_ashows, .ref mo_aimages, .ref mo_aisMade, .int mo_imageAt, .int mo_goesBack])), (mo_ascalar, hcI k 8 (sc8 mo_s0 mo_s1 mo_s2 mo_s3 mo_s4 mo_s5 mo_s6 mo_s7))]) := hD
            refine lv_aload_n hx hb dX9_note_88 rfl (lv_at hl 1 rfl) ?_
            refine va_get (D := D) (ci := 7) (v := .ref mo_ascalar) (C := RX9) (T := TX9) (N := 53) hx hb hts in9 hown hG.1 hP 3 rfl rfl 1 (by decide) (hts (.fieldLink RX9 9 "ChairCaneModel" "scalar" "[I") (by decide +kernel)) (fun _ h9 => h9) rfl dX9_note_89 ?_
            refine lv_iconst (v := 5) hx hb dX9_note_92 (by decide) ?_
            refine lv_dup2_11 hx hb dX9_note_93 rfl rfl ?_
            refine va_iald hx hb hG.1 hP 4 0 rfl rfl (by unfold vp_in; decide) dX9_note_94 ?_
            refine hc_is (z := mo_s5) (by rw [show Int32.toNatClampNeg 5 = 5 from by decide]; rfl) ?_
            refine lv_iconst (v := 1) hx hb dX9_note_95 (by decide) ?_
            refine lv_iadd hx hb dX9_note_96 ?_
            refine lv_topi (fun z24 ez24 => ?_)
            have tz24 : z24.toInt = mo_s5.toInt + 1 := ai_add rfl (by decide) ez24 (by omega) (by omega)
            refine va_iast hx hb hG.1 hP hD hS 4 0 rfl rfl (by unfold vp_in; decide) dX9_note_97 (fun H locs hP hD hS => ?_)
            rw [sc8_u5] at hP hD
            have hP : va_P D vwCl ([(mo_anoteMinute, hcI k 10 f21), (mo_anoteWho, hcI k 10 f22), (mo_anoteIs, hcI k 10 f23), (mo, .inr (7, [.int mo_thrown, .ref mo_ascalar, .ref mo_acane, .ref mo_ais, .ref mo_astrandOf, .ref mo_aweight, .ref mo_aheight, .ref mo_achairOf, .ref mo_anoteMinute, .ref mo_anoteWho, .ref mo_anoteIs, .ref mo_atoldCane, .ref mo_anewScalar, .ref mo_anewCane, .ref mo_anewHeight, .ref mo_anewStrand, .ref mo_anewChair, .ref mo_anewWeight, .int mo_taped, .int mo_p, .int mo_fault, .int mo_slot, .int mo_rules, .int mo_entries, .int mo_deep, .int mo_counted, .int mo_opened, .int mo_words, .ref mo_atape, .ref mo_asort, .ref mo_anumber, .ref mo_aclauses, .ref mo_asumAt, .ref mo_atestAt, .ref mo_aendAt, .ref mo_aopen, .ref mo_aasked, .ref mo_astack, .ref mo_amust, .ref mo_apast, .ref mo_apastOf, .int mo_pastMany, .int mo_pastAt, .int mo_takesBack, .ref mo_acanRise, .ref mo_afirstHas, .ref mo_asecondHas, .ref mo_alay, .ref mo_ashows, .ref mo_aimages, .ref mo_aisMade, .int mo_imageAt, .int mo_goesBack])), (mo_ascalar, hcI k 8 (sc8 mo_s0 mo_s1 mo_s2 mo_s3 mo_s4 z24 mo_s6 mo_s7))]) H := hP
            have hD : va_D A ([(mo_anoteMinute, hcI k 10 f21), (mo_anoteWho, hcI k 10 f22), (mo_anoteIs, hcI k 10 f23), (mo, .inr (7, [.int mo_thrown, .ref mo_ascalar, .ref mo_acane, .ref mo_ais, .ref mo_astrandOf, .ref mo_aweight, .ref mo_aheight, .ref mo_achairOf, .ref mo_anoteMinute, .ref mo_anoteWho, .ref mo_anoteIs, .ref mo_atoldCane, .ref mo_anewScalar, .ref mo_anewCane, .ref mo_anewHeight, .ref mo_anewStrand, .ref mo_anewChair, .ref mo_anewWeight, .int mo_taped, .int mo_p, .int mo_fault, .int mo_slot, .int mo_rules, .int mo_entries, .int mo_deep, .int mo_counted, .int mo_opened, .int mo_words, .ref mo_atape, .ref mo_asort, .ref mo_anumber, .ref mo_aclauses, .ref mo_asumAt, .ref mo_atestAt, .ref mo_aendAt, .ref mo_aopen, .ref mo_aasked, .ref mo_astack, .ref mo_amust, .ref mo_apast, .ref mo_apastOf, .int mo_pastMany, .int mo_pastAt, .int mo_takesBack, .ref mo_acanRise, .ref mo_afirstHas, .ref mo_asecondHas, .ref mo_alay, .ref mo_ashows, .ref mo_aimages, .ref mo_aisMade, .int mo_imageAt, .int mo_goesBack])), (mo_ascalar, hcI k 8 (sc8 mo_s0 mo_s1 mo_s2 mo_s3 mo_s4 z24 mo_s6 mo_s7))]) := hD
            refine lv_iload hx hb dX9_note_98 (lv_at hl 0 rfl) ?_
            refine lv_iconst (v := 1) hx hb dX9_note_100 (by decide) ?_
            refine lv_iadd hx hb dX9_note_101 ?_
            refine lv_topi (fun z25 ez25 => ?_)
            have tz25 : z25.toInt = mo_s5.toInt + 1 := ai_add rfl (by decide) ez25 (by omega) (by omega)
            exact hc_end hx hb hr hlocks (f21, f22, f23, z24) ⟨⟨by omega, by omega⟩, h_f21, h_f22, (show iv (0) (10) z24 from ⟨by omega, by omega⟩)⟩ (hP.sub [3, 0, 1, 2, 4] rfl) (hD.sub [3, 0, 1, 2, 4] (by decide) rfl) hS dX9_note_102
          · have fc20 := cx_ne_f (a := mo_s5.toInt) (b := 10) rfl (by decide) c20
            refine lv_bipush (v := (-2)) hx hb dX9_note_61 (by decide) ?_
            exact hc_end hx hb hr hlocks (mo_rnoteMinute, mo_rnoteWho, mo_rnoteIs, mo_s5) ⟨iv_lit (by decide) (by decide), h_mo_rnoteMinute, h_mo_rnoteWho, (show iv (0) (10) mo_s5 from ⟨by omega, by omega⟩)⟩ (hP.sub [3, 0, 1, 2, 4] rfl) (hD.sub [3, 0, 1, 2, 4] (by decide) rfl) hS dX9_note_63
  · have fc1 := cx_ne_f (a := x1.toInt) (b := (-1)) rfl (by decide) c1
    refine lv_aload_n hx hb dX9_note_5 rfl (lv_at hl 0 rfl) ?_
    refine va_get (D := D) (ci := 7) (v := .ref mo_ascalar) (C := RX9) (T := TX9) (N := 53) hx hb hts in9 hown hG.1 hP 0 rfl rfl 1 (by decide) (hts (.fieldLink RX9 9 "ChairCaneModel" "scalar" "[I") (by decide +kernel)) (fun _ h9 => h9) rfl dX9_note_6 ?_
    refine lv_iconst (v := 5) hx hb dX9_note_9 (by decide) ?_
    refine lv_iconst (v := 0) hx hb dX9_note_10 (by decide) ?_
    refine va_iast hx hb hG.1 hP hD hS 4 0 rfl rfl (by unfold vp_in; decide) dX9_note_11 (fun H locs hP hD hS => ?_)
    rw [sc8_u5] at hP hD
    have hP : va_P D vwCl ([(mo, .inr (7, [.int mo_thrown, .ref mo_ascalar, .ref mo_acane, .ref mo_ais, .ref mo_astrandOf, .ref mo_aweight, .ref mo_aheight, .ref mo_achairOf, .ref mo_anoteMinute, .ref mo_anoteWho, .ref mo_anoteIs, .ref mo_atoldCane, .ref mo_anewScalar, .ref mo_anewCane, .ref mo_anewHeight, .ref mo_anewStrand, .ref mo_anewChair, .ref mo_anewWeight, .int mo_taped, .int mo_p, .int mo_fault, .int mo_slot, .int mo_rules, .int mo_entries, .int mo_deep, .int mo_counted, .int mo_opened, .int mo_words, .ref mo_atape, .ref mo_asort, .ref mo_anumber, .ref mo_aclauses, .ref mo_asumAt, .ref mo_atestAt, .ref mo_aendAt, .ref mo_aopen, .ref mo_aasked, .ref mo_astack, .ref mo_amust, .ref mo_apast, .ref mo_apastOf, .int mo_pastMany, .int mo_pastAt, .int mo_takesBack, .ref mo_acanRise, .ref mo_afirstHas, .ref mo_asecondHas, .ref mo_alay, .ref mo_ashows, .ref mo_aimages, .ref mo_aisMade, .int mo_imageAt, .int mo_goesBack])), (mo_anoteMinute, hcI k 10 mo_rnoteMinute), (mo_anoteWho, hcI k 10 mo_rnoteWho), (mo_anoteIs, hcI k 10 mo_rnoteIs), (mo_ascalar, hcI k 8 (sc8 mo_s0 mo_s1 mo_s2 mo_s3 mo_s4 0 mo_s6 mo_s7))]) H := hP
    have hD : va_D A ([(mo, .inr (7, [.int mo_thrown, .ref mo_ascalar, .ref mo_acane, .ref mo_ais, .ref mo_astrandOf, .ref mo_aweight, .ref mo_aheight, .ref mo_achairOf, .ref mo_anoteMinute, .ref mo_anoteWho, .ref mo_anoteIs, .ref mo_atoldCane, .ref mo_anewScalar, .ref mo_anewCane, .ref mo_anewHeight, .ref mo_anewStrand, .ref mo_anewChair, .ref mo_anewWeight, .int mo_taped, .int mo_p, .int mo_fault, .int mo_slot, .int mo_rules, .int mo_entries, .int mo_deep, .int mo_counted, .int mo_opened, .int mo_words, .ref mo_atape, .ref mo_asort, .ref mo_anumber, .ref mo_aclauses, .ref mo_asumAt, .ref mo_atestAt, .ref mo_aendAt, .ref mo_aopen, .ref mo_aasked, .ref mo_astack, .ref mo_amust, .ref mo_apast, .ref mo_apastOf, .int mo_pastMany, .int mo_pastAt, .int mo_takesBack, .ref mo_acanRise, .ref mo_afirstHas, .ref mo_asecondHas, .ref mo_alay, .ref mo_ashows, .ref mo_aimages, .ref mo_aisMade, .int mo_imageAt, .int mo_goesBack])), (mo_anoteMinute, hcI k 10 mo_rnoteMinute), (mo_anoteWho, hcI k 10 mo_rnoteWho), (mo_anoteIs, hcI k 10 mo_rnoteIs), (mo_ascalar, hcI k 8 (sc8 mo_s0 mo_s1 mo_s2 mo_s3 mo_s4 0 mo_s6 mo_s7))]) := hD
    refine lv_iconst (v := 0) hx hb dX9_note_12 (by decide) ?_
    exact hc_end hx hb hr hlocks (mo_rnoteMinute, mo_rnoteWho, mo_rnoteIs, 0) ⟨iv_lit (by decide) (by decide), h_mo_rnoteMinute, h_mo_rnoteWho, (show iv (0) (10) 0 from iv_lit (by decide) (by decide))⟩ hP hD hS dX9_note_13
set_option maxHeartbeats 4000000 in
set_option maxRecDepth 100000 in
theorem i_X9_ease (l : Launch) (D : va_G) (k : Nat → ClassId) (sz : Nat) (x1 : Int32) (mo : Nat) (mo_thrown : Int32) (mo_ascalar : Nat) (mo_acane : Nat) (mo_ais : Nat) (mo_astrandOf : Nat) (mo_aweight : Nat) (mo_aheight : Nat) (mo_achairOf : Nat) (mo_anoteMinute : Nat) (mo_anoteWho : Nat) (mo_anoteIs : Nat) (mo_atoldCane : Nat) (mo_anewScalar : Nat) (mo_anewCane : Nat) (mo_anewHeight : Nat) (mo_anewStrand : Nat) (mo_anewChair : Nat) (mo_anewWeight : Nat) (mo_taped : Int32) (mo_p : Int32) (mo_fault : Int32) (mo_slot : Int32) (mo_rules : Int32) (mo_entries : Int32) (mo_deep : Int32) (mo_counted : Int32) (mo_opened : Int32) (mo_words : Int32) (mo_atape : Nat) (mo_asort : Nat) (mo_anumber : Nat) (mo_aclauses : Nat) (mo_asumAt : Nat) (mo_atestAt : Nat) (mo_aendAt : Nat) (mo_aopen : Nat) (mo_aasked : Nat) (mo_astack : Nat) (mo_amust : Nat) (mo_apast : Nat) (mo_apastOf : Nat) (mo_pastMany : Int32) (mo_pastAt : Int32) (mo_takesBack : Int32) (mo_acanRise : Nat) (mo_afirstHas : Nat) (mo_asecondHas : Nat) (mo_alay : Nat) (mo_ashows : Nat) (mo_aimages : Nat) (mo_aisMade : Nat) (mo_imageAt : Int32) (mo_goesBack : Int32) (mo_rcane : Nat → Int32) (mo_ris : Nat → Int32) (mo_rstrandOf : Nat → Int32) (mo_rweight : Nat → Int32) (mo_rheight : Nat → Int32) (mo_rchairOf : Nat → Int32) (mo_s0 : Int32) (mo_s1 : Int32) (mo_s2 : Int32) (mo_s3 : Int32) (mo_s4 : Int32) (mo_s5 : Int32) (mo_s6 : Int32) (mo_s7 : Int32) (h_mo_taped : iv (0) (400) mo_taped) (h_mo_p : iv (0) (402) mo_p) (h_mo_fault : iv (0) (4000) mo_fault) (h_mo_slot : iv (0) (5) mo_slot) (h_mo_rules : iv (0) (6) mo_rules) (h_mo_entries : iv (0) (300) mo_entries) (h_mo_counted : iv (0) (70) mo_counted) (h_mo_opened : iv (0) (402) mo_opened) (h_mo_words : iv (11) (11) mo_words) (h_mo_pastMany : iv (0) (20) mo_pastMany) (h_mo_pastAt : iv (0) (260) mo_pastAt) (h_mo_takesBack : iv (0) (1) mo_takesBack) (h_mo_imageAt : iv (0) (2000) mo_imageAt) (h_mo_goesBack : iv (0) (1) mo_goesBack) (h_mo_rweight : rowIn (0) (20) mo_rweight) (h_mo_rchairOf : rowIn (0) (7) mo_rchairOf) (h_mo_s1 : iv (0) (4) mo_s1) (h_mo_s2 : iv (0) (8) mo_s2) (h_mo_s3 : iv (0) (8) mo_s3) (h_mo_s5 : iv (0) (10) mo_s5) (h_mo_s7 : iv (-1) (5) mo_s7) (hh_HallOk : HallOk mo_s2 mo_s3 mo_rstrandOf mo_rchairOf mo_rweight) : CtI l yX9_ease wsX9_ease (rmK 5 0 0) [.ref mo, .int x1] D k sz ([(mo, .inr (7, [.int mo_thrown, .ref mo_ascalar, .ref mo_acane, .ref mo_ais, .ref mo_astrandOf, .ref mo_aweight, .ref mo_aheight, .ref mo_achairOf, .ref mo_anoteMinute, .ref mo_anoteWho, .ref mo_anoteIs, .ref mo_atoldCane, .ref mo_anewScalar, .ref mo_anewCane, .ref mo_anewHeight, .ref mo_anewStrand, .ref mo_anewChair, .ref mo_anewWeight, .int mo_taped, .int mo_p, .int mo_fault, .int mo_slot, .int mo_rules, .int mo_entries, .int mo_deep, .int mo_counted, .int mo_opened, .int mo_words, .ref mo_atape, .ref mo_asort, .ref mo_anumber, .ref mo_aclauses, .ref mo_asumAt, .ref mo_atestAt, .ref mo_aendAt, .ref mo_aopen, .ref mo_aasked, .ref mo_astack, .ref mo_amust, .ref mo_apast, .ref mo_apastOf, .int mo_pastMany, .int mo_pastAt, .int mo_takesBack, .ref mo_acanRise, .ref mo_afirstHas, .ref mo_asecondHas, .ref mo_alay, .ref mo_ashows, .ref mo_aimages, .ref mo_aisMade, .int mo_imageAt, .int mo_goesBack])), (mo_acane, hcI k 4 mo_rcane), (mo_ais, hcI k 8 mo_ris), (mo_astrandOf, hcI k 8 mo_rstrandOf), (mo_aweight, hcI k 8 mo_rweight), (mo_aheight, hcI k 8 mo_rheight), (mo_achairOf, hcI k 8 mo_rchairOf), (mo_ascalar, hcI k 8 (sc8 mo_s0 mo_s1 mo_s2 mo_s3 mo_s4 mo_s5 mo_s6 mo_s7))]) (fun (r : Int32) (u : Unit) => True) (fun u : Unit => [(mo, .inr (7, [.int mo_thrown, .ref mo_ascalar, .ref mo_acane, .ref mo_ais, .ref mo_astrandOf, .ref mo_aweight, .ref mo_aheight, .ref mo_achairOf, .ref mo_anoteMinute, .ref mo_anoteWho, .ref mo_anoteIs, .ref mo_atoldCane, .ref mo_anewScalar, .ref mo_anewCane, .ref mo_anewHeight, .ref mo_anewStrand, .ref mo_anewChair, .ref mo_anewWeight, .int mo_taped, .int mo_p, .int mo_fault, .int mo_slot, .int mo_rules, .int mo_entries, .int mo_deep, .int mo_counted, .int mo_opened, .int mo_words, .ref mo_atape, .ref mo_asort, .ref mo_anumber, .ref mo_aclauses, .ref mo_asumAt, .ref mo_atestAt, .ref mo_aendAt, .ref mo_aopen, .ref mo_aasked, .ref mo_astack, .ref mo_amust, .ref mo_apast, .ref mo_apastOf, .int mo_pastMany, .int mo_pastAt, .int mo_takesBack, .ref mo_acanRise, .ref mo_afirstHas, .ref mo_asecondHas, .ref mo_alay, .ref mo_ashows, .ref mo_aimages, .ref mo_aisMade, .int mo_imageAt, .int mo_goesBack])), (mo_acane, hcI k 4 mo_rcane), (mo_ais, hcI k 8 mo_ris), (mo_astrandOf, hcI k 8 mo_rstrandOf), (mo_aweight, hcI k 8 mo_rweight), (mo_aheight, hcI k 8 mo_rheight), (mo_achairOf, hcI k 8 mo_rchairOf), (mo_ascalar, hcI k 8 (sc8 mo_s0 mo_s1 mo_s2 mo_s3 mo_s4 mo_s5 mo_s6 mo_s7))]) 0 0 := by
  have h_mo_taped_l := h_mo_taped.1
  have h_mo_taped_u := h_mo_taped.2
  have h_mo_p_l := h_mo_p.1
  have h_mo_p_u := h_mo_p.2
  have h_mo_fault_l := h_mo_fault.1
  have h_mo_fault_u := h_mo_fault.2
  have h_mo_slot_l := h_mo_slot.1
  have h_mo_slot_u := h_mo_slot.2
  have h_mo_rules_l := h_mo_rules.1
  have h_mo_rules_u := h_mo_rules.2
  have h_mo_entries_l := h_mo_entries.1
  have h_mo_entries_u := h_mo_entries.2
  have h_mo_counted_l := h_mo_counted.1
  have h_mo_counted_u := h_mo_counted.2
  have h_mo_opened_l := h_mo_opened.1
  have h_mo_opened_u := h_mo_opened.2
  have h_mo_words_l := h_mo_words.1
  have h_mo_words_u := h_mo_words.2
  have h_mo_pastMany_l := h_mo_pastMany.1
  have h_mo_pastMany_u := h_mo_pastMany.2
  have h_mo_pastAt_l := h_mo_pastAt.1
  have h_mo_pastAt_u := h_mo_pastAt.2
  have h_mo_takesBack_l := h_mo_takesBack.1
  have h_mo_takesBack_u := h_mo_takesBack.2
  have h_mo_imageAt_l := h_mo_imageAt.1
  have h_mo_imageAt_u := h_mo_imageAt.2
  have h_mo_goesBack_l := h_mo_goesBack.1
  have h_mo_goesBack_u := h_mo_goesBack.2
  have h_mo_s1_l := h_mo_s1.1
  have h_mo_s1_u := h_mo_s1.2
  have h_mo_s2_l := h_mo_s2.1
  have h_mo_s2_u := h_mo_s2.2
  have h_mo_s3_l := h_mo_s3.1
  have h_mo_s3_u := h_mo_s3.2
  have h_mo_s5_l := h_mo_s5.1
  have h_mo_s5_u := h_mo_s5.2
  have h_mo_s7_l := h_mo_s7.1
  have h_mo_s7_u := h_mo_s7.2
  refine CtI.mk (cc := cX9_ease) (maxL := 6) (ret := (some .int)) (by decide) rfl (Nat.le_of_ble_eq_true rfl) ?_
  intro p e s m below meth c A ls E hP hD hS hl
  obtain ⟨hx, hb, hr, hml, hown, hts, hlocks, hin, hG, hA⟩ := E
  have hown : s.vm.findClass RX9 = some m.cls := hown
  have in9 : ∀ w ∈ u_ws RX9 TX9 53, w ∈ wsX9_ease := fun _ h => List.mem_cons_of_mem _ (List.mem_append_right _ h)
  have hl : lv_has ls 6 [(0, .ref mo), (1, .int x1)] := hl
  refine lv_aload_n hx hb dX9_ease_0 rfl (lv_at hl 0 rfl) ?_
  refine hc_Vi (As := []) (rest := []) (n := 0) (wr := [(mo_acane, hcI k 4 mo_rcane), (mo_ais, hcI k 8 mo_ris), (mo_astrandOf, hcI k 8 mo_rstrandOf), (mo_aweight, hcI k 8 mo_rweight), (mo_aheight, hcI k 8 mo_rheight), (mo_achairOf, hcI k 8 mo_rchairOf)]) hx hb hml hown hts hG hA hP hD hS hl.1 [0, 7] [1, 2, 3, 4, 5, 6] (i_X9_isHall l D k _ mo mo_thrown mo_ascalar mo_acane mo_ais mo_astrandOf mo_aweight mo_aheight mo_achairOf mo_anoteMinute mo_anoteWho mo_anoteIs mo_atoldCane mo_anewScalar mo_anewCane mo_anewHeight mo_anewStrand mo_anewChair mo_anewWeight mo_taped mo_p mo_fault mo_slot mo_rules mo_entries mo_deep mo_counted mo_opened mo_words mo_atape mo_asort mo_anumber mo_aclauses mo_asumAt mo_atestAt mo_aendAt mo_aopen mo_aasked mo_astack mo_amust mo_apast mo_apastOf mo_pastMany mo_pastAt mo_takesBack mo_acanRise mo_afirstHas mo_asecondHas mo_alay mo_ashows mo_aimages mo_aisMade mo_imageAt mo_goesBack mo_s0 mo_s1 mo_s2 mo_s3 mo_s4 mo_s5 mo_s6 mo_s7 ⟨by omega, by omega⟩ ⟨by omega, by omega⟩ ⟨by omega, by omega⟩ ⟨by omega, by omega⟩ ⟨by omega, by omega⟩ ⟨by omega, by omega⟩ ⟨by omega, by omega⟩ ⟨by omega, by omega⟩ ⟨by omega, by omega⟩ ⟨by omega, by omega⟩ ⟨by omega, by omega⟩ ⟨by omega, by omega⟩ ⟨by omega, by omega⟩ ⟨by omega, by omega⟩ ⟨by omega, by omega⟩ ⟨by omega, by omega⟩ ⟨by omega, by omega⟩ ⟨by omega, by omega⟩ ⟨by omega, by omega⟩) (ci := 7) (q0 := 0) rfl rfl gX9_ease_X9_isHall rfl ⟨rfl, rfl, Nat.le_of_ble_eq_true rfl, Nat.le_of_ble_eq_true rfl⟩ (by decide +kernel) rfl rfl ⟨by decide, by decide, by decide⟩ ⟨rfl, rfl, Nat.le_of_ble_eq_true rfl, Nat.le_of_ble_eq_true rfl, Nat.le_of_ble_eq_true rfl⟩ dX9_ease_1 (fun r2 u1 H locs hw hP hD hS => ?_)
  have hP : va_P D vwCl ([(mo_acane, hcI k 4 mo_rcane), (mo_ais, hcI k 8 mo_ris), (mo_astrandOf, hcI k 8 mo_rstrandOf), (mo_aweight, hcI k 8 mo_rweight), (mo_aheight, hcI k 8 mo_rheight), (mo_achairOf, hcI k 8 mo_rchairOf), (mo, .inr (7, [.int mo_thrown, .ref mo_ascalar, .ref mo_acane, .ref mo_ais, .ref mo_astrandOf, .ref mo_aweight, .ref mo_aheight, .ref mo_achairOf, .ref mo_anoteMinute, .ref mo_anoteWho, .ref mo_anoteIs, .ref mo_atoldCane, .ref mo_anewScalar, .ref mo_anewCane, .ref mo_anewHeight, .ref mo_anewStrand, .ref mo_anewChair, .ref mo_anewWeight, .int mo_taped, .int mo_p, .int mo_fault, .int mo_slot, .int mo_rules, .int mo_entries, .int mo_deep, .int mo_counted, .int mo_opened, .int mo_words, .ref mo_atape, .ref mo_asort, .ref mo_anumber, .ref mo_aclauses, .ref mo_asumAt, .ref mo_atestAt, .ref mo_aendAt, .ref mo_aopen, .ref mo_aasked, .ref mo_astack, .ref mo_amust, .ref mo_apast, .ref mo_apastOf, .int mo_pastMany, .int mo_pastAt, .int mo_takesBack, .ref mo_acanRise, .ref mo_afirstHas, .ref mo_asecondHas, .ref mo_alay, .ref mo_ashows, .ref mo_aimages, .ref mo_aisMade, .int mo_imageAt, .int mo_goesBack])), (mo_ascalar, hcI k 8 (sc8 mo_s0 mo_s1 mo_s2 mo_s3 mo_s4 mo_s5 mo_s6 mo_s7))]) H := hP
  have hD : va_D A ([(mo_acane, hcI k 4 mo_rcane), (mo_ais, hcI k 8 mo_ris), (mo_astrandOf, hcI k 8 mo_rstrandOf), (mo_aweight, hcI k 8 mo_rweight), (mo_aheight, hcI k 8 mo_rheight), (mo_achairOf, hcI k 8 mo_rchairOf), (mo, .inr (7, [.int mo_thrown, .ref mo_ascalar, .ref mo_acane, .ref mo_ais, .ref mo_astrandOf, .ref mo_aweight, .ref mo_aheight, .ref mo_achairOf, .ref mo_anoteMinute, .ref mo_anoteWho, .ref mo_anoteIs, .ref mo_atoldCane, .ref mo_anewScalar, .ref mo_anewCane, .ref mo_anewHeight, .ref mo_anewStrand, .ref mo_anewChair, .ref mo_anewWeight, .int mo_taped, .int mo_p, .int mo_fault, .int mo_slot, .int mo_rules, .int mo_entries, .int mo_deep, .int mo_counted, .int mo_opened, .int mo_words, .ref mo_atape, .ref mo_asort, .ref mo_anumber, .ref mo_aclauses, .ref mo_asumAt, .ref mo_atestAt, .ref mo_aendAt, .ref mo_aopen, .ref mo_aasked, .ref mo_astack, .ref mo_amust, .ref mo_apast, .ref mo_apastOf, .int mo_pastMany, .int mo_pastAt, .int mo_takesBack, .ref mo_acanRise, .ref mo_afirstHas, .ref mo_asecondHas, .ref mo_alay, .ref mo_ashows, .ref mo_aimages, .ref mo_aisMade, .int mo_imageAt, .int mo_goesBack])), (mo_ascalar, hcI k 8 (sc8 mo_s0 mo_s1 mo_s2 mo_s3 mo_s4 mo_s5 mo_s6 mo_s7))]) := hD
  have br2 := hw
  have br2 : iv (0) (1) r2 := br2
  have br2_l := br2.1
  have br2_u := br2.2
  refine lv_if_eq (tgt := 17) hx hb dX9_ease_4 (by decide) (fun c3 => ?_) (fun c3 => ?_)
  · have fc3 := cx_eq_t (a := r2.toInt) (b := 0) rfl (by decide) c3
    refine lv_iconst (v := (-1)) hx hb dX9_ease_17 (by decide) ?_
    exact hc_end hx hb hr hlocks () trivial (hP.sub [6, 0, 1, 2, 3, 4, 5, 7] rfl) (hD.sub [6, 0, 1, 2, 3, 4, 5, 7] (by decide) rfl) hS dX9_ease_18
  · have fc3 := cx_eq_f (a := r2.toInt) (b := 0) rfl (by decide) c3
    refine lv_iload_n hx hb dX9_ease_7 rfl (lv_at hl 1 rfl) ?_
    refine lv_i2l hx hb dX9_ease_8 rfl ?_
    refine lv_topl (fun y4 ey4 => ?_)
    have ty4 : y4.toInt = x1.toInt := ai_i2l rfl ey4
    refine lv_lconst (v := 0) hx hb dX9_ease_9 (by decide) ?_
    refine lv_lconst (v := 1) hx hb dX9_ease_10 (by decide) ?_
    have ql5 : (0 : Int64).toInt = 0 := by decide
    have ql6 : (1 : Int64).toInt = 1 := by decide
    refine hc_Si (As := [.long y4, .long 0, .long 1]) (rest := []) (n := 3) (wr := [(mo_acane, hcI k 4 mo_rcane), (mo_ais, hcI k 8 mo_ris), (mo_astrandOf, hcI k 8 mo_rstrandOf), (mo_aweight, hcI k 8 mo_rweight), (mo_aheight, hcI k 8 mo_rheight), (mo_achairOf, hcI k 8 mo_rchairOf), (mo, .inr (7, [.int mo_thrown, .ref mo_ascalar, .ref mo_acane, .ref mo_ais, .ref mo_astrandOf, .ref mo_aweight, .ref mo_aheight, .ref mo_achairOf, .ref mo_anoteMinute, .ref mo_anoteWho, .ref mo_anoteIs, .ref mo_atoldCane, .ref mo_anewScalar, .ref mo_anewCane, .ref mo_anewHeight, .ref mo_anewStrand, .ref mo_anewChair, .ref mo_anewWeight, .int mo_taped, .int mo_p, .int mo_fault, .int mo_slot, .int mo_rules, .int mo_entries, .int mo_deep, .int mo_counted, .int mo_opened, .int mo_words, .ref mo_atape, .ref mo_asort, .ref mo_anumber, .ref mo_aclauses, .ref mo_asumAt, .ref mo_atestAt, .ref mo_aendAt, .ref mo_aopen, .ref mo_aasked, .ref mo_astack, .ref mo_amust, .ref mo_apast, .ref mo_apastOf, .int mo_pastMany, .int mo_pastAt, .int mo_takesBack, .ref mo_acanRise, .ref mo_afirstHas, .ref mo_asecondHas, .ref mo_alay, .ref mo_ashows, .ref mo_aimages, .ref mo_aisMade, .int mo_imageAt, .int mo_goesBack])), (mo_ascalar, hcI k 8 (sc8 mo_s0 mo_s1 mo_s2 mo_s3 mo_s4 mo_s5 mo_s6 mo_s7))]) hx hb hml hown hts hG hA hP hD hS hl.1 [] [0, 1, 2, 3, 4, 5, 6, 7] (i_X9_in l D k _ y4 0 1 ) gX9_ease_X9_in rfl ⟨rfl, rfl, Nat.le_of_ble_eq_true rfl, Nat.le_of_ble_eq_true rfl⟩ (by decide +kernel) rfl rfl ⟨by decide, by decide, by decide⟩ ⟨rfl, rfl, Nat.le_of_ble_eq_true rfl, Nat.le_of_ble_eq_true rfl, Nat.le_of_ble_eq_true rfl⟩ dX9_ease_11 (fun r8 u7 H locs hw hP hD hS => ?_)
    have hP : va_P D vwCl ([(mo_acane, hcI k 4 mo_rcane), (mo_ais, hcI k 8 mo_ris), (mo_astrandOf, hcI k 8 mo_rstrandOf), (mo_aweight, hcI k 8 mo_rweight), (mo_aheight, hcI k 8 mo_rheight), (mo_achairOf, hcI k 8 mo_rchairOf), (mo, .inr (7, [.int mo_thrown, .ref mo_ascalar, .ref mo_acane, .ref mo_ais, .ref mo_astrandOf, .ref mo_aweight, .ref mo_aheight, .ref mo_achairOf, .ref mo_anoteMinute, .ref mo_anoteWho, .ref mo_anoteIs, .ref mo_atoldCane, .ref mo_anewScalar, .ref mo_anewCane, .ref mo_anewHeight, .ref mo_anewStrand, .ref mo_anewChair, .ref mo_anewWeight, .int mo_taped, .int mo_p, .int mo_fault, .int mo_slot, .int mo_rules, .int mo_entries, .int mo_deep, .int mo_counted, .int mo_opened, .int mo_words, .ref mo_atape, .ref mo_asort, .ref mo_anumber, .ref mo_aclauses, .ref mo_asumAt, .ref mo_atestAt, .ref mo_aendAt, .ref mo_aopen, .ref mo_aasked, .ref mo_astack, .ref mo_amust, .ref mo_apast, .ref mo_apastOf, .int mo_pastMany, .int mo_pastAt, .int mo_takesBack, .ref mo_acanRise, .ref mo_afirstHas, .ref mo_asecondHas, .ref mo_alay, .ref mo_ashows, .ref mo_aimages, .ref mo_aisMade, .int mo_imageAt, .int mo_goesBack])), (mo_ascalar, hcI k 8 (sc8 mo_s0 mo_s1 mo_s2 mo_s3 mo_s4 mo_s5 mo_s6 mo_s7))]) H := hP
    have hD : va_D A ([(mo_acane, hcI k 4 mo_rcane), (mo_ais, hcI k 8 mo_ris), (mo_astrandOf, hcI k 8 mo_rstrandOf), (mo_aweight, hcI k 8 mo_rweight), (mo_aheight, hcI k 8 mo_rheight), (mo_achairOf, hcI k 8 mo_rchairOf), (mo, .inr (7, [.int mo_thrown, .ref mo_ascalar, .ref mo_acane, .ref mo_ais, .ref mo_astrandOf, .ref mo_aweight, .ref mo_aheight, .ref mo_achairOf, .ref mo_anoteMinute, .ref mo_anoteWho, .ref mo_anoteIs, .ref mo_atoldCane, .ref mo_anewScalar, .ref mo_anewCane, .ref mo_anewHeight, .ref mo_anewStrand, .ref mo_anewChair, .ref mo_anewWeight, .int mo_taped, .int mo_p, .int mo_fault, .int mo_slot, .int mo_rules, .int mo_entries, .int mo_deep, .int mo_counted, .int mo_opened, .int mo_words, .ref mo_atape, .ref mo_asort, .ref mo_anumber, .ref mo_aclauses, .ref mo_asumAt, .ref mo_atestAt, .ref mo_aendAt, .ref mo_aopen, .ref mo_aasked, .ref mo_astack, .ref mo_amust, .ref mo_apast, .ref mo_apastOf, .int mo_pastMany, .int mo_pastAt, .int mo_takesBack, .ref mo_acanRise, .ref mo_afirstHas, .ref mo_asecondHas, .ref mo_alay, .ref mo_ashows, .ref mo_aimages, .ref mo_aisMade, .int mo_imageAt, .int mo_goesBack])), (mo_ascalar, hcI k 8 (sc8 mo_s0 mo_s1 mo_s2 mo_s3 mo_s4 mo_s5 mo_s6 mo_s7))]) := hD
    obtain ⟨br8, rel9⟩ := hw
    have br8 : iv (0) (1) r8 := br8
    have br8_l := br8.1
    have br8_u := br8.2
    refine lv_if_ne (tgt := 19) hx hb dX9_ease_14 (by decide) (fun c10 => ?_) (fun c10 => ?_)
    · have fc10 := cx_ne_t (a := r8.toInt) (b := 0) rfl (by decide) c10
      refine lv_aload_n hx hb dX9_ease_19 rfl (lv_at hl 0 rfl) ?_
      refine lv_iconst (v := 0) hx hb dX9_ease_20 (by decide) ?_
      have ql11 : (0 : Int32).toInt = 0 := by decide
      refine hc_Vi (As := [.int 0]) (rest := []) (n := 1) (wr := [(mo_acane, hcI k 4 mo_rcane), (mo_astrandOf, hcI k 8 mo_rstrandOf), (mo_aweight, hcI k 8 mo_rweight), (mo_aheight, hcI k 8 mo_rheight), (mo_achairOf, hcI k 8 mo_rchairOf)]) hx hb hml hown hts hG hA hP hD hS hl.1 [6, 1, 7] [0, 2, 3, 4, 5] (i_X9_those l D k _ 0 mo mo_thrown mo_ascalar mo_acane mo_ais mo_astrandOf mo_aweight mo_aheight mo_achairOf mo_anoteMinute mo_anoteWho mo_anoteIs mo_atoldCane mo_anewScalar mo_anewCane mo_anewHeight mo_anewStrand mo_anewChair mo_anewWeight mo_taped mo_p mo_fault mo_slot mo_rules mo_entries mo_deep mo_counted mo_opened mo_words mo_atape mo_asort mo_anumber mo_aclauses mo_asumAt mo_atestAt mo_aendAt mo_aopen mo_aasked mo_astack mo_amust mo_apast mo_apastOf mo_pastMany mo_pastAt mo_takesBack mo_acanRise mo_afirstHas mo_asecondHas mo_alay mo_ashows mo_aimages mo_aisMade mo_imageAt mo_goesBack mo_ris mo_s0 mo_s1 mo_s2 mo_s3 mo_s4 mo_s5 mo_s6 mo_s7 ⟨by omega, by omega⟩ ⟨by omega, by omega⟩ ⟨by omega, by omega⟩ ⟨by omega, by omega⟩ ⟨by omega, by omega⟩ ⟨by omega, by omega⟩ ⟨by omega, by omega⟩ ⟨by omega, by omega⟩ ⟨by omega, by omega⟩ ⟨by omega, by omega⟩ ⟨by omega, by omega⟩ ⟨by omega, by omega⟩ ⟨by omega, by omega⟩ ⟨by omega, by omega⟩ ⟨by omega, by omega⟩ ⟨by omega, by omega⟩ ⟨by omega, by omega⟩ ⟨by omega, by omega⟩ ⟨by omega, by omega⟩) (ci := 7) (q0 := 6) rfl rfl gX9_ease_X9_those rfl ⟨rfl, rfl, Nat.le_of_ble_eq_true rfl, Nat.le_of_ble_eq_true rfl⟩ (by decide +kernel) rfl rfl ⟨by decide, by decide, by decide⟩ ⟨rfl, rfl, Nat.le_of_ble_eq_true rfl, Nat.le_of_ble_eq_true rfl, Nat.le_of_ble_eq_true rfl⟩ dX9_ease_21 (fun r13 u12 H locs hw hP hD hS => ?_)
      have hP : va_P D vwCl ([(mo_acane, hcI k 4 mo_rcane), (mo_astrandOf, hcI k 8 mo_rstrandOf), (mo_aweight, hcI k 8 mo_rweight), (mo_aheight, hcI k 8 mo_rheight), (mo_achairOf, hcI k 8 mo_rchairOf), (mo, .inr (7, [.int mo_thrown, .ref mo_ascalar, .ref mo_acane, .ref mo_ais, .ref mo_astrandOf, .ref mo_aweight, .ref mo_aheight, .ref mo_achairOf, .ref mo_anoteMinute, .ref mo_anoteWho, .ref mo_anoteIs, .ref mo_atoldCane, .ref mo_anewScalar, .ref mo_anewCane, .ref mo_anewHeight, .ref mo_anewStrand, .ref mo_anewChair, .ref mo_anewWeight, .int mo_taped, .int mo_p, .int mo_fault, .int mo_slot, .int mo_rules, .int mo_entries, .int mo_deep, .int mo_counted, .int mo_opened, .int mo_words, .ref mo_atape, .ref mo_asort, .ref mo_anumber, .ref mo_aclauses, .ref mo_asumAt, .ref mo_atestAt, .ref mo_aendAt, .ref mo_aopen, .ref mo_aasked, .ref mo_astack, .ref mo_amust, .ref mo_apast, .ref mo_apastOf, .int mo_pastMany, .int mo_pastAt, .int mo_takesBack, .ref mo_acanRise, .ref mo_afirstHas, .ref mo_asecondHas, .ref mo_alay, .ref mo_ashows, .ref mo_aimages, .ref mo_aisMade, .int mo_imageAt, .int mo_goesBack])), (mo_ais, hcI k 8 mo_ris), (mo_ascalar, hcI k 8 (sc8 mo_s0 mo_s1 mo_s2 mo_s3 mo_s4 mo_s5 mo_s6 mo_s7))]) H := hP
      have hD : va_D A ([(mo_acane, hcI k 4 mo_rcane), (mo_astrandOf, hcI k 8 mo_rstrandOf), (mo_aweight, hcI k 8 mo_rweight), (mo_aheight, hcI k 8 mo_rheight), (mo_achairOf, hcI k 8 mo_rchairOf), (mo, .inr (7, [.int mo_thrown, .ref mo_ascalar, .ref mo_acane, .ref mo_ais, .ref mo_astrandOf, .ref mo_aweight, .ref mo_aheight, .ref mo_achairOf, .ref mo_anoteMinute, .ref mo_anoteWho, .ref mo_anoteIs, .ref mo_atoldCane, .ref mo_anewScalar, .ref mo_anewCane, .ref mo_anewHeight, .ref mo_anewStrand, .ref mo_anewChair, .ref mo_anewWeight, .int mo_taped, .int mo_p, .int mo_fault, .int mo_slot, .int mo_rules, .int mo_entries, .int mo_deep, .int mo_counted, .int mo_opened, .int mo_words, .ref mo_atape, .ref mo_asort, .ref mo_anumber, .ref mo_aclauses, .ref mo_asumAt, .ref mo_atestAt, .ref mo_aendAt, .ref mo_aopen, .ref mo_aasked, .ref mo_astack, .ref mo_amust, .ref mo_apast, .ref mo_apastOf, .int mo_pastMany, .int mo_pastAt, .int mo_takesBack, .ref mo_acanRise, .ref mo_afirstHas, .ref mo_asecondHas, .ref mo_alay, .ref mo_ashows, .ref mo_aimages, .ref mo_aisMade, .int mo_imageAt, .int mo_goesBack])), (mo_ais, hcI k 8 mo_ris), (mo_ascalar, hcI k 8 (sc8 mo_s0 mo_s1 mo_s2 mo_s3 mo_s4 mo_s5 mo_s6 mo_s7))]) := hD
      have ql15 : (0 : Int32).toInt = 0 := by decide
      have rel14 := hw
      refine lv_istore_n (lv' := [(2, .int r13), (0, .ref mo), (1, .int x1)]) hx hb dX9_ease_24 rfl hl (by decide) rfl (fun ls hl => ?_)
      refine lv_aload_n hx hb dX9_ease_25 rfl (lv_at hl 1 rfl) ?_
      refine lv_iconst (v := 1) hx hb dX9_ease_26 (by decide) ?_
      have ql16 : (1 : Int32).toInt = 1 := by decide
      refine hc_Vi (As := [.int 1]) (rest := []) (n := 1) (wr := [(mo_acane, hcI k 4 mo_rcane), (mo_astrandOf, hcI k 8 mo_rstrandOf), (mo_aweight, hcI k 8 mo_rweight), (mo_aheight, hcI k 8 mo_rheight), (mo_achairOf, hcI k 8 mo_rchairOf)]) hx hb hml hown hts hG hA hP hD hS hl.1 [5, 6, 7] [0, 1, 2, 3, 4] (i_X9_those l D k _ 1 mo mo_thrown mo_ascalar mo_acane mo_ais mo_astrandOf mo_aweight mo_aheight mo_achairOf mo_anoteMinute mo_anoteWho mo_anoteIs mo_atoldCane mo_anewScalar mo_anewCane mo_anewHeight mo_anewStrand mo_anewChair mo_anewWeight mo_taped mo_p mo_fault mo_slot mo_rules mo_entries mo_deep mo_counted mo_opened mo_words mo_atape mo_asort mo_anumber mo_aclauses mo_asumAt mo_atestAt mo_aendAt mo_aopen mo_aasked mo_astack mo_amust mo_apast mo_apastOf mo_pastMany mo_pastAt mo_takesBack mo_acanRise mo_afirstHas mo_asecondHas mo_alay mo_ashows mo_aimages mo_aisMade mo_imageAt mo_goesBack mo_ris mo_s0 mo_s1 mo_s2 mo_s3 mo_s4 mo_s5 mo_s6 mo_s7 ⟨by omega, by omega⟩ ⟨by omega, by omega⟩ ⟨by omega, by omega⟩ ⟨by omega, by omega⟩ ⟨by omega, by omega⟩ ⟨by omega, by omega⟩ ⟨by omega, by omega⟩ ⟨by omega, by omega⟩ ⟨by omega, by omega⟩ ⟨by omega, by omega⟩ ⟨by omega, by omega⟩ ⟨by omega, by omega⟩ ⟨by omega, by omega⟩ ⟨by omega, by omega⟩ ⟨by omega, by omega⟩ ⟨by omega, by omega⟩ ⟨by omega, by omega⟩ ⟨by omega, by omega⟩ ⟨by omega, by omega⟩) (ci := 7) (q0 := 5) rfl rfl gX9_ease_X9_those rfl ⟨rfl, rfl, Nat.le_of_ble_eq_true rfl, Nat.le_of_ble_eq_true rfl⟩ (by decide +kernel) rfl rfl ⟨by decide, by decide, by decide⟩ ⟨rfl, rfl, Nat.le_of_ble_eq_true rfl, Nat.le_of_ble_eq_true rfl, Nat.le_of_ble_eq_true rfl⟩ dX9_ease_27 (fun r18 u17 H locs hw hP hD hS => ?_)
      have hP : va_P D vwCl ([(mo_acane, hcI k 4 mo_rcane), (mo_astrandOf, hcI k 8 mo_rstrandOf), (mo_aweight, hcI k 8 mo_rweight), (mo_aheight, hcI k 8 mo_rheight), (mo_achairOf, hcI k 8 mo_rchairOf), (mo, .inr (7, [.int mo_thrown, .ref mo_ascalar, .ref mo_acane, .ref mo_ais, .ref mo_astrandOf, .ref mo_aweight, .ref mo_aheight, .ref mo_achairOf, .ref mo_anoteMinute, .ref mo_anoteWho, .ref mo_anoteIs, .ref mo_atoldCane, .ref mo_anewScalar, .ref mo_anewCane, .ref mo_anewHeight, .ref mo_anewStrand, .ref mo_anewChair, .ref mo_anewWeight, .int mo_taped, .int mo_p, .int mo_fault, .int mo_slot, .int mo_rules, .int mo_entries, .int mo_deep, .int mo_counted, .int mo_opened, .int mo_words, .ref mo_atape, .ref mo_asort, .ref mo_anumber, .ref mo_aclauses, .ref mo_asumAt, .ref mo_atestAt, .ref mo_aendAt, .ref mo_aopen, .ref mo_aasked, .ref mo_astack, .ref mo_amust, .ref mo_apast, .ref mo_apastOf, .int mo_pastMany, .int mo_pastAt, .int mo_takesBack, .ref mo_acanRise, .ref mo_afirstHas, .ref mo_asecondHas, .ref mo_alay, .ref mo_ashows, .ref mo_aimages, .ref mo_aisMade, .int mo_imageAt, .int mo_goesBack])), (mo_ais, hcI k 8 mo_ris), (mo_ascalar, hcI k 8 (sc8 mo_s0 mo_s1 mo_s2 mo_s3 mo_s4 mo_s5 mo_s6 mo_s7))]) H := hP
      have hD : va_D A ([(mo_acane, hcI k 4 mo_rcane), (mo_astrandOf, hcI k 8 mo_rstrandOf), (mo_aweight, hcI k 8 mo_rweight), (mo_aheight, hcI k 8 mo_rheight), (mo_achairOf, hcI k 8 mo_rchairOf), (mo, .inr (7, [.int mo_thrown, .ref mo_ascalar, .ref mo_acane, .ref mo_ais, .ref mo_astrandOf, .ref mo_aweight, .ref mo_aheight, .ref mo_achairOf, .ref mo_anoteMinute, .ref mo_anoteWho, .ref mo_anoteIs, .ref mo_atoldCane, .ref mo_anewScalar, .ref mo_anewCane, .ref mo_anewHeight, .ref mo_anewStrand, .ref mo_anewChair, .ref mo_anewWeight, .int mo_taped, .int mo_p, .int mo_fault, .int mo_slot, .int mo_rules, .int mo_entries, .int mo_deep, .int mo_counted, .int mo_opened, .int mo_words, .ref mo_atape, .ref mo_asort, .ref mo_anumber, .ref mo_aclauses, .ref mo_asumAt, .ref mo_atestAt, .ref mo_aendAt, .ref mo_aopen, .ref mo_aasked, .ref mo_astack, .ref mo_amust, .ref mo_apast, .ref mo_apastOf, .int mo_pastMany, .int mo_pastAt, .int mo_takesBack, .ref mo_acanRise, .ref mo_afirstHas, .ref mo_asecondHas, .ref mo_alay, .ref mo_ashows, .ref mo_aimages, .ref mo_aisMade, .int mo_imageAt, .int mo_goesBack])), (mo_ais, hcI k 8 mo_ris), (mo_ascalar, hcI k 8 (sc8 mo_s0 mo_s1 mo_s2 mo_s3 mo_s4 mo_s5 mo_s6 mo_s7))]) := hD
      have ql20 : (1 : Int32).toInt = 1 := by decide
      have rel19 := hw
      refine lv_istore_n (lv' := [(3, .int r18), (2, .int r13), (0, .ref mo), (1, .int x1)]) hx hb dX9_ease_30 rfl hl (by decide) rfl (fun ls hl => ?_)
      refine lv_iconst (v := 0) hx hb dX9_ease_31 (by decide) ?_
      refine lv_istore (lv' := [(4, .int 0), (3, .int r18), (2, .int r13), (0, .ref mo), (1, .int x1)]) hx hb dX9_ease_32 hl (by decide) rfl (fun ls hl => ?_)
      refine lv_iconst (v := 0) hx hb dX9_ease_34 (by decide) ?_
      refine lv_istore (lv' := [(5, .int 0), (4, .int 0), (3, .int r18), (2, .int r13), (0, .ref mo), (1, .int x1)]) hx hb dX9_ease_35 hl (by decide) rfl (fun ls hl => ?_)
      have loop21 : ∀ (fu : Nat) (L4_21 : Int32) (L5_21 : Int32), iv (0) (256) L5_21 → 257 - L5_21.toInt < (fu : Int) → ∀ (H : Heap) (locs : List Loc) (ls : Array Slot), va_P D vwCl ([(mo_acane, hcI k 4 mo_rcane), (mo_astrandOf, hcI k 8 mo_rstrandOf), (mo_aweight, hcI k 8 mo_rweight), (mo_aheight, hcI k 8 mo_rheight), (mo_achairOf, hcI k 8 mo_rchairOf), (mo, .inr (7, [.int mo_thrown, .ref mo_ascalar, .ref mo_acane, .ref mo_ais, .ref mo_astrandOf, .ref mo_aweight, .ref mo_aheight, .ref mo_achairOf, .ref mo_anoteMinute, .ref mo_anoteWho, .ref mo_anoteIs, .ref mo_atoldCane, .ref mo_anewScalar, .ref mo_anewCane, .ref mo_anewHeight, .ref mo_anewStrand, .ref mo_anewChair, .ref mo_anewWeight, .int mo_taped, .int mo_p, .int mo_fault, .int mo_slot, .int mo_rules, .int mo_entries, .int mo_deep, .int mo_counted, .int mo_opened, .int mo_words, .ref mo_atape, .ref mo_asort, .ref mo_anumber, .ref mo_aclauses, .ref mo_asumAt, .ref mo_atestAt, .ref mo_aendAt, .ref mo_aopen, .ref mo_aasked, .ref mo_astack, .ref mo_amust, .ref mo_apast, .ref mo_apastOf, .int mo_pastMany, .int mo_pastAt, .int mo_takesBack, .ref mo_acanRise, .ref mo_afirstHas, .ref mo_asecondHas, .ref mo_alay, .ref mo_ashows, .ref mo_aimages, .ref mo_aisMade, .int mo_imageAt, .int mo_goesBack])), (mo_ais, hcI k 8 mo_ris), (mo_ascalar, hcI k 8 (sc8 mo_s0 mo_s1 mo_s2 mo_s3 mo_s4 mo_s5 mo_s6 mo_s7))]) H → va_D A ([(mo_acane, hcI k 4 mo_rcane), (mo_astrandOf, hcI k 8 mo_rstrandOf), (mo_aweight, hcI k 8 mo_rweight), (mo_aheight, hcI k 8 mo_rheight), (mo_achairOf, hcI k 8 mo_rchairOf), (mo, .inr (7, [.int mo_thrown, .ref mo_ascalar, .ref mo_acane, .ref mo_ais, .ref mo_astrandOf, .ref mo_aweight, .ref mo_aheight, .ref mo_achairOf, .ref mo_anoteMinute, .ref mo_anoteWho, .ref mo_anoteIs, .ref mo_atoldCane, .ref mo_anewScalar, .ref mo_anewCane, .ref mo_anewHeight, .ref mo_anewStrand, .ref mo_anewChair, .ref mo_anewWeight, .int mo_taped, .int mo_p, .int mo_fault, .int mo_slot, .int mo_rules, .int mo_entries, .int mo_deep, .int mo_counted, .int mo_opened, .int mo_words, .ref mo_atape, .ref mo_asort, .ref mo_anumber, .ref mo_aclauses, .ref mo_asumAt, .ref mo_atestAt, .ref mo_aendAt, .ref mo_aopen, .ref mo_aasked, .ref mo_astack, .ref mo_amust, .ref mo_apast, .ref mo_apastOf, .int mo_pastMany, .int mo_pastAt, .int mo_takesBack, .ref mo_acanRise, .ref mo_afirstHas, .ref mo_asecondHas, .ref mo_alay, .ref mo_ashows, .ref mo_aimages, .ref mo_aisMade, .int mo_imageAt, .int mo_goesBack])), (mo_ais, hcI k 8 mo_ris), (mo_ascalar, hcI k 8 (sc8 mo_s0 mo_s1 mo_s2 mo_s3 mo_s4 mo_s5 mo_s6 mo_s7))]) → va_S A s.heap H locs → lv_has ls 6 [(5, .int L5_21), (4, .int L4_21), (3, .int r18), (2, .int r13), (0, .ref mo), (1, .int x1)] → W p l e (rmK 5 0 0) s m (List.toArray [.ref mo, .int x1]) below meth c H locs 0 0 (MQ below (va_Qi (fun (r : Int32) (u : Unit) => True) (hcB D (fun u : Unit => [(mo, .inr (7, [.int mo_thrown, .ref mo_ascalar, .ref mo_acane, .ref mo_ais, .ref mo_astrandOf, .ref mo_aweight, .ref mo_aheight, .ref mo_achairOf, .ref mo_anoteMinute, .ref mo_anoteWho, .ref mo_anoteIs, .ref mo_atoldCane, .ref mo_anewScalar, .ref mo_anewCane, .ref mo_anewHeight, .ref mo_anewStrand, .ref mo_anewChair, .ref mo_anewWeight, .int mo_taped, .int mo_p, .int mo_fault, .int mo_slot, .int mo_rules, .int mo_entries, .int mo_deep, .int mo_counted, .int mo_opened, .int mo_words, .ref mo_atape, .ref mo_asort, .ref mo_anumber, .ref mo_aclauses, .ref mo_asumAt, .ref mo_atestAt, .ref mo_aendAt, .ref mo_aopen, .ref mo_aasked, .ref mo_astack, .ref mo_amust, .ref mo_apast, .ref mo_apastOf, .int mo_pastMany, .int mo_pastAt, .int mo_takesBack, .ref mo_acanRise, .ref mo_afirstHas, .ref mo_asecondHas, .ref mo_alay, .ref mo_ashows, .ref mo_aimages, .ref mo_aisMade, .int mo_imageAt, .int mo_goesBack])), (mo_acane, hcI k 4 mo_rcane), (mo_ais, hcI k 8 mo_ris), (mo_astrandOf, hcI k 8 mo_rstrandOf), (mo_aweight, hcI k 8 mo_rweight), (mo_aheight, hcI k 8 mo_rheight), (mo_achairOf, hcI k 8 mo_rchairOf), (mo_ascalar, hcI k 8 (sc8 mo_s0 mo_s1 mo_s2 mo_s3 mo_s4 mo_s5 mo_s6 mo_s7))]) A) A) (List.toArray [.ref mo, .int x1]) s 0 0 A) (F0 m 37 ls []) := by
        intro fu
        induction fu with
        | zero =>
          intro L4_21 L5_21 bL5_21 hm
          have bL5_21_l := bL5_21.1
          have bL5_21_u := bL5_21.2
          exact absurd hm (by omega)
        | succ fu ih21 =>
          intro L4_21 L5_21 bL5_21 hm H locs ls hP hD hS hl
          have bL5_21_l := bL5_21.1
          have bL5_21_u := bL5_21.2
          refine lv_iload hx hb dX9_ease_37 (lv_at hl 0 rfl) ?_
          refine lv_iload_n hx hb dX9_ease_39 rfl (lv_at hl 3 rfl) ?_
          refine lv_icmp_gt (tgt := 86) hx hb dX9_ease_40 (by decide) (fun c22 => ?_) (fun c22 => ?_)
          · have fc22 := cx_gt_t (a := L5_21.toInt) (b := r13.toInt) rfl rfl c22
            refine lv_iload_n hx hb dX9_ease_86 rfl (lv_at hl 5 rfl) ?_
            refine lv_if_ne (tgt := 98) hx hb dX9_ease_87 (by decide) (fun c23 => ?_) (fun c23 => ?_)
            · have fc23 := cx_ne_t (a := x1.toInt) (b := 0) rfl (by decide) c23
              refine lv_iload hx hb dX9_ease_98 (lv_at hl 1 rfl) ?_
              exact hc_end hx hb hr hlocks () trivial (hP.sub [5, 0, 6, 1, 2, 3, 4, 7] rfl) (hD.sub [5, 0, 6, 1, 2, 3, 4, 7] (by decide) rfl) hS dX9_ease_100
            · have fc23 := cx_ne_f (a := x1.toInt) (b := 0) rfl (by decide) c23
              refine lv_iload hx hb dX9_ease_90 (lv_at hl 1 rfl) ?_
              refine hc_Si (As := [.int L4_21]) (rest := []) (n := 1) (wr := [(mo_acane, hcI k 4 mo_rcane), (mo_astrandOf, hcI k 8 mo_rstrandOf), (mo_aweight, hcI k 8 mo_rweight), (mo_aheight, hcI k 8 mo_rheight), (mo_achairOf, hcI k 8 mo_rchairOf), (mo, .inr (7, [.int mo_thrown, .ref mo_ascalar, .ref mo_acane, .ref mo_ais, .ref mo_astrandOf, .ref mo_aweight, .ref mo_aheight, .ref mo_achairOf, .ref mo_anoteMinute, .ref mo_anoteWho, .ref mo_anoteIs, .ref mo_atoldCane, .ref mo_anewScalar, .ref mo_anewCane, .ref mo_anewHeight, .ref mo_anewStrand, .ref mo_anewChair, .ref mo_anewWeight, .int mo_taped, .int mo_p, .int mo_fault, .int mo_slot, .int mo_rules, .int mo_entries, .int mo_deep, .int mo_counted, .int mo_opened, .int mo_words, .ref mo_atape, .ref mo_asort, .ref mo_anumber, .ref mo_aclauses, .ref mo_asumAt, .ref mo_atestAt, .ref mo_aendAt, .ref mo_aopen, .ref mo_aasked, .ref mo_astack, .ref mo_amust, .ref mo_apast, .ref mo_apastOf, .int mo_pastMany, .int mo_pastAt, .int mo_takesBack, .ref mo_acanRise, .ref mo_afirstHas, .ref mo_asecondHas, .ref mo_alay, .ref mo_ashows, .ref mo_aimages, .ref mo_aisMade, .int mo_imageAt, .int mo_goesBack])), (mo_ais, hcI k 8 mo_ris), (mo_ascalar, hcI k 8 (sc8 mo_s0 mo_s1 mo_s2 mo_s3 mo_s4 mo_s5 mo_s6 mo_s7))]) hx hb hml hown hts hG hA hP hD hS hl.1 [] [0, 1, 2, 3, 4, 5, 6, 7] (i_X9_bits l D k _ L4_21 ) gX9_ease_X9_bits rfl ⟨rfl, rfl, Nat.le_of_ble_eq_true rfl, Nat.le_of_ble_eq_true rfl⟩ (by decide +kernel) rfl rfl ⟨by decide, by decide, by decide⟩ ⟨rfl, rfl, Nat.le_of_ble_eq_true rfl, Nat.le_of_ble_eq_true rfl, Nat.le_of_ble_eq_true rfl⟩ dX9_ease_92 (fun r25 u24 H locs hw hP hD hS => ?_)
              have hP : va_P D vwCl ([(mo_acane, hcI k 4 mo_rcane), (mo_astrandOf, hcI k 8 mo_rstrandOf), (mo_aweight, hcI k 8 mo_rweight), (mo_aheight, hcI k 8 mo_rheight), (mo_achairOf, hcI k 8 mo_rchairOf), (mo, .inr (7, [.int mo_thrown, .ref mo_ascalar, .ref mo_acane, .ref mo_ais, .ref mo_astrandOf, .ref mo_aweight, .ref mo_aheight, .ref mo_achairOf, .ref mo_anoteMinute, .ref mo_anoteWho, .ref mo_anoteIs, .ref mo_atoldCane, .ref mo_anewScalar, .ref mo_anewCane, .ref mo_anewHeight, .ref mo_anewStrand, .ref mo_anewChair, .ref mo_anewWeight, .int mo_taped, .int mo_p, .int mo_fault, .int mo_slot, .int mo_rules, .int mo_entries, .int mo_deep, .int mo_counted, .int mo_opened, .int mo_words, .ref mo_atape, .ref mo_asort, .ref mo_anumber, .ref mo_aclauses, .ref mo_asumAt, .ref mo_atestAt, .ref mo_aendAt, .ref mo_aopen, .ref mo_aasked, .ref mo_astack, .ref mo_amust, .ref mo_apast, .ref mo_apastOf, .int mo_pastMany, .int mo_pastAt, .int mo_takesBack, .ref mo_acanRise, .ref mo_afirstHas, .ref mo_asecondHas, .ref mo_alay, .ref mo_ashows, .ref mo_aimages, .ref mo_aisMade, .int mo_imageAt, .int mo_goesBack])), (mo_ais, hcI k 8 mo_ris), (mo_ascalar, hcI k 8 (sc8 mo_s0 mo_s1 mo_s2 mo_s3 mo_s4 mo_s5 mo_s6 mo_s7))]) H := hP
              have hD : va_D A ([(mo_acane, hcI k 4 mo_rcane), (mo_astrandOf, hcI k 8 mo_rstrandOf), (mo_aweight, hcI k 8 mo_rweight), (mo_aheight, hcI k 8 mo_rheight), (mo_achairOf, hcI k 8 mo_rchairOf), (mo, .inr (7, [.int mo_thrown, .ref mo_ascalar, .ref mo_acane, .ref mo_ais, .ref mo_astrandOf, .ref mo_aweight, .ref mo_aheight, .ref mo_achairOf, .ref mo_anoteMinute, .ref mo_anoteWho, .ref mo_anoteIs, .ref mo_atoldCane, .ref mo_anewScalar, .ref mo_anewCane, .ref mo_anewHeight, .ref mo_anewStrand, .ref mo_anewChair, .ref mo_anewWeight, .int mo_taped, .int mo_p, .int mo_fault, .int mo_slot, .int mo_rules, .int mo_entries, .int mo_deep, .int mo_counted, .int mo_opened, .int mo_words, .ref mo_atape, .ref mo_asort, .ref mo_anumber, .ref mo_aclauses, .ref mo_asumAt, .ref mo_atestAt, .ref mo_aendAt, .ref mo_aopen, .ref mo_aasked, .ref mo_astack, .ref mo_amust, .ref mo_apast, .ref mo_apastOf, .int mo_pastMany, .int mo_pastAt, .int mo_takesBack, .ref mo_acanRise, .ref mo_afirstHas, .ref mo_asecondHas, .ref mo_alay, .ref mo_ashows, .ref mo_aimages, .ref mo_aisMade, .int mo_imageAt, .int mo_goesBack])), (mo_ais, hcI k 8 mo_ris), (mo_ascalar, hcI k 8 (sc8 mo_s0 mo_s1 mo_s2 mo_s3 mo_s4 mo_s5 mo_s6 mo_s7))]) := hD
              have br25 := hw
              have br25 : iv (0) (16) r25 := br25
              have br25_l := br25.1
              have br25_u := br25.2
              refine lv_goto (tgt := 100) hx hb dX9_ease_95 (by decide) ?_
              exact hc_end hx hb hr hlocks () trivial (hP.sub [5, 0, 6, 1, 2, 3, 4, 7] rfl) (hD.sub [5, 0, 6, 1, 2, 3, 4, 7] (by decide) rfl) hS dX9_ease_100
          · have fc22 := cx_gt_f (a := L5_21.toInt) (b := r13.toInt) rfl rfl c22
            refine lv_iload hx hb dX9_ease_43 (lv_at hl 0 rfl) ?_
            refine lv_iload_n hx hb dX9_ease_45 rfl (lv_at hl 3 rfl) ?_
            refine lv_iconst (v := (-1)) hx hb dX9_ease_46 (by decide) ?_
            refine lv_ixor hx hb dX9_ease_47 ?_
            refine lv_topi (fun z26 ez26 => ?_)
            refine lv_iand hx hb dX9_ease_48 ?_
            refine lv_topi (fun z27 ez27 => ?_)
            have tz27 := ai_and (x := L5_21) (by omega) ez27
            refine lv_if_ne (tgt := 80) hx hb dX9_ease_49 (by decide) (fun c28 => ?_) (fun c28 => ?_)
            · have fc28 := cx_ne_t (a := z27.toInt) (b := 0) rfl (by decide) c28
              obtain ⟨z29, ez29⟩ : ∃ z : Int32, z = L5_21 + 1 := ⟨_, rfl⟩
              have tz29 : z29.toInt = L5_21.toInt + (1) := ai_add rfl (by decide) ez29 (by omega) (by omega)
              refine lv_iinc (v := z29) (lv' := [(5, .int z29), (4, .int L4_21), (3, .int r18), (2, .int r13), (0, .ref mo), (1, .int x1)]) hx hb dX9_ease_80 hl (k := 0) rfl (by rw [ez29]; rfl) (by decide) rfl (fun ls hl => ?_)
              refine lv_goto (tgt := 37) hx hb dX9_ease_83 (by decide) ?_
              exact ih21 L4_21 z29 ⟨by omega, by omega⟩ (by omega) _ _ _ hP hD hS (lv_sub hl [0, 1, 2, 3, 4, 5] rfl)
            · have fc28 := cx_ne_f (a := z27.toInt) (b := 0) rfl (by decide) c28
              refine lv_iload hx hb dX9_ease_52 (lv_at hl 0 rfl) ?_
              refine hc_Si (As := [.int L5_21]) (rest := []) (n := 1) (wr := [(mo_acane, hcI k 4 mo_rcane), (mo_astrandOf, hcI k 8 mo_rstrandOf), (mo_aweight, hcI k 8 mo_rweight), (mo_aheight, hcI k 8 mo_rheight), (mo_achairOf, hcI k 8 mo_rchairOf), (mo, .inr (7, [.int mo_thrown, .ref mo_ascalar, .ref mo_acane, .ref mo_ais, .ref mo_astrandOf, .ref mo_aweight, .ref mo_aheight, .ref mo_achairOf, .ref mo_anoteMinute, .ref mo_anoteWho, .ref mo_anoteIs, .ref mo_atoldCane, .ref mo_anewScalar, .ref mo_anewCane, .ref mo_anewHeight, .ref mo_anewStrand, .ref mo_anewChair, .ref mo_anewWeight, .int mo_taped, .int mo_p, .int mo_fault, .int mo_slot, .int mo_rules, .int mo_entries, .int mo_deep, .int mo_counted, .int mo_opened, .int mo_words, .ref mo_atape, .ref mo_asort, .ref mo_anumber, .ref mo_aclauses, .ref mo_asumAt, .ref mo_atestAt, .ref mo_aendAt, .ref mo_aopen, .ref mo_aasked, .ref mo_astack, .ref mo_amust, .ref mo_apast, .ref mo_apastOf, .int mo_pastMany, .int mo_pastAt, .int mo_takesBack, .ref mo_acanRise, .ref mo_afirstHas, .ref mo_asecondHas, .ref mo_alay, .ref mo_ashows, .ref mo_aimages, .ref mo_aisMade, .int mo_imageAt, .int mo_goesBack])), (mo_ais, hcI k 8 mo_ris), (mo_ascalar, hcI k 8 (sc8 mo_s0 mo_s1 mo_s2 mo_s3 mo_s4 mo_s5 mo_s6 mo_s7))]) hx hb hml hown hts hG hA hP hD hS hl.1 [] [0, 1, 2, 3, 4, 5, 6, 7] (i_X9_bits l D k _ L5_21 ) gX9_ease_X9_bits rfl ⟨rfl, rfl, Nat.le_of_ble_eq_true rfl, Nat.le_of_ble_eq_true rfl⟩ (by decide +kernel) rfl rfl ⟨by decide, by decide, by decide⟩ ⟨rfl, rfl, Nat.le_of_ble_eq_true rfl, Nat.le_of_ble_eq_true rfl, Nat.le_of_ble_eq_true rfl⟩ dX9_ease_54 (fun r31 u30 H locs hw hP hD hS => ?_)
              have hP : va_P D vwCl ([(mo_acane, hcI k 4 mo_rcane), (mo_astrandOf, hcI k 8 mo_rstrandOf), (mo_aweight, hcI k 8 mo_rweight), (mo_aheight, hcI k 8 mo_rheight), (mo_achairOf, hcI k 8 mo_rchairOf), (mo, .inr (7, [.int mo_thrown, .ref mo_ascalar, .ref mo_acane, .ref mo_ais, .ref mo_astrandOf, .ref mo_aweight, .ref mo_aheight, .ref mo_achairOf, .ref mo_anoteMinute, .ref mo_anoteWho, .ref mo_anoteIs, .ref mo_atoldCane, .ref mo_anewScalar, .ref mo_anewCane, .ref mo_anewHeight, .ref mo_anewStrand, .ref mo_anewChair, .ref mo_anewWeight, .int mo_taped, .int mo_p, .int mo_fault, .int mo_slot, .int mo_rules, .int mo_entries, .int mo_deep, .int mo_counted, .int mo_opened, .int mo_words, .ref mo_atape, .ref mo_asort, .ref mo_anumber, .ref mo_aclauses, .ref mo_asumAt, .ref mo_atestAt, .ref mo_aendAt, .ref mo_aopen, .ref mo_aasked, .ref mo_astack, .ref mo_amust, .ref mo_apast, .ref mo_apastOf, .int mo_pastMany, .int mo_pastAt, .int mo_takesBack, .ref mo_acanRise, .ref mo_afirstHas, .ref mo_asecondHas, .ref mo_alay, .ref mo_ashows, .ref mo_aimages, .ref mo_aisMade, .int mo_imageAt, .int mo_goesBack])), (mo_ais, hcI k 8 mo_ris), (mo_ascalar, hcI k 8 (sc8 mo_s0 mo_s1 mo_s2 mo_s3 mo_s4 mo_s5 mo_s6 mo_s7))]) H := hP
              have hD : va_D A ([(mo_acane, hcI k 4 mo_rcane), (mo_astrandOf, hcI k 8 mo_rstrandOf), (mo_aweight, hcI k 8 mo_rweight), (mo_aheight, hcI k 8 mo_rheight), (mo_achairOf, hcI k 8 mo_rchairOf), (mo, .inr (7, [.int mo_thrown, .ref mo_ascalar, .ref mo_acane, .ref mo_ais, .ref mo_astrandOf, .ref mo_aweight, .ref mo_aheight, .ref mo_achairOf, .ref mo_anoteMinute, .ref mo_anoteWho, .ref mo_anoteIs, .ref mo_atoldCane, .ref mo_anewScalar, .ref mo_anewCane, .ref mo_anewHeight, .ref mo_anewStrand, .ref mo_anewChair, .ref mo_anewWeight, .int mo_taped, .int mo_p, .int mo_fault, .int mo_slot, .int mo_rules, .int mo_entries, .int mo_deep, .int mo_counted, .int mo_opened, .int mo_words, .ref mo_atape, .ref mo_asort, .ref mo_anumber, .ref mo_aclauses, .ref mo_asumAt, .ref mo_atestAt, .ref mo_aendAt, .ref mo_aopen, .ref mo_aasked, .ref mo_astack, .ref mo_amust, .ref mo_apast, .ref mo_apastOf, .int mo_pastMany, .int mo_pastAt, .int mo_takesBack, .ref mo_acanRise, .ref mo_afirstHas, .ref mo_asecondHas, .ref mo_alay, .ref mo_ashows, .ref mo_aimages, .ref mo_aisMade, .int mo_imageAt, .int mo_goesBack])), (mo_ais, hcI k 8 mo_ris), (mo_ascalar, hcI k 8 (sc8 mo_s0 mo_s1 mo_s2 mo_s3 mo_s4 mo_s5 mo_s6 mo_s7))]) := hD
              have br31 := hw
              have br31 : iv (0) (16) r31 := br31
              have br31_l := br31.1
              have br31_u := br31.2
              refine lv_iload hx hb dX9_ease_57 (lv_at hl 1 rfl) ?_
              refine hc_Si (As := [.int L4_21]) (rest := [.int r31]) (n := 1) (wr := [(mo_acane, hcI k 4 mo_rcane), (mo_astrandOf, hcI k 8 mo_rstrandOf), (mo_aweight, hcI k 8 mo_rweight), (mo_aheight, hcI k 8 mo_rheight), (mo_achairOf, hcI k 8 mo_rchairOf), (mo, .inr (7, [.int mo_thrown, .ref mo_ascalar, .ref mo_acane, .ref mo_ais, .ref mo_astrandOf, .ref mo_aweight, .ref mo_aheight, .ref mo_achairOf, .ref mo_anoteMinute, .ref mo_anoteWho, .ref mo_anoteIs, .ref mo_atoldCane, .ref mo_anewScalar, .ref mo_anewCane, .ref mo_anewHeight, .ref mo_anewStrand, .ref mo_anewChair, .ref mo_anewWeight, .int mo_taped, .int mo_p, .int mo_fault, .int mo_slot, .int mo_rules, .int mo_entries, .int mo_deep, .int mo_counted, .int mo_opened, .int mo_words, .ref mo_atape, .ref mo_asort, .ref mo_anumber, .ref mo_aclauses, .ref mo_asumAt, .ref mo_atestAt, .ref mo_aendAt, .ref mo_aopen, .ref mo_aasked, .ref mo_astack, .ref mo_amust, .ref mo_apast, .ref mo_apastOf, .int mo_pastMany, .int mo_pastAt, .int mo_takesBack, .ref mo_acanRise, .ref mo_afirstHas, .ref mo_asecondHas, .ref mo_alay, .ref mo_ashows, .ref mo_aimages, .ref mo_aisMade, .int mo_imageAt, .int mo_goesBack])), (mo_ais, hcI k 8 mo_ris), (mo_ascalar, hcI k 8 (sc8 mo_s0 mo_s1 mo_s2 mo_s3 mo_s4 mo_s5 mo_s6 mo_s7))]) hx hb hml hown hts hG hA hP hD hS hl.1 [] [0, 1, 2, 3, 4, 5, 6, 7] (i_X9_bits l D k _ L4_21 ) gX9_ease_X9_bits rfl ⟨rfl, rfl, Nat.le_of_ble_eq_true rfl, Nat.le_of_ble_eq_true rfl⟩ (by decide +kernel) rfl rfl ⟨by decide, by decide, by decide⟩ ⟨rfl, rfl, Nat.le_of_ble_eq_true rfl, Nat.le_of_ble_eq_true rfl, Nat.le_of_ble_eq_true rfl⟩ dX9_ease_59 (fun r33 u32 H locs hw hP hD hS => ?_)
              have hP : va_P D vwCl ([(mo_acane, hcI k 4 mo_rcane), (mo_astrandOf, hcI k 8 mo_rstrandOf), (mo_aweight, hcI k 8 mo_rweight), (mo_aheight, hcI k 8 mo_rheight), (mo_achairOf, hcI k 8 mo_rchairOf), (mo, .inr (7, [.int mo_thrown, .ref mo_ascalar, .ref mo_acane, .ref mo_ais, .ref mo_astrandOf, .ref mo_aweight, .ref mo_aheight, .ref mo_achairOf, .ref mo_anoteMinute, .ref mo_anoteWho, .ref mo_anoteIs, .ref mo_atoldCane, .ref mo_anewScalar, .ref mo_anewCane, .ref mo_anewHeight, .ref mo_anewStrand, .ref mo_anewChair, .ref mo_anewWeight, .int mo_taped, .int mo_p, .int mo_fault, .int mo_slot, .int mo_rules, .int mo_entries, .int mo_deep, .int mo_counted, .int mo_opened, .int mo_words, .ref mo_atape, .ref mo_asort, .ref mo_anumber, .ref mo_aclauses, .ref mo_asumAt, .ref mo_atestAt, .ref mo_aendAt, .ref mo_aopen, .ref mo_aasked, .ref mo_astack, .ref mo_amust, .ref mo_apast, .ref mo_apastOf, .int mo_pastMany, .int mo_pastAt, .int mo_takesBack, .ref mo_acanRise, .ref mo_afirstHas, .ref mo_asecondHas, .ref mo_alay, .ref mo_ashows, .ref mo_aimages, .ref mo_aisMade, .int mo_imageAt, .int mo_goesBack])), (mo_ais, hcI k 8 mo_ris), (mo_ascalar, hcI k 8 (sc8 mo_s0 mo_s1 mo_s2 mo_s3 mo_s4 mo_s5 mo_s6 mo_s7))]) H := hP
              have hD : va_D A ([(mo_acane, hcI k 4 mo_rcane), (mo_astrandOf, hcI k 8 mo_rstrandOf), (mo_aweight, hcI k 8 mo_rweight), (mo_aheight, hcI k 8 mo_rheight), (mo_achairOf, hcI k 8 mo_rchairOf), (mo, .inr (7, [.int mo_thrown, .ref mo_ascalar, .ref mo_acane, .ref mo_ais, .ref mo_astrandOf, .ref mo_aweight, .ref mo_aheight, .ref mo_achairOf, .ref mo_anoteMinute, .ref mo_anoteWho, .ref mo_anoteIs, .ref mo_atoldCane, .ref mo_anewScalar, .ref mo_anewCane, .ref mo_anewHeight, .ref mo_anewStrand, .ref mo_anewChair, .ref mo_anewWeight, .int mo_taped, .int mo_p, .int mo_fault, .int mo_slot, .int mo_rules, .int mo_entries, .int mo_deep, .int mo_counted, .int mo_opened, .int mo_words, .ref mo_atape, .ref mo_asort, .ref mo_anumber, .ref mo_aclauses, .ref mo_asumAt, .ref mo_atestAt, .ref mo_aendAt, .ref mo_aopen, .ref mo_aasked, .ref mo_astack, .ref mo_amust, .ref mo_apast, .ref mo_apastOf, .int mo_pastMany, .int mo_pastAt, .int mo_takesBack, .ref mo_acanRise, .ref mo_afirstHas, .ref mo_asecondHas, .ref mo_alay, .ref mo_ashows, .ref mo_aimages, .ref mo_aisMade, .int mo_imageAt, .int mo_goesBack])), (mo_ais, hcI k 8 mo_ris), (mo_ascalar, hcI k 8 (sc8 mo_s0 mo_s1 mo_s2 mo_s3 mo_s4 mo_s5 mo_s6 mo_s7))]) := hD
              have br33 := hw
              have br33 : iv (0) (16) r33 := br33
              have br33_l := br33.1
              have br33_u := br33.2
              refine lv_icmp_le (tgt := 80) hx hb dX9_ease_62 (by decide) (fun c34 => ?_) (fun c34 => ?_)
              · have fc34 := cx_le_t (a := r31.toInt) (b := r33.toInt) rfl rfl c34
                obtain ⟨z35, ez35⟩ : ∃ z : Int32, z = L5_21 + 1 := ⟨_, rfl⟩
                have tz35 : z35.toInt = L5_21.toInt + (1) := ai_add rfl (by decide) ez35 (by omega) (by omega)
                refine lv_iinc (v := z35) (lv' := [(5, .int z35), (4, .int L4_21), (3, .int r18), (2, .int r13), (0, .ref mo), (1, .int x1)]) hx hb dX9_ease_80 hl (k := 0) rfl (by rw [ez35]; rfl) (by decide) rfl (fun ls hl => ?_)
                refine lv_goto (tgt := 37) hx hb dX9_ease_83 (by decide) ?_
                exact ih21 L4_21 z35 ⟨by omega, by omega⟩ (by omega) _ _ _ hP hD hS (lv_sub hl [0, 1, 2, 3, 4, 5] rfl)
              · have fc34 := cx_le_f (a := r31.toInt) (b := r33.toInt) rfl rfl c34
                refine lv_aload_n hx hb dX9_ease_65 rfl (lv_at hl 4 rfl) ?_
                refine lv_iload_n hx hb dX9_ease_66 rfl (lv_at hl 2 rfl) ?_
                refine lv_iload hx hb dX9_ease_67 (lv_at hl 0 rfl) ?_
                refine lv_ior hx hb dX9_ease_69 ?_
                refine lv_topi (fun z36 ez36 => ?_)
                refine hc_Vi (As := [.int z36]) (rest := []) (n := 1) (wr := [(mo_ais, hcI k 8 mo_ris)]) hx hb hml hown hts hG hA hP hD hS hl.1 [5, 0, 1, 2, 3, 4, 7] [6] (i_X9_dropsOf l D k _ z36 mo mo_thrown mo_ascalar mo_acane mo_ais mo_astrandOf mo_aweight mo_aheight mo_achairOf mo_anoteMinute mo_anoteWho mo_anoteIs mo_atoldCane mo_anewScalar mo_anewCane mo_anewHeight mo_anewStrand mo_anewChair mo_anewWeight mo_taped mo_p mo_fault mo_slot mo_rules mo_entries mo_deep mo_counted mo_opened mo_words mo_atape mo_asort mo_anumber mo_aclauses mo_asumAt mo_atestAt mo_aendAt mo_aopen mo_aasked mo_astack mo_amust mo_apast mo_apastOf mo_pastMany mo_pastAt mo_takesBack mo_acanRise mo_afirstHas mo_asecondHas mo_alay mo_ashows mo_aimages mo_aisMade mo_imageAt mo_goesBack mo_rcane mo_rstrandOf mo_rweight mo_rheight mo_rchairOf mo_s0 mo_s1 mo_s2 mo_s3 mo_s4 mo_s5 mo_s6 mo_s7 ⟨by omega, by omega⟩ ⟨by omega, by omega⟩ ⟨by omega, by omega⟩ ⟨by omega, by omega⟩ ⟨by omega, by omega⟩ ⟨by omega, by omega⟩ ⟨by omega, by omega⟩ ⟨by omega, by omega⟩ ⟨by omega, by omega⟩ ⟨by omega, by omega⟩ ⟨by omega, by omega⟩ ⟨by omega, by omega⟩ ⟨by omega, by omega⟩ ⟨by omega, by omega⟩ h_mo_rweight h_mo_rchairOf ⟨by omega, by omega⟩ ⟨by omega, by omega⟩ ⟨by omega, by omega⟩ ⟨by omega, by omega⟩ ⟨by omega, by omega⟩ hh_HallOk) (ci := 7) (q0 := 5) rfl rfl gX9_ease_X9_dropsOf rfl ⟨rfl, rfl, Nat.le_of_ble_eq_true rfl, Nat.le_of_ble_eq_true rfl⟩ (by decide +kernel) rfl rfl ⟨by decide, by decide, by decide⟩ ⟨rfl, rfl, Nat.le_of_ble_eq_true rfl, Nat.le_of_ble_eq_true rfl, Nat.le_of_ble_eq_true rfl⟩ dX9_ease_70 (fun r38 u37 H locs hw hP hD hS => ?_)
                have hP : va_P D vwCl ([(mo_ais, hcI k 8 mo_ris), (mo, .inr (7, [.int mo_thrown, .ref mo_ascalar, .ref mo_acane, .ref mo_ais, .ref mo_astrandOf, .ref mo_aweight, .ref mo_aheight, .ref mo_achairOf, .ref mo_anoteMinute, .ref mo_anoteWho, .ref mo_anoteIs, .ref mo_atoldCane, .ref mo_anewScalar, .ref mo_anewCane, .ref mo_anewHeight, .ref mo_anewStrand, .ref mo_anewChair, .ref mo_anewWeight, .int mo_taped, .int mo_p, .int mo_fault, .int mo_slot, .int mo_rules, .int mo_entries, .int mo_deep, .int mo_counted, .int mo_opened, .int mo_words, .ref mo_atape, .ref mo_asort, .ref mo_anumber, .ref mo_aclauses, .ref mo_asumAt, .ref mo_atestAt, .ref mo_aendAt, .ref mo_aopen, .ref mo_aasked, .ref mo_astack, .ref mo_amust, .ref mo_apast, .ref mo_apastOf, .int mo_pastMany, .int mo_pastAt, .int mo_takesBack, .ref mo_acanRise, .ref mo_afirstHas, .ref mo_asecondHas, .ref mo_alay, .ref mo_ashows, .ref mo_aimages, .ref mo_aisMade, .int mo_imageAt, .int mo_goesBack])), (mo_acane, hcI k 4 mo_rcane), (mo_astrandOf, hcI k 8 mo_rstrandOf), (mo_aweight, hcI k 8 mo_rweight), (mo_aheight, hcI k 8 mo_rheight), (mo_achairOf, hcI k 8 mo_rchairOf), (mo_ascalar, hcI k 8 (sc8 mo_s0 mo_s1 mo_s2 mo_s3 mo_s4 mo_s5 mo_s6 mo_s7))]) H := hP
                have hD : va_D A ([(mo_ais, hcI k 8 mo_ris), (mo, .inr (7, [.int mo_thrown, .ref mo_ascalar, .ref mo_acane, .ref mo_ais, .ref mo_astrandOf, .ref mo_aweight, .ref mo_aheight, .ref mo_achairOf, .ref mo_anoteMinute, .ref mo_anoteWho, .ref mo_anoteIs, .ref mo_atoldCane, .ref mo_anewScalar, .ref mo_anewCane, .ref mo_anewHeight, .ref mo_anewStrand, .ref mo_anewChair, .ref mo_anewWeight, .int mo_taped, .int mo_p, .int mo_fault, .int mo_slot, .int mo_rules, .int mo_entries, .int mo_deep, .int mo_counted, .int mo_opened, .int mo_words, .ref mo_atape, .ref mo_asort, .ref mo_anumber, .ref mo_aclauses, .ref mo_asumAt, .ref mo_atestAt, .ref mo_aendAt, .ref mo_aopen, .ref mo_aasked, .ref mo_astack, .ref mo_amust, .ref mo_apast, .ref mo_apastOf, .int mo_pastMany, .int mo_pastAt, .int mo_takesBack, .ref mo_acanRise, .ref mo_afirstHas, .ref mo_asecondHas, .ref mo_alay, .ref mo_ashows, .ref mo_aimages, .ref mo_aisMade, .int mo_imageAt, .int mo_goesBack])), (mo_acane, hcI k 4 mo_rcane), (mo_astrandOf, hcI k 8 mo_rstrandOf), (mo_aweight, hcI k 8 mo_rweight), (mo_aheight, hcI k 8 mo_rheight), (mo_achairOf, hcI k 8 mo_rchairOf), (mo_ascalar, hcI k 8 (sc8 mo_s0 mo_s1 mo_s2 mo_s3 mo_s4 mo_s5 mo_s6 mo_s7))]) := hD
                have rel39 := hw
                refine lv_if_ne (tgt := 80) hx hb dX9_ease_73 (by decide) (fun c40 => ?_) (fun c40 => ?_)
                · have fc40 := cx_ne_t (a := r38.toInt) (b := 0) rfl (by decide) c40
                  obtain ⟨z41, ez41⟩ : ∃ z : Int32, z = L5_21 + 1 := ⟨_, rfl⟩
                  have tz41 : z41.toInt = L5_21.toInt + (1) := ai_add rfl (by decide) ez41 (by omega) (by omega)
                  refine lv_iinc (v := z41) (lv' := [(5, .int z41), (4, .int L4_21), (3, .int r18), (2, .int r13), (0, .ref mo), (1, .int x1)]) hx hb dX9_ease_80 hl (k := 0) rfl (by rw [ez41]; rfl) (by decide) rfl (fun ls hl => ?_)
                  refine lv_goto (tgt := 37) hx hb dX9_ease_83 (by decide) ?_
                  exact ih21 L4_21 z41 ⟨by omega, by omega⟩ (by omega) _ _ _ (hP.sub [2, 3, 4, 5, 6, 1, 0, 7] rfl) (hD.sub [2, 3, 4, 5, 6, 1, 0, 7] (by decide) rfl) hS (lv_sub hl [0, 1, 2, 3, 4, 5] rfl)
                · have fc40 := cx_ne_f (a := r38.toInt) (b := 0) rfl (by decide) c40
                  refine lv_iload hx hb dX9_ease_76 (lv_at hl 0 rfl) ?_
                  refine lv_istore (lv' := [(4, .int L5_21), (5, .int L5_21), (3, .int r18), (2, .int r13), (0, .ref mo), (1, .int x1)]) hx hb dX9_ease_78 hl (by decide) rfl (fun ls hl => ?_)
                  obtain ⟨z42, ez42⟩ : ∃ z : Int32, z = L5_21 + 1 := ⟨_, rfl⟩
                  have tz42 : z42.toInt = L5_21.toInt + (1) := ai_add rfl (by decide) ez42 (by omega) (by omega)
                  refine lv_iinc (v := z42) (lv' := [(5, .int z42), (4, .int L5_21), (3, .int r18), (2, .int r13), (0, .ref mo), (1, .int x1)]) hx hb dX9_ease_80 hl (k := 1) rfl (by rw [ez42]; rfl) (by decide) rfl (fun ls hl => ?_)
                  refine lv_goto (tgt := 37) hx hb dX9_ease_83 (by decide) ?_
                  exact ih21 L5_21 z42 ⟨by omega, by omega⟩ (by omega) _ _ _ (hP.sub [2, 3, 4, 5, 6, 1, 0, 7] rfl) (hD.sub [2, 3, 4, 5, 6, 1, 0, 7] (by decide) rfl) hS (lv_sub hl [0, 1, 2, 3, 4, 5] rfl)
      exact loop21 300 0 0 (iv_lit (by decide) (by decide)) (by have q0 : (0 : Int32).toInt = 0 := (by decide); have q1 : (0 : Int32).toInt = 0 := (by decide); omega) _ _ _ hP hD hS hl
    · have fc10 := cx_ne_f (a := r8.toInt) (b := 0) rfl (by decide) c10
      refine lv_iconst (v := (-1)) hx hb dX9_ease_17 (by decide) ?_
      exact hc_end hx hb hr hlocks () trivial (hP.sub [6, 0, 1, 2, 3, 4, 5, 7] rfl) (hD.sub [6, 0, 1, 2, 3, 4, 5, 7] (by decide) rfl) hS dX9_ease_18
set_option maxHeartbeats 4000000 in
set_option maxRecDepth 100000 in
theorem i_X9_nextOf (l : Launch) (D : va_G) (k : Nat → ClassId) (sz : Nat) (x1 : Int32) (mo : Nat) (mo_thrown : Int32) (mo_ascalar : Nat) (mo_acane : Nat) (mo_ais : Nat) (mo_astrandOf : Nat) (mo_aweight : Nat) (mo_aheight : Nat) (mo_achairOf : Nat) (mo_anoteMinute : Nat) (mo_anoteWho : Nat) (mo_anoteIs : Nat) (mo_atoldCane : Nat) (mo_anewScalar : Nat) (mo_anewCane : Nat) (mo_anewHeight : Nat) (mo_anewStrand : Nat) (mo_anewChair : Nat) (mo_anewWeight : Nat) (mo_taped : Int32) (mo_p : Int32) (mo_fault : Int32) (mo_slot : Int32) (mo_rules : Int32) (mo_entries : Int32) (mo_deep : Int32) (mo_counted : Int32) (mo_opened : Int32) (mo_words : Int32) (mo_atape : Nat) (mo_asort : Nat) (mo_anumber : Nat) (mo_aclauses : Nat) (mo_asumAt : Nat) (mo_atestAt : Nat) (mo_aendAt : Nat) (mo_aopen : Nat) (mo_aasked : Nat) (mo_astack : Nat) (mo_amust : Nat) (mo_apast : Nat) (mo_apastOf : Nat) (mo_pastMany : Int32) (mo_pastAt : Int32) (mo_takesBack : Int32) (mo_acanRise : Nat) (mo_afirstHas : Nat) (mo_asecondHas : Nat) (mo_alay : Nat) (mo_ashows : Nat) (mo_aimages : Nat) (mo_aisMade : Nat) (mo_imageAt : Int32) (mo_goesBack : Int32) (mo_rcane : Nat → Int32) (mo_ris : Nat → Int32) (mo_rstrandOf : Nat → Int32) (mo_rweight : Nat → Int32) (mo_rheight : Nat → Int32) (mo_rchairOf : Nat → Int32) (mo_rcanRise : Nat → Int32) (mo_s0 : Int32) (mo_s1 : Int32) (mo_s2 : Int32) (mo_s3 : Int32) (mo_s4 : Int32) (mo_s5 : Int32) (mo_s6 : Int32) (mo_s7 : Int32) (h_x1 : iv (0) (255) x1) (h_mo_taped : iv (0) (400) mo_taped) (h_mo_p : iv (0) (402) mo_p) (h_mo_fault : iv (0) (4000) mo_fault) (h_mo_slot : iv (0) (5) mo_slot) (h_mo_rules : iv (0) (6) mo_rules) (h_mo_entries : iv (0) (300) mo_entries) (h_mo_counted : iv (0) (70) mo_counted) (h_mo_opened : iv (0) (402) mo_opened) (h_mo_words : iv (11) (11) mo_words) (h_mo_pastMany : iv (0) (20) mo_pastMany) (h_mo_pastAt : iv (0) (260) mo_pastAt) (h_mo_takesBack : iv (0) (1) mo_takesBack) (h_mo_imageAt : iv (0) (2000) mo_imageAt) (h_mo_goesBack : iv (0) (1) mo_goesBack) (h_mo_rweight : rowIn (0) (20) mo_rweight) (h_mo_rchairOf : rowIn (0) (7) mo_rchairOf) (h_mo_s1 : iv (0) (4) mo_s1) (h_mo_s2 : iv (0) (8) mo_s2) (h_mo_s3 : iv (0) (8) mo_s3) (h_mo_s5 : iv (0) (10) mo_s5) (h_mo_s7 : iv (-1) (5) mo_s7) (hh_HallOk : HallOk mo_s2 mo_s3 mo_rstrandOf mo_rchairOf mo_rweight) : CtI l yX9_nextOf wsX9_nextOf (rmK 5 0 0) [.ref mo, .int x1] D k sz ([(mo, .inr (7, [.int mo_thrown, .ref mo_ascalar, .ref mo_acane, .ref mo_ais, .ref mo_astrandOf, .ref mo_aweight, .ref mo_aheight, .ref mo_achairOf, .ref mo_anoteMinute, .ref mo_anoteWho, .ref mo_anoteIs, .ref mo_atoldCane, .ref mo_anewScalar, .ref mo_anewCane, .ref mo_anewHeight, .ref mo_anewStrand, .ref mo_anewChair, .ref mo_anewWeight, .int mo_taped, .int mo_p, .int mo_fault, .int mo_slot, .int mo_rules, .int mo_entries, .int mo_deep, .int mo_counted, .int mo_opened, .int mo_words, .ref mo_atape, .ref mo_asort, .ref mo_anumber, .ref mo_aclauses, .ref mo_asumAt, .ref mo_atestAt, .ref mo_aendAt, .ref mo_aopen, .ref mo_aasked, .ref mo_astack, .ref mo_amust, .ref mo_apast, .ref mo_apastOf, .int mo_pastMany, .int mo_pastAt, .int mo_takesBack, .ref mo_acanRise, .ref mo_afirstHas, .ref mo_asecondHas, .ref mo_alay, .ref mo_ashows, .ref mo_aimages, .ref mo_aisMade, .int mo_imageAt, .int mo_goesBack])), (mo_acane, hcI k 4 mo_rcane), (mo_ais, hcI k 8 mo_ris), (mo_astrandOf, hcI k 8 mo_rstrandOf), (mo_aweight, hcI k 8 mo_rweight), (mo_aheight, hcI k 8 mo_rheight), (mo_achairOf, hcI k 8 mo_rchairOf), (mo_acanRise, hcZ k 256 mo_rcanRise), (mo_ascalar, hcI k 8 (sc8 mo_s0 mo_s1 mo_s2 mo_s3 mo_s4 mo_s5 mo_s6 mo_s7))]) (fun (r : Int32) (u : Unit) => iv (-1) (7) r) (fun u : Unit => [(mo, .inr (7, [.int mo_thrown, .ref mo_ascalar, .ref mo_acane, .ref mo_ais, .ref mo_astrandOf, .ref mo_aweight, .ref mo_aheight, .ref mo_achairOf, .ref mo_anoteMinute, .ref mo_anoteWho, .ref mo_anoteIs, .ref mo_atoldCane, .ref mo_anewScalar, .ref mo_anewCane, .ref mo_anewHeight, .ref mo_anewStrand, .ref mo_anewChair, .ref mo_anewWeight, .int mo_taped, .int mo_p, .int mo_fault, .int mo_slot, .int mo_rules, .int mo_entries, .int mo_deep, .int mo_counted, .int mo_opened, .int mo_words, .ref mo_atape, .ref mo_asort, .ref mo_anumber, .ref mo_aclauses, .ref mo_asumAt, .ref mo_atestAt, .ref mo_aendAt, .ref mo_aopen, .ref mo_aasked, .ref mo_astack, .ref mo_amust, .ref mo_apast, .ref mo_apastOf, .int mo_pastMany, .int mo_pastAt, .int mo_takesBack, .ref mo_acanRise, .ref mo_afirstHas, .ref mo_asecondHas, .ref mo_alay, .ref mo_ashows, .ref mo_aimages, .ref mo_aisMade, .int mo_imageAt, .int mo_goesBack])), (mo_acane, hcI k 4 mo_rcane), (mo_ais, hcI k 8 mo_ris), (mo_astrandOf, hcI k 8 mo_rstrandOf), (mo_aweight, hcI k 8 mo_rweight), (mo_aheight, hcI k 8 mo_rheight), (mo_achairOf, hcI k 8 mo_rchairOf), (mo_acanRise, hcZ k 256 mo_rcanRise), (mo_ascalar, hcI k 8 (sc8 mo_s0 mo_s1 mo_s2 mo_s3 mo_s4 mo_s5 mo_s6 mo_s7))]) 0 0 := by
  have h_x1_l := h_x1.1
  have h_x1_u := h_x1.2
  have h_mo_taped_l := h_mo_taped.1
  have h_mo_taped_u := h_mo_taped.2
  have h_mo_p_l := h_mo_p.1
  have h_mo_p_u := h_mo_p.2
  have h_mo_fault_l := h_mo_fault.1
  have h_mo_fault_u := h_mo_fault.2
  have h_mo_slot_l := h_mo_slot.1
  have h_mo_slot_u := h_mo_slot.2
  have h_mo_rules_l := h_mo_rules.1
  have h_mo_rules_u := h_mo_rules.2
  have h_mo_entries_l := h_mo_entries.1
  have h_mo_entries_u := h_mo_entries.2
  have h_mo_counted_l := h_mo_counted.1
  have h_mo_counted_u := h_mo_counted.2
  have h_mo_opened_l := h_mo_opened.1
  have h_mo_opened_u := h_mo_opened.2
  have h_mo_words_l := h_mo_words.1
  have h_mo_words_u := h_mo_words.2
  have h_mo_pastMany_l := h_mo_pastMany.1
  have h_mo_pastMany_u := h_mo_pastMany.2
  have h_mo_pastAt_l := h_mo_pastAt.1
  have h_mo_pastAt_u := h_mo_pastAt.2
  have h_mo_takesBack_l := h_mo_takesBack.1
  have h_mo_takesBack_u := h_mo_takesBack.2
  have h_mo_imageAt_l := h_mo_imageAt.1
  have h_mo_imageAt_u := h_mo_imageAt.2
  have h_mo_goesBack_l := h_mo_goesBack.1
  have h_mo_goesBack_u := h_mo_goesBack.2
  have h_mo_s1_l := h_mo_s1.1
  have h_mo_s1_u := h_mo_s1.2
  have h_mo_s2_l := h_mo_s2.1
  have h_mo_s2_u := h_mo_s2.2
  have h_mo_s3_l := h_mo_s3.1
  have h_mo_s3_u := h_mo_s3.2
  have h_mo_s5_l := h_mo_s5.1
  have h_mo_s5_u := h_mo_s5.2
  have h_mo_s7_l := h_mo_s7.1
  have h_mo_s7_u := h_mo_s7.2
  refine CtI.mk (cc := cX9_nextOf) (maxL := 4) (ret := (some .int)) (by decide) rfl (Nat.le_of_ble_eq_true rfl) ?_
  intro p e s m below meth c A ls E hP hD hS hl
  obtain ⟨hx, hb, hr, hml, hown, hts, hlocks, hin, hG, hA⟩ := E
  have hown : s.vm.findClass RX9 = some m.cls := hown
  have in9 : ∀ w ∈ u_ws RX9 TX9 53, w ∈ wsX9_nextOf := fun _ h => List.mem_cons_of_mem _ (List.mem_append_right _ h)
  have hl : lv_has ls 4 [(0, .ref mo), (1, .int x1)] := hl
  refine lv_iconst (v := 0) hx hb dX9_nextOf_0 (by decide) ?_
  refine lv_istore_n (lv' := [(2, .int 0), (0, .ref mo), (1, .int x1)]) hx hb dX9_nextOf_1 rfl hl (by decide) rfl (fun ls hl => ?_)
  have loop1 : ∀ (fu : Nat) (L2_1 : Int32), iv (0) (8) L2_1 → 9 - L2_1.toInt < (fu : Int) → ∀ (H : Heap) (locs : List Loc) (ls : Array Slot), va_P D vwCl ([(mo, .inr (7, [.int mo_thrown, .ref mo_ascalar, .ref mo_acane, .ref mo_ais, .ref mo_astrandOf, .ref mo_aweight, .ref mo_aheight, .ref mo_achairOf, .ref mo_anoteMinute, .ref mo_anoteWho, .ref mo_anoteIs, .ref mo_atoldCane, .ref mo_anewScalar, .ref mo_anewCane, .ref mo_anewHeight, .ref mo_anewStrand, .ref mo_anewChair, .ref mo_anewWeight, .int mo_taped, .int mo_p, .int mo_fault, .int mo_slot, .int mo_rules, .int mo_entries, .int mo_deep, .int mo_counted, .int mo_opened, .int mo_words, .ref mo_atape, .ref mo_asort, .ref mo_anumber, .ref mo_aclauses, .ref mo_asumAt, .ref mo_atestAt, .ref mo_aendAt, .ref mo_aopen, .ref mo_aasked, .ref mo_astack, .ref mo_amust, .ref mo_apast, .ref mo_apastOf, .int mo_pastMany, .int mo_pastAt, .int mo_takesBack, .ref mo_acanRise, .ref mo_afirstHas, .ref mo_asecondHas, .ref mo_alay, .ref mo_ashows, .ref mo_aimages, .ref mo_aisMade, .int mo_imageAt, .int mo_goesBack])), (mo_acane, hcI k 4 mo_rcane), (mo_ais, hcI k 8 mo_ris), (mo_astrandOf, hcI k 8 mo_rstrandOf), (mo_aweight, hcI k 8 mo_rweight), (mo_aheight, hcI k 8 mo_rheight), (mo_achairOf, hcI k 8 mo_rchairOf), (mo_acanRise, hcZ k 256 mo_rcanRise), (mo_ascalar, hcI k 8 (sc8 mo_s0 mo_s1 mo_s2 mo_s3 mo_s4 mo_s5 mo_s6 mo_s7))]) H → va_D A ([(mo, .inr (7, [.int mo_thrown, .ref mo_ascalar, .ref mo_acane, .ref mo_ais, .ref mo_astrandOf, .ref mo_aweight, .ref mo_aheight, .ref mo_achairOf, .ref mo_anoteMinute, .ref mo_anoteWho, .ref mo_anoteIs, .ref mo_atoldCane, .ref mo_anewScalar, .ref mo_anewCane, .ref mo_anewHeight, .ref mo_anewStrand, .ref mo_anewChair, .ref mo_anewWeight, .int mo_taped, .int mo_p, .int mo_fault, .int mo_slot, .int mo_rules, .int mo_entries, .int mo_deep, .int mo_counted, .int mo_opened, .int mo_words, .ref mo_atape, .ref mo_asort, .ref mo_anumber, .ref mo_aclauses, .ref mo_asumAt, .ref mo_atestAt, .ref mo_aendAt, .ref mo_aopen, .ref mo_aasked, .ref mo_astack, .ref mo_amust, .ref mo_apast, .ref mo_apastOf, .int mo_pastMany, .int mo_pastAt, .int mo_takesBack, .ref mo_acanRise, .ref mo_afirstHas, .ref mo_asecondHas, .ref mo_alay, .ref mo_ashows, .ref mo_aimages, .ref mo_aisMade, .int mo_imageAt, .int mo_goesBack])), (mo_acane, hcI k 4 mo_rcane), (mo_ais, hcI k 8 mo_ris), (mo_astrandOf, hcI k 8 mo_rstrandOf), (mo_aweight, hcI k 8 mo_rweight), (mo_aheight, hcI k 8 mo_rheight), (mo_achairOf, hcI k 8 mo_rchairOf), (mo_acanRise, hcZ k 256 mo_rcanRise), (mo_ascalar, hcI k 8 (sc8 mo_s0 mo_s1 mo_s2 mo_s3 mo_s4 mo_s5 mo_s6 mo_s7))]) → va_S A s.heap H locs → lv_has ls 4 [(2, .int L2_1), (0, .ref mo), (1, .int x1)] → W p l e (rmK 5 0 0) s m (List.toArray [.ref mo, .int x1]) below meth c H locs 0 0 (MQ below (va_Qi (fun (r : Int32) (u : Unit) => iv (-1) (7) r) (hcB D (fun u : Unit => [(mo, .inr (7, [.int mo_thrown, .ref mo_ascalar, .ref mo_acane, .ref mo_ais, .ref mo_astrandOf, .ref mo_aweight, .ref mo_aheight, .ref mo_achairOf, .ref mo_anoteMinute, .ref mo_anoteWho, .ref mo_anoteIs, .ref mo_atoldCane, .ref mo_anewScalar, .ref mo_anewCane, .ref mo_anewHeight, .ref mo_anewStrand, .ref mo_anewChair, .ref mo_anewWeight, .int mo_taped, .int mo_p, .int mo_fault, .int mo_slot, .int mo_rules, .int mo_entries, .int mo_deep, .int mo_counted, .int mo_opened, .int mo_words, .ref mo_atape, .ref mo_asort, .ref mo_anumber, .ref mo_aclauses, .ref mo_asumAt, .ref mo_atestAt, .ref mo_aendAt, .ref mo_aopen, .ref mo_aasked, .ref mo_astack, .ref mo_amust, .ref mo_apast, .ref mo_apastOf, .int mo_pastMany, .int mo_pastAt, .int mo_takesBack, .ref mo_acanRise, .ref mo_afirstHas, .ref mo_asecondHas, .ref mo_alay, .ref mo_ashows, .ref mo_aimages, .ref mo_aisMade, .int mo_imageAt, .int mo_goesBack])), (mo_acane, hcI k 4 mo_rcane), (mo_ais, hcI k 8 mo_ris), (mo_astrandOf, hcI k 8 mo_rstrandOf), (mo_aweight, hcI k 8 mo_rweight), (mo_aheight, hcI k 8 mo_rheight), (mo_achairOf, hcI k 8 mo_rchairOf), (mo_acanRise, hcZ k 256 mo_rcanRise), (mo_ascalar, hcI k 8 (sc8 mo_s0 mo_s1 mo_s2 mo_s3 mo_s4 mo_s5 mo_s6 mo_s7))]) A) A) (List.toArray [.ref mo, .int x1]) s 0 0 A) (F0 m 2 ls []) := by
    intro fu
    induction fu with
    | zero =>
      intro L2_1 bL2_1 hm
      have bL2_1_l := bL2_1.1
      have bL2_1_u := bL2_1.2
      exact absurd hm (by omega)
    | succ fu ih1 =>
      intro L2_1 bL2_1 hm H locs ls hP hD hS hl
      have bL2_1_l := bL2_1.1
      have bL2_1_u := bL2_1.2
      refine lv_iload_n hx hb dX9_nextOf_2 rfl (lv_at hl 0 rfl) ?_
      refine lv_aload_n hx hb dX9_nextOf_3 rfl (lv_at hl 1 rfl) ?_
      refine va_get (D := D) (ci := 7) (v := .ref mo_ascalar) (C := RX9) (T := TX9) (N := 53) hx hb hts in9 hown hG.1 hP 0 rfl rfl 1 (by decide) (hts (.fieldLink RX9 9 "ChairCaneModel" "scalar" "[I") (by decide +kernel)) (fun _ h9 => h9) rfl dX9_nextOf_4 ?_
      refine lv_iconst (v := 3) hx hb dX9_nextOf_7 (by decide) ?_
      refine va_iald hx hb hG.1 hP 8 0 rfl rfl (by unfold vp_in; decide) dX9_nextOf_8 ?_
      refine hc_is (z := mo_s3) (by rw [show Int32.toNatClampNeg 3 = 3 from by decide]; rfl) ?_
      refine lv_icmp_ge (tgt := 53) hx hb dX9_nextOf_9 (by decide) (fun c2 => ?_) (fun c2 => ?_)
      · have fc2 := cx_ge_t (a := L2_1.toInt) (b := mo_s3.toInt) rfl rfl c2
        refine lv_iconst (v := (-1)) hx hb dX9_nextOf_53 (by decide) ?_
        exact hc_end hx hb hr hlocks () (iv_lit (by decide) (by decide)) hP hD hS dX9_nextOf_54
      · have fc2 := cx_ge_f (a := L2_1.toInt) (b := mo_s3.toInt) rfl rfl c2
        refine lv_iload_n hx hb dX9_nextOf_12 rfl (lv_at hl 2 rfl) ?_
        refine lv_iconst (v := 1) hx hb dX9_nextOf_13 (by decide) ?_
        refine lv_iload_n hx hb dX9_nextOf_14 rfl (lv_at hl 0 rfl) ?_
        refine lv_ishl hx hb dX9_nextOf_15 ?_
        refine lv_topi (fun z3 ez3 => ?_)
        have bz3 : iv (1) (256) z3 := ai_shl (by omega) (by omega) ez3
        have bz3_l := bz3.1
        have bz3_u := bz3.2
        refine lv_iconst (v := (-1)) hx hb dX9_nextOf_16 (by decide) ?_
        refine lv_ixor hx hb dX9_nextOf_17 ?_
        refine lv_topi (fun z4 ez4 => ?_)
        refine lv_iand hx hb dX9_nextOf_18 ?_
        refine lv_topi (fun z5 ez5 => ?_)
        have tz5 := ai_and (x := x1) (by omega) ez5
        refine lv_istore_n (lv' := [(3, .int z5), (2, .int L2_1), (0, .ref mo), (1, .int x1)]) hx hb dX9_nextOf_19 rfl hl (by decide) rfl (fun ls hl => ?_)
        refine lv_iload_n hx hb dX9_nextOf_20 rfl (lv_at hl 3 rfl) ?_
        refine lv_iload_n hx hb dX9_nextOf_21 rfl (lv_at hl 1 rfl) ?_
        refine hc_Si (As := [.int x1, .int L2_1]) (rest := []) (n := 2) (wr := [(mo, .inr (7, [.int mo_thrown, .ref mo_ascalar, .ref mo_acane, .ref mo_ais, .ref mo_astrandOf, .ref mo_aweight, .ref mo_aheight, .ref mo_achairOf, .ref mo_anoteMinute, .ref mo_anoteWho, .ref mo_anoteIs, .ref mo_atoldCane, .ref mo_anewScalar, .ref mo_anewCane, .ref mo_anewHeight, .ref mo_anewStrand, .ref mo_anewChair, .ref mo_anewWeight, .int mo_taped, .int mo_p, .int mo_fault, .int mo_slot, .int mo_rules, .int mo_entries, .int mo_deep, .int mo_counted, .int mo_opened, .int mo_words, .ref mo_atape, .ref mo_asort, .ref mo_anumber, .ref mo_aclauses, .ref mo_asumAt, .ref mo_atestAt, .ref mo_aendAt, .ref mo_aopen, .ref mo_aasked, .ref mo_astack, .ref mo_amust, .ref mo_apast, .ref mo_apastOf, .int mo_pastMany, .int mo_pastAt, .int mo_takesBack, .ref mo_acanRise, .ref mo_afirstHas, .ref mo_asecondHas, .ref mo_alay, .ref mo_ashows, .ref mo_aimages, .ref mo_aisMade, .int mo_imageAt, .int mo_goesBack])), (mo_acane, hcI k 4 mo_rcane), (mo_ais, hcI k 8 mo_ris), (mo_astrandOf, hcI k 8 mo_rstrandOf), (mo_aweight, hcI k 8 mo_rweight), (mo_aheight, hcI k 8 mo_rheight), (mo_achairOf, hcI k 8 mo_rchairOf), (mo_acanRise, hcZ k 256 mo_rcanRise), (mo_ascalar, hcI k 8 (sc8 mo_s0 mo_s1 mo_s2 mo_s3 mo_s4 mo_s5 mo_s6 mo_s7))]) hx hb hml hown hts hG hA hP hD hS hl.1 [] [0, 1, 2, 3, 4, 5, 6, 7, 8] (i_X9_has l D k _ x1 L2_1 ⟨by omega, by omega⟩) gX9_nextOf_X9_has rfl ⟨rfl, rfl, Nat.le_of_ble_eq_true rfl, Nat.le_of_ble_eq_true rfl⟩ (by decide +kernel) rfl rfl ⟨by decide, by decide, by decide⟩ ⟨rfl, rfl, Nat.le_of_ble_eq_true rfl, Nat.le_of_ble_eq_true rfl, Nat.le_of_ble_eq_true rfl⟩ dX9_nextOf_22 (fun r7 u6 H locs hw hP hD hS => ?_)
        have hP : va_P D vwCl ([(mo, .inr (7, [.int mo_thrown, .ref mo_ascalar, .ref mo_acane, .ref mo_ais, .ref mo_astrandOf, .ref mo_aweight, .ref mo_aheight, .ref mo_achairOf, .ref mo_anoteMinute, .ref mo_anoteWho, .ref mo_anoteIs, .ref mo_atoldCane, .ref mo_anewScalar, .ref mo_anewCane, .ref mo_anewHeight, .ref mo_anewStrand, .ref mo_anewChair, .ref mo_anewWeight, .int mo_taped, .int mo_p, .int mo_fault, .int mo_slot, .int mo_rules, .int mo_entries, .int mo_deep, .int mo_counted, .int mo_opened, .int mo_words, .ref mo_atape, .ref mo_asort, .ref mo_anumber, .ref mo_aclauses, .ref mo_asumAt, .ref mo_atestAt, .ref mo_aendAt, .ref mo_aopen, .ref mo_aasked, .ref mo_astack, .ref mo_amust, .ref mo_apast, .ref mo_apastOf, .int mo_pastMany, .int mo_pastAt, .int mo_takesBack, .ref mo_acanRise, .ref mo_afirstHas, .ref mo_asecondHas, .ref mo_alay, .ref mo_ashows, .ref mo_aimages, .ref mo_aisMade, .int mo_imageAt, .int mo_goesBack])), (mo_acane, hcI k 4 mo_rcane), (mo_ais, hcI k 8 mo_ris), (mo_astrandOf, hcI k 8 mo_rstrandOf), (mo_aweight, hcI k 8 mo_rweight), (mo_aheight, hcI k 8 mo_rheight), (mo_achairOf, hcI k 8 mo_rchairOf), (mo_acanRise, hcZ k 256 mo_rcanRise), (mo_ascalar, hcI k 8 (sc8 mo_s0 mo_s1 mo_s2 mo_s3 mo_s4 mo_s5 mo_s6 mo_s7))]) H := hP
        have hD : va_D A ([(mo, .inr (7, [.int mo_thrown, .ref mo_ascalar, .ref mo_acane, .ref mo_ais, .ref mo_astrandOf, .ref mo_aweight, .ref mo_aheight, .ref mo_achairOf, .ref mo_anoteMinute, .ref mo_anoteWho, .ref mo_anoteIs, .ref mo_atoldCane, .ref mo_anewScalar, .ref mo_anewCane, .ref mo_anewHeight, .ref mo_anewStrand, .ref mo_anewChair, .ref mo_anewWeight, .int mo_taped, .int mo_p, .int mo_fault, .int mo_slot, .int mo_rules, .int mo_entries, .int mo_deep, .int mo_counted, .int mo_opened, .int mo_words, .ref mo_atape, .ref mo_asort, .ref mo_anumber, .ref mo_aclauses, .ref mo_asumAt, .ref mo_atestAt, .ref mo_aendAt, .ref mo_aopen, .ref mo_aasked, .ref mo_astack, .ref mo_amust, .ref mo_apast, .ref mo_apastOf, .int mo_pastMany, .int mo_pastAt, .int mo_takesBack, .ref mo_acanRise, .ref mo_afirstHas, .ref mo_asecondHas, .ref mo_alay, .ref mo_ashows, .ref mo_aimages, .ref mo_aisMade, .int mo_imageAt, .int mo_goesBack])), (mo_acane, hcI k 4 mo_rcane), (mo_ais, hcI k 8 mo_ris), (mo_astrandOf, hcI k 8 mo_rstrandOf), (mo_aweight, hcI k 8 mo_rweight), (mo_aheight, hcI k 8 mo_rheight), (mo_achairOf, hcI k 8 mo_rchairOf), (mo_acanRise, hcZ k 256 mo_rcanRise), (mo_ascalar, hcI k 8 (sc8 mo_s0 mo_s1 mo_s2 mo_s3 mo_s4 mo_s5 mo_s6 mo_s7))]) := hD
        obtain ⟨br7, rel8⟩ := hw
        have br7 : iv (0) (1) r7 := br7
        have br7_l := br7.1
        have br7_u := br7.2
        refine lv_if_eq (tgt := 47) hx hb dX9_nextOf_25 (by decide) (fun c9 => ?_) (fun c9 => ?_)
        · have fc9 := cx_eq_t (a := r7.toInt) (b := 0) rfl (by decide) c9
          obtain ⟨z10, ez10⟩ : ∃ z : Int32, z = L2_1 + 1 := ⟨_, rfl⟩
          have tz10 : z10.toInt = L2_1.toInt + (1) := ai_add rfl (by decide) ez10 (by omega) (by omega)
          refine lv_iinc (v := z10) (lv' := [(2, .int z10), (3, .int z5), (0, .ref mo), (1, .int x1)]) hx hb dX9_nextOf_47 hl (k := 1) rfl (by rw [ez10]; rfl) (by decide) rfl (fun ls hl => ?_)
          refine lv_goto (tgt := 2) hx hb dX9_nextOf_50 (by decide) ?_
          exact ih1 z10 ⟨by omega, by omega⟩ (by omega) _ _ _ hP hD hS (lv_sub hl [0, 2, 3] rfl)
        · have fc9 := cx_eq_f (a := r7.toInt) (b := 0) rfl (by decide) c9
          refine lv_aload_n hx hb dX9_nextOf_28 rfl (lv_at hl 2 rfl) ?_
          refine lv_iload_n hx hb dX9_nextOf_29 rfl (lv_at hl 0 rfl) ?_
          refine hc_Vi (As := [.int z5]) (rest := []) (n := 1) (wr := [(mo_ais, hcI k 8 mo_ris), (mo_acanRise, hcZ k 256 mo_rcanRise)]) hx hb hml hown hts hG hA hP hD hS hl.1 [0, 1, 3, 4, 5, 6, 8] [2, 7] (i_X9_dropsOf l D k _ z5 mo mo_thrown mo_ascalar mo_acane mo_ais mo_astrandOf mo_aweight mo_aheight mo_achairOf mo_anoteMinute mo_anoteWho mo_anoteIs mo_atoldCane mo_anewScalar mo_anewCane mo_anewHeight mo_anewStrand mo_anewChair mo_anewWeight mo_taped mo_p mo_fault mo_slot mo_rules mo_entries mo_deep mo_counted mo_opened mo_words mo_atape mo_asort mo_anumber mo_aclauses mo_asumAt mo_atestAt mo_aendAt mo_aopen mo_aasked mo_astack mo_amust mo_apast mo_apastOf mo_pastMany mo_pastAt mo_takesBack mo_acanRise mo_afirstHas mo_asecondHas mo_alay mo_ashows mo_aimages mo_aisMade mo_imageAt mo_goesBack mo_rcane mo_rstrandOf mo_rweight mo_rheight mo_rchairOf mo_s0 mo_s1 mo_s2 mo_s3 mo_s4 mo_s5 mo_s6 mo_s7 ⟨by omega, by omega⟩ ⟨by omega, by omega⟩ ⟨by omega, by omega⟩ ⟨by omega, by omega⟩ ⟨by omega, by omega⟩ ⟨by omega, by omega⟩ ⟨by omega, by omega⟩ ⟨by omega, by omega⟩ ⟨by omega, by omega⟩ ⟨by omega, by omega⟩ ⟨by omega, by omega⟩ ⟨by omega, by omega⟩ ⟨by omega, by omega⟩ ⟨by omega, by omega⟩ h_mo_rweight h_mo_rchairOf ⟨by omega, by omega⟩ ⟨by omega, by omega⟩ ⟨by omega, by omega⟩ ⟨by omega, by omega⟩ ⟨by omega, by omega⟩ hh_HallOk) (ci := 7) (q0 := 0) rfl rfl gX9_nextOf_X9_dropsOf rfl ⟨rfl, rfl, Nat.le_of_ble_eq_true rfl, Nat.le_of_ble_eq_true rfl⟩ (by decide +kernel) rfl rfl ⟨by decide, by decide, by decide⟩ ⟨rfl, rfl, Nat.le_of_ble_eq_true rfl, Nat.le_of_ble_eq_true rfl, Nat.le_of_ble_eq_true rfl⟩ dX9_nextOf_30 (fun r12 u11 H locs hw hP hD hS => ?_)
          have hP : va_P D vwCl ([(mo_ais, hcI k 8 mo_ris), (mo_acanRise, hcZ k 256 mo_rcanRise), (mo, .inr (7, [.int mo_thrown, .ref mo_ascalar, .ref mo_acane, .ref mo_ais, .ref mo_astrandOf, .ref mo_aweight, .ref mo_aheight, .ref mo_achairOf, .ref mo_anoteMinute, .ref mo_anoteWho, .ref mo_anoteIs, .ref mo_atoldCane, .ref mo_anewScalar, .ref mo_anewCane, .ref mo_anewHeight, .ref mo_anewStrand, .ref mo_anewChair, .ref mo_anewWeight, .int mo_taped, .int mo_p, .int mo_fault, .int mo_slot, .int mo_rules, .int mo_entries, .int mo_deep, .int mo_counted, .int mo_opened, .int mo_words, .ref mo_atape, .ref mo_asort, .ref mo_anumber, .ref mo_aclauses, .ref mo_asumAt, .ref mo_atestAt, .ref mo_aendAt, .ref mo_aopen, .ref mo_aasked, .ref mo_astack, .ref mo_amust, .ref mo_apast, .ref mo_apastOf, .int mo_pastMany, .int mo_pastAt, .int mo_takesBack, .ref mo_acanRise, .ref mo_afirstHas, .ref mo_asecondHas, .ref mo_alay, .ref mo_ashows, .ref mo_aimages, .ref mo_aisMade, .int mo_imageAt, .int mo_goesBack])), (mo_acane, hcI k 4 mo_rcane), (mo_astrandOf, hcI k 8 mo_rstrandOf), (mo_aweight, hcI k 8 mo_rweight), (mo_aheight, hcI k 8 mo_rheight), (mo_achairOf, hcI k 8 mo_rchairOf), (mo_ascalar, hcI k 8 (sc8 mo_s0 mo_s1 mo_s2 mo_s3 mo_s4 mo_s5 mo_s6 mo_s7))]) H := hP
          have hD : va_D A ([(mo_ais, hcI k 8 mo_ris), (mo_acanRise, hcZ k 256 mo_rcanRise), (mo, .inr (7, [.int mo_thrown, .ref mo_ascalar, .ref mo_acane, .ref mo_ais, .ref mo_astrandOf, .ref mo_aweight, .ref mo_aheight, .ref mo_achairOf, .ref mo_anoteMinute, .ref mo_anoteWho, .ref mo_anoteIs, .ref mo_atoldCane, .ref mo_anewScalar, .ref mo_anewCane, .ref mo_anewHeight, .ref mo_anewStrand, .ref mo_anewChair, .ref mo_anewWeight, .int mo_taped, .int mo_p, .int mo_fault, .int mo_slot, .int mo_rules, .int mo_entries, .int mo_deep, .int mo_counted, .int mo_opened, .int mo_words, .ref mo_atape, .ref mo_asort, .ref mo_anumber, .ref mo_aclauses, .ref mo_asumAt, .ref mo_atestAt, .ref mo_aendAt, .ref mo_aopen, .ref mo_aasked, .ref mo_astack, .ref mo_amust, .ref mo_apast, .ref mo_apastOf, .int mo_pastMany, .int mo_pastAt, .int mo_takesBack, .ref mo_acanRise, .ref mo_afirstHas, .ref mo_asecondHas, .ref mo_alay, .ref mo_ashows, .ref mo_aimages, .ref mo_aisMade, .int mo_imageAt, .int mo_goesBack])), (mo_acane, hcI k 4 mo_rcane), (mo_astrandOf, hcI k 8 mo_rstrandOf), (mo_aweight, hcI k 8 mo_rweight), (mo_aheight, hcI k 8 mo_rheight), (mo_achairOf, hcI k 8 mo_rchairOf), (mo_ascalar, hcI k 8 (sc8 mo_s0 mo_s1 mo_s2 mo_s3 mo_s4 mo_s5 mo_s6 mo_s7))]) := hD
          have rel13 := hw
          refine lv_if_ne (tgt := 47) hx hb dX9_nextOf_33 (by decide) (fun c14 => ?_) (fun c14 => ?_)
          · have fc14 := cx_ne_t (a := r12.toInt) (b := 0) rfl (by decide) c14
            obtain ⟨z15, ez15⟩ : ∃ z : Int32, z = L2_1 + 1 := ⟨_, rfl⟩
            have tz15 : z15.toInt = L2_1.toInt + (1) := ai_add rfl (by decide) ez15 (by omega) (by omega)
            refine lv_iinc (v := z15) (lv' := [(2, .int z15), (3, .int z5), (0, .ref mo), (1, .int x1)]) hx hb dX9_nextOf_47 hl (k := 1) rfl (by rw [ez15]; rfl) (by decide) rfl (fun ls hl => ?_)
            refine lv_goto (tgt := 2) hx hb dX9_nextOf_50 (by decide) ?_
            exact ih1 z15 ⟨by omega, by omega⟩ (by omega) _ _ _ (hP.sub [2, 3, 0, 4, 5, 6, 7, 1, 8] rfl) (hD.sub [2, 3, 0, 4, 5, 6, 7, 1, 8] (by decide) rfl) hS (lv_sub hl [0, 2, 3] rfl)
          · have fc14 := cx_ne_f (a := r12.toInt) (b := 0) rfl (by decide) c14
            refine lv_aload_n hx hb dX9_nextOf_36 rfl (lv_at hl 2 rfl) ?_
            refine va_get (D := D) (ci := 7) (v := .ref mo_acanRise) (C := RX9) (T := TX9) (N := 53) hx hb hts in9 hown hG.1 hP 2 rfl rfl 44 (by decide) (hts (.fieldLink RX9 106 "ChairCaneModel" "canRise" "[Z") (by decide +kernel)) (fun _ h9 => h9) rfl dX9_nextOf_37 ?_
            refine lv_iload_n hx hb dX9_nextOf_40 rfl (lv_at hl 0 rfl) ?_
            refine va_zald hx hb hG.1 hP 1 2 rfl rfl (vp_in_iff.mpr ⟨by omega, by omega⟩) dX9_nextOf_41 ?_
            refine lv_topi (fun z16 ez16 => ?_)
            refine lv_if_eq (tgt := 47) hx hb dX9_nextOf_42 (by decide) (fun c17 => ?_) (fun c17 => ?_)
            · have fc17 := cx_eq_t (a := z16.toInt) (b := 0) rfl (by decide) c17
              obtain ⟨z18, ez18⟩ : ∃ z : Int32, z = L2_1 + 1 := ⟨_, rfl⟩
              have tz18 : z18.toInt = L2_1.toInt + (1) := ai_add rfl (by decide) ez18 (by omega) (by omega)
              refine lv_iinc (v := z18) (lv' := [(2, .int z18), (3, .int z5), (0, .ref mo), (1, .int x1)]) hx hb dX9_nextOf_47 hl (k := 1) rfl (by rw [ez18]; rfl) (by decide) rfl (fun ls hl => ?_)
              refine lv_goto (tgt := 2) hx hb dX9_nextOf_50 (by decide) ?_
              exact ih1 z18 ⟨by omega, by omega⟩ (by omega) _ _ _ (hP.sub [2, 3, 0, 4, 5, 6, 7, 1, 8] rfl) (hD.sub [2, 3, 0, 4, 5, 6, 7, 1, 8] (by decide) rfl) hS (lv_sub hl [0, 2, 3] rfl)
            · have fc17 := cx_eq_f (a := z16.toInt) (b := 0) rfl (by decide) c17
              refine lv_iload_n hx hb dX9_nextOf_45 rfl (lv_at hl 1 rfl) ?_
              exact hc_end hx hb hr hlocks () (⟨by omega, by omega⟩) (hP.sub [2, 3, 0, 4, 5, 6, 7, 1, 8] rfl) (hD.sub [2, 3, 0, 4, 5, 6, 7, 1, 8] (by decide) rfl) hS dX9_nextOf_46
  exact loop1 100 0 (iv_lit (by decide) (by decide)) (by have q0 : (0 : Int32).toInt = 0 := (by decide); omega) _ _ _ hP hD hS hl
set_option maxHeartbeats 4000000 in
set_option maxRecDepth 100000 in
theorem i_X9_way (l : Launch) (D : va_G) (k : Nat → ClassId) (sz : Nat) (x1 : Int32) (mo : Nat) (mo_thrown : Int32) (mo_ascalar : Nat) (mo_acane : Nat) (mo_ais : Nat) (mo_astrandOf : Nat) (mo_aweight : Nat) (mo_aheight : Nat) (mo_achairOf : Nat) (mo_anoteMinute : Nat) (mo_anoteWho : Nat) (mo_anoteIs : Nat) (mo_atoldCane : Nat) (mo_anewScalar : Nat) (mo_anewCane : Nat) (mo_anewHeight : Nat) (mo_anewStrand : Nat) (mo_anewChair : Nat) (mo_anewWeight : Nat) (mo_taped : Int32) (mo_p : Int32) (mo_fault : Int32) (mo_slot : Int32) (mo_rules : Int32) (mo_entries : Int32) (mo_deep : Int32) (mo_counted : Int32) (mo_opened : Int32) (mo_words : Int32) (mo_atape : Nat) (mo_asort : Nat) (mo_anumber : Nat) (mo_aclauses : Nat) (mo_asumAt : Nat) (mo_atestAt : Nat) (mo_aendAt : Nat) (mo_aopen : Nat) (mo_aasked : Nat) (mo_astack : Nat) (mo_amust : Nat) (mo_apast : Nat) (mo_apastOf : Nat) (mo_pastMany : Int32) (mo_pastAt : Int32) (mo_takesBack : Int32) (mo_acanRise : Nat) (mo_afirstHas : Nat) (mo_asecondHas : Nat) (mo_alay : Nat) (mo_ashows : Nat) (mo_aimages : Nat) (mo_aisMade : Nat) (mo_imageAt : Int32) (mo_goesBack : Int32) (mo_rcane : Nat → Int32) (mo_ris : Nat → Int32) (mo_rstrandOf : Nat → Int32) (mo_rweight : Nat → Int32) (mo_rheight : Nat → Int32) (mo_rchairOf : Nat → Int32) (mo_rcanRise : Nat → Int32) (mo_s0 : Int32) (mo_s1 : Int32) (mo_s2 : Int32) (mo_s3 : Int32) (mo_s4 : Int32) (mo_s5 : Int32) (mo_s6 : Int32) (mo_s7 : Int32) (h_mo_taped : iv (0) (400) mo_taped) (h_mo_p : iv (0) (402) mo_p) (h_mo_fault : iv (0) (4000) mo_fault) (h_mo_slot : iv (0) (5) mo_slot) (h_mo_rules : iv (0) (6) mo_rules) (h_mo_entries : iv (0) (300) mo_entries) (h_mo_counted : iv (0) (70) mo_counted) (h_mo_opened : iv (0) (402) mo_opened) (h_mo_words : iv (11) (11) mo_words) (h_mo_pastMany : iv (0) (20) mo_pastMany) (h_mo_pastAt : iv (0) (260) mo_pastAt) (h_mo_takesBack : iv (0) (1) mo_takesBack) (h_mo_imageAt : iv (0) (2000) mo_imageAt) (h_mo_goesBack : iv (0) (1) mo_goesBack) (h_mo_rweight : rowIn (0) (20) mo_rweight) (h_mo_rchairOf : rowIn (0) (7) mo_rchairOf) (h_mo_s1 : iv (0) (4) mo_s1) (h_mo_s2 : iv (0) (8) mo_s2) (h_mo_s3 : iv (0) (8) mo_s3) (h_mo_s5 : iv (0) (10) mo_s5) (h_mo_s7 : iv (-1) (5) mo_s7) (hh_HallOk : HallOk mo_s2 mo_s3 mo_rstrandOf mo_rchairOf mo_rweight) : CtI l yX9_way wsX9_way (rmK 6 0 0) [.ref mo, .int x1] D k sz ([(mo, .inr (7, [.int mo_thrown, .ref mo_ascalar, .ref mo_acane, .ref mo_ais, .ref mo_astrandOf, .ref mo_aweight, .ref mo_aheight, .ref mo_achairOf, .ref mo_anoteMinute, .ref mo_anoteWho, .ref mo_anoteIs, .ref mo_atoldCane, .ref mo_anewScalar, .ref mo_anewCane, .ref mo_anewHeight, .ref mo_anewStrand, .ref mo_anewChair, .ref mo_anewWeight, .int mo_taped, .int mo_p, .int mo_fault, .int mo_slot, .int mo_rules, .int mo_entries, .int mo_deep, .int mo_counted, .int mo_opened, .int mo_words, .ref mo_atape, .ref mo_asort, .ref mo_anumber, .ref mo_aclauses, .ref mo_asumAt, .ref mo_atestAt, .ref mo_aendAt, .ref mo_aopen, .ref mo_aasked, .ref mo_astack, .ref mo_amust, .ref mo_apast, .ref mo_apastOf, .int mo_pastMany, .int mo_pastAt, .int mo_takesBack, .ref mo_acanRise, .ref mo_afirstHas, .ref mo_asecondHas, .ref mo_alay, .ref mo_ashows, .ref mo_aimages, .ref mo_aisMade, .int mo_imageAt, .int mo_goesBack])), (mo_acane, hcI k 4 mo_rcane), (mo_ais, hcI k 8 mo_ris), (mo_astrandOf, hcI k 8 mo_rstrandOf), (mo_aweight, hcI k 8 mo_rweight), (mo_aheight, hcI k 8 mo_rheight), (mo_achairOf, hcI k 8 mo_rchairOf), (mo_acanRise, hcZ k 256 mo_rcanRise), (mo_ascalar, hcI k 8 (sc8 mo_s0 mo_s1 mo_s2 mo_s3 mo_s4 mo_s5 mo_s6 mo_s7))]) (fun (r : Int32) (u : (Nat → Int32)) => iv (-3) (7) r) (fun u : (Nat → Int32) => [(mo, .inr (7, [.int mo_thrown, .ref mo_ascalar, .ref mo_acane, .ref mo_ais, .ref mo_astrandOf, .ref mo_aweight, .ref mo_aheight, .ref mo_achairOf, .ref mo_anoteMinute, .ref mo_anoteWho, .ref mo_anoteIs, .ref mo_atoldCane, .ref mo_anewScalar, .ref mo_anewCane, .ref mo_anewHeight, .ref mo_anewStrand, .ref mo_anewChair, .ref mo_anewWeight, .int mo_taped, .int mo_p, .int mo_fault, .int mo_slot, .int mo_rules, .int mo_entries, .int mo_deep, .int mo_counted, .int mo_opened, .int mo_words, .ref mo_atape, .ref mo_asort, .ref mo_anumber, .ref mo_aclauses, .ref mo_asumAt, .ref mo_atestAt, .ref mo_aendAt, .ref mo_aopen, .ref mo_aasked, .ref mo_astack, .ref mo_amust, .ref mo_apast, .ref mo_apastOf, .int mo_pastMany, .int mo_pastAt, .int mo_takesBack, .ref mo_acanRise, .ref mo_afirstHas, .ref mo_asecondHas, .ref mo_alay, .ref mo_ashows, .ref mo_aimages, .ref mo_aisMade, .int mo_imageAt, .int mo_goesBack])), (mo_acane, hcI k 4 mo_rcane), (mo_ais, hcI k 8 mo_ris), (mo_astrandOf, hcI k 8 mo_rstrandOf), (mo_aweight, hcI k 8 mo_rweight), (mo_aheight, hcI k 8 mo_rheight), (mo_achairOf, hcI k 8 mo_rchairOf), (mo_acanRise, hcZ k 256 (u)), (mo_ascalar, hcI k 8 (sc8 mo_s0 mo_s1 mo_s2 mo_s3 mo_s4 mo_s5 mo_s6 mo_s7))]) 0 0 := by
  have h_mo_taped_l := h_mo_taped.1
  have h_mo_taped_u := h_mo_taped.2
  have h_mo_p_l := h_mo_p.1
  have h_mo_p_u := h_mo_p.2
  have h_mo_fault_l := h_mo_fault.1
  have h_mo_fault_u := h_mo_fault.2
  have h_mo_slot_l := h_mo_slot.1
  have h_mo_slot_u := h_mo_slot.2
  have h_mo_rules_l := h_mo_rules.1
  have h_mo_rules_u := h_mo_rules.2
  have h_mo_entries_l := h_mo_entries.1
  have h_mo_entries_u := h_mo_entries.2
  have h_mo_counted_l := h_mo_counted.1
  have h_mo_counted_u := h_mo_counted.2
  have h_mo_opened_l := h_mo_opened.1
  have h_mo_opened_u := h_mo_opened.2
  have h_mo_words_l := h_mo_words.1
  have h_mo_words_u := h_mo_words.2
  have h_mo_pastMany_l := h_mo_pastMany.1
  have h_mo_pastMany_u := h_mo_pastMany.2
  have h_mo_pastAt_l := h_mo_pastAt.1
  have h_mo_pastAt_u := h_mo_pastAt.2
  have h_mo_takesBack_l := h_mo_takesBack.1
  have h_mo_takesBack_u := h_mo_takesBack.2
  have h_mo_imageAt_l := h_mo_imageAt.1
  have h_mo_imageAt_u := h_mo_imageAt.2
  have h_mo_goesBack_l := h_mo_goesBack.1
  have h_mo_goesBack_u := h_mo_goesBack.2
  have h_mo_s1_l := h_mo_s1.1
  have h_mo_s1_u := h_mo_s1.2
  have h_mo_s2_l := h_mo_s2.1
  have h_mo_s2_u := h_mo_s2.2
  have h_mo_s3_l := h_mo_s3.1
  have h_mo_s3_u := h_mo_s3.2
  have h_mo_s5_l := h_mo_s5.1
  have h_mo_s5_u := h_mo_s5.2
  have h_mo_s7_l := h_mo_s7.1
  have h_mo_s7_u := h_mo_s7.2
  refine CtI.mk (cc := cX9_way) (maxL := 5) (ret := (some .int)) (by decide) rfl (Nat.le_of_ble_eq_true rfl) ?_
  intro p e s m below meth c A ls E hP hD hS hl
  obtain ⟨hx, hb, hr, hml, hown, hts, hlocks, hin, hG, hA⟩ := E
  have hown : s.vm.findClass RX9 = some m.cls := hown
  have in9 : ∀ w ∈ u_ws RX9 TX9 53, w ∈ wsX9_way := fun _ h => List.mem_cons_of_mem _ (List.mem_append_right _ h)
  have hl : lv_has ls 5 [(0, .ref mo), (1, .int x1)] := hl
  refine lv_aload_n hx hb dX9_way_0 rfl (lv_at hl 0 rfl) ?_
  refine hc_Vi (As := []) (rest := []) (n := 0) (wr := [(mo_acane, hcI k 4 mo_rcane), (mo_ais, hcI k 8 mo_ris), (mo_astrandOf, hcI k 8 mo_rstrandOf), (mo_aweight, hcI k 8 mo_rweight), (mo_aheight, hcI k 8 mo_rheight), (mo_achairOf, hcI k 8 mo_rchairOf), (mo_acanRise, hcZ k 256 mo_rcanRise)]) hx hb hml hown hts hG hA hP hD hS hl.1 [0, 8] [1, 2, 3, 4, 5, 6, 7] (i_X9_isHall l D k _ mo mo_thrown mo_ascalar mo_acane mo_ais mo_astrandOf mo_aweight mo_aheight mo_achairOf mo_anoteMinute mo_anoteWho mo_anoteIs mo_atoldCane mo_anewScalar mo_anewCane mo_anewHeight mo_anewStrand mo_anewChair mo_anewWeight mo_taped mo_p mo_fault mo_slot mo_rules mo_entries mo_deep mo_counted mo_opened mo_words mo_atape mo_asort mo_anumber mo_aclauses mo_asumAt mo_atestAt mo_aendAt mo_aopen mo_aasked mo_astack mo_amust mo_apast mo_apastOf mo_pastMany mo_pastAt mo_takesBack mo_acanRise mo_afirstHas mo_asecondHas mo_alay mo_ashows mo_aimages mo_aisMade mo_imageAt mo_goesBack mo_s0 mo_s1 mo_s2 mo_s3 mo_s4 mo_s5 mo_s6 mo_s7 ⟨by omega, by omega⟩ ⟨by omega, by omega⟩ ⟨by omega, by omega⟩ ⟨by omega, by omega⟩ ⟨by omega, by omega⟩ ⟨by omega, by omega⟩ ⟨by omega, by omega⟩ ⟨by omega, by omega⟩ ⟨by omega, by omega⟩ ⟨by omega, by omega⟩ ⟨by omega, by omega⟩ ⟨by omega, by omega⟩ ⟨by omega, by omega⟩ ⟨by omega, by omega⟩ ⟨by omega, by omega⟩ ⟨by omega, by omega⟩ ⟨by omega, by omega⟩ ⟨by omega, by omega⟩ ⟨by omega, by omega⟩) (ci := 7) (q0 := 0) rfl rfl gX9_way_X9_isHall rfl ⟨rfl, rfl, Nat.le_of_ble_eq_true rfl, Nat.le_of_ble_eq_true rfl⟩ (by decide +kernel) rfl rfl ⟨by decide, by decide, by decide⟩ ⟨rfl, rfl, Nat.le_of_ble_eq_true rfl, Nat.le_of_ble_eq_true rfl, Nat.le_of_ble_eq_true rfl⟩ dX9_way_1 (fun r2 u1 H locs hw hP hD hS => ?_)
  have hP : va_P D vwCl ([(mo_acane, hcI k 4 mo_rcane), (mo_ais, hcI k 8 mo_ris), (mo_astrandOf, hcI k 8 mo_rstrandOf), (mo_aweight, hcI k 8 mo_rweight), (mo_aheight, hcI k 8 mo_rheight), (mo_achairOf, hcI k 8 mo_rchairOf), (mo_acanRise, hcZ k 256 mo_rcanRise), (mo, .inr (7, [.int mo_thrown, .ref mo_ascalar, .ref mo_acane, .ref mo_ais, .ref mo_astrandOf, .ref mo_aweight, .ref mo_aheight, .ref mo_achairOf, .ref mo_anoteMinute, .ref mo_anoteWho, .ref mo_anoteIs, .ref mo_atoldCane, .ref mo_anewScalar, .ref mo_anewCane, .ref mo_anewHeight, .ref mo_anewStrand, .ref mo_anewChair, .ref mo_anewWeight, .int mo_taped, .int mo_p, .int mo_fault, .int mo_slot, .int mo_rules, .int mo_entries, .int mo_deep, .int mo_counted, .int mo_opened, .int mo_words, .ref mo_atape, .ref mo_asort, .ref mo_anumber, .ref mo_aclauses, .ref mo_asumAt, .ref mo_atestAt, .ref mo_aendAt, .ref mo_aopen, .ref mo_aasked, .ref mo_astack, .ref mo_amust, .ref mo_apast, .ref mo_apastOf, .int mo_pastMany, .int mo_pastAt, .int mo_takesBack, .ref mo_acanRise, .ref mo_afirstHas, .ref mo_asecondHas, .ref mo_alay, .ref mo_ashows, .ref mo_aimages, .ref mo_aisMade, .int mo_imageAt, .int mo_goesBack])), (mo_ascalar, hcI k 8 (sc8 mo_s0 mo_s1 mo_s2 mo_s3 mo_s4 mo_s5 mo_s6 mo_s7))]) H := hP
  have hD : va_D A ([(mo_acane, hcI k 4 mo_rcane), (mo_ais, hcI k 8 mo_ris), (mo_astrandOf, hcI k 8 mo_rstrandOf), (mo_aweight, hcI k 8 mo_rweight), (mo_aheight, hcI k 8 mo_rheight), (mo_achairOf, hcI k 8 mo_rchairOf), (mo_acanRise, hcZ k 256 mo_rcanRise), (mo, .inr (7, [.int mo_thrown, .ref mo_ascalar, .ref mo_acane, .ref mo_ais, .ref mo_astrandOf, .ref mo_aweight, .ref mo_aheight, .ref mo_achairOf, .ref mo_anoteMinute, .ref mo_anoteWho, .ref mo_anoteIs, .ref mo_atoldCane, .ref mo_anewScalar, .ref mo_anewCane, .ref mo_anewHeight, .ref mo_anewStrand, .ref mo_anewChair, .ref mo_anewWeight, .int mo_taped, .int mo_p, .int mo_fault, .int mo_slot, .int mo_rules, .int mo_entries, .int mo_deep, .int mo_counted, .int mo_opened, .int mo_words, .ref mo_atape, .ref mo_asort, .ref mo_anumber, .ref mo_aclauses, .ref mo_asumAt, .ref mo_atestAt, .ref mo_aendAt, .ref mo_aopen, .ref mo_aasked, .ref mo_astack, .ref mo_amust, .ref mo_apast, .ref mo_apastOf, .int mo_pastMany, .int mo_pastAt, .int mo_takesBack, .ref mo_acanRise, .ref mo_afirstHas, .ref mo_asecondHas, .ref mo_alay, .ref mo_ashows, .ref mo_aimages, .ref mo_aisMade, .int mo_imageAt, .int mo_goesBack])), (mo_ascalar, hcI k 8 (sc8 mo_s0 mo_s1 mo_s2 mo_s3 mo_s4 mo_s5 mo_s6 mo_s7))]) := hD
  have br2 := hw
  have br2 : iv (0) (1) r2 := br2
  have br2_l := br2.1
  have br2_u := br2.2
  refine lv_if_eq (tgt := 19) hx hb dX9_way_4 (by decide) (fun c3 => ?_) (fun c3 => ?_)
  · have fc3 := cx_eq_t (a := r2.toInt) (b := 0) rfl (by decide) c3
    refine lv_bipush (v := (-3)) hx hb dX9_way_19 (by decide) ?_
    exact hc_end hx hb hr hlocks (mo_rcanRise) (iv_lit (by decide) (by decide)) (hP.sub [7, 0, 1, 2, 3, 4, 5, 6, 8] rfl) (hD.sub [7, 0, 1, 2, 3, 4, 5, 6, 8] (by decide) rfl) hS dX9_way_21
  · have fc3 := cx_eq_f (a := r2.toInt) (b := 0) rfl (by decide) c3
    refine lv_iload_n hx hb dX9_way_7 rfl (lv_at hl 1 rfl) ?_
    refine lv_i2l hx hb dX9_way_8 rfl ?_
    refine lv_topl (fun y4 ey4 => ?_)
    have ty4 : y4.toInt = x1.toInt := ai_i2l rfl ey4
    refine lv_lconst (v := 0) hx hb dX9_way_9 (by decide) ?_
    refine lv_ldc2 (v := 7) hx hb hown (hts (.constantLong RX9 432 (7)) (by decide +kernel)) dX9_way_10 ?_
    have ql5 : (0 : Int64).toInt = 0 := by decide
    have ql6 : (7 : Int64).toInt = 7 := by decide
    refine hc_Si (As := [.long y4, .long 0, .long 7]) (rest := []) (n := 3) (wr := [(mo_acane, hcI k 4 mo_rcane), (mo_ais, hcI k 8 mo_ris), (mo_astrandOf, hcI k 8 mo_rstrandOf), (mo_aweight, hcI k 8 mo_rweight), (mo_aheight, hcI k 8 mo_rheight), (mo_achairOf, hcI k 8 mo_rchairOf), (mo_acanRise, hcZ k 256 mo_rcanRise), (mo, .inr (7, [.int mo_thrown, .ref mo_ascalar, .ref mo_acane, .ref mo_ais, .ref mo_astrandOf, .ref mo_aweight, .ref mo_aheight, .ref mo_achairOf, .ref mo_anoteMinute, .ref mo_anoteWho, .ref mo_anoteIs, .ref mo_atoldCane, .ref mo_anewScalar, .ref mo_anewCane, .ref mo_anewHeight, .ref mo_anewStrand, .ref mo_anewChair, .ref mo_anewWeight, .int mo_taped, .int mo_p, .int mo_fault, .int mo_slot, .int mo_rules, .int mo_entries, .int mo_deep, .int mo_counted, .int mo_opened, .int mo_words, .ref mo_atape, .ref mo_asort, .ref mo_anumber, .ref mo_aclauses, .ref mo_asumAt, .ref mo_atestAt, .ref mo_aendAt, .ref mo_aopen, .ref mo_aasked, .ref mo_astack, .ref mo_amust, .ref mo_apast, .ref mo_apastOf, .int mo_pastMany, .int mo_pastAt, .int mo_takesBack, .ref mo_acanRise, .ref mo_afirstHas, .ref mo_asecondHas, .ref mo_alay, .ref mo_ashows, .ref mo_aimages, .ref mo_aisMade, .int mo_imageAt, .int mo_goesBack])), (mo_ascalar, hcI k 8 (sc8 mo_s0 mo_s1 mo_s2 mo_s3 mo_s4 mo_s5 mo_s6 mo_s7))]) hx hb hml hown hts hG hA hP hD hS hl.1 [] [0, 1, 2, 3, 4, 5, 6, 7, 8] (i_X9_in l D k _ y4 0 7 ) gX9_way_X9_in rfl ⟨rfl, rfl, Nat.le_of_ble_eq_true rfl, Nat.le_of_ble_eq_true rfl⟩ (by decide +kernel) rfl rfl ⟨by decide, by decide, by decide⟩ ⟨rfl, rfl, Nat.le_of_ble_eq_true rfl, Nat.le_of_ble_eq_true rfl, Nat.le_of_ble_eq_true rfl⟩ dX9_way_13 (fun r8 u7 H locs hw hP hD hS => ?_)
    have hP : va_P D vwCl ([(mo_acane, hcI k 4 mo_rcane), (mo_ais, hcI k 8 mo_ris), (mo_astrandOf, hcI k 8 mo_rstrandOf), (mo_aweight, hcI k 8 mo_rweight), (mo_aheight, hcI k 8 mo_rheight), (mo_achairOf, hcI k 8 mo_rchairOf), (mo_acanRise, hcZ k 256 mo_rcanRise), (mo, .inr (7, [.int mo_thrown, .ref mo_ascalar, .ref mo_acane, .ref mo_ais, .ref mo_astrandOf, .ref mo_aweight, .ref mo_aheight, .ref mo_achairOf, .ref mo_anoteMinute, .ref mo_anoteWho, .ref mo_anoteIs, .ref mo_atoldCane, .ref mo_anewScalar, .ref mo_anewCane, .ref mo_anewHeight, .ref mo_anewStrand, .ref mo_anewChair, .ref mo_anewWeight, .int mo_taped, .int mo_p, .int mo_fault, .int mo_slot, .int mo_rules, .int mo_entries, .int mo_deep, .int mo_counted, .int mo_opened, .int mo_words, .ref mo_atape, .ref mo_asort, .ref mo_anumber, .ref mo_aclauses, .ref mo_asumAt, .ref mo_atestAt, .ref mo_aendAt, .ref mo_aopen, .ref mo_aasked, .ref mo_astack, .ref mo_amust, .ref mo_apast, .ref mo_apastOf, .int mo_pastMany, .int mo_pastAt, .int mo_takesBack, .ref mo_acanRise, .ref mo_afirstHas, .ref mo_asecondHas, .ref mo_alay, .ref mo_ashows, .ref mo_aimages, .ref mo_aisMade, .int mo_imageAt, .int mo_goesBack])), (mo_ascalar, hcI k 8 (sc8 mo_s0 mo_s1 mo_s2 mo_s3 mo_s4 mo_s5 mo_s6 mo_s7))]) H := hP
    have hD : va_D A ([(mo_acane, hcI k 4 mo_rcane), (mo_ais, hcI k 8 mo_ris), (mo_astrandOf, hcI k 8 mo_rstrandOf), (mo_aweight, hcI k 8 mo_rweight), (mo_aheight, hcI k 8 mo_rheight), (mo_achairOf, hcI k 8 mo_rchairOf), (mo_acanRise, hcZ k 256 mo_rcanRise), (mo, .inr (7, [.int mo_thrown, .ref mo_ascalar, .ref mo_acane, .ref mo_ais, .ref mo_astrandOf, .ref mo_aweight, .ref mo_aheight, .ref mo_achairOf, .ref mo_anoteMinute, .ref mo_anoteWho, .ref mo_anoteIs, .ref mo_atoldCane, .ref mo_anewScalar, .ref mo_anewCane, .ref mo_anewHeight, .ref mo_anewStrand, .ref mo_anewChair, .ref mo_anewWeight, .int mo_taped, .int mo_p, .int mo_fault, .int mo_slot, .int mo_rules, .int mo_entries, .int mo_deep, .int mo_counted, .int mo_opened, .int mo_words, .ref mo_atape, .ref mo_asort, .ref mo_anumber, .ref mo_aclauses, .ref mo_asumAt, .ref mo_atestAt, .ref mo_aendAt, .ref mo_aopen, .ref mo_aasked, .ref mo_astack, .ref mo_amust, .ref mo_apast, .ref mo_apastOf, .int mo_pastMany, .int mo_pastAt, .int mo_takesBack, .ref mo_acanRise, .ref mo_afirstHas, .ref mo_asecondHas, .ref mo_alay, .ref mo_ashows, .ref mo_aimages, .ref mo_aisMade, .int mo_imageAt, .int mo_goesBack])), (mo_ascalar, hcI k 8 (sc8 mo_s0 mo_s1 mo_s2 mo_s3 mo_s4 mo_s5 mo_s6 mo_s7))]) := hD
    obtain ⟨br8, rel9⟩ := hw
    have br8 : iv (0) (1) r8 := br8
    have br8_l := br8.1
    have br8_u := br8.2
    refine lv_if_ne (tgt := 22) hx hb dX9_way_16 (by decide) (fun c10 => ?_) (fun c10 => ?_)
    · have fc10 := cx_ne_t (a := r8.toInt) (b := 0) rfl (by decide) c10
      refine lv_aload_n hx hb dX9_way_22 rfl (lv_at hl 0 rfl) ?_
      refine lv_iconst (v := 1) hx hb dX9_way_23 (by decide) ?_
      have ql11 : (1 : Int32).toInt = 1 := by decide
      refine hc_Vi (As := [.int 1]) (rest := []) (n := 1) (wr := [(mo_acane, hcI k 4 mo_rcane), (mo_astrandOf, hcI k 8 mo_rstrandOf), (mo_aweight, hcI k 8 mo_rweight), (mo_aheight, hcI k 8 mo_rheight), (mo_achairOf, hcI k 8 mo_rchairOf), (mo_acanRise, hcZ k 256 mo_rcanRise)]) hx hb hml hown hts hG hA hP hD hS hl.1 [7, 1, 8] [0, 2, 3, 4, 5, 6] (i_X9_those l D k _ 1 mo mo_thrown mo_ascalar mo_acane mo_ais mo_astrandOf mo_aweight mo_aheight mo_achairOf mo_anoteMinute mo_anoteWho mo_anoteIs mo_atoldCane mo_anewScalar mo_anewCane mo_anewHeight mo_anewStrand mo_anewChair mo_anewWeight mo_taped mo_p mo_fault mo_slot mo_rules mo_entries mo_deep mo_counted mo_opened mo_words mo_atape mo_asort mo_anumber mo_aclauses mo_asumAt mo_atestAt mo_aendAt mo_aopen mo_aasked mo_astack mo_amust mo_apast mo_apastOf mo_pastMany mo_pastAt mo_takesBack mo_acanRise mo_afirstHas mo_asecondHas mo_alay mo_ashows mo_aimages mo_aisMade mo_imageAt mo_goesBack mo_ris mo_s0 mo_s1 mo_s2 mo_s3 mo_s4 mo_s5 mo_s6 mo_s7 ⟨by omega, by omega⟩ ⟨by omega, by omega⟩ ⟨by omega, by omega⟩ ⟨by omega, by omega⟩ ⟨by omega, by omega⟩ ⟨by omega, by omega⟩ ⟨by omega, by omega⟩ ⟨by omega, by omega⟩ ⟨by omega, by omega⟩ ⟨by omega, by omega⟩ ⟨by omega, by omega⟩ ⟨by omega, by omega⟩ ⟨by omega, by omega⟩ ⟨by omega, by omega⟩ ⟨by omega, by omega⟩ ⟨by omega, by omega⟩ ⟨by omega, by omega⟩ ⟨by omega, by omega⟩ ⟨by omega, by omega⟩) (ci := 7) (q0 := 7) rfl rfl gX9_way_X9_those rfl ⟨rfl, rfl, Nat.le_of_ble_eq_true rfl, Nat.le_of_ble_eq_true rfl⟩ (by decide +kernel) rfl rfl ⟨by decide, by decide, by decide⟩ ⟨rfl, rfl, Nat.le_of_ble_eq_true rfl, Nat.le_of_ble_eq_true rfl, Nat.le_of_ble_eq_true rfl⟩ dX9_way_24 (fun r13 u12 H locs hw hP hD hS => ?_)
      have hP : va_P D vwCl ([(mo_acane, hcI k 4 mo_rcane), (mo_astrandOf, hcI k 8 mo_rstrandOf), (mo_aweight, hcI k 8 mo_rweight), (mo_aheight, hcI k 8 mo_rheight), (mo_achairOf, hcI k 8 mo_rchairOf), (mo_acanRise, hcZ k 256 mo_rcanRise), (mo, .inr (7, [.int mo_thrown, .ref mo_ascalar, .ref mo_acane, .ref mo_ais, .ref mo_astrandOf, .ref mo_aweight, .ref mo_aheight, .ref mo_achairOf, .ref mo_anoteMinute, .ref mo_anoteWho, .ref mo_anoteIs, .ref mo_atoldCane, .ref mo_anewScalar, .ref mo_anewCane, .ref mo_anewHeight, .ref mo_anewStrand, .ref mo_anewChair, .ref mo_anewWeight, .int mo_taped, .int mo_p, .int mo_fault, .int mo_slot, .int mo_rules, .int mo_entries, .int mo_deep, .int mo_counted, .int mo_opened, .int mo_words, .ref mo_atape, .ref mo_asort, .ref mo_anumber, .ref mo_aclauses, .ref mo_asumAt, .ref mo_atestAt, .ref mo_aendAt, .ref mo_aopen, .ref mo_aasked, .ref mo_astack, .ref mo_amust, .ref mo_apast, .ref mo_apastOf, .int mo_pastMany, .int mo_pastAt, .int mo_takesBack, .ref mo_acanRise, .ref mo_afirstHas, .ref mo_asecondHas, .ref mo_alay, .ref mo_ashows, .ref mo_aimages, .ref mo_aisMade, .int mo_imageAt, .int mo_goesBack])), (mo_ais, hcI k 8 mo_ris), (mo_ascalar, hcI k 8 (sc8 mo_s0 mo_s1 mo_s2 mo_s3 mo_s4 mo_s5 mo_s6 mo_s7))]) H := hP
      have hD : va_D A ([(mo_acane, hcI k 4 mo_rcane), (mo_astrandOf, hcI k 8 mo_rstrandOf), (mo_aweight, hcI k 8 mo_rweight), (mo_aheight, hcI k 8 mo_rheight), (mo_achairOf, hcI k 8 mo_rchairOf), (mo_acanRise, hcZ k 256 mo_rcanRise), (mo, .inr (7, [.int mo_thrown, .ref mo_ascalar, .ref mo_acane, .ref mo_ais, .ref mo_astrandOf, .ref mo_aweight, .ref mo_aheight, .ref mo_achairOf, .ref mo_anoteMinute, .ref mo_anoteWho, .ref mo_anoteIs, .ref mo_atoldCane, .ref mo_anewScalar, .ref mo_anewCane, .ref mo_anewHeight, .ref mo_anewStrand, .ref mo_anewChair, .ref mo_anewWeight, .int mo_taped, .int mo_p, .int mo_fault, .int mo_slot, .int mo_rules, .int mo_entries, .int mo_deep, .int mo_counted, .int mo_opened, .int mo_words, .ref mo_atape, .ref mo_asort, .ref mo_anumber, .ref mo_aclauses, .ref mo_asumAt, .ref mo_atestAt, .ref mo_aendAt, .ref mo_aopen, .ref mo_aasked, .ref mo_astack, .ref mo_amust, .ref mo_apast, .ref mo_apastOf, .int mo_pastMany, .int mo_pastAt, .int mo_takesBack, .ref mo_acanRise, .ref mo_afirstHas, .ref mo_asecondHas, .ref mo_alay, .ref mo_ashows, .ref mo_aimages, .ref mo_aisMade, .int mo_imageAt, .int mo_goesBack])), (mo_ais, hcI k 8 mo_ris), (mo_ascalar, hcI k 8 (sc8 mo_s0 mo_s1 mo_s2 mo_s3 mo_s4 mo_s5 mo_s6 mo_s7))]) := hD
      have ql15 : (1 : Int32).toInt = 1 := by decide
      have rel14 := hw
      refine lv_istore_n (lv' := [(2, .int r13), (0, .ref mo), (1, .int x1)]) hx hb dX9_way_27 rfl hl (by decide) rfl (fun ls hl => ?_)
      refine lv_iconst (v := 0) hx hb dX9_way_28 (by decide) ?_
      refine lv_istore_n (lv' := [(3, .int 0), (2, .int r13), (0, .ref mo), (1, .int x1)]) hx hb dX9_way_29 rfl hl (by decide) rfl (fun ls hl => ?_)
      have loop16 : ∀ (fu : Nat) (L3_16 : Int32) (g_16mo_acanRise : Nat → Int32), iv (0) (256) L3_16 → 257 - L3_16.toInt < (fu : Int) → ∀ (H : Heap) (locs : List Loc) (ls : Array Slot), va_P D vwCl ([(mo_acane, hcI k 4 mo_rcane), (mo_astrandOf, hcI k 8 mo_rstrandOf), (mo_aweight, hcI k 8 mo_rweight), (mo_aheight, hcI k 8 mo_rheight), (mo_achairOf, hcI k 8 mo_rchairOf), (mo_acanRise, hcZ k 256 g_16mo_acanRise), (mo, .inr (7, [.int mo_thrown, .ref mo_ascalar, .ref mo_acane, .ref mo_ais, .ref mo_astrandOf, .ref mo_aweight, .ref mo_aheight, .ref mo_achairOf, .ref mo_anoteMinute, .ref mo_anoteWho, .ref mo_anoteIs, .ref mo_atoldCane, .ref mo_anewScalar, .ref mo_anewCane, .ref mo_anewHeight, .ref mo_anewStrand, .ref mo_anewChair, .ref mo_anewWeight, .int mo_taped, .int mo_p, .int mo_fault, .int mo_slot, .int mo_rules, .int mo_entries, .int mo_deep, .int mo_counted, .int mo_opened, .int mo_words, .ref mo_atape, .ref mo_asort, .ref mo_anumber, .ref mo_aclauses, .ref mo_asumAt, .ref mo_atestAt, .ref mo_aendAt, .ref mo_aopen, .ref mo_aasked, .ref mo_astack, .ref mo_amust, .ref mo_apast, .ref mo_apastOf, .int mo_pastMany, .int mo_pastAt, .int mo_takesBack, .ref mo_acanRise, .ref mo_afirstHas, .ref mo_asecondHas, .ref mo_alay, .ref mo_ashows, .ref mo_aimages, .ref mo_aisMade, .int mo_imageAt, .int mo_goesBack])), (mo_ais, hcI k 8 mo_ris), (mo_ascalar, hcI k 8 (sc8 mo_s0 mo_s1 mo_s2 mo_s3 mo_s4 mo_s5 mo_s6 mo_s7))]) H → va_D A ([(mo_acane, hcI k 4 mo_rcane), (mo_astrandOf, hcI k 8 mo_rstrandOf), (mo_aweight, hcI k 8 mo_rweight), (mo_aheight, hcI k 8 mo_rheight), (mo_achairOf, hcI k 8 mo_rchairOf), (mo_acanRise, hcZ k 256 g_16mo_acanRise), (mo, .inr (7, [.int mo_thrown, .ref mo_ascalar, .ref mo_acane, .ref mo_ais, .ref mo_astrandOf, .ref mo_aweight, .ref mo_aheight, .ref mo_achairOf, .ref mo_anoteMinute, .ref mo_anoteWho, .ref mo_anoteIs, .ref mo_atoldCane, .ref mo_anewScalar, .ref mo_anewCane, .ref mo_anewHeight, .ref mo_anewStrand, .ref mo_anewChair, .ref mo_anewWeight, .int mo_taped, .int mo_p, .int mo_fault, .int mo_slot, .int mo_rules, .int mo_entries, .int mo_deep, .int mo_counted, .int mo_opened, .int mo_words, .ref mo_atape, .ref mo_asort, .ref mo_anumber, .ref mo_aclauses, .ref mo_asumAt, .ref mo_atestAt, .ref mo_aendAt, .ref mo_aopen, .ref mo_aasked, .ref mo_astack, .ref mo_amust, .ref mo_apast, .ref mo_apastOf, .int mo_pastMany, .int mo_pastAt, .int mo_takesBack, .ref mo_acanRise, .ref mo_afirstHas, .ref mo_asecondHas, .ref mo_alay, .ref mo_ashows, .ref mo_aimages, .ref mo_aisMade, .int mo_imageAt, .int mo_goesBack])), (mo_ais, hcI k 8 mo_ris), (mo_ascalar, hcI k 8 (sc8 mo_s0 mo_s1 mo_s2 mo_s3 mo_s4 mo_s5 mo_s6 mo_s7))]) → va_S A s.heap H locs → lv_has ls 5 [(3, .int L3_16), (2, .int r13), (0, .ref mo), (1, .int x1)] → W p l e (rmK 6 0 0) s m (List.toArray [.ref mo, .int x1]) below meth c H locs 0 0 (MQ below (va_Qi (fun (r : Int32) (u : (Nat → Int32)) => iv (-3) (7) r) (hcB D (fun u : (Nat → Int32) => [(mo, .inr (7, [.int mo_thrown, .ref mo_ascalar, .ref mo_acane, .ref mo_ais, .ref mo_astrandOf, .ref mo_aweight, .ref mo_aheight, .ref mo_achairOf, .ref mo_anoteMinute, .ref mo_anoteWho, .ref mo_anoteIs, .ref mo_atoldCane, .ref mo_anewScalar, .ref mo_anewCane, .ref mo_anewHeight, .ref mo_anewStrand, .ref mo_anewChair, .ref mo_anewWeight, .int mo_taped, .int mo_p, .int mo_fault, .int mo_slot, .int mo_rules, .int mo_entries, .int mo_deep, .int mo_counted, .int mo_opened, .int mo_words, .ref mo_atape, .ref mo_asort, .ref mo_anumber, .ref mo_aclauses, .ref mo_asumAt, .ref mo_atestAt, .ref mo_aendAt, .ref mo_aopen, .ref mo_aasked, .ref mo_astack, .ref mo_amust, .ref mo_apast, .ref mo_apastOf, .int mo_pastMany, .int mo_pastAt, .int mo_takesBack, .ref mo_acanRise, .ref mo_afirstHas, .ref mo_asecondHas, .ref mo_alay, .ref mo_ashows, .ref mo_aimages, .ref mo_aisMade, .int mo_imageAt, .int mo_goesBack])), (mo_acane, hcI k 4 mo_rcane), (mo_ais, hcI k 8 mo_ris), (mo_astrandOf, hcI k 8 mo_rstrandOf), (mo_aweight, hcI k 8 mo_rweight), (mo_aheight, hcI k 8 mo_rheight), (mo_achairOf, hcI k 8 mo_rchairOf), (mo_acanRise, hcZ k 256 (u)), (mo_ascalar, hcI k 8 (sc8 mo_s0 mo_s1 mo_s2 mo_s3 mo_s4 mo_s5 mo_s6 mo_s7))]) A) A) (List.toArray [.ref mo, .int x1]) s 0 0 A) (F0 m 30 ls []) := by
        intro fu
        induction fu with
        | zero =>
          intro L3_16 g_16mo_acanRise bL3_16 hm
          have bL3_16_l := bL3_16.1
          have bL3_16_u := bL3_16.2
          exact absurd hm (by omega)
        | succ fu ih16 =>
          intro L3_16 g_16mo_acanRise bL3_16 hm H locs ls hP hD hS hl
          have bL3_16_l := bL3_16.1
          have bL3_16_u := bL3_16.2
          refine lv_iload_n hx hb dX9_way_30 rfl (lv_at hl 0 rfl) ?_
          refine lv_iload_n hx hb dX9_way_31 rfl (lv_at hl 1 rfl) ?_
          refine lv_icmp_gt (tgt := 73) hx hb dX9_way_32 (by decide) (fun c17 => ?_) (fun c17 => ?_)
          · have fc17 := cx_gt_t (a := L3_16.toInt) (b := r13.toInt) rfl rfl c17
            refine lv_aload_n hx hb dX9_way_73 rfl (lv_at hl 2 rfl) ?_
            refine va_get (D := D) (ci := 7) (v := .ref mo_acanRise) (C := RX9) (T := TX9) (N := 53) hx hb hts in9 hown hG.1 hP 6 rfl rfl 44 (by decide) (hts (.fieldLink RX9 106 "ChairCaneModel" "canRise" "[Z") (by decide +kernel)) (fun _ h9 => h9) rfl dX9_way_74 ?_
            refine lv_iload_n hx hb dX9_way_77 rfl (lv_at hl 1 rfl) ?_
            refine va_zald hx hb hG.1 hP 5 2 rfl rfl (vp_in_iff.mpr ⟨by omega, by omega⟩) dX9_way_78 ?_
            refine lv_topi (fun z18 ez18 => ?_)
            refine lv_if_ne (tgt := 85) hx hb dX9_way_79 (by decide) (fun c19 => ?_) (fun c19 => ?_)
            · have fc19 := cx_ne_t (a := z18.toInt) (b := 0) rfl (by decide) c19
              refine lv_iload_n hx hb dX9_way_85 rfl (lv_at hl 1 rfl) ?_
              refine lv_istore_n (lv' := [(3, .int r13), (2, .int r13), (0, .ref mo), (1, .int x1)]) hx hb dX9_way_86 rfl hl (by decide) rfl (fun ls hl => ?_)
              refine lv_iconst (v := 0) hx hb dX9_way_87 (by decide) ?_
              refine lv_istore (lv' := [(4, .int 0), (3, .int r13), (2, .int r13), (0, .ref mo), (1, .int x1)]) hx hb dX9_way_88 hl (by decide) rfl (fun ls hl => ?_)
              have loop20 : ∀ (fu : Nat) (L3_20 : Int32) (L4_20 : Int32), iv (0) (255) L3_20 → iv (0) (8) L4_20 → 9 - L4_20.toInt < (fu : Int) → ∀ (H : Heap) (locs : List Loc) (ls : Array Slot), va_P D vwCl ([(mo_acane, hcI k 4 mo_rcane), (mo_astrandOf, hcI k 8 mo_rstrandOf), (mo_aweight, hcI k 8 mo_rweight), (mo_aheight, hcI k 8 mo_rheight), (mo_achairOf, hcI k 8 mo_rchairOf), (mo_acanRise, hcZ k 256 g_16mo_acanRise), (mo, .inr (7, [.int mo_thrown, .ref mo_ascalar, .ref mo_acane, .ref mo_ais, .ref mo_astrandOf, .ref mo_aweight, .ref mo_aheight, .ref mo_achairOf, .ref mo_anoteMinute, .ref mo_anoteWho, .ref mo_anoteIs, .ref mo_atoldCane, .ref mo_anewScalar, .ref mo_anewCane, .ref mo_anewHeight, .ref mo_anewStrand, .ref mo_anewChair, .ref mo_anewWeight, .int mo_taped, .int mo_p, .int mo_fault, .int mo_slot, .int mo_rules, .int mo_entries, .int mo_deep, .int mo_counted, .int mo_opened, .int mo_words, .ref mo_atape, .ref mo_asort, .ref mo_anumber, .ref mo_aclauses, .ref mo_asumAt, .ref mo_atestAt, .ref mo_aendAt, .ref mo_aopen, .ref mo_aasked, .ref mo_astack, .ref mo_amust, .ref mo_apast, .ref mo_apastOf, .int mo_pastMany, .int mo_pastAt, .int mo_takesBack, .ref mo_acanRise, .ref mo_afirstHas, .ref mo_asecondHas, .ref mo_alay, .ref mo_ashows, .ref mo_aimages, .ref mo_aisMade, .int mo_imageAt, .int mo_goesBack])), (mo_ais, hcI k 8 mo_ris), (mo_ascalar, hcI k 8 (sc8 mo_s0 mo_s1 mo_s2 mo_s3 mo_s4 mo_s5 mo_s6 mo_s7))]) H → va_D A ([(mo_acane, hcI k 4 mo_rcane), (mo_astrandOf, hcI k 8 mo_rstrandOf), (mo_aweight, hcI k 8 mo_rweight), (mo_aheight, hcI k 8 mo_rheight), (mo_achairOf, hcI k 8 mo_rchairOf), (mo_acanRise, hcZ k 256 g_16mo_acanRise), (mo, .inr (7, [.int mo_thrown, .ref mo_ascalar, .ref mo_acane, .ref mo_ais, .ref mo_astrandOf, .ref mo_aweight, .ref mo_aheight, .ref mo_achairOf, .ref mo_anoteMinute, .ref mo_anoteWho, .ref mo_anoteIs, .ref mo_atoldCane, .ref mo_anewScalar, .ref mo_anewCane, .ref mo_anewHeight, .ref mo_anewStrand, .ref mo_anewChair, .ref mo_anewWeight, .int mo_taped, .int mo_p, .int mo_fault, .int mo_slot, .int mo_rules, .int mo_entries, .int mo_deep, .int mo_counted, .int mo_opened, .int mo_words, .ref mo_atape, .ref mo_asort, .ref mo_anumber, .ref mo_aclauses, .ref mo_asumAt, .ref mo_atestAt, .ref mo_aendAt, .ref mo_aopen, .ref mo_aasked, .ref mo_astack, .ref mo_amust, .ref mo_apast, .ref mo_apastOf, .int mo_pastMany, .int mo_pastAt, .int mo_takesBack, .ref mo_acanRise, .ref mo_afirstHas, .ref mo_asecondHas, .ref mo_alay, .ref mo_ashows, .ref mo_aimages, .ref mo_aisMade, .int mo_imageAt, .int mo_goesBack])), (mo_ais, hcI k 8 mo_ris), (mo_ascalar, hcI k 8 (sc8 mo_s0 mo_s1 mo_s2 mo_s3 mo_s4 mo_s5 mo_s6 mo_s7))]) → va_S A s.heap H locs → lv_has ls 5 [(4, .int L4_20), (3, .int L3_20), (2, .int r13), (0, .ref mo), (1, .int x1)] → W p l e (rmK 6 0 0) s m (List.toArray [.ref mo, .int x1]) below meth c H locs 0 0 (MQ below (va_Qi (fun (r : Int32) (u : (Nat → Int32)) => iv (-3) (7) r) (hcB D (fun u : (Nat → Int32) => [(mo, .inr (7, [.int mo_thrown, .ref mo_ascalar, .ref mo_acane, .ref mo_ais, .ref mo_astrandOf, .ref mo_aweight, .ref mo_aheight, .ref mo_achairOf, .ref mo_anoteMinute, .ref mo_anoteWho, .ref mo_anoteIs, .ref mo_atoldCane, .ref mo_anewScalar, .ref mo_anewCane, .ref mo_anewHeight, .ref mo_anewStrand, .ref mo_anewChair, .ref mo_anewWeight, .int mo_taped, .int mo_p, .int mo_fault, .int mo_slot, .int mo_rules, .int mo_entries, .int mo_deep, .int mo_counted, .int mo_opened, .int mo_words, .ref mo_atape, .ref mo_asort, .ref mo_anumber, .ref mo_aclauses, .ref mo_asumAt, .ref mo_atestAt, .ref mo_aendAt, .ref mo_aopen, .ref mo_aasked, .ref mo_astack, .ref mo_amust, .ref mo_apast, .ref mo_apastOf, .int mo_pastMany, .int mo_pastAt, .int mo_takesBack, .ref mo_acanRise, .ref mo_afirstHas, .ref mo_asecondHas, .ref mo_alay, .ref mo_ashows, .ref mo_aimages, .ref mo_aisMade, .int mo_imageAt, .int mo_goesBack])), (mo_acane, hcI k 4 mo_rcane), (mo_ais, hcI k 8 mo_ris), (mo_astrandOf, hcI k 8 mo_rstrandOf), (mo_aweight, hcI k 8 mo_rweight), (mo_aheight, hcI k 8 mo_rheight), (mo_achairOf, hcI k 8 mo_rchairOf), (mo_acanRise, hcZ k 256 (u)), (mo_ascalar, hcI k 8 (sc8 mo_s0 mo_s1 mo_s2 mo_s3 mo_s4 mo_s5 mo_s6 mo_s7))]) A) A) (List.toArray [.ref mo, .int x1]) s 0 0 A) (F0 m 90 ls []) := by
                intro fu
                induction fu with
                | zero =>
                  intro L3_20 L4_20 bL3_20 bL4_20 hm
                  have bL3_20_l := bL3_20.1
                  have bL3_20_u := bL3_20.2
                  have bL4_20_l := bL4_20.1
                  have bL4_20_u := bL4_20.2
                  exact absurd hm (by omega)
                | succ fu ih20 =>
                  intro L3_20 L4_20 bL3_20 bL4_20 hm H locs ls hP hD hS hl
                  have bL3_20_l := bL3_20.1
                  have bL3_20_u := bL3_20.2
                  have bL4_20_l := bL4_20.1
                  have bL4_20_u := bL4_20.2
                  refine lv_iload hx hb dX9_way_90 (lv_at hl 0 rfl) ?_
                  refine lv_iload_n hx hb dX9_way_92 rfl (lv_at hl 4 rfl) ?_
                  refine lv_icmp_ge (tgt := 118) hx hb dX9_way_93 (by decide) (fun c21 => ?_) (fun c21 => ?_)
                  · have fc21 := cx_ge_t (a := L4_20.toInt) (b := x1.toInt) rfl rfl c21
                    refine lv_iload_n hx hb dX9_way_118 rfl (lv_at hl 1 rfl) ?_
                    refine lv_if_ne (tgt := 126) hx hb dX9_way_119 (by decide) (fun c22 => ?_) (fun c22 => ?_)
                    · have fc22 := cx_ne_t (a := L3_20.toInt) (b := 0) rfl (by decide) c22
                      refine lv_aload_n hx hb dX9_way_126 rfl (lv_at hl 3 rfl) ?_
                      refine lv_iload_n hx hb dX9_way_127 rfl (lv_at hl 1 rfl) ?_
                      refine hc_Vi (As := [.int L3_20]) (rest := []) (n := 1) (wr := []) hx hb hml hown hts hG hA hP hD hS hl.1 [6, 0, 7, 1, 2, 3, 4, 5, 8] [] (i_X9_nextOf l D k _ L3_20 mo mo_thrown mo_ascalar mo_acane mo_ais mo_astrandOf mo_aweight mo_aheight mo_achairOf mo_anoteMinute mo_anoteWho mo_anoteIs mo_atoldCane mo_anewScalar mo_anewCane mo_anewHeight mo_anewStrand mo_anewChair mo_anewWeight mo_taped mo_p mo_fault mo_slot mo_rules mo_entries mo_deep mo_counted mo_opened mo_words mo_atape mo_asort mo_anumber mo_aclauses mo_asumAt mo_atestAt mo_aendAt mo_aopen mo_aasked mo_astack mo_amust mo_apast mo_apastOf mo_pastMany mo_pastAt mo_takesBack mo_acanRise mo_afirstHas mo_asecondHas mo_alay mo_ashows mo_aimages mo_aisMade mo_imageAt mo_goesBack mo_rcane mo_ris mo_rstrandOf mo_rweight mo_rheight mo_rchairOf g_16mo_acanRise mo_s0 mo_s1 mo_s2 mo_s3 mo_s4 mo_s5 mo_s6 mo_s7 ⟨by omega, by omega⟩ ⟨by omega, by omega⟩ ⟨by omega, by omega⟩ ⟨by omega, by omega⟩ ⟨by omega, by omega⟩ ⟨by omega, by omega⟩ ⟨by omega, by omega⟩ ⟨by omega, by omega⟩ ⟨by omega, by omega⟩ ⟨by omega, by omega⟩ ⟨by omega, by omega⟩ ⟨by omega, by omega⟩ ⟨by omega, by omega⟩ ⟨by omega, by omega⟩ ⟨by omega, by omega⟩ h_mo_rweight h_mo_rchairOf ⟨by omega, by omega⟩ ⟨by omega, by omega⟩ ⟨by omega, by omega⟩ ⟨by omega, by omega⟩ ⟨by omega, by omega⟩ hh_HallOk) (ci := 7) (q0 := 6) rfl rfl gX9_way_X9_nextOf rfl ⟨rfl, rfl, Nat.le_of_ble_eq_true rfl, Nat.le_of_ble_eq_true rfl⟩ (by decide +kernel) rfl rfl ⟨by decide, by decide, by decide⟩ ⟨rfl, rfl, Nat.le_of_ble_eq_true rfl, Nat.le_of_ble_eq_true rfl, Nat.le_of_ble_eq_true rfl⟩ dX9_way_128 (fun r24 u23 H locs hw hP hD hS => ?_)
                      have hP : va_P D vwCl ([(mo, .inr (7, [.int mo_thrown, .ref mo_ascalar, .ref mo_acane, .ref mo_ais, .ref mo_astrandOf, .ref mo_aweight, .ref mo_aheight, .ref mo_achairOf, .ref mo_anoteMinute, .ref mo_anoteWho, .ref mo_anoteIs, .ref mo_atoldCane, .ref mo_anewScalar, .ref mo_anewCane, .ref mo_anewHeight, .ref mo_anewStrand, .ref mo_anewChair, .ref mo_anewWeight, .int mo_taped, .int mo_p, .int mo_fault, .int mo_slot, .int mo_rules, .int mo_entries, .int mo_deep, .int mo_counted, .int mo_opened, .int mo_words, .ref mo_atape, .ref mo_asort, .ref mo_anumber, .ref mo_aclauses, .ref mo_asumAt, .ref mo_atestAt, .ref mo_aendAt, .ref mo_aopen, .ref mo_aasked, .ref mo_astack, .ref mo_amust, .ref mo_apast, .ref mo_apastOf, .int mo_pastMany, .int mo_pastAt, .int mo_takesBack, .ref mo_acanRise, .ref mo_afirstHas, .ref mo_asecondHas, .ref mo_alay, .ref mo_ashows, .ref mo_aimages, .ref mo_aisMade, .int mo_imageAt, .int mo_goesBack])), (mo_acane, hcI k 4 mo_rcane), (mo_ais, hcI k 8 mo_ris), (mo_astrandOf, hcI k 8 mo_rstrandOf), (mo_aweight, hcI k 8 mo_rweight), (mo_aheight, hcI k 8 mo_rheight), (mo_achairOf, hcI k 8 mo_rchairOf), (mo_acanRise, hcZ k 256 g_16mo_acanRise), (mo_ascalar, hcI k 8 (sc8 mo_s0 mo_s1 mo_s2 mo_s3 mo_s4 mo_s5 mo_s6 mo_s7))]) H := hP
                      have hD : va_D A ([(mo, .inr (7, [.int mo_thrown, .ref mo_ascalar, .ref mo_acane, .ref mo_ais, .ref mo_astrandOf, .ref mo_aweight, .ref mo_aheight, .ref mo_achairOf, .ref mo_anoteMinute, .ref mo_anoteWho, .ref mo_anoteIs, .ref mo_atoldCane, .ref mo_anewScalar, .ref mo_anewCane, .ref mo_anewHeight, .ref mo_anewStrand, .ref mo_anewChair, .ref mo_anewWeight, .int mo_taped, .int mo_p, .int mo_fault, .int mo_slot, .int mo_rules, .int mo_entries, .int mo_deep, .int mo_counted, .int mo_opened, .int mo_words, .ref mo_atape, .ref mo_asort, .ref mo_anumber, .ref mo_aclauses, .ref mo_asumAt, .ref mo_atestAt, .ref mo_aendAt, .ref mo_aopen, .ref mo_aasked, .ref mo_astack, .ref mo_amust, .ref mo_apast, .ref mo_apastOf, .int mo_pastMany, .int mo_pastAt, .int mo_takesBack, .ref mo_acanRise, .ref mo_afirstHas, .ref mo_asecondHas, .ref mo_alay, .ref mo_ashows, .ref mo_aimages, .ref mo_aisMade, .int mo_imageAt, .int mo_goesBack])), (mo_acane, hcI k 4 mo_rcane), (mo_ais, hcI k 8 mo_ris), (mo_astrandOf, hcI k 8 mo_rstrandOf), (mo_aweight, hcI k 8 mo_rweight), (mo_aheight, hcI k 8 mo_rheight), (mo_achairOf, hcI k 8 mo_rchairOf), (mo_acanRise, hcZ k 256 g_16mo_acanRise), (mo_ascalar, hcI k 8 (sc8 mo_s0 mo_s1 mo_s2 mo_s3 mo_s4 mo_s5 mo_s6 mo_s7))]) := hD
                      have br24 := hw
                      have br24 : iv (-1) (7) r24 := br24
                      have br24_l := br24.1
                      have br24_u := br24.2
                      exact hc_end hx hb hr hlocks (g_16mo_acanRise) (⟨by omega, by omega⟩) hP hD hS dX9_way_131
                    · have fc22 := cx_ne_f (a := L3_20.toInt) (b := 0) rfl (by decide) c22
                      refine lv_iconst (v := (-1)) hx hb dX9_way_122 (by decide) ?_
                      refine lv_goto (tgt := 131) hx hb dX9_way_123 (by decide) ?_
                      exact hc_end hx hb hr hlocks (g_16mo_acanRise) (iv_lit (by decide) (by decide)) (hP.sub [6, 0, 7, 1, 2, 3, 4, 5, 8] rfl) (hD.sub [6, 0, 7, 1, 2, 3, 4, 5, 8] (by decide) rfl) hS dX9_way_131
                  · have fc21 := cx_ge_f (a := L4_20.toInt) (b := x1.toInt) rfl rfl c21
                    refine lv_iload_n hx hb dX9_way_96 rfl (lv_at hl 1 rfl) ?_
                    refine lv_if_eq (tgt := 118) hx hb dX9_way_97 (by decide) (fun c25 => ?_) (fun c25 => ?_)
                    · have fc25 := cx_eq_t (a := L3_20.toInt) (b := 0) rfl (by decide) c25
                      refine lv_iload_n hx hb dX9_way_118 rfl (lv_at hl 1 rfl) ?_
                      refine lv_if_ne (tgt := 126) hx hb dX9_way_119 (by decide) (fun c26 => ?_) (fun c26 => ?_)
                      · have fc26 := cx_ne_t (a := L3_20.toInt) (b := 0) rfl (by decide) c26
                        refine lv_aload_n hx hb dX9_way_126 rfl (lv_at hl 3 rfl) ?_
                        refine lv_iload_n hx hb dX9_way_127 rfl (lv_at hl 1 rfl) ?_
                        refine hc_Vi (As := [.int L3_20]) (rest := []) (n := 1) (wr := []) hx hb hml hown hts hG hA hP hD hS hl.1 [6, 0, 7, 1, 2, 3, 4, 5, 8] [] (i_X9_nextOf l D k _ L3_20 mo mo_thrown mo_ascalar mo_acane mo_ais mo_astrandOf mo_aweight mo_aheight mo_achairOf mo_anoteMinute mo_anoteWho mo_anoteIs mo_atoldCane mo_anewScalar mo_anewCane mo_anewHeight mo_anewStrand mo_anewChair mo_anewWeight mo_taped mo_p mo_fault mo_slot mo_rules mo_entries mo_deep mo_counted mo_opened mo_words mo_atape mo_asort mo_anumber mo_aclauses mo_asumAt mo_atestAt mo_aendAt mo_aopen mo_aasked mo_astack mo_amust mo_apast mo_apastOf mo_pastMany mo_pastAt mo_takesBack mo_acanRise mo_afirstHas mo_asecondHas mo_alay mo_ashows mo_aimages mo_aisMade mo_imageAt mo_goesBack mo_rcane mo_ris mo_rstrandOf mo_rweight mo_rheight mo_rchairOf g_16mo_acanRise mo_s0 mo_s1 mo_s2 mo_s3 mo_s4 mo_s5 mo_s6 mo_s7 ⟨by omega, by omega⟩ ⟨by omega, by omega⟩ ⟨by omega, by omega⟩ ⟨by omega, by omega⟩ ⟨by omega, by omega⟩ ⟨by omega, by omega⟩ ⟨by omega, by omega⟩ ⟨by omega, by omega⟩ ⟨by omega, by omega⟩ ⟨by omega, by omega⟩ ⟨by omega, by omega⟩ ⟨by omega, by omega⟩ ⟨by omega, by omega⟩ ⟨by omega, by omega⟩ ⟨by omega, by omega⟩ h_mo_rweight h_mo_rchairOf ⟨by omega, by omega⟩ ⟨by omega, by omega⟩ ⟨by omega, by omega⟩ ⟨by omega, by omega⟩ ⟨by omega, by omega⟩ hh_HallOk) (ci := 7) (q0 := 6) rfl rfl gX9_way_X9_nextOf rfl ⟨rfl, rfl, Nat.le_of_ble_eq_true rfl, Nat.le_of_ble_eq_true rfl⟩ (by decide +kernel) rfl rfl ⟨by decide, by decide, by decide⟩ ⟨rfl, rfl, Nat.le_of_ble_eq_true rfl, Nat.le_of_ble_eq_true rfl, Nat.le_of_ble_eq_true rfl⟩ dX9_way_128 (fun r28 u27 H locs hw hP hD hS => ?_)
                        have hP : va_P D vwCl ([(mo, .inr (7, [.int mo_thrown, .ref mo_ascalar, .ref mo_acane, .ref mo_ais, .ref mo_astrandOf, .ref mo_aweight, .ref mo_aheight, .ref mo_achairOf, .ref mo_anoteMinute, .ref mo_anoteWho, .ref mo_anoteIs, .ref mo_atoldCane, .ref mo_anewScalar, .ref mo_anewCane, .ref mo_anewHeight, .ref mo_anewStrand, .ref mo_anewChair, .ref mo_anewWeight, .int mo_taped, .int mo_p, .int mo_fault, .int mo_slot, .int mo_rules, .int mo_entries, .int mo_deep, .int mo_counted, .int mo_opened, .int mo_words, .ref mo_atape, .ref mo_asort, .ref mo_anumber, .ref mo_aclauses, .ref mo_asumAt, .ref mo_atestAt, .ref mo_aendAt, .ref mo_aopen, .ref mo_aasked, .ref mo_astack, .ref mo_amust, .ref mo_apast, .ref mo_apastOf, .int mo_pastMany, .int mo_pastAt, .int mo_takesBack, .ref mo_acanRise, .ref mo_afirstHas, .ref mo_asecondHas, .ref mo_alay, .ref mo_ashows, .ref mo_aimages, .ref mo_aisMade, .int mo_imageAt, .int mo_goesBack])), (mo_acane, hcI k 4 mo_rcane), (mo_ais, hcI k 8 mo_ris), (mo_astrandOf, hcI k 8 mo_rstrandOf), (mo_aweight, hcI k 8 mo_rweight), (mo_aheight, hcI k 8 mo_rheight), (mo_achairOf, hcI k 8 mo_rchairOf), (mo_acanRise, hcZ k 256 g_16mo_acanRise), (mo_ascalar, hcI k 8 (sc8 mo_s0 mo_s1 mo_s2 mo_s3 mo_s4 mo_s5 mo_s6 mo_s7))]) H := hP
                        have hD : va_D A ([(mo, .inr (7, [.int mo_thrown, .ref mo_ascalar, .ref mo_acane, .ref mo_ais, .ref mo_astrandOf, .ref mo_aweight, .ref mo_aheight, .ref mo_achairOf, .ref mo_anoteMinute, .ref mo_anoteWho, .ref mo_anoteIs, .ref mo_atoldCane, .ref mo_anewScalar, .ref mo_anewCane, .ref mo_anewHeight, .ref mo_anewStrand, .ref mo_anewChair, .ref mo_anewWeight, .int mo_taped, .int mo_p, .int mo_fault, .int mo_slot, .int mo_rules, .int mo_entries, .int mo_deep, .int mo_counted, .int mo_opened, .int mo_words, .ref mo_atape, .ref mo_asort, .ref mo_anumber, .ref mo_aclauses, .ref mo_asumAt, .ref mo_atestAt, .ref mo_aendAt, .ref mo_aopen, .ref mo_aasked, .ref mo_astack, .ref mo_amust, .ref mo_apast, .ref mo_apastOf, .int mo_pastMany, .int mo_pastAt, .int mo_takesBack, .ref mo_acanRise, .ref mo_afirstHas, .ref mo_asecondHas, .ref mo_alay, .ref mo_ashows, .ref mo_aimages, .ref mo_aisMade, .int mo_imageAt, .int mo_goesBack])), (mo_acane, hcI k 4 mo_rcane), (mo_ais, hcI k 8 mo_ris), (mo_astrandOf, hcI k 8 mo_rstrandOf), (mo_aweight, hcI k 8 mo_rweight), (mo_aheight, hcI k 8 mo_rheight), (mo_achairOf, hcI k 8 mo_rchairOf), (mo_acanRise, hcZ k 256 g_16mo_acanRise), (mo_ascalar, hcI k 8 (sc8 mo_s0 mo_s1 mo_s2 mo_s3 mo_s4 mo_s5 mo_s6 mo_s7))]) := hD
                        have br28 := hw
                        have br28 : iv (-1) (7) r28 := br28
                        have br28_l := br28.1
                        have br28_u := br28.2
                        exact hc_end hx hb hr hlocks (g_16mo_acanRise) (⟨by omega, by omega⟩) hP hD hS dX9_way_131
                      · have fc26 := cx_ne_f (a := L3_20.toInt) (b := 0) rfl (by decide) c26
                        refine lv_iconst (v := (-1)) hx hb dX9_way_122 (by decide) ?_
                        refine lv_goto (tgt := 131) hx hb dX9_way_123 (by decide) ?_
                        exact hc_end hx hb hr hlocks (g_16mo_acanRise) (iv_lit (by decide) (by decide)) (hP.sub [6, 0, 7, 1, 2, 3, 4, 5, 8] rfl) (hD.sub [6, 0, 7, 1, 2, 3, 4, 5, 8] (by decide) rfl) hS dX9_way_131
                    · have fc25 := cx_eq_f (a := L3_20.toInt) (b := 0) rfl (by decide) c25
                      refine lv_iload_n hx hb dX9_way_100 rfl (lv_at hl 1 rfl) ?_
                      refine lv_iconst (v := 1) hx hb dX9_way_101 (by decide) ?_
                      refine lv_aload_n hx hb dX9_way_102 rfl (lv_at hl 3 rfl) ?_
                      refine lv_iload_n hx hb dX9_way_103 rfl (lv_at hl 1 rfl) ?_
                      refine hc_Vi (As := [.int L3_20]) (rest := [.int 1, .int L3_20]) (n := 1) (wr := []) hx hb hml hown hts hG hA hP hD hS hl.1 [6, 0, 7, 1, 2, 3, 4, 5, 8] [] (i_X9_nextOf l D k _ L3_20 mo mo_thrown mo_ascalar mo_acane mo_ais mo_astrandOf mo_aweight mo_aheight mo_achairOf mo_anoteMinute mo_anoteWho mo_anoteIs mo_atoldCane mo_anewScalar mo_anewCane mo_anewHeight mo_anewStrand mo_anewChair mo_anewWeight mo_taped mo_p mo_fault mo_slot mo_rules mo_entries mo_deep mo_counted mo_opened mo_words mo_atape mo_asort mo_anumber mo_aclauses mo_asumAt mo_atestAt mo_aendAt mo_aopen mo_aasked mo_astack mo_amust mo_apast mo_apastOf mo_pastMany mo_pastAt mo_takesBack mo_acanRise mo_afirstHas mo_asecondHas mo_alay mo_ashows mo_aimages mo_aisMade mo_imageAt mo_goesBack mo_rcane mo_ris mo_rstrandOf mo_rweight mo_rheight mo_rchairOf g_16mo_acanRise mo_s0 mo_s1 mo_s2 mo_s3 mo_s4 mo_s5 mo_s6 mo_s7 ⟨by omega, by omega⟩ ⟨by omega, by omega⟩ ⟨by omega, by omega⟩ ⟨by omega, by omega⟩ ⟨by omega, by omega⟩ ⟨by omega, by omega⟩ ⟨by omega, by omega⟩ ⟨by omega, by omega⟩ ⟨by omega, by omega⟩ ⟨by omega, by omega⟩ ⟨by omega, by omega⟩ ⟨by omega, by omega⟩ ⟨by omega, by omega⟩ ⟨by omega, by omega⟩ ⟨by omega, by omega⟩ h_mo_rweight h_mo_rchairOf ⟨by omega, by omega⟩ ⟨by omega, by omega⟩ ⟨by omega, by omega⟩ ⟨by omega, by omega⟩ ⟨by omega, by omega⟩ hh_HallOk) (ci := 7) (q0 := 6) rfl rfl gX9_way_X9_nextOf rfl ⟨rfl, rfl, Nat.le_of_ble_eq_true rfl, Nat.le_of_ble_eq_true rfl⟩ (by decide +kernel) rfl rfl ⟨by decide, by decide, by decide⟩ ⟨rfl, rfl, Nat.le_of_ble_eq_true rfl, Nat.le_of_ble_eq_true rfl, Nat.le_of_ble_eq_true rfl⟩ dX9_way_104 (fun r30 u29 H locs hw hP hD hS => ?_)
                      have hP : va_P D vwCl ([(mo, .inr (7, [.int mo_thrown, .ref mo_ascalar, .ref mo_acane, .ref mo_ais, .ref mo_astrandOf, .ref mo_aweight, .ref mo_aheight, .ref mo_achairOf, .ref mo_anoteMinute, .ref mo_anoteWho, .ref mo_anoteIs, .ref mo_atoldCane, .ref mo_anewScalar, .ref mo_anewCane, .ref mo_anewHeight, .ref mo_anewStrand, .ref mo_anewChair, .ref mo_anewWeight, .int mo_taped, .int mo_p, .int mo_fault, .int mo_slot, .int mo_rules, .int mo_entries, .int mo_deep, .int mo_counted, .int mo_opened, .int mo_words, .ref mo_atape, .ref mo_asort, .ref mo_anumber, .ref mo_aclauses, .ref mo_asumAt, .ref mo_atestAt, .ref mo_aendAt, .ref mo_aopen, .ref mo_aasked, .ref mo_astack, .ref mo_amust, .ref mo_apast, .ref mo_apastOf, .int mo_pastMany, .int mo_pastAt, .int mo_takesBack, .ref mo_acanRise, .ref mo_afirstHas, .ref mo_asecondHas, .ref mo_alay, .ref mo_ashows, .ref mo_aimages, .ref mo_aisMade, .int mo_imageAt, .int mo_goesBack])), (mo_acane, hcI k 4 mo_rcane), (mo_ais, hcI k 8 mo_ris), (mo_astrandOf, hcI k 8 mo_rstrandOf), (mo_aweight, hcI k 8 mo_rweight), (mo_aheight, hcI k 8 mo_rheight), (mo_achairOf, hcI k 8 mo_rchairOf), (mo_acanRise, hcZ k 256 g_16mo_acanRise), (mo_ascalar, hcI k 8 (sc8 mo_s0 mo_s1 mo_s2 mo_s3 mo_s4 mo_s5 mo_s6 mo_s7))]) H := hP
                      have hD : va_D A ([(mo, .inr (7, [.int mo_thrown, .ref mo_ascalar, .ref mo_acane, .ref mo_ais, .ref mo_astrandOf, .ref mo_aweight, .ref mo_aheight, .ref mo_achairOf, .ref mo_anoteMinute, .ref mo_anoteWho, .ref mo_anoteIs, .ref mo_atoldCane, .ref mo_anewScalar, .ref mo_anewCane, .ref mo_anewHeight, .ref mo_anewStrand, .ref mo_anewChair, .ref mo_anewWeight, .int mo_taped, .int mo_p, .int mo_fault, .int mo_slot, .int mo_rules, .int mo_entries, .int mo_deep, .int mo_counted, .int mo_opened, .int mo_words, .ref mo_atape, .ref mo_asort, .ref mo_anumber, .ref mo_aclauses, .ref mo_asumAt, .ref mo_atestAt, .ref mo_aendAt, .ref mo_aopen, .ref mo_aasked, .ref mo_astack, .ref mo_amust, .ref mo_apast, .ref mo_apastOf, .int mo_pastMany, .int mo_pastAt, .int mo_takesBack, .ref mo_acanRise, .ref mo_afirstHas, .ref mo_asecondHas, .ref mo_alay, .ref mo_ashows, .ref mo_aimages, .ref mo_aisMade, .int mo_imageAt, .int mo_goesBack])), (mo_acane, hcI k 4 mo_rcane), (mo_ais, hcI k 8 mo_ris), (mo_astrandOf, hcI k 8 mo_rstrandOf), (mo_aweight, hcI k 8 mo_rweight), (mo_aheight, hcI k 8 mo_rheight), (mo_achairOf, hcI k 8 mo_rchairOf), (mo_acanRise, hcZ k 256 g_16mo_acanRise), (mo_ascalar, hcI k 8 (sc8 mo_s0 mo_s1 mo_s2 mo_s3 mo_s4 mo_s5 mo_s6 mo_s7))]) := hD
                      have br30 := hw
                      have br30 : iv (-1) (7) r30 := br30
                      have br30_l := br30.1
                      have br30_u := br30.2
                      refine lv_ishl hx hb dX9_way_107 ?_
                      refine lv_topi (fun z31 ez31 => ?_)
                      refine lv_iconst (v := (-1)) hx hb dX9_way_108 (by decide) ?_
                      refine lv_ixor hx hb dX9_way_109 ?_
                      refine lv_topi (fun z32 ez32 => ?_)
                      refine lv_iand hx hb dX9_way_110 ?_
                      refine lv_topi (fun z33 ez33 => ?_)
                      have tz33 := ai_and (x := L3_20) (by omega) ez33
                      refine lv_istore_n (lv' := [(3, .int z33), (4, .int L4_20), (2, .int r13), (0, .ref mo), (1, .int x1)]) hx hb dX9_way_111 rfl hl (by decide) rfl (fun ls hl => ?_)
                      obtain ⟨z34, ez34⟩ : ∃ z : Int32, z = L4_20 + 1 := ⟨_, rfl⟩
                      have tz34 : z34.toInt = L4_20.toInt + (1) := ai_add rfl (by decide) ez34 (by omega) (by omega)
                      refine lv_iinc (v := z34) (lv' := [(4, .int z34), (3, .int z33), (2, .int r13), (0, .ref mo), (1, .int x1)]) hx hb dX9_way_112 hl (k := 1) rfl (by rw [ez34]; rfl) (by decide) rfl (fun ls hl => ?_)
                      refine lv_goto (tgt := 90) hx hb dX9_way_115 (by decide) ?_
                      exact ih20 z33 z34 ⟨by omega, by omega⟩ ⟨by omega, by omega⟩ (by omega) _ _ _ (hP.sub [1, 3, 4, 5, 6, 7, 0, 2, 8] rfl) (hD.sub [1, 3, 4, 5, 6, 7, 0, 2, 8] (by decide) rfl) hS (lv_sub hl [0, 1, 2, 3, 4] rfl)
              exact loop20 300 r13 0 ⟨by omega, by omega⟩ (iv_lit (by decide) (by decide)) (by have q1 : (0 : Int32).toInt = 0 := (by decide); omega) _ _ _ hP hD hS hl
            · have fc19 := cx_ne_f (a := z18.toInt) (b := 0) rfl (by decide) c19
              refine lv_bipush (v := (-2)) hx hb dX9_way_82 (by decide) ?_
              exact hc_end hx hb hr hlocks (g_16mo_acanRise) (iv_lit (by decide) (by decide)) (hP.sub [6, 0, 7, 1, 2, 3, 4, 5, 8] rfl) (hD.sub [6, 0, 7, 1, 2, 3, 4, 5, 8] (by decide) rfl) hS dX9_way_84
          · have fc17 := cx_gt_f (a := L3_16.toInt) (b := r13.toInt) rfl rfl c17
            refine lv_iload_n hx hb dX9_way_35 rfl (lv_at hl 0 rfl) ?_
            refine lv_iload_n hx hb dX9_way_36 rfl (lv_at hl 1 rfl) ?_
            refine lv_iconst (v := (-1)) hx hb dX9_way_37 (by decide) ?_
            refine lv_ixor hx hb dX9_way_38 ?_
            refine lv_topi (fun z35 ez35 => ?_)
            refine lv_iand hx hb dX9_way_39 ?_
            refine lv_topi (fun z36 ez36 => ?_)
            have tz36 := ai_and (x := L3_16) (by omega) ez36
            refine lv_if_ne (tgt := 67) hx hb dX9_way_40 (by decide) (fun c37 => ?_) (fun c37 => ?_)
            · have fc37 := cx_ne_t (a := z36.toInt) (b := 0) rfl (by decide) c37
              obtain ⟨z38, ez38⟩ : ∃ z : Int32, z = L3_16 + 1 := ⟨_, rfl⟩
              have tz38 : z38.toInt = L3_16.toInt + (1) := ai_add rfl (by decide) ez38 (by omega) (by omega)
              refine lv_iinc (v := z38) (lv' := [(3, .int z38), (2, .int r13), (0, .ref mo), (1, .int x1)]) hx hb dX9_way_67 hl (k := 0) rfl (by rw [ez38]; rfl) (by decide) rfl (fun ls hl => ?_)
              refine lv_goto (tgt := 30) hx hb dX9_way_70 (by decide) ?_
              exact ih16 z38 g_16mo_acanRise ⟨by omega, by omega⟩ (by omega) _ _ _ hP hD hS (lv_sub hl [0, 1, 2, 3] rfl)
            · have fc37 := cx_ne_f (a := z36.toInt) (b := 0) rfl (by decide) c37
              refine lv_aload_n hx hb dX9_way_43 rfl (lv_at hl 2 rfl) ?_
              refine va_get (D := D) (ci := 7) (v := .ref mo_acanRise) (C := RX9) (T := TX9) (N := 53) hx hb hts in9 hown hG.1 hP 6 rfl rfl 44 (by decide) (hts (.fieldLink RX9 106 "ChairCaneModel" "canRise" "[Z") (by decide +kernel)) (fun _ h9 => h9) rfl dX9_way_44 ?_
              refine lv_iload_n hx hb dX9_way_47 rfl (lv_at hl 0 rfl) ?_
              refine lv_iload_n hx hb dX9_way_48 rfl (lv_at hl 0 rfl) ?_
              refine lv_if_eq (tgt := 61) hx hb dX9_way_49 (by decide) (fun c39 => ?_) (fun c39 => ?_)
              · have fc39 := cx_eq_t (a := L3_16.toInt) (b := 0) rfl (by decide) c39
                refine lv_iconst (v := 1) hx hb dX9_way_61 (by decide) ?_
                refine lv_goto (tgt := 66) hx hb dX9_way_62 (by decide) ?_
                refine va_zast hx hb hG.1 hP hD hS 5 2 rfl rfl (vp_in_iff.mpr ⟨by omega, by omega⟩) dX9_way_66 (fun H locs hP hD hS => ?_)
                obtain ⟨f40, ef40⟩ : ∃ f, f = upd g_16mo_acanRise (Int32.toNatClampNeg L3_16) (vp_nar .boolean (1)) := ⟨_, rfl⟩
                rw [← ef40] at hP hD
                have hP : va_P D vwCl ([(mo_acane, hcI k 4 mo_rcane), (mo_astrandOf, hcI k 8 mo_rstrandOf), (mo_aweight, hcI k 8 mo_rweight), (mo_aheight, hcI k 8 mo_rheight), (mo_achairOf, hcI k 8 mo_rchairOf), (mo_acanRise, hcZ k 256 f40), (mo, .inr (7, [.int mo_thrown, .ref mo_ascalar, .ref mo_acane, .ref mo_ais, .ref mo_astrandOf, .ref mo_aweight, .ref mo_aheight, .ref mo_achairOf, .ref mo_anoteMinute, .ref mo_anoteWho, .ref mo_anoteIs, .ref mo_atoldCane, .ref mo_anewScalar, .ref mo_anewCane, .ref mo_anewHeight, .ref mo_anewStrand, .ref mo_anewChair, .ref mo_anewWeight, .int mo_taped, .int mo_p, .int mo_fault, .int mo_slot, .int mo_rules, .int mo_entries, .int mo_deep, .int mo_counted, .int mo_opened, .int mo_words, .ref mo_atape, .ref mo_asort, .ref mo_anumber, .ref mo_aclauses, .ref mo_asumAt, .ref mo_atestAt, .ref mo_aendAt, .ref mo_aopen, .ref mo_aasked, .ref mo_astack, .ref mo_amust, .ref mo_apast, .ref mo_apastOf, .int mo_pastMany, .int mo_pastAt, .int mo_takesBack, .ref mo_acanRise, .ref mo_afirstHas, .ref mo_asecondHas, .ref mo_alay, .ref mo_ashows, .ref mo_aimages, .ref mo_aisMade, .int mo_imageAt, .int mo_goesBack])), (mo_ais, hcI k 8 mo_ris), (mo_ascalar, hcI k 8 (sc8 mo_s0 mo_s1 mo_s2 mo_s3 mo_s4 mo_s5 mo_s6 mo_s7))]) H := hP
                have hD : va_D A ([(mo_acane, hcI k 4 mo_rcane), (mo_astrandOf, hcI k 8 mo_rstrandOf), (mo_aweight, hcI k 8 mo_rweight), (mo_aheight, hcI k 8 mo_rheight), (mo_achairOf, hcI k 8 mo_rchairOf), (mo_acanRise, hcZ k 256 f40), (mo, .inr (7, [.int mo_thrown, .ref mo_ascalar, .ref mo_acane, .ref mo_ais, .ref mo_astrandOf, .ref mo_aweight, .ref mo_aheight, .ref mo_achairOf, .ref mo_anoteMinute, .ref mo_anoteWho, .ref mo_anoteIs, .ref mo_atoldCane, .ref mo_anewScalar, .ref mo_anewCane, .ref mo_anewHeight, .ref mo_anewStrand, .ref mo_anewChair, .ref mo_anewWeight, .int mo_taped, .int mo_p, .int mo_fault, .int mo_slot, .int mo_rules, .int mo_entries, .int mo_deep, .int mo_counted, .int mo_opened, .int mo_words, .ref mo_atape, .ref mo_asort, .ref mo_anumber, .ref mo_aclauses, .ref mo_asumAt, .ref mo_atestAt, .ref mo_aendAt, .ref mo_aopen, .ref mo_aasked, .ref mo_astack, .ref mo_amust, .ref mo_apast, .ref mo_apastOf, .int mo_pastMany, .int mo_pastAt, .int mo_takesBack, .ref mo_acanRise, .ref mo_afirstHas, .ref mo_asecondHas, .ref mo_alay, .ref mo_ashows, .ref mo_aimages, .ref mo_aisMade, .int mo_imageAt, .int mo_goesBack])), (mo_ais, hcI k 8 mo_ris), (mo_ascalar, hcI k 8 (sc8 mo_s0 mo_s1 mo_s2 mo_s3 mo_s4 mo_s5 mo_s6 mo_s7))]) := hD
                obtain ⟨z41, ez41⟩ : ∃ z : Int32, z = L3_16 + 1 := ⟨_, rfl⟩
                have tz41 : z41.toInt = L3_16.toInt + (1) := ai_add rfl (by decide) ez41 (by omega) (by omega)
                refine lv_iinc (v := z41) (lv' := [(3, .int z41), (2, .int r13), (0, .ref mo), (1, .int x1)]) hx hb dX9_way_67 hl (k := 0) rfl (by rw [ez41]; rfl) (by decide) rfl (fun ls hl => ?_)
                refine lv_goto (tgt := 30) hx hb dX9_way_70 (by decide) ?_
                exact ih16 z41 f40 ⟨by omega, by omega⟩ (by omega) _ _ _ hP hD hS (lv_sub hl [0, 1, 2, 3] rfl)
              · have fc39 := cx_eq_f (a := L3_16.toInt) (b := 0) rfl (by decide) c39
                refine lv_aload_n hx hb dX9_way_52 rfl (lv_at hl 2 rfl) ?_
                refine lv_iload_n hx hb dX9_way_53 rfl (lv_at hl 0 rfl) ?_
                refine hc_Vi (As := [.int L3_16]) (rest := [.int L3_16, .ref mo_acanRise]) (n := 1) (wr := []) hx hb hml hown hts hG hA hP hD hS hl.1 [6, 0, 7, 1, 2, 3, 4, 5, 8] [] (i_X9_nextOf l D k _ L3_16 mo mo_thrown mo_ascalar mo_acane mo_ais mo_astrandOf mo_aweight mo_aheight mo_achairOf mo_anoteMinute mo_anoteWho mo_anoteIs mo_atoldCane mo_anewScalar mo_anewCane mo_anewHeight mo_anewStrand mo_anewChair mo_anewWeight mo_taped mo_p mo_fault mo_slot mo_rules mo_entries mo_deep mo_counted mo_opened mo_words mo_atape mo_asort mo_anumber mo_aclauses mo_asumAt mo_atestAt mo_aendAt mo_aopen mo_aasked mo_astack mo_amust mo_apast mo_apastOf mo_pastMany mo_pastAt mo_takesBack mo_acanRise mo_afirstHas mo_asecondHas mo_alay mo_ashows mo_aimages mo_aisMade mo_imageAt mo_goesBack mo_rcane mo_ris mo_rstrandOf mo_rweight mo_rheight mo_rchairOf g_16mo_acanRise mo_s0 mo_s1 mo_s2 mo_s3 mo_s4 mo_s5 mo_s6 mo_s7 ⟨by omega, by omega⟩ ⟨by omega, by omega⟩ ⟨by omega, by omega⟩ ⟨by omega, by omega⟩ ⟨by omega, by omega⟩ ⟨by omega, by omega⟩ ⟨by omega, by omega⟩ ⟨by omega, by omega⟩ ⟨by omega, by omega⟩ ⟨by omega, by omega⟩ ⟨by omega, by omega⟩ ⟨by omega, by omega⟩ ⟨by omega, by omega⟩ ⟨by omega, by omega⟩ ⟨by omega, by omega⟩ h_mo_rweight h_mo_rchairOf ⟨by omega, by omega⟩ ⟨by omega, by omega⟩ ⟨by omega, by omega⟩ ⟨by omega, by omega⟩ ⟨by omega, by omega⟩ hh_HallOk) (ci := 7) (q0 := 6) rfl rfl gX9_way_X9_nextOf rfl ⟨rfl, rfl, Nat.le_of_ble_eq_true rfl, Nat.le_of_ble_eq_true rfl⟩ (by decide +kernel) rfl rfl ⟨by decide, by decide, by decide⟩ ⟨rfl, rfl, Nat.le_of_ble_eq_true rfl, Nat.le_of_ble_eq_true rfl, Nat.le_of_ble_eq_true rfl⟩ dX9_way_54 (fun r43 u42 H locs hw hP hD hS => ?_)
                have hP : va_P D vwCl ([(mo, .inr (7, [.int mo_thrown, .ref mo_ascalar, .ref mo_acane, .ref mo_ais, .ref mo_astrandOf, .ref mo_aweight, .ref mo_aheight, .ref mo_achairOf, .ref mo_anoteMinute, .ref mo_anoteWho, .ref mo_anoteIs, .ref mo_atoldCane, .ref mo_anewScalar, .ref mo_anewCane, .ref mo_anewHeight, .ref mo_anewStrand, .ref mo_anewChair, .ref mo_anewWeight, .int mo_taped, .int mo_p, .int mo_fault, .int mo_slot, .int mo_rules, .int mo_entries, .int mo_deep, .int mo_counted, .int mo_opened, .int mo_words, .ref mo_atape, .ref mo_asort, .ref mo_anumber, .ref mo_aclauses, .ref mo_asumAt, .ref mo_atestAt, .ref mo_aendAt, .ref mo_aopen, .ref mo_aasked, .ref mo_astack, .ref mo_amust, .ref mo_apast, .ref mo_apastOf, .int mo_pastMany, .int mo_pastAt, .int mo_takesBack, .ref mo_acanRise, .ref mo_afirstHas, .ref mo_asecondHas, .ref mo_alay, .ref mo_ashows, .ref mo_aimages, .ref mo_aisMade, .int mo_imageAt, .int mo_goesBack])), (mo_acane, hcI k 4 mo_rcane), (mo_ais, hcI k 8 mo_ris), (mo_astrandOf, hcI k 8 mo_rstrandOf), (mo_aweight, hcI k 8 mo_rweight), (mo_aheight, hcI k 8 mo_rheight), (mo_achairOf, hcI k 8 mo_rchairOf), (mo_acanRise, hcZ k 256 g_16mo_acanRise), (mo_ascalar, hcI k 8 (sc8 mo_s0 mo_s1 mo_s2 mo_s3 mo_s4 mo_s5 mo_s6 mo_s7))]) H := hP
                have hD : va_D A ([(mo, .inr (7, [.int mo_thrown, .ref mo_ascalar, .ref mo_acane, .ref mo_ais, .ref mo_astrandOf, .ref mo_aweight, .ref mo_aheight, .ref mo_achairOf, .ref mo_anoteMinute, .ref mo_anoteWho, .ref mo_anoteIs, .ref mo_atoldCane, .ref mo_anewScalar, .ref mo_anewCane, .ref mo_anewHeight, .ref mo_anewStrand, .ref mo_anewChair, .ref mo_anewWeight, .int mo_taped, .int mo_p, .int mo_fault, .int mo_slot, .int mo_rules, .int mo_entries, .int mo_deep, .int mo_counted, .int mo_opened, .int mo_words, .ref mo_atape, .ref mo_asort, .ref mo_anumber, .ref mo_aclauses, .ref mo_asumAt, .ref mo_atestAt, .ref mo_aendAt, .ref mo_aopen, .ref mo_aasked, .ref mo_astack, .ref mo_amust, .ref mo_apast, .ref mo_apastOf, .int mo_pastMany, .int mo_pastAt, .int mo_takesBack, .ref mo_acanRise, .ref mo_afirstHas, .ref mo_asecondHas, .ref mo_alay, .ref mo_ashows, .ref mo_aimages, .ref mo_aisMade, .int mo_imageAt, .int mo_goesBack])), (mo_acane, hcI k 4 mo_rcane), (mo_ais, hcI k 8 mo_ris), (mo_astrandOf, hcI k 8 mo_rstrandOf), (mo_aweight, hcI k 8 mo_rweight), (mo_aheight, hcI k 8 mo_rheight), (mo_achairOf, hcI k 8 mo_rchairOf), (mo_acanRise, hcZ k 256 g_16mo_acanRise), (mo_ascalar, hcI k 8 (sc8 mo_s0 mo_s1 mo_s2 mo_s3 mo_s4 mo_s5 mo_s6 mo_s7))]) := hD
                have br43 := hw
                have br43 : iv (-1) (7) r43 := br43
                have br43_l := br43.1
                have br43_u := br43.2
                refine lv_iconst (v := (-1)) hx hb dX9_way_57 (by decide) ?_
                refine lv_icmp_eq (tgt := 65) hx hb dX9_way_58 (by decide) (fun c44 => ?_) (fun c44 => ?_)
                · have fc44 := cx_eq_t (a := r43.toInt) (b := (-1)) rfl (by decide) c44
                  refine lv_iconst (v := 0) hx hb dX9_way_65 (by decide) ?_
                  refine va_zast hx hb hG.1 hP hD hS 7 2 rfl rfl (vp_in_iff.mpr ⟨by omega, by omega⟩) dX9_way_66 (fun H locs hP hD hS => ?_)
                  obtain ⟨f45, ef45⟩ : ∃ f, f = upd g_16mo_acanRise (Int32.toNatClampNeg L3_16) (vp_nar .boolean (0)) := ⟨_, rfl⟩
                  rw [← ef45] at hP hD
                  have hP : va_P D vwCl ([(mo, .inr (7, [.int mo_thrown, .ref mo_ascalar, .ref mo_acane, .ref mo_ais, .ref mo_astrandOf, .ref mo_aweight, .ref mo_aheight, .ref mo_achairOf, .ref mo_anoteMinute, .ref mo_anoteWho, .ref mo_anoteIs, .ref mo_atoldCane, .ref mo_anewScalar, .ref mo_anewCane, .ref mo_anewHeight, .ref mo_anewStrand, .ref mo_anewChair, .ref mo_anewWeight, .int mo_taped, .int mo_p, .int mo_fault, .int mo_slot, .int mo_rules, .int mo_entries, .int mo_deep, .int mo_counted, .int mo_opened, .int mo_words, .ref mo_atape, .ref mo_asort, .ref mo_anumber, .ref mo_aclauses, .ref mo_asumAt, .ref mo_atestAt, .ref mo_aendAt, .ref mo_aopen, .ref mo_aasked, .ref mo_astack, .ref mo_amust, .ref mo_apast, .ref mo_apastOf, .int mo_pastMany, .int mo_pastAt, .int mo_takesBack, .ref mo_acanRise, .ref mo_afirstHas, .ref mo_asecondHas, .ref mo_alay, .ref mo_ashows, .ref mo_aimages, .ref mo_aisMade, .int mo_imageAt, .int mo_goesBack])), (mo_acane, hcI k 4 mo_rcane), (mo_ais, hcI k 8 mo_ris), (mo_astrandOf, hcI k 8 mo_rstrandOf), (mo_aweight, hcI k 8 mo_rweight), (mo_aheight, hcI k 8 mo_rheight), (mo_achairOf, hcI k 8 mo_rchairOf), (mo_acanRise, hcZ k 256 f45), (mo_ascalar, hcI k 8 (sc8 mo_s0 mo_s1 mo_s2 mo_s3 mo_s4 mo_s5 mo_s6 mo_s7))]) H := hP
                  have hD : va_D A ([(mo, .inr (7, [.int mo_thrown, .ref mo_ascalar, .ref mo_acane, .ref mo_ais, .ref mo_astrandOf, .ref mo_aweight, .ref mo_aheight, .ref mo_achairOf, .ref mo_anoteMinute, .ref mo_anoteWho, .ref mo_anoteIs, .ref mo_atoldCane, .ref mo_anewScalar, .ref mo_anewCane, .ref mo_anewHeight, .ref mo_anewStrand, .ref mo_anewChair, .ref mo_anewWeight, .int mo_taped, .int mo_p, .int mo_fault, .int mo_slot, .int mo_rules, .int mo_entries, .int mo_deep, .int mo_counted, .int mo_opened, .int mo_words, .ref mo_atape, .ref mo_asort, .ref mo_anumber, .ref mo_aclauses, .ref mo_asumAt, .ref mo_atestAt, .ref mo_aendAt, .ref mo_aopen, .ref mo_aasked, .ref mo_astack, .ref mo_amust, .ref mo_apast, .ref mo_apastOf, .int mo_pastMany, .int mo_pastAt, .int mo_takesBack, .ref mo_acanRise, .ref mo_afirstHas, .ref mo_asecondHas, .ref mo_alay, .ref mo_ashows, .ref mo_aimages, .ref mo_aisMade, .int mo_imageAt, .int mo_goesBack])), (mo_acane, hcI k 4 mo_rcane), (mo_ais, hcI k 8 mo_ris), (mo_astrandOf, hcI k 8 mo_rstrandOf), (mo_aweight, hcI k 8 mo_rweight), (mo_aheight, hcI k 8 mo_rheight), (mo_achairOf, hcI k 8 mo_rchairOf), (mo_acanRise, hcZ k 256 f45), (mo_ascalar, hcI k 8 (sc8 mo_s0 mo_s1 mo_s2 mo_s3 mo_s4 mo_s5 mo_s6 mo_s7))]) := hD
                  obtain ⟨z46, ez46⟩ : ∃ z : Int32, z = L3_16 + 1 := ⟨_, rfl⟩
                  have tz46 : z46.toInt = L3_16.toInt + (1) := ai_add rfl (by decide) ez46 (by omega) (by omega)
                  refine lv_iinc (v := z46) (lv' := [(3, .int z46), (2, .int r13), (0, .ref mo), (1, .int x1)]) hx hb dX9_way_67 hl (k := 0) rfl (by rw [ez46]; rfl) (by decide) rfl (fun ls hl => ?_)
                  refine lv_goto (tgt := 30) hx hb dX9_way_70 (by decide) ?_
                  exact ih16 z46 f45 ⟨by omega, by omega⟩ (by omega) _ _ _ (hP.sub [1, 3, 4, 5, 6, 7, 0, 2, 8] rfl) (hD.sub [1, 3, 4, 5, 6, 7, 0, 2, 8] (by decide) rfl) hS (lv_sub hl [0, 1, 2, 3] rfl)
                · have fc44 := cx_eq_f (a := r43.toInt) (b := (-1)) rfl (by decide) c44
                  refine lv_iconst (v := 1) hx hb dX9_way_61 (by decide) ?_
                  refine lv_goto (tgt := 66) hx hb dX9_way_62 (by decide) ?_
                  refine va_zast hx hb hG.1 hP hD hS 7 2 rfl rfl (vp_in_iff.mpr ⟨by omega, by omega⟩) dX9_way_66 (fun H locs hP hD hS => ?_)
                  obtain ⟨f47, ef47⟩ : ∃ f, f = upd g_16mo_acanRise (Int32.toNatClampNeg L3_16) (vp_nar .boolean (1)) := ⟨_, rfl⟩
                  rw [← ef47] at hP hD
                  have hP : va_P D vwCl ([(mo, .inr (7, [.int mo_thrown, .ref mo_ascalar, .ref mo_acane, .ref mo_ais, .ref mo_astrandOf, .ref mo_aweight, .ref mo_aheight, .ref mo_achairOf, .ref mo_anoteMinute, .ref mo_anoteWho, .ref mo_anoteIs, .ref mo_atoldCane, .ref mo_anewScalar, .ref mo_anewCane, .ref mo_anewHeight, .ref mo_anewStrand, .ref mo_anewChair, .ref mo_anewWeight, .int mo_taped, .int mo_p, .int mo_fault, .int mo_slot, .int mo_rules, .int mo_entries, .int mo_deep, .int mo_counted, .int mo_opened, .int mo_words, .ref mo_atape, .ref mo_asort, .ref mo_anumber, .ref mo_aclauses, .ref mo_asumAt, .ref mo_atestAt, .ref mo_aendAt, .ref mo_aopen, .ref mo_aasked, .ref mo_astack, .ref mo_amust, .ref mo_apast, .ref mo_apastOf, .int mo_pastMany, .int mo_pastAt, .int mo_takesBack, .ref mo_acanRise, .ref mo_afirstHas, .ref mo_asecondHas, .ref mo_alay, .ref mo_ashows, .ref mo_aimages, .ref mo_aisMade, .int mo_imageAt, .int mo_goesBack])), (mo_acane, hcI k 4 mo_rcane), (mo_ais, hcI k 8 mo_ris), (mo_astrandOf, hcI k 8 mo_rstrandOf), (mo_aweight, hcI k 8 mo_rweight), (mo_aheight, hcI k 8 mo_rheight), (mo_achairOf, hcI k 8 mo_rchairOf), (mo_acanRise, hcZ k 256 f47), (mo_ascalar, hcI k 8 (sc8 mo_s0 mo_s1 mo_s2 mo_s3 mo_s4 mo_s5 mo_s6 mo_s7))]) H := hP
                  have hD : va_D A ([(mo, .inr (7, [.int mo_thrown, .ref mo_ascalar, .ref mo_acane, .ref mo_ais, .ref mo_astrandOf, .ref mo_aweight, .ref mo_aheight, .ref mo_achairOf, .ref mo_anoteMinute, .ref mo_anoteWho, .ref mo_anoteIs, .ref mo_atoldCane, .ref mo_anewScalar, .ref mo_anewCane, .ref mo_anewHeight, .ref mo_anewStrand, .ref mo_anewChair, .ref mo_anewWeight, .int mo_taped, .int mo_p, .int mo_fault, .int mo_slot, .int mo_rules, .int mo_entries, .int mo_deep, .int mo_counted, .int mo_opened, .int mo_words, .ref mo_atape, .ref mo_asort, .ref mo_anumber, .ref mo_aclauses, .ref mo_asumAt, .ref mo_atestAt, .ref mo_aendAt, .ref mo_aopen, .ref mo_aasked, .ref mo_astack, .ref mo_amust, .ref mo_apast, .ref mo_apastOf, .int mo_pastMany, .int mo_pastAt, .int mo_takesBack, .ref mo_acanRise, .ref mo_afirstHas, .ref mo_asecondHas, .ref mo_alay, .ref mo_ashows, .ref mo_aimages, .ref mo_aisMade, .int mo_imageAt, .int mo_goesBack])), (mo_acane, hcI k 4 mo_rcane), (mo_ais, hcI k 8 mo_ris), (mo_astrandOf, hcI k 8 mo_rstrandOf), (mo_aweight, hcI k 8 mo_rweight), (mo_aheight, hcI k 8 mo_rheight), (mo_achairOf, hcI k 8 mo_rchairOf), (mo_acanRise, hcZ k 256 f47), (mo_ascalar, hcI k 8 (sc8 mo_s0 mo_s1 mo_s2 mo_s3 mo_s4 mo_s5 mo_s6 mo_s7))]) := hD
                  obtain ⟨z48, ez48⟩ : ∃ z : Int32, z = L3_16 + 1 := ⟨_, rfl⟩
                  have tz48 : z48.toInt = L3_16.toInt + (1) := ai_add rfl (by decide) ez48 (by omega) (by omega)
                  refine lv_iinc (v := z48) (lv' := [(3, .int z48), (2, .int r13), (0, .ref mo), (1, .int x1)]) hx hb dX9_way_67 hl (k := 0) rfl (by rw [ez48]; rfl) (by decide) rfl (fun ls hl => ?_)
                  refine lv_goto (tgt := 30) hx hb dX9_way_70 (by decide) ?_
                  exact ih16 z48 f47 ⟨by omega, by omega⟩ (by omega) _ _ _ (hP.sub [1, 3, 4, 5, 6, 7, 0, 2, 8] rfl) (hD.sub [1, 3, 4, 5, 6, 7, 0, 2, 8] (by decide) rfl) hS (lv_sub hl [0, 1, 2, 3] rfl)
      exact loop16 300 0 mo_rcanRise (iv_lit (by decide) (by decide)) (by have q0 : (0 : Int32).toInt = 0 := (by decide); omega) _ _ _ hP hD hS hl
    · have fc10 := cx_ne_f (a := r8.toInt) (b := 0) rfl (by decide) c10
      refine lv_bipush (v := (-3)) hx hb dX9_way_19 (by decide) ?_
      exact hc_end hx hb hr hlocks (mo_rcanRise) (iv_lit (by decide) (by decide)) (hP.sub [7, 0, 1, 2, 3, 4, 5, 6, 8] rfl) (hD.sub [7, 0, 1, 2, 3, 4, 5, 6, 8] (by decide) rfl) hS dX9_way_21
set_option maxHeartbeats 4000000 in
set_option maxRecDepth 100000 in
theorem i_X9_most (l : Launch) (D : va_G) (k : Nat → ClassId) (sz : Nat) (x1 : Int32) (mo : Nat) (mo_thrown : Int32) (mo_ascalar : Nat) (mo_acane : Nat) (mo_ais : Nat) (mo_astrandOf : Nat) (mo_aweight : Nat) (mo_aheight : Nat) (mo_achairOf : Nat) (mo_anoteMinute : Nat) (mo_anoteWho : Nat) (mo_anoteIs : Nat) (mo_atoldCane : Nat) (mo_anewScalar : Nat) (mo_anewCane : Nat) (mo_anewHeight : Nat) (mo_anewStrand : Nat) (mo_anewChair : Nat) (mo_anewWeight : Nat) (mo_taped : Int32) (mo_p : Int32) (mo_fault : Int32) (mo_slot : Int32) (mo_rules : Int32) (mo_entries : Int32) (mo_deep : Int32) (mo_counted : Int32) (mo_opened : Int32) (mo_words : Int32) (mo_atape : Nat) (mo_asort : Nat) (mo_anumber : Nat) (mo_aclauses : Nat) (mo_asumAt : Nat) (mo_atestAt : Nat) (mo_aendAt : Nat) (mo_aopen : Nat) (mo_aasked : Nat) (mo_astack : Nat) (mo_amust : Nat) (mo_apast : Nat) (mo_apastOf : Nat) (mo_pastMany : Int32) (mo_pastAt : Int32) (mo_takesBack : Int32) (mo_acanRise : Nat) (mo_afirstHas : Nat) (mo_asecondHas : Nat) (mo_alay : Nat) (mo_ashows : Nat) (mo_aimages : Nat) (mo_aisMade : Nat) (mo_imageAt : Int32) (mo_goesBack : Int32) (mo_rcane : Nat → Int32) (mo_ris : Nat → Int32) (mo_rstrandOf : Nat → Int32) (mo_rweight : Nat → Int32) (mo_rheight : Nat → Int32) (mo_rchairOf : Nat → Int32) (mo_s0 : Int32) (mo_s1 : Int32) (mo_s2 : Int32) (mo_s3 : Int32) (mo_s4 : Int32) (mo_s5 : Int32) (mo_s6 : Int32) (mo_s7 : Int32) (h_mo_taped : iv (0) (400) mo_taped) (h_mo_p : iv (0) (402) mo_p) (h_mo_fault : iv (0) (4000) mo_fault) (h_mo_slot : iv (0) (5) mo_slot) (h_mo_rules : iv (0) (6) mo_rules) (h_mo_entries : iv (0) (300) mo_entries) (h_mo_counted : iv (0) (70) mo_counted) (h_mo_opened : iv (0) (402) mo_opened) (h_mo_words : iv (11) (11) mo_words) (h_mo_pastMany : iv (0) (20) mo_pastMany) (h_mo_pastAt : iv (0) (260) mo_pastAt) (h_mo_takesBack : iv (0) (1) mo_takesBack) (h_mo_imageAt : iv (0) (2000) mo_imageAt) (h_mo_goesBack : iv (0) (1) mo_goesBack) (h_mo_rweight : rowIn (0) (20) mo_rweight) (h_mo_rchairOf : rowIn (0) (7) mo_rchairOf) (h_mo_s1 : iv (0) (4) mo_s1) (h_mo_s2 : iv (0) (8) mo_s2) (h_mo_s3 : iv (0) (8) mo_s3) (h_mo_s5 : iv (0) (10) mo_s5) (h_mo_s7 : iv (-1) (5) mo_s7) (hh_HallOk : HallOk mo_s2 mo_s3 mo_rstrandOf mo_rchairOf mo_rweight) : CtI l yX9_most wsX9_most (rmK 5 0 0) [.ref mo, .int x1] D k sz ([(mo, .inr (7, [.int mo_thrown, .ref mo_ascalar, .ref mo_acane, .ref mo_ais, .ref mo_astrandOf, .ref mo_aweight, .ref mo_aheight, .ref mo_achairOf, .ref mo_anoteMinute, .ref mo_anoteWho, .ref mo_anoteIs, .ref mo_atoldCane, .ref mo_anewScalar, .ref mo_anewCane, .ref mo_anewHeight, .ref mo_anewStrand, .ref mo_anewChair, .ref mo_anewWeight, .int mo_taped, .int mo_p, .int mo_fault, .int mo_slot, .int mo_rules, .int mo_entries, .int mo_deep, .int mo_counted, .int mo_opened, .int mo_words, .ref mo_atape, .ref mo_asort, .ref mo_anumber, .ref mo_aclauses, .ref mo_asumAt, .ref mo_atestAt, .ref mo_aendAt, .ref mo_aopen, .ref mo_aasked, .ref mo_astack, .ref mo_amust, .ref mo_apast, .ref mo_apastOf, .int mo_pastMany, .int mo_pastAt, .int mo_takesBack, .ref mo_acanRise, .ref mo_afirstHas, .ref mo_asecondHas, .ref mo_alay, .ref mo_ashows, .ref mo_aimages, .ref mo_aisMade, .int mo_imageAt, .int mo_goesBack])), (mo_acane, hcI k 4 mo_rcane), (mo_ais, hcI k 8 mo_ris), (mo_astrandOf, hcI k 8 mo_rstrandOf), (mo_aweight, hcI k 8 mo_rweight), (mo_aheight, hcI k 8 mo_rheight), (mo_achairOf, hcI k 8 mo_rchairOf), (mo_ascalar, hcI k 8 (sc8 mo_s0 mo_s1 mo_s2 mo_s3 mo_s4 mo_s5 mo_s6 mo_s7))]) (fun (r : Int32) (u : (Nat → Int32)) => True) (fun u : (Nat → Int32) => [(mo, .inr (7, [.int mo_thrown, .ref mo_ascalar, .ref mo_acane, .ref mo_ais, .ref mo_astrandOf, .ref mo_aweight, .ref mo_aheight, .ref mo_achairOf, .ref mo_anoteMinute, .ref mo_anoteWho, .ref mo_anoteIs, .ref mo_atoldCane, .ref mo_anewScalar, .ref mo_anewCane, .ref mo_anewHeight, .ref mo_anewStrand, .ref mo_anewChair, .ref mo_anewWeight, .int mo_taped, .int mo_p, .int mo_fault, .int mo_slot, .int mo_rules, .int mo_entries, .int mo_deep, .int mo_counted, .int mo_opened, .int mo_words, .ref mo_atape, .ref mo_asort, .ref mo_anumber, .ref mo_aclauses, .ref mo_asumAt, .ref mo_atestAt, .ref mo_aendAt, .ref mo_aopen, .ref mo_aasked, .ref mo_astack, .ref mo_amust, .ref mo_apast, .ref mo_apastOf, .int mo_pastMany, .int mo_pastAt, .int mo_takesBack, .ref mo_acanRise, .ref mo_afirstHas, .ref mo_asecondHas, .ref mo_alay, .ref mo_ashows, .ref mo_aimages, .ref mo_aisMade, .int mo_imageAt, .int mo_goesBack])), (mo_acane, hcI k 4 (u)), (mo_ais, hcI k 8 mo_ris), (mo_astrandOf, hcI k 8 mo_rstrandOf), (mo_aweight, hcI k 8 mo_rweight), (mo_aheight, hcI k 8 mo_rheight), (mo_achairOf, hcI k 8 mo_rchairOf), (mo_ascalar, hcI k 8 (sc8 mo_s0 mo_s1 mo_s2 mo_s3 mo_s4 mo_s5 mo_s6 mo_s7))]) 0 0 := by
  have h_mo_taped_l := h_mo_taped.1
  have h_mo_taped_u := h_mo_taped.2
  have h_mo_p_l := h_mo_p.1
  have h_mo_p_u := h_mo_p.2
  have h_mo_fault_l := h_mo_fault.1
  have h_mo_fault_u := h_mo_fault.2
  have h_mo_slot_l := h_mo_slot.1
  have h_mo_slot_u := h_mo_slot.2
  have h_mo_rules_l := h_mo_rules.1
  have h_mo_rules_u := h_mo_rules.2
  have h_mo_entries_l := h_mo_entries.1
  have h_mo_entries_u := h_mo_entries.2
  have h_mo_counted_l := h_mo_counted.1
  have h_mo_counted_u := h_mo_counted.2
  have h_mo_opened_l := h_mo_opened.1
  have h_mo_opened_u := h_mo_opened.2
  have h_mo_words_l := h_mo_words.1
  have h_mo_words_u := h_mo_words.2
  have h_mo_pastMany_l := h_mo_pastMany.1
  have h_mo_pastMany_u := h_mo_pastMany.2
  have h_mo_pastAt_l := h_mo_pastAt.1
  have h_mo_pastAt_u := h_mo_pastAt.2
  have h_mo_takesBack_l := h_mo_takesBack.1
  have h_mo_takesBack_u := h_mo_takesBack.2
  have h_mo_imageAt_l := h_mo_imageAt.1
  have h_mo_imageAt_u := h_mo_imageAt.2
  have h_mo_goesBack_l := h_mo_goesBack.1
  have h_mo_goesBack_u := h_mo_goesBack.2
  have h_mo_s1_l := h_mo_s1.1
  have h_mo_s1_u := h_mo_s1.2
  have h_mo_s2_l := h_mo_s2.1
  have h_mo_s2_u := h_mo_s2.2
  have h_mo_s3_l := h_mo_s3.1
  have h_mo_s3_u := h_mo_s3.2
  have h_mo_s5_l := h_mo_s5.1
  have h_mo_s5_u := h_mo_s5.2
  have h_mo_s7_l := h_mo_s7.1
  have h_mo_s7_u := h_mo_s7.2
  refine CtI.mk (cc := cX9_most) (maxL := 6) (ret := (some .int)) (by decide) rfl (Nat.le_of_ble_eq_true rfl) ?_
  intro p e s m below meth c A ls E hP hD hS hl
  obtain ⟨hx, hb, hr, hml, hown, hts, hlocks, hin, hG, hA⟩ := E
  have hown : s.vm.findClass RX9 = some m.cls := hown
  have in9 : ∀ w ∈ u_ws RX9 TX9 53, w ∈ wsX9_most := fun _ h => List.mem_cons_of_mem _ (List.mem_append_right _ h)
  have hl : lv_has ls 6 [(0, .ref mo), (1, .int x1)] := hl
  refine lv_aload_n hx hb dX9_most_0 rfl (lv_at hl 0 rfl) ?_
  refine lv_iload_n hx hb dX9_most_1 rfl (lv_at hl 1 rfl) ?_
  refine hc_Vi (As := [.int x1]) (rest := []) (n := 1) (wr := [(mo_acane, hcI k 4 mo_rcane), (mo_ais, hcI k 8 mo_ris), (mo_astrandOf, hcI k 8 mo_rstrandOf), (mo_aweight, hcI k 8 mo_rweight), (mo_aheight, hcI k 8 mo_rheight), (mo_achairOf, hcI k 8 mo_rchairOf)]) hx hb hml hown hts hG hA hP hD hS hl.1 [0, 7] [1, 2, 3, 4, 5, 6] (i_X9_isStrand l D k _ x1 mo mo_thrown mo_ascalar mo_acane mo_ais mo_astrandOf mo_aweight mo_aheight mo_achairOf mo_anoteMinute mo_anoteWho mo_anoteIs mo_atoldCane mo_anewScalar mo_anewCane mo_anewHeight mo_anewStrand mo_anewChair mo_anewWeight mo_taped mo_p mo_fault mo_slot mo_rules mo_entries mo_deep mo_counted mo_opened mo_words mo_atape mo_asort mo_anumber mo_aclauses mo_asumAt mo_atestAt mo_aendAt mo_aopen mo_aasked mo_astack mo_amust mo_apast mo_apastOf mo_pastMany mo_pastAt mo_takesBack mo_acanRise mo_afirstHas mo_asecondHas mo_alay mo_ashows mo_aimages mo_aisMade mo_imageAt mo_goesBack mo_s0 mo_s1 mo_s2 mo_s3 mo_s4 mo_s5 mo_s6 mo_s7 ⟨by omega, by omega⟩ ⟨by omega, by omega⟩ ⟨by omega, by omega⟩ ⟨by omega, by omega⟩ ⟨by omega, by omega⟩ ⟨by omega, by omega⟩ ⟨by omega, by omega⟩ ⟨by omega, by omega⟩ ⟨by omega, by omega⟩ ⟨by omega, by omega⟩ ⟨by omega, by omega⟩ ⟨by omega, by omega⟩ ⟨by omega, by omega⟩ ⟨by omega, by omega⟩ ⟨by omega, by omega⟩ ⟨by omega, by omega⟩ ⟨by omega, by omega⟩ ⟨by omega, by omega⟩ ⟨by omega, by omega⟩) (ci := 7) (q0 := 0) rfl rfl gX9_most_X9_isStrand rfl ⟨rfl, rfl, Nat.le_of_ble_eq_true rfl, Nat.le_of_ble_eq_true rfl⟩ (by decide +kernel) rfl rfl ⟨by decide, by decide, by decide⟩ ⟨rfl, rfl, Nat.le_of_ble_eq_true rfl, Nat.le_of_ble_eq_true rfl, Nat.le_of_ble_eq_true rfl⟩ dX9_most_2 (fun r2 u1 H locs hw hP hD hS => ?_)
  have hP : va_P D vwCl ([(mo_acane, hcI k 4 mo_rcane), (mo_ais, hcI k 8 mo_ris), (mo_astrandOf, hcI k 8 mo_rstrandOf), (mo_aweight, hcI k 8 mo_rweight), (mo_aheight, hcI k 8 mo_rheight), (mo_achairOf, hcI k 8 mo_rchairOf), (mo, .inr (7, [.int mo_thrown, .ref mo_ascalar, .ref mo_acane, .ref mo_ais, .ref mo_astrandOf, .ref mo_aweight, .ref mo_aheight, .ref mo_achairOf, .ref mo_anoteMinute, .ref mo_anoteWho, .ref mo_anoteIs, .ref mo_atoldCane, .ref mo_anewScalar, .ref mo_anewCane, .ref mo_anewHeight, .ref mo_anewStrand, .ref mo_anewChair, .ref mo_anewWeight, .int mo_taped, .int mo_p, .int mo_fault, .int mo_slot, .int mo_rules, .int mo_entries, .int mo_deep, .int mo_counted, .int mo_opened, .int mo_words, .ref mo_atape, .ref mo_asort, .ref mo_anumber, .ref mo_aclauses, .ref mo_asumAt, .ref mo_atestAt, .ref mo_aendAt, .ref mo_aopen, .ref mo_aasked, .ref mo_astack, .ref mo_amust, .ref mo_apast, .ref mo_apastOf, .int mo_pastMany, .int mo_pastAt, .int mo_takesBack, .ref mo_acanRise, .ref mo_afirstHas, .ref mo_asecondHas, .ref mo_alay, .ref mo_ashows, .ref mo_aimages, .ref mo_aisMade, .int mo_imageAt, .int mo_goesBack])), (mo_ascalar, hcI k 8 (sc8 mo_s0 mo_s1 mo_s2 mo_s3 mo_s4 mo_s5 mo_s6 mo_s7))]) H := hP
  have hD : va_D A ([(mo_acane, hcI k 4 mo_rcane), (mo_ais, hcI k 8 mo_ris), (mo_astrandOf, hcI k 8 mo_rstrandOf), (mo_aweight, hcI k 8 mo_rweight), (mo_aheight, hcI k 8 mo_rheight), (mo_achairOf, hcI k 8 mo_rchairOf), (mo, .inr (7, [.int mo_thrown, .ref mo_ascalar, .ref mo_acane, .ref mo_ais, .ref mo_astrandOf, .ref mo_aweight, .ref mo_aheight, .ref mo_achairOf, .ref mo_anoteMinute, .ref mo_anoteWho, .ref mo_anoteIs, .ref mo_atoldCane, .ref mo_anewScalar, .ref mo_anewCane, .ref mo_anewHeight, .ref mo_anewStrand, .ref mo_anewChair, .ref mo_anewWeight, .int mo_taped, .int mo_p, .int mo_fault, .int mo_slot, .int mo_rules, .int mo_entries, .int mo_deep, .int mo_counted, .int mo_opened, .int mo_words, .ref mo_atape, .ref mo_asort, .ref mo_anumber, .ref mo_aclauses, .ref mo_asumAt, .ref mo_atestAt, .ref mo_aendAt, .ref mo_aopen, .ref mo_aasked, .ref mo_astack, .ref mo_amust, .ref mo_apast, .ref mo_apastOf, .int mo_pastMany, .int mo_pastAt, .int mo_takesBack, .ref mo_acanRise, .ref mo_afirstHas, .ref mo_asecondHas, .ref mo_alay, .ref mo_ashows, .ref mo_aimages, .ref mo_aisMade, .int mo_imageAt, .int mo_goesBack])), (mo_ascalar, hcI k 8 (sc8 mo_s0 mo_s1 mo_s2 mo_s3 mo_s4 mo_s5 mo_s6 mo_s7))]) := hD
  obtain ⟨br2, rel3⟩ := hw
  have br2 : iv (0) (1) r2 := br2
  have br2_l := br2.1
  have br2_u := br2.2
  refine lv_if_ne (tgt := 10) hx hb dX9_most_5 (by decide) (fun c4 => ?_) (fun c4 => ?_)
  · have fc4 := cx_ne_t (a := r2.toInt) (b := 0) rfl (by decide) c4
    refine lv_aload_n hx hb dX9_most_10 rfl (lv_at hl 0 rfl) ?_
    refine va_get (D := D) (ci := 7) (v := .ref mo_acane) (C := RX9) (T := TX9) (N := 53) hx hb hts in9 hown hG.1 hP 6 rfl rfl 2 (by decide) (hts (.fieldLink RX9 13 "ChairCaneModel" "cane" "[I") (by decide +kernel)) (fun _ h9 => h9) rfl dX9_most_11 ?_
    refine lv_iload_n hx hb dX9_most_14 rfl (lv_at hl 1 rfl) ?_
    refine va_iald hx hb hG.1 hP 0 0 rfl rfl (vp_in_iff.mpr ⟨by omega, by omega⟩) dX9_most_15 ?_
    refine lv_topi (fun z5 ez5 => ?_)
    refine lv_istore_n (lv' := [(2, .int z5), (0, .ref mo), (1, .int x1)]) hx hb dX9_most_16 rfl hl (by decide) rfl (fun ls hl => ?_)
    refine lv_aload_n hx hb dX9_most_17 rfl (lv_at hl 1 rfl) ?_
    refine lv_iconst (v := 1) hx hb dX9_most_18 (by decide) ?_
    have ql6 : (1 : Int32).toInt = 1 := by decide
    refine hc_Vi (As := [.int 1]) (rest := []) (n := 1) (wr := [(mo_acane, hcI k 4 mo_rcane), (mo_astrandOf, hcI k 8 mo_rstrandOf), (mo_aweight, hcI k 8 mo_rweight), (mo_aheight, hcI k 8 mo_rheight), (mo_achairOf, hcI k 8 mo_rchairOf)]) hx hb hml hown hts hG hA hP hD hS hl.1 [6, 1, 7] [0, 2, 3, 4, 5] (i_X9_those l D k _ 1 mo mo_thrown mo_ascalar mo_acane mo_ais mo_astrandOf mo_aweight mo_aheight mo_achairOf mo_anoteMinute mo_anoteWho mo_anoteIs mo_atoldCane mo_anewScalar mo_anewCane mo_anewHeight mo_anewStrand mo_anewChair mo_anewWeight mo_taped mo_p mo_fault mo_slot mo_rules mo_entries mo_deep mo_counted mo_opened mo_words mo_atape mo_asort mo_anumber mo_aclauses mo_asumAt mo_atestAt mo_aendAt mo_aopen mo_aasked mo_astack mo_amust mo_apast mo_apastOf mo_pastMany mo_pastAt mo_takesBack mo_acanRise mo_afirstHas mo_asecondHas mo_alay mo_ashows mo_aimages mo_aisMade mo_imageAt mo_goesBack mo_ris mo_s0 mo_s1 mo_s2 mo_s3 mo_s4 mo_s5 mo_s6 mo_s7 ⟨by omega, by omega⟩ ⟨by omega, by omega⟩ ⟨by omega, by omega⟩ ⟨by omega, by omega⟩ ⟨by omega, by omega⟩ ⟨by omega, by omega⟩ ⟨by omega, by omega⟩ ⟨by omega, by omega⟩ ⟨by omega, by omega⟩ ⟨by omega, by omega⟩ ⟨by omega, by omega⟩ ⟨by omega, by omega⟩ ⟨by omega, by omega⟩ ⟨by omega, by omega⟩ ⟨by omega, by omega⟩ ⟨by omega, by omega⟩ ⟨by omega, by omega⟩ ⟨by omega, by omega⟩ ⟨by omega, by omega⟩) (ci := 7) (q0 := 6) rfl rfl gX9_most_X9_those rfl ⟨rfl, rfl, Nat.le_of_ble_eq_true rfl, Nat.le_of_ble_eq_true rfl⟩ (by decide +kernel) rfl rfl ⟨by decide, by decide, by decide⟩ ⟨rfl, rfl, Nat.le_of_ble_eq_true rfl, Nat.le_of_ble_eq_true rfl, Nat.le_of_ble_eq_true rfl⟩ dX9_most_19 (fun r8 u7 H locs hw hP hD hS => ?_)
    have hP : va_P D vwCl ([(mo_acane, hcI k 4 mo_rcane), (mo_astrandOf, hcI k 8 mo_rstrandOf), (mo_aweight, hcI k 8 mo_rweight), (mo_aheight, hcI k 8 mo_rheight), (mo_achairOf, hcI k 8 mo_rchairOf), (mo, .inr (7, [.int mo_thrown, .ref mo_ascalar, .ref mo_acane, .ref mo_ais, .ref mo_astrandOf, .ref mo_aweight, .ref mo_aheight, .ref mo_achairOf, .ref mo_anoteMinute, .ref mo_anoteWho, .ref mo_anoteIs, .ref mo_atoldCane, .ref mo_anewScalar, .ref mo_anewCane, .ref mo_anewHeight, .ref mo_anewStrand, .ref mo_anewChair, .ref mo_anewWeight, .int mo_taped, .int mo_p, .int mo_fault, .int mo_slot, .int mo_rules, .int mo_entries, .int mo_deep, .int mo_counted, .int mo_opened, .int mo_words, .ref mo_atape, .ref mo_asort, .ref mo_anumber, .ref mo_aclauses, .ref mo_asumAt, .ref mo_atestAt, .ref mo_aendAt, .ref mo_aopen, .ref mo_aasked, .ref mo_astack, .ref mo_amust, .ref mo_apast, .ref mo_apastOf, .int mo_pastMany, .int mo_pastAt, .int mo_takesBack, .ref mo_acanRise, .ref mo_afirstHas, .ref mo_asecondHas, .ref mo_alay, .ref mo_ashows, .ref mo_aimages, .ref mo_aisMade, .int mo_imageAt, .int mo_goesBack])), (mo_ais, hcI k 8 mo_ris), (mo_ascalar, hcI k 8 (sc8 mo_s0 mo_s1 mo_s2 mo_s3 mo_s4 mo_s5 mo_s6 mo_s7))]) H := hP
    have hD : va_D A ([(mo_acane, hcI k 4 mo_rcane), (mo_astrandOf, hcI k 8 mo_rstrandOf), (mo_aweight, hcI k 8 mo_rweight), (mo_aheight, hcI k 8 mo_rheight), (mo_achairOf, hcI k 8 mo_rchairOf), (mo, .inr (7, [.int mo_thrown, .ref mo_ascalar, .ref mo_acane, .ref mo_ais, .ref mo_astrandOf, .ref mo_aweight, .ref mo_aheight, .ref mo_achairOf, .ref mo_anoteMinute, .ref mo_anoteWho, .ref mo_anoteIs, .ref mo_atoldCane, .ref mo_anewScalar, .ref mo_anewCane, .ref mo_anewHeight, .ref mo_anewStrand, .ref mo_anewChair, .ref mo_anewWeight, .int mo_taped, .int mo_p, .int mo_fault, .int mo_slot, .int mo_rules, .int mo_entries, .int mo_deep, .int mo_counted, .int mo_opened, .int mo_words, .ref mo_atape, .ref mo_asort, .ref mo_anumber, .ref mo_aclauses, .ref mo_asumAt, .ref mo_atestAt, .ref mo_aendAt, .ref mo_aopen, .ref mo_aasked, .ref mo_astack, .ref mo_amust, .ref mo_apast, .ref mo_apastOf, .int mo_pastMany, .int mo_pastAt, .int mo_takesBack, .ref mo_acanRise, .ref mo_afirstHas, .ref mo_asecondHas, .ref mo_alay, .ref mo_ashows, .ref mo_aimages, .ref mo_aisMade, .int mo_imageAt, .int mo_goesBack])), (mo_ais, hcI k 8 mo_ris), (mo_ascalar, hcI k 8 (sc8 mo_s0 mo_s1 mo_s2 mo_s3 mo_s4 mo_s5 mo_s6 mo_s7))]) := hD
    have ql10 : (1 : Int32).toInt = 1 := by decide
    have rel9 := hw
    refine lv_istore_n (lv' := [(3, .int r8), (2, .int z5), (0, .ref mo), (1, .int x1)]) hx hb dX9_most_22 rfl hl (by decide) rfl (fun ls hl => ?_)
    refine lv_bipush (v := (-2)) hx hb dX9_most_23 (by decide) ?_
    refine lv_istore (lv' := [(4, .int (-2)), (3, .int r8), (2, .int z5), (0, .ref mo), (1, .int x1)]) hx hb dX9_most_25 hl (by decide) rfl (fun ls hl => ?_)
    refine lv_iconst (v := 0) hx hb dX9_most_27 (by decide) ?_
    refine lv_istore (lv' := [(5, .int 0), (4, .int (-2)), (3, .int r8), (2, .int z5), (0, .ref mo), (1, .int x1)]) hx hb dX9_most_28 hl (by decide) rfl (fun ls hl => ?_)
    have loop11 : ∀ (fu : Nat) (L4_11 : Int32) (L5_11 : Int32) (g_11mo_acane : Nat → Int32), iv (0) (100) L5_11 → 101 - L5_11.toInt < (fu : Int) → ∀ (H : Heap) (locs : List Loc) (ls : Array Slot), va_P D vwCl ([(mo_acane, hcI k 4 g_11mo_acane), (mo_astrandOf, hcI k 8 mo_rstrandOf), (mo_aweight, hcI k 8 mo_rweight), (mo_aheight, hcI k 8 mo_rheight), (mo_achairOf, hcI k 8 mo_rchairOf), (mo, .inr (7, [.int mo_thrown, .ref mo_ascalar, .ref mo_acane, .ref mo_ais, .ref mo_astrandOf, .ref mo_aweight, .ref mo_aheight, .ref mo_achairOf, .ref mo_anoteMinute, .ref mo_anoteWho, .ref mo_anoteIs, .ref mo_atoldCane, .ref mo_anewScalar, .ref mo_anewCane, .ref mo_anewHeight, .ref mo_anewStrand, .ref mo_anewChair, .ref mo_anewWeight, .int mo_taped, .int mo_p, .int mo_fault, .int mo_slot, .int mo_rules, .int mo_entries, .int mo_deep, .int mo_counted, .int mo_opened, .int mo_words, .ref mo_atape, .ref mo_asort, .ref mo_anumber, .ref mo_aclauses, .ref mo_asumAt, .ref mo_atestAt, .ref mo_aendAt, .ref mo_aopen, .ref mo_aasked, .ref mo_astack, .ref mo_amust, .ref mo_apast, .ref mo_apastOf, .int mo_pastMany, .int mo_pastAt, .int mo_takesBack, .ref mo_acanRise, .ref mo_afirstHas, .ref mo_asecondHas, .ref mo_alay, .ref mo_ashows, .ref mo_aimages, .ref mo_aisMade, .int mo_imageAt, .int mo_goesBack])), (mo_ais, hcI k 8 mo_ris), (mo_ascalar, hcI k 8 (sc8 mo_s0 mo_s1 mo_s2 mo_s3 mo_s4 mo_s5 mo_s6 mo_s7))]) H → va_D A ([(mo_acane, hcI k 4 g_11mo_acane), (mo_astrandOf, hcI k 8 mo_rstrandOf), (mo_aweight, hcI k 8 mo_rweight), (mo_aheight, hcI k 8 mo_rheight), (mo_achairOf, hcI k 8 mo_rchairOf), (mo, .inr (7, [.int mo_thrown, .ref mo_ascalar, .ref mo_acane, .ref mo_ais, .ref mo_astrandOf, .ref mo_aweight, .ref mo_aheight, .ref mo_achairOf, .ref mo_anoteMinute, .ref mo_anoteWho, .ref mo_anoteIs, .ref mo_atoldCane, .ref mo_anewScalar, .ref mo_anewCane, .ref mo_anewHeight, .ref mo_anewStrand, .ref mo_anewChair, .ref mo_anewWeight, .int mo_taped, .int mo_p, .int mo_fault, .int mo_slot, .int mo_rules, .int mo_entries, .int mo_deep, .int mo_counted, .int mo_opened, .int mo_words, .ref mo_atape, .ref mo_asort, .ref mo_anumber, .ref mo_aclauses, .ref mo_asumAt, .ref mo_atestAt, .ref mo_aendAt, .ref mo_aopen, .ref mo_aasked, .ref mo_astack, .ref mo_amust, .ref mo_apast, .ref mo_apastOf, .int mo_pastMany, .int mo_pastAt, .int mo_takesBack, .ref mo_acanRise, .ref mo_afirstHas, .ref mo_asecondHas, .ref mo_alay, .ref mo_ashows, .ref mo_aimages, .ref mo_aisMade, .int mo_imageAt, .int mo_goesBack])), (mo_ais, hcI k 8 mo_ris), (mo_ascalar, hcI k 8 (sc8 mo_s0 mo_s1 mo_s2 mo_s3 mo_s4 mo_s5 mo_s6 mo_s7))]) → va_S A s.heap H locs → lv_has ls 6 [(5, .int L5_11), (4, .int L4_11), (3, .int r8), (2, .int z5), (0, .ref mo), (1, .int x1)] → W p l e (rmK 5 0 0) s m (List.toArray [.ref mo, .int x1]) below meth c H locs 0 0 (MQ below (va_Qi (fun (r : Int32) (u : (Nat → Int32)) => True) (hcB D (fun u : (Nat → Int32) => [(mo, .inr (7, [.int mo_thrown, .ref mo_ascalar, .ref mo_acane, .ref mo_ais, .ref mo_astrandOf, .ref mo_aweight, .ref mo_aheight, .ref mo_achairOf, .ref mo_anoteMinute, .ref mo_anoteWho, .ref mo_anoteIs, .ref mo_atoldCane, .ref mo_anewScalar, .ref mo_anewCane, .ref mo_anewHeight, .ref mo_anewStrand, .ref mo_anewChair, .ref mo_anewWeight, .int mo_taped, .int mo_p, .int mo_fault, .int mo_slot, .int mo_rules, .int mo_entries, .int mo_deep, .int mo_counted, .int mo_opened, .int mo_words, .ref mo_atape, .ref mo_asort, .ref mo_anumber, .ref mo_aclauses, .ref mo_asumAt, .ref mo_atestAt, .ref mo_aendAt, .ref mo_aopen, .ref mo_aasked, .ref mo_astack, .ref mo_amust, .ref mo_apast, .ref mo_apastOf, .int mo_pastMany, .int mo_pastAt, .int mo_takesBack, .ref mo_acanRise, .ref mo_afirstHas, .ref mo_asecondHas, .ref mo_alay, .ref mo_ashows, .ref mo_aimages, .ref mo_aisMade, .int mo_imageAt, .int mo_goesBack])), (mo_acane, hcI k 4 (u)), (mo_ais, hcI k 8 mo_ris), (mo_astrandOf, hcI k 8 mo_rstrandOf), (mo_aweight, hcI k 8 mo_rweight), (mo_aheight, hcI k 8 mo_rheight), (mo_achairOf, hcI k 8 mo_rchairOf), (mo_ascalar, hcI k 8 (sc8 mo_s0 mo_s1 mo_s2 mo_s3 mo_s4 mo_s5 mo_s6 mo_s7))]) A) A) (List.toArray [.ref mo, .int x1]) s 0 0 A) (F0 m 30 ls []) := by
      intro fu
      induction fu with
      | zero =>
        intro L4_11 L5_11 g_11mo_acane bL5_11 hm
        have bL5_11_l := bL5_11.1
        have bL5_11_u := bL5_11.2
        exact absurd hm (by omega)
      | succ fu ih11 =>
        intro L4_11 L5_11 g_11mo_acane bL5_11 hm H locs ls hP hD hS hl
        have bL5_11_l := bL5_11.1
        have bL5_11_u := bL5_11.2
        refine lv_iload hx hb dX9_most_30 (lv_at hl 0 rfl) ?_
        refine lv_bipush (v := 99) hx hb dX9_most_32 (by decide) ?_
        refine lv_icmp_gt (tgt := 68) hx hb dX9_most_34 (by decide) (fun c12 => ?_) (fun c12 => ?_)
        · have fc12 := cx_gt_t (a := L5_11.toInt) (b := 99) rfl (by decide) c12
          refine lv_aload_n hx hb dX9_most_68 rfl (lv_at hl 4 rfl) ?_
          refine va_get (D := D) (ci := 7) (v := .ref mo_acane) (C := RX9) (T := TX9) (N := 53) hx hb hts in9 hown hG.1 hP 5 rfl rfl 2 (by decide) (hts (.fieldLink RX9 13 "ChairCaneModel" "cane" "[I") (by decide +kernel)) (fun _ h9 => h9) rfl dX9_most_69 ?_
          refine lv_iload_n hx hb dX9_most_72 rfl (lv_at hl 5 rfl) ?_
          refine lv_iload_n hx hb dX9_most_73 rfl (lv_at hl 3 rfl) ?_
          refine va_iast hx hb hG.1 hP hD hS 0 0 rfl rfl (vp_in_iff.mpr ⟨by omega, by omega⟩) dX9_most_74 (fun H locs hP hD hS => ?_)
          obtain ⟨f13, ef13⟩ : ∃ f, f = upd g_11mo_acane (Int32.toNatClampNeg x1) (z5) := ⟨_, rfl⟩
          rw [← ef13] at hP hD
          have hP : va_P D vwCl ([(mo_acane, hcI k 4 f13), (mo_astrandOf, hcI k 8 mo_rstrandOf), (mo_aweight, hcI k 8 mo_rweight), (mo_aheight, hcI k 8 mo_rheight), (mo_achairOf, hcI k 8 mo_rchairOf), (mo, .inr (7, [.int mo_thrown, .ref mo_ascalar, .ref mo_acane, .ref mo_ais, .ref mo_astrandOf, .ref mo_aweight, .ref mo_aheight, .ref mo_achairOf, .ref mo_anoteMinute, .ref mo_anoteWho, .ref mo_anoteIs, .ref mo_atoldCane, .ref mo_anewScalar, .ref mo_anewCane, .ref mo_anewHeight, .ref mo_anewStrand, .ref mo_anewChair, .ref mo_anewWeight, .int mo_taped, .int mo_p, .int mo_fault, .int mo_slot, .int mo_rules, .int mo_entries, .int mo_deep, .int mo_counted, .int mo_opened, .int mo_words, .ref mo_atape, .ref mo_asort, .ref mo_anumber, .ref mo_aclauses, .ref mo_asumAt, .ref mo_atestAt, .ref mo_aendAt, .ref mo_aopen, .ref mo_aasked, .ref mo_astack, .ref mo_amust, .ref mo_apast, .ref mo_apastOf, .int mo_pastMany, .int mo_pastAt, .int mo_takesBack, .ref mo_acanRise, .ref mo_afirstHas, .ref mo_asecondHas, .ref mo_alay, .ref mo_ashows, .ref mo_aimages, .ref mo_aisMade, .int mo_imageAt, .int mo_goesBack])), (mo_ais, hcI k 8 mo_ris), (mo_ascalar, hcI k 8 (sc8 mo_s0 mo_s1 mo_s2 mo_s3 mo_s4 mo_s5 mo_s6 mo_s7))]) H := hP
          have hD : va_D A ([(mo_acane, hcI k 4 f13), (mo_astrandOf, hcI k 8 mo_rstrandOf), (mo_aweight, hcI k 8 mo_rweight), (mo_aheight, hcI k 8 mo_rheight), (mo_achairOf, hcI k 8 mo_rchairOf), (mo, .inr (7, [.int mo_thrown, .ref mo_ascalar, .ref mo_acane, .ref mo_ais, .ref mo_astrandOf, .ref mo_aweight, .ref mo_aheight, .ref mo_achairOf, .ref mo_anoteMinute, .ref mo_anoteWho, .ref mo_anoteIs, .ref mo_atoldCane, .ref mo_anewScalar, .ref mo_anewCane, .ref mo_anewHeight, .ref mo_anewStrand, .ref mo_anewChair, .ref mo_anewWeight, .int mo_taped, .int mo_p, .int mo_fault, .int mo_slot, .int mo_rules, .int mo_entries, .int mo_deep, .int mo_counted, .int mo_opened, .int mo_words, .ref mo_atape, .ref mo_asort, .ref mo_anumber, .ref mo_aclauses, .ref mo_asumAt, .ref mo_atestAt, .ref mo_aendAt, .ref mo_aopen, .ref mo_aasked, .ref mo_astack, .ref mo_amust, .ref mo_apast, .ref mo_apastOf, .int mo_pastMany, .int mo_pastAt, .int mo_takesBack, .ref mo_acanRise, .ref mo_afirstHas, .ref mo_asecondHas, .ref mo_alay, .ref mo_ashows, .ref mo_aimages, .ref mo_aisMade, .int mo_imageAt, .int mo_goesBack])), (mo_ais, hcI k 8 mo_ris), (mo_ascalar, hcI k 8 (sc8 mo_s0 mo_s1 mo_s2 mo_s3 mo_s4 mo_s5 mo_s6 mo_s7))]) := hD
          refine lv_iload hx hb dX9_most_75 (lv_at hl 1 rfl) ?_
          exact hc_end hx hb hr hlocks (f13) trivial (hP.sub [5, 0, 6, 1, 2, 3, 4, 7] rfl) (hD.sub [5, 0, 6, 1, 2, 3, 4, 7] (by decide) rfl) hS dX9_most_77
        · have fc12 := cx_gt_f (a := L5_11.toInt) (b := 99) rfl (by decide) c12
          refine lv_aload_n hx hb dX9_most_37 rfl (lv_at hl 4 rfl) ?_
          refine va_get (D := D) (ci := 7) (v := .ref mo_acane) (C := RX9) (T := TX9) (N := 53) hx hb hts in9 hown hG.1 hP 5 rfl rfl 2 (by decide) (hts (.fieldLink RX9 13 "ChairCaneModel" "cane" "[I") (by decide +kernel)) (fun _ h9 => h9) rfl dX9_most_38 ?_
          refine lv_iload_n hx hb dX9_most_41 rfl (lv_at hl 5 rfl) ?_
          refine lv_iload hx hb dX9_most_42 (lv_at hl 0 rfl) ?_
          refine va_iast hx hb hG.1 hP hD hS 0 0 rfl rfl (vp_in_iff.mpr ⟨by omega, by omega⟩) dX9_most_44 (fun H locs hP hD hS => ?_)
          obtain ⟨f14, ef14⟩ : ∃ f, f = upd g_11mo_acane (Int32.toNatClampNeg x1) (L5_11) := ⟨_, rfl⟩
          rw [← ef14] at hP hD
          have hP : va_P D vwCl ([(mo_acane, hcI k 4 f14), (mo_astrandOf, hcI k 8 mo_rstrandOf), (mo_aweight, hcI k 8 mo_rweight), (mo_aheight, hcI k 8 mo_rheight), (mo_achairOf, hcI k 8 mo_rchairOf), (mo, .inr (7, [.int mo_thrown, .ref mo_ascalar, .ref mo_acane, .ref mo_ais, .ref mo_astrandOf, .ref mo_aweight, .ref mo_aheight, .ref mo_achairOf, .ref mo_anoteMinute, .ref mo_anoteWho, .ref mo_anoteIs, .ref mo_atoldCane, .ref mo_anewScalar, .ref mo_anewCane, .ref mo_anewHeight, .ref mo_anewStrand, .ref mo_anewChair, .ref mo_anewWeight, .int mo_taped, .int mo_p, .int mo_fault, .int mo_slot, .int mo_rules, .int mo_entries, .int mo_deep, .int mo_counted, .int mo_opened, .int mo_words, .ref mo_atape, .ref mo_asort, .ref mo_anumber, .ref mo_aclauses, .ref mo_asumAt, .ref mo_atestAt, .ref mo_aendAt, .ref mo_aopen, .ref mo_aasked, .ref mo_astack, .ref mo_amust, .ref mo_apast, .ref mo_apastOf, .int mo_pastMany, .int mo_pastAt, .int mo_takesBack, .ref mo_acanRise, .ref mo_afirstHas, .ref mo_asecondHas, .ref mo_alay, .ref mo_ashows, .ref mo_aimages, .ref mo_aisMade, .int mo_imageAt, .int mo_goesBack])), (mo_ais, hcI k 8 mo_ris), (mo_ascalar, hcI k 8 (sc8 mo_s0 mo_s1 mo_s2 mo_s3 mo_s4 mo_s5 mo_s6 mo_s7))]) H := hP
          have hD : va_D A ([(mo_acane, hcI k 4 f14), (mo_astrandOf, hcI k 8 mo_rstrandOf), (mo_aweight, hcI k 8 mo_rweight), (mo_aheight, hcI k 8 mo_rheight), (mo_achairOf, hcI k 8 mo_rchairOf), (mo, .inr (7, [.int mo_thrown, .ref mo_ascalar, .ref mo_acane, .ref mo_ais, .ref mo_astrandOf, .ref mo_aweight, .ref mo_aheight, .ref mo_achairOf, .ref mo_anoteMinute, .ref mo_anoteWho, .ref mo_anoteIs, .ref mo_atoldCane, .ref mo_anewScalar, .ref mo_anewCane, .ref mo_anewHeight, .ref mo_anewStrand, .ref mo_anewChair, .ref mo_anewWeight, .int mo_taped, .int mo_p, .int mo_fault, .int mo_slot, .int mo_rules, .int mo_entries, .int mo_deep, .int mo_counted, .int mo_opened, .int mo_words, .ref mo_atape, .ref mo_asort, .ref mo_anumber, .ref mo_aclauses, .ref mo_asumAt, .ref mo_atestAt, .ref mo_aendAt, .ref mo_aopen, .ref mo_aasked, .ref mo_astack, .ref mo_amust, .ref mo_apast, .ref mo_apastOf, .int mo_pastMany, .int mo_pastAt, .int mo_takesBack, .ref mo_acanRise, .ref mo_afirstHas, .ref mo_asecondHas, .ref mo_alay, .ref mo_ashows, .ref mo_aimages, .ref mo_aisMade, .int mo_imageAt, .int mo_goesBack])), (mo_ais, hcI k 8 mo_ris), (mo_ascalar, hcI k 8 (sc8 mo_s0 mo_s1 mo_s2 mo_s3 mo_s4 mo_s5 mo_s6 mo_s7))]) := hD
          refine lv_aload_n hx hb dX9_most_45 rfl (lv_at hl 4 rfl) ?_
          refine lv_iload_n hx hb dX9_most_46 rfl (lv_at hl 2 rfl) ?_
          refine hc_Vi (As := [.int r8]) (rest := []) (n := 1) (wr := [(mo_ais, hcI k 8 mo_ris)]) hx hb hml hown hts hG hA hP hD hS hl.1 [5, 0, 1, 2, 3, 4, 7] [6] (i_X9_dropsOf l D k _ r8 mo mo_thrown mo_ascalar mo_acane mo_ais mo_astrandOf mo_aweight mo_aheight mo_achairOf mo_anoteMinute mo_anoteWho mo_anoteIs mo_atoldCane mo_anewScalar mo_anewCane mo_anewHeight mo_anewStrand mo_anewChair mo_anewWeight mo_taped mo_p mo_fault mo_slot mo_rules mo_entries mo_deep mo_counted mo_opened mo_words mo_atape mo_asort mo_anumber mo_aclauses mo_asumAt mo_atestAt mo_aendAt mo_aopen mo_aasked mo_astack mo_amust mo_apast mo_apastOf mo_pastMany mo_pastAt mo_takesBack mo_acanRise mo_afirstHas mo_asecondHas mo_alay mo_ashows mo_aimages mo_aisMade mo_imageAt mo_goesBack f14 mo_rstrandOf mo_rweight mo_rheight mo_rchairOf mo_s0 mo_s1 mo_s2 mo_s3 mo_s4 mo_s5 mo_s6 mo_s7 ⟨by omega, by omega⟩ ⟨by omega, by omega⟩ ⟨by omega, by omega⟩ ⟨by omega, by omega⟩ ⟨by omega, by omega⟩ ⟨by omega, by omega⟩ ⟨by omega, by omega⟩ ⟨by omega, by omega⟩ ⟨by omega, by omega⟩ ⟨by omega, by omega⟩ ⟨by omega, by omega⟩ ⟨by omega, by omega⟩ ⟨by omega, by omega⟩ ⟨by omega, by omega⟩ h_mo_rweight h_mo_rchairOf ⟨by omega, by omega⟩ ⟨by omega, by omega⟩ ⟨by omega, by omega⟩ ⟨by omega, by omega⟩ ⟨by omega, by omega⟩ hh_HallOk) (ci := 7) (q0 := 5) rfl rfl gX9_most_X9_dropsOf rfl ⟨rfl, rfl, Nat.le_of_ble_eq_true rfl, Nat.le_of_ble_eq_true rfl⟩ (by decide +kernel) rfl rfl ⟨by decide, by decide, by decide⟩ ⟨rfl, rfl, Nat.le_of_ble_eq_true rfl, Nat.le_of_ble_eq_true rfl, Nat.le_of_ble_eq_true rfl⟩ dX9_most_47 (fun r16 u15 H locs hw hP hD hS => ?_)
          have hP : va_P D vwCl ([(mo_ais, hcI k 8 mo_ris), (mo, .inr (7, [.int mo_thrown, .ref mo_ascalar, .ref mo_acane, .ref mo_ais, .ref mo_astrandOf, .ref mo_aweight, .ref mo_aheight, .ref mo_achairOf, .ref mo_anoteMinute, .ref mo_anoteWho, .ref mo_anoteIs, .ref mo_atoldCane, .ref mo_anewScalar, .ref mo_anewCane, .ref mo_anewHeight, .ref mo_anewStrand, .ref mo_anewChair, .ref mo_anewWeight, .int mo_taped, .int mo_p, .int mo_fault, .int mo_slot, .int mo_rules, .int mo_entries, .int mo_deep, .int mo_counted, .int mo_opened, .int mo_words, .ref mo_atape, .ref mo_asort, .ref mo_anumber, .ref mo_aclauses, .ref mo_asumAt, .ref mo_atestAt, .ref mo_aendAt, .ref mo_aopen, .ref mo_aasked, .ref mo_astack, .ref mo_amust, .ref mo_apast, .ref mo_apastOf, .int mo_pastMany, .int mo_pastAt, .int mo_takesBack, .ref mo_acanRise, .ref mo_afirstHas, .ref mo_asecondHas, .ref mo_alay, .ref mo_ashows, .ref mo_aimages, .ref mo_aisMade, .int mo_imageAt, .int mo_goesBack])), (mo_acane, hcI k 4 f14), (mo_astrandOf, hcI k 8 mo_rstrandOf), (mo_aweight, hcI k 8 mo_rweight), (mo_aheight, hcI k 8 mo_rheight), (mo_achairOf, hcI k 8 mo_rchairOf), (mo_ascalar, hcI k 8 (sc8 mo_s0 mo_s1 mo_s2 mo_s3 mo_s4 mo_s5 mo_s6 mo_s7))]) H := hP
          have hD : va_D A ([(mo_ais, hcI k 8 mo_ris), (mo, .inr (7, [.int mo_thrown, .ref mo_ascalar, .ref mo_acane, .ref mo_ais, .ref mo_astrandOf, .ref mo_aweight, .ref mo_aheight, .ref mo_achairOf, .ref mo_anoteMinute, .ref mo_anoteWho, .ref mo_anoteIs, .ref mo_atoldCane, .ref mo_anewScalar, .ref mo_anewCane, .ref mo_anewHeight, .ref mo_anewStrand, .ref mo_anewChair, .ref mo_anewWeight, .int mo_taped, .int mo_p, .int mo_fault, .int mo_slot, .int mo_rules, .int mo_entries, .int mo_deep, .int mo_counted, .int mo_opened, .int mo_words, .ref mo_atape, .ref mo_asort, .ref mo_anumber, .ref mo_aclauses, .ref mo_asumAt, .ref mo_atestAt, .ref mo_aendAt, .ref mo_aopen, .ref mo_aasked, .ref mo_astack, .ref mo_amust, .ref mo_apast, .ref mo_apastOf, .int mo_pastMany, .int mo_pastAt, .int mo_takesBack, .ref mo_acanRise, .ref mo_afirstHas, .ref mo_asecondHas, .ref mo_alay, .ref mo_ashows, .ref mo_aimages, .ref mo_aisMade, .int mo_imageAt, .int mo_goesBack])), (mo_acane, hcI k 4 f14), (mo_astrandOf, hcI k 8 mo_rstrandOf), (mo_aweight, hcI k 8 mo_rweight), (mo_aheight, hcI k 8 mo_rheight), (mo_achairOf, hcI k 8 mo_rchairOf), (mo_ascalar, hcI k 8 (sc8 mo_s0 mo_s1 mo_s2 mo_s3 mo_s4 mo_s5 mo_s6 mo_s7))]) := hD
          have rel17 := hw
          refine lv_if_ne (tgt := 58) hx hb dX9_most_50 (by decide) (fun c18 => ?_) (fun c18 => ?_)
          · have fc18 := cx_ne_t (a := r16.toInt) (b := 0) rfl (by decide) c18
            refine lv_iload hx hb dX9_most_58 (lv_at hl 1 rfl) ?_
            refine lv_istore (lv' := [(4, .int L4_11), (5, .int L5_11), (3, .int r8), (2, .int z5), (0, .ref mo), (1, .int x1)]) hx hb dX9_most_60 hl (by decide) rfl (fun ls hl => ?_)
            obtain ⟨z19, ez19⟩ : ∃ z : Int32, z = L5_11 + 1 := ⟨_, rfl⟩
            have tz19 : z19.toInt = L5_11.toInt + (1) := ai_add rfl (by decide) ez19 (by omega) (by omega)
            refine lv_iinc (v := z19) (lv' := [(5, .int z19), (4, .int L4_11), (3, .int r8), (2, .int z5), (0, .ref mo), (1, .int x1)]) hx hb dX9_most_62 hl (k := 1) rfl (by rw [ez19]; rfl) (by decide) rfl (fun ls hl => ?_)
            refine lv_goto (tgt := 30) hx hb dX9_most_65 (by decide) ?_
            exact ih11 L4_11 z19 f14 ⟨by omega, by omega⟩ (by omega) _ _ _ (hP.sub [2, 3, 4, 5, 6, 1, 0, 7] rfl) (hD.sub [2, 3, 4, 5, 6, 1, 0, 7] (by decide) rfl) hS (lv_sub hl [0, 1, 2, 3, 4, 5] rfl)
          · have fc18 := cx_ne_f (a := r16.toInt) (b := 0) rfl (by decide) c18
            refine lv_iload hx hb dX9_most_53 (lv_at hl 0 rfl) ?_
            refine lv_goto (tgt := 60) hx hb dX9_most_55 (by decide) ?_
            refine lv_istore (lv' := [(4, .int L5_11), (5, .int L5_11), (3, .int r8), (2, .int z5), (0, .ref mo), (1, .int x1)]) hx hb dX9_most_60 hl (by decide) rfl (fun ls hl => ?_)
            obtain ⟨z20, ez20⟩ : ∃ z : Int32, z = L5_11 + 1 := ⟨_, rfl⟩
            have tz20 : z20.toInt = L5_11.toInt + (1) := ai_add rfl (by decide) ez20 (by omega) (by omega)
            refine lv_iinc (v := z20) (lv' := [(5, .int z20), (4, .int L5_11), (3, .int r8), (2, .int z5), (0, .ref mo), (1, .int x1)]) hx hb dX9_most_62 hl (k := 1) rfl (by rw [ez20]; rfl) (by decide) rfl (fun ls hl => ?_)
            refine lv_goto (tgt := 30) hx hb dX9_most_65 (by decide) ?_
            exact ih11 L5_11 z20 f14 ⟨by omega, by omega⟩ (by omega) _ _ _ (hP.sub [2, 3, 4, 5, 6, 1, 0, 7] rfl) (hD.sub [2, 3, 4, 5, 6, 1, 0, 7] (by decide) rfl) hS (lv_sub hl [0, 1, 2, 3, 4, 5] rfl)
    exact loop11 300 (-2) 0 mo_rcane (iv_lit (by decide) (by decide)) (by have q0 : ((-2) : Int32).toInt = -2 := (by decide); have q1 : (0 : Int32).toInt = 0 := (by decide); omega) _ _ _ hP hD hS hl
  · have fc4 := cx_ne_f (a := r2.toInt) (b := 0) rfl (by decide) c4
    refine lv_iconst (v := (-1)) hx hb dX9_most_8 (by decide) ?_
    exact hc_end hx hb hr hlocks (mo_rcane) trivial (hP.sub [6, 0, 1, 2, 3, 4, 5, 7] rfl) (hD.sub [6, 0, 1, 2, 3, 4, 5, 7] (by decide) rfl) hS dX9_most_9
