/-! the reference: acts and questions, as functions -/
set_option maxRecDepth 100000 in
theorem tdX9_ahead_0 : dTb cX9_ahead [(0, .aload_n 0, 1), (1, .invokevirtual 404, 3), (4, .ifCond .eq 40, 3), (7, .iload_n 3, 1), (8, .i2l, 1), (9, .lconst 0, 1), (10, .ldc2_w 365, 3), (13, .invokestatic 131, 3), (16, .ifCond .eq 28, 3), (19, .iload_n 3, 1), (20, .iconst 2, 1), (21, .if_icmp .ge 11, 3), (24, .aload_n 0, 1), (25, .iload_n 1, 1), (26, .invokevirtual 362, 3), (29, .ifCond .eq 15, 3), (32, .iload_n 2, 1), (33, .i2l, 1), (34, .lconst 0, 1), (35, .ldc2_w 418, 3), (38, .invokestatic 131, 3), (41, .ifCond .ne 5, 3), (44, .iconst (-1), 1), (45, .ireturn, 1), (46, .aload_n 0, 1), (47, .invokevirtual 420, 3), (50, .aload_n 0, 1), (51, .iload_n 2, 1), (52, .invokevirtual 423, 3), (55, .iload_n 3, 1), (56, .ifCond .ne 12, 3), (59, .aload_n 0, 1), (60, .getfield 16, 3), (63, .iload_n 1, 1), (64, .iaload, 1), (65, .goto 24, 3), (68, .iload_n 3, 1), (69, .iconst 1, 1), (70, .if_icmp .ne 11, 3), (73, .aload_n 0, 1)] = true := by decide +kernel
theorem dX9_ahead_0 : decode cX9_ahead 0 = .ok (.aload_n 0, 1) := dTa tdX9_ahead_0 0 rfl
theorem dX9_ahead_1 : decode cX9_ahead 1 = .ok (.invokevirtual 404, 3) := dTa tdX9_ahead_0 1 rfl
theorem dX9_ahead_4 : decode cX9_ahead 4 = .ok (.ifCond .eq 40, 3) := dTa tdX9_ahead_0 2 rfl
theorem dX9_ahead_7 : decode cX9_ahead 7 = .ok (.iload_n 3, 1) := dTa tdX9_ahead_0 3 rfl
theorem dX9_ahead_8 : decode cX9_ahead 8 = .ok (.i2l, 1) := dTa tdX9_ahead_0 4 rfl
theorem dX9_ahead_9 : decode cX9_ahead 9 = .ok (.lconst 0, 1) := dTa tdX9_ahead_0 5 rfl
theorem dX9_ahead_10 : decode cX9_ahead 10 = .ok (.ldc2_w 365, 3) := dTa tdX9_ahead_0 6 rfl
theorem dX9_ahead_13 : decode cX9_ahead 13 = .ok (.invokestatic 131, 3) := dTa tdX9_ahead_0 7 rfl
theorem dX9_ahead_16 : decode cX9_ahead 16 = .ok (.ifCond .eq 28, 3) := dTa tdX9_ahead_0 8 rfl
theorem dX9_ahead_19 : decode cX9_ahead 19 = .ok (.iload_n 3, 1) := dTa tdX9_ahead_0 9 rfl
theorem dX9_ahead_20 : decode cX9_ahead 20 = .ok (.iconst 2, 1) := dTa tdX9_ahead_0 10 rfl
theorem dX9_ahead_21 : decode cX9_ahead 21 = .ok (.if_icmp .ge 11, 3) := dTa tdX9_ahead_0 11 rfl
theorem dX9_ahead_24 : decode cX9_ahead 24 = .ok (.aload_n 0, 1) := dTa tdX9_ahead_0 12 rfl
theorem dX9_ahead_25 : decode cX9_ahead 25 = .ok (.iload_n 1, 1) := dTa tdX9_ahead_0 13 rfl
theorem dX9_ahead_26 : decode cX9_ahead 26 = .ok (.invokevirtual 362, 3) := dTa tdX9_ahead_0 14 rfl
theorem dX9_ahead_29 : decode cX9_ahead 29 = .ok (.ifCond .eq 15, 3) := dTa tdX9_ahead_0 15 rfl
theorem dX9_ahead_32 : decode cX9_ahead 32 = .ok (.iload_n 2, 1) := dTa tdX9_ahead_0 16 rfl
theorem dX9_ahead_33 : decode cX9_ahead 33 = .ok (.i2l, 1) := dTa tdX9_ahead_0 17 rfl
theorem dX9_ahead_34 : decode cX9_ahead 34 = .ok (.lconst 0, 1) := dTa tdX9_ahead_0 18 rfl
theorem dX9_ahead_35 : decode cX9_ahead 35 = .ok (.ldc2_w 418, 3) := dTa tdX9_ahead_0 19 rfl
theorem dX9_ahead_38 : decode cX9_ahead 38 = .ok (.invokestatic 131, 3) := dTa tdX9_ahead_0 20 rfl
theorem dX9_ahead_41 : decode cX9_ahead 41 = .ok (.ifCond .ne 5, 3) := dTa tdX9_ahead_0 21 rfl
theorem dX9_ahead_44 : decode cX9_ahead 44 = .ok (.iconst (-1), 1) := dTa tdX9_ahead_0 22 rfl
theorem dX9_ahead_45 : decode cX9_ahead 45 = .ok (.ireturn, 1) := dTa tdX9_ahead_0 23 rfl
theorem dX9_ahead_46 : decode cX9_ahead 46 = .ok (.aload_n 0, 1) := dTa tdX9_ahead_0 24 rfl
theorem dX9_ahead_47 : decode cX9_ahead 47 = .ok (.invokevirtual 420, 3) := dTa tdX9_ahead_0 25 rfl
theorem dX9_ahead_50 : decode cX9_ahead 50 = .ok (.aload_n 0, 1) := dTa tdX9_ahead_0 26 rfl
theorem dX9_ahead_51 : decode cX9_ahead 51 = .ok (.iload_n 2, 1) := dTa tdX9_ahead_0 27 rfl
theorem dX9_ahead_52 : decode cX9_ahead 52 = .ok (.invokevirtual 423, 3) := dTa tdX9_ahead_0 28 rfl
theorem dX9_ahead_55 : decode cX9_ahead 55 = .ok (.iload_n 3, 1) := dTa tdX9_ahead_0 29 rfl
theorem dX9_ahead_56 : decode cX9_ahead 56 = .ok (.ifCond .ne 12, 3) := dTa tdX9_ahead_0 30 rfl
theorem dX9_ahead_59 : decode cX9_ahead 59 = .ok (.aload_n 0, 1) := dTa tdX9_ahead_0 31 rfl
theorem dX9_ahead_60 : decode cX9_ahead 60 = .ok (.getfield 16, 3) := dTa tdX9_ahead_0 32 rfl
theorem dX9_ahead_63 : decode cX9_ahead 63 = .ok (.iload_n 1, 1) := dTa tdX9_ahead_0 33 rfl
theorem dX9_ahead_64 : decode cX9_ahead 64 = .ok (.iaload, 1) := dTa tdX9_ahead_0 34 rfl
theorem dX9_ahead_65 : decode cX9_ahead 65 = .ok (.goto 24, 3) := dTa tdX9_ahead_0 35 rfl
theorem dX9_ahead_68 : decode cX9_ahead 68 = .ok (.iload_n 3, 1) := dTa tdX9_ahead_0 36 rfl
theorem dX9_ahead_69 : decode cX9_ahead 69 = .ok (.iconst 1, 1) := dTa tdX9_ahead_0 37 rfl
theorem dX9_ahead_70 : decode cX9_ahead 70 = .ok (.if_icmp .ne 11, 3) := dTa tdX9_ahead_0 38 rfl
theorem dX9_ahead_73 : decode cX9_ahead 73 = .ok (.aload_n 0, 1) := dTa tdX9_ahead_0 39 rfl
set_option maxRecDepth 100000 in
theorem tdX9_ahead_74 : dTb cX9_ahead [(74, .iload_n 1, 1), (75, .invokevirtual 359, 3), (78, .goto 11, 3), (81, .aload_n 0, 1), (82, .iconst 2, 1), (83, .invokevirtual 341, 3), (86, .invokestatic 370, 3), (89, .istore 4, 2), (91, .aload_n 0, 1), (92, .invokevirtual 426, 3), (95, .iload 4, 2), (97, .ireturn, 1)] = true := by decide +kernel
theorem dX9_ahead_74 : decode cX9_ahead 74 = .ok (.iload_n 1, 1) := dTa tdX9_ahead_74 0 rfl
theorem dX9_ahead_75 : decode cX9_ahead 75 = .ok (.invokevirtual 359, 3) := dTa tdX9_ahead_74 1 rfl
theorem dX9_ahead_78 : decode cX9_ahead 78 = .ok (.goto 11, 3) := dTa tdX9_ahead_74 2 rfl
theorem dX9_ahead_81 : decode cX9_ahead 81 = .ok (.aload_n 0, 1) := dTa tdX9_ahead_74 3 rfl
theorem dX9_ahead_82 : decode cX9_ahead 82 = .ok (.iconst 2, 1) := dTa tdX9_ahead_74 4 rfl
theorem dX9_ahead_83 : decode cX9_ahead 83 = .ok (.invokevirtual 341, 3) := dTa tdX9_ahead_74 5 rfl
theorem dX9_ahead_86 : decode cX9_ahead 86 = .ok (.invokestatic 370, 3) := dTa tdX9_ahead_74 6 rfl
theorem dX9_ahead_89 : decode cX9_ahead 89 = .ok (.istore 4, 2) := dTa tdX9_ahead_74 7 rfl
theorem dX9_ahead_91 : decode cX9_ahead 91 = .ok (.aload_n 0, 1) := dTa tdX9_ahead_74 8 rfl
theorem dX9_ahead_92 : decode cX9_ahead 92 = .ok (.invokevirtual 426, 3) := dTa tdX9_ahead_74 9 rfl
theorem dX9_ahead_95 : decode cX9_ahead 95 = .ok (.iload 4, 2) := dTa tdX9_ahead_74 10 rfl
theorem dX9_ahead_97 : decode cX9_ahead 97 = .ok (.ireturn, 1) := dTa tdX9_ahead_74 11 rfl
set_option maxRecDepth 100000 in
theorem tdX9_carriesAll_0 : dTb cX9_carriesAll [(0, .aload_n 0, 1), (1, .sipush 400, 3), (4, .iload_n 1, 1), (5, .imul, 1), (6, .putfield 486, 3), (9, .aload_n 0, 1), (10, .iload_n 2, 1), (11, .putfield 483, 3), (14, .aload_n 0, 1), (15, .aload_n 0, 1), (16, .getfield 9, 3), (19, .invokevirtual 489, 3), (22, .aload_n 0, 1), (23, .aload_n 0, 1), (24, .getfield 13, 3), (27, .invokevirtual 489, 3), (30, .aload_n 0, 1), (31, .aload_n 0, 1), (32, .getfield 16, 3), (35, .invokevirtual 489, 3), (38, .aload_n 0, 1), (39, .aload_n 0, 1), (40, .getfield 19, 3), (43, .invokevirtual 489, 3), (46, .aload_n 0, 1), (47, .aload_n 0, 1), (48, .getfield 22, 3), (51, .invokevirtual 489, 3), (54, .iload_n 1, 1), (55, .iconst 4, 1), (56, .if_icmp .ne 4, 3), (59, .return_, 1), (60, .aload_n 0, 1), (61, .getfield 103, 3), (64, .iconst 0, 1), (65, .aload_n 0, 1), (66, .getfield 299, 3), (69, .iastore, 1), (70, .aload_n 0, 1), (71, .aload_n 0, 1)] = true := by decide +kernel
theorem dX9_carriesAll_0 : decode cX9_carriesAll 0 = .ok (.aload_n 0, 1) := dTa tdX9_carriesAll_0 0 rfl
theorem dX9_carriesAll_1 : decode cX9_carriesAll 1 = .ok (.sipush 400, 3) := dTa tdX9_carriesAll_0 1 rfl
theorem dX9_carriesAll_4 : decode cX9_carriesAll 4 = .ok (.iload_n 1, 1) := dTa tdX9_carriesAll_0 2 rfl
theorem dX9_carriesAll_5 : decode cX9_carriesAll 5 = .ok (.imul, 1) := dTa tdX9_carriesAll_0 3 rfl
theorem dX9_carriesAll_6 : decode cX9_carriesAll 6 = .ok (.putfield 486, 3) := dTa tdX9_carriesAll_0 4 rfl
theorem dX9_carriesAll_9 : decode cX9_carriesAll 9 = .ok (.aload_n 0, 1) := dTa tdX9_carriesAll_0 5 rfl
theorem dX9_carriesAll_10 : decode cX9_carriesAll 10 = .ok (.iload_n 2, 1) := dTa tdX9_carriesAll_0 6 rfl
theorem dX9_carriesAll_11 : decode cX9_carriesAll 11 = .ok (.putfield 483, 3) := dTa tdX9_carriesAll_0 7 rfl
theorem dX9_carriesAll_14 : decode cX9_carriesAll 14 = .ok (.aload_n 0, 1) := dTa tdX9_carriesAll_0 8 rfl
theorem dX9_carriesAll_15 : decode cX9_carriesAll 15 = .ok (.aload_n 0, 1) := dTa tdX9_carriesAll_0 9 rfl
theorem dX9_carriesAll_16 : decode cX9_carriesAll 16 = .ok (.getfield 9, 3) := dTa tdX9_carriesAll_0 10 rfl
theorem dX9_carriesAll_19 : decode cX9_carriesAll 19 = .ok (.invokevirtual 489, 3) := dTa tdX9_carriesAll_0 11 rfl
theorem dX9_carriesAll_22 : decode cX9_carriesAll 22 = .ok (.aload_n 0, 1) := dTa tdX9_carriesAll_0 12 rfl
theorem dX9_carriesAll_23 : decode cX9_carriesAll 23 = .ok (.aload_n 0, 1) := dTa tdX9_carriesAll_0 13 rfl
theorem dX9_carriesAll_24 : decode cX9_carriesAll 24 = .ok (.getfield 13, 3) := dTa tdX9_carriesAll_0 14 rfl
theorem dX9_carriesAll_27 : decode cX9_carriesAll 27 = .ok (.invokevirtual 489, 3) := dTa tdX9_carriesAll_0 15 rfl
theorem dX9_carriesAll_30 : decode cX9_carriesAll 30 = .ok (.aload_n 0, 1) := dTa tdX9_carriesAll_0 16 rfl
theorem dX9_carriesAll_31 : decode cX9_carriesAll 31 = .ok (.aload_n 0, 1) := dTa tdX9_carriesAll_0 17 rfl
theorem dX9_carriesAll_32 : decode cX9_carriesAll 32 = .ok (.getfield 16, 3) := dTa tdX9_carriesAll_0 18 rfl
theorem dX9_carriesAll_35 : decode cX9_carriesAll 35 = .ok (.invokevirtual 489, 3) := dTa tdX9_carriesAll_0 19 rfl
theorem dX9_carriesAll_38 : decode cX9_carriesAll 38 = .ok (.aload_n 0, 1) := dTa tdX9_carriesAll_0 20 rfl
theorem dX9_carriesAll_39 : decode cX9_carriesAll 39 = .ok (.aload_n 0, 1) := dTa tdX9_carriesAll_0 21 rfl
theorem dX9_carriesAll_40 : decode cX9_carriesAll 40 = .ok (.getfield 19, 3) := dTa tdX9_carriesAll_0 22 rfl
theorem dX9_carriesAll_43 : decode cX9_carriesAll 43 = .ok (.invokevirtual 489, 3) := dTa tdX9_carriesAll_0 23 rfl
theorem dX9_carriesAll_46 : decode cX9_carriesAll 46 = .ok (.aload_n 0, 1) := dTa tdX9_carriesAll_0 24 rfl
theorem dX9_carriesAll_47 : decode cX9_carriesAll 47 = .ok (.aload_n 0, 1) := dTa tdX9_carriesAll_0 25 rfl
theorem dX9_carriesAll_48 : decode cX9_carriesAll 48 = .ok (.getfield 22, 3) := dTa tdX9_carriesAll_0 26 rfl
theorem dX9_carriesAll_51 : decode cX9_carriesAll 51 = .ok (.invokevirtual 489, 3) := dTa tdX9_carriesAll_0 27 rfl
theorem dX9_carriesAll_54 : decode cX9_carriesAll 54 = .ok (.iload_n 1, 1) := dTa tdX9_carriesAll_0 28 rfl
theorem dX9_carriesAll_55 : decode cX9_carriesAll 55 = .ok (.iconst 4, 1) := dTa tdX9_carriesAll_0 29 rfl
theorem dX9_carriesAll_56 : decode cX9_carriesAll 56 = .ok (.if_icmp .ne 4, 3) := dTa tdX9_carriesAll_0 30 rfl
theorem dX9_carriesAll_59 : decode cX9_carriesAll 59 = .ok (.return_, 1) := dTa tdX9_carriesAll_0 31 rfl
theorem dX9_carriesAll_60 : decode cX9_carriesAll 60 = .ok (.aload_n 0, 1) := dTa tdX9_carriesAll_0 32 rfl
theorem dX9_carriesAll_61 : decode cX9_carriesAll 61 = .ok (.getfield 103, 3) := dTa tdX9_carriesAll_0 33 rfl
theorem dX9_carriesAll_64 : decode cX9_carriesAll 64 = .ok (.iconst 0, 1) := dTa tdX9_carriesAll_0 34 rfl
theorem dX9_carriesAll_65 : decode cX9_carriesAll 65 = .ok (.aload_n 0, 1) := dTa tdX9_carriesAll_0 35 rfl
theorem dX9_carriesAll_66 : decode cX9_carriesAll 66 = .ok (.getfield 299, 3) := dTa tdX9_carriesAll_0 36 rfl
theorem dX9_carriesAll_69 : decode cX9_carriesAll 69 = .ok (.iastore, 1) := dTa tdX9_carriesAll_0 37 rfl
theorem dX9_carriesAll_70 : decode cX9_carriesAll 70 = .ok (.aload_n 0, 1) := dTa tdX9_carriesAll_0 38 rfl
theorem dX9_carriesAll_71 : decode cX9_carriesAll 71 = .ok (.aload_n 0, 1) := dTa tdX9_carriesAll_0 39 rfl
set_option maxRecDepth 100000 in
theorem tdX9_carriesAll_72 : dTb cX9_carriesAll [(72, .getfield 103, 3), (75, .invokevirtual 489, 3), (78, .aload_n 0, 1), (79, .aload_n 0, 1), (80, .getfield 103, 3), (83, .iconst 0, 1), (84, .iaload, 1), (85, .putfield 299, 3), (88, .aload_n 0, 1), (89, .aload_n 0, 1), (90, .getfield 25, 3), (93, .invokevirtual 489, 3), (96, .aload_n 0, 1), (97, .aload_n 0, 1), (98, .getfield 28, 3), (101, .invokevirtual 489, 3), (104, .aload_n 0, 1), (105, .aload_n 0, 1), (106, .getfield 31, 3), (109, .invokevirtual 489, 3), (112, .aload_n 0, 1), (113, .aload_n 0, 1), (114, .getfield 34, 3), (117, .invokevirtual 489, 3), (120, .aload_n 0, 1), (121, .aload_n 0, 1), (122, .getfield 37, 3), (125, .invokevirtual 489, 3), (128, .aload_n 0, 1), (129, .aload_n 0, 1), (130, .getfield 40, 3), (133, .invokevirtual 489, 3), (136, .aload_n 0, 1), (137, .aload_n 0, 1), (138, .getfield 100, 3), (141, .invokevirtual 489, 3), (144, .return_, 1)] = true := by decide +kernel
theorem dX9_carriesAll_72 : decode cX9_carriesAll 72 = .ok (.getfield 103, 3) := dTa tdX9_carriesAll_72 0 rfl
theorem dX9_carriesAll_75 : decode cX9_carriesAll 75 = .ok (.invokevirtual 489, 3) := dTa tdX9_carriesAll_72 1 rfl
theorem dX9_carriesAll_78 : decode cX9_carriesAll 78 = .ok (.aload_n 0, 1) := dTa tdX9_carriesAll_72 2 rfl
theorem dX9_carriesAll_79 : decode cX9_carriesAll 79 = .ok (.aload_n 0, 1) := dTa tdX9_carriesAll_72 3 rfl
theorem dX9_carriesAll_80 : decode cX9_carriesAll 80 = .ok (.getfield 103, 3) := dTa tdX9_carriesAll_72 4 rfl
theorem dX9_carriesAll_83 : decode cX9_carriesAll 83 = .ok (.iconst 0, 1) := dTa tdX9_carriesAll_72 5 rfl
theorem dX9_carriesAll_84 : decode cX9_carriesAll 84 = .ok (.iaload, 1) := dTa tdX9_carriesAll_72 6 rfl
theorem dX9_carriesAll_85 : decode cX9_carriesAll 85 = .ok (.putfield 299, 3) := dTa tdX9_carriesAll_72 7 rfl
theorem dX9_carriesAll_88 : decode cX9_carriesAll 88 = .ok (.aload_n 0, 1) := dTa tdX9_carriesAll_72 8 rfl
theorem dX9_carriesAll_89 : decode cX9_carriesAll 89 = .ok (.aload_n 0, 1) := dTa tdX9_carriesAll_72 9 rfl
theorem dX9_carriesAll_90 : decode cX9_carriesAll 90 = .ok (.getfield 25, 3) := dTa tdX9_carriesAll_72 10 rfl
theorem dX9_carriesAll_93 : decode cX9_carriesAll 93 = .ok (.invokevirtual 489, 3) := dTa tdX9_carriesAll_72 11 rfl
theorem dX9_carriesAll_96 : decode cX9_carriesAll 96 = .ok (.aload_n 0, 1) := dTa tdX9_carriesAll_72 12 rfl
theorem dX9_carriesAll_97 : decode cX9_carriesAll 97 = .ok (.aload_n 0, 1) := dTa tdX9_carriesAll_72 13 rfl
theorem dX9_carriesAll_98 : decode cX9_carriesAll 98 = .ok (.getfield 28, 3) := dTa tdX9_carriesAll_72 14 rfl
theorem dX9_carriesAll_101 : decode cX9_carriesAll 101 = .ok (.invokevirtual 489, 3) := dTa tdX9_carriesAll_72 15 rfl
theorem dX9_carriesAll_104 : decode cX9_carriesAll 104 = .ok (.aload_n 0, 1) := dTa tdX9_carriesAll_72 16 rfl
theorem dX9_carriesAll_105 : decode cX9_carriesAll 105 = .ok (.aload_n 0, 1) := dTa tdX9_carriesAll_72 17 rfl
theorem dX9_carriesAll_106 : decode cX9_carriesAll 106 = .ok (.getfield 31, 3) := dTa tdX9_carriesAll_72 18 rfl
theorem dX9_carriesAll_109 : decode cX9_carriesAll 109 = .ok (.invokevirtual 489, 3) := dTa tdX9_carriesAll_72 19 rfl
theorem dX9_carriesAll_112 : decode cX9_carriesAll 112 = .ok (.aload_n 0, 1) := dTa tdX9_carriesAll_72 20 rfl
theorem dX9_carriesAll_113 : decode cX9_carriesAll 113 = .ok (.aload_n 0, 1) := dTa tdX9_carriesAll_72 21 rfl
theorem dX9_carriesAll_114 : decode cX9_carriesAll 114 = .ok (.getfield 34, 3) := dTa tdX9_carriesAll_72 22 rfl
theorem dX9_carriesAll_117 : decode cX9_carriesAll 117 = .ok (.invokevirtual 489, 3) := dTa tdX9_carriesAll_72 23 rfl
theorem dX9_carriesAll_120 : decode cX9_carriesAll 120 = .ok (.aload_n 0, 1) := dTa tdX9_carriesAll_72 24 rfl
theorem dX9_carriesAll_121 : decode cX9_carriesAll 121 = .ok (.aload_n 0, 1) := dTa tdX9_carriesAll_72 25 rfl
theorem dX9_carriesAll_122 : decode cX9_carriesAll 122 = .ok (.getfield 37, 3) := dTa tdX9_carriesAll_72 26 rfl
theorem dX9_carriesAll_125 : decode cX9_carriesAll 125 = .ok (.invokevirtual 489, 3) := dTa tdX9_carriesAll_72 27 rfl
theorem dX9_carriesAll_128 : decode cX9_carriesAll 128 = .ok (.aload_n 0, 1) := dTa tdX9_carriesAll_72 28 rfl
theorem dX9_carriesAll_129 : decode cX9_carriesAll 129 = .ok (.aload_n 0, 1) := dTa tdX9_carriesAll_72 29 rfl
theorem dX9_carriesAll_130 : decode cX9_carriesAll 130 = .ok (.getfield 40, 3) := dTa tdX9_carriesAll_72 30 rfl
theorem dX9_carriesAll_133 : decode cX9_carriesAll 133 = .ok (.invokevirtual 489, 3) := dTa tdX9_carriesAll_72 31 rfl
theorem dX9_carriesAll_136 : decode cX9_carriesAll 136 = .ok (.aload_n 0, 1) := dTa tdX9_carriesAll_72 32 rfl
theorem dX9_carriesAll_137 : decode cX9_carriesAll 137 = .ok (.aload_n 0, 1) := dTa tdX9_carriesAll_72 33 rfl
theorem dX9_carriesAll_138 : decode cX9_carriesAll 138 = .ok (.getfield 100, 3) := dTa tdX9_carriesAll_72 34 rfl
theorem dX9_carriesAll_141 : decode cX9_carriesAll 141 = .ok (.invokevirtual 489, 3) := dTa tdX9_carriesAll_72 35 rfl
theorem dX9_carriesAll_144 : decode cX9_carriesAll 144 = .ok (.return_, 1) := dTa tdX9_carriesAll_72 36 rfl
set_option maxRecDepth 100000 in
theorem tdX9_carryRow_0 : dTb cX9_carryRow [(0, .iconst 0, 1), (1, .istore_n 2, 1), (2, .iload_n 2, 1), (3, .aload_n 1, 1), (4, .arraylength, 1), (5, .if_icmp .ge 53, 3), (8, .aload_n 0, 1), (9, .getfield 483, 3), (12, .ifCond .eq 18, 3), (15, .aload_n 1, 1), (16, .iload_n 2, 1), (17, .aload_n 0, 1), (18, .getfield 122, 3), (21, .aload_n 0, 1), (22, .getfield 486, 3), (25, .iaload, 1), (26, .iastore, 1), (27, .goto 15, 3), (30, .aload_n 0, 1), (31, .getfield 122, 3), (34, .aload_n 0, 1), (35, .getfield 486, 3), (38, .aload_n 1, 1), (39, .iload_n 2, 1), (40, .iaload, 1), (41, .iastore, 1), (42, .aload_n 0, 1), (43, .dup, 1), (44, .getfield 486, 3), (47, .iconst 1, 1), (48, .iadd, 1), (49, .putfield 486, 3), (52, .iinc 2 1, 3), (55, .goto (-53), 3), (58, .return_, 1)] = true := by decide +kernel
theorem dX9_carryRow_0 : decode cX9_carryRow 0 = .ok (.iconst 0, 1) := dTa tdX9_carryRow_0 0 rfl
theorem dX9_carryRow_1 : decode cX9_carryRow 1 = .ok (.istore_n 2, 1) := dTa tdX9_carryRow_0 1 rfl
theorem dX9_carryRow_2 : decode cX9_carryRow 2 = .ok (.iload_n 2, 1) := dTa tdX9_carryRow_0 2 rfl
theorem dX9_carryRow_3 : decode cX9_carryRow 3 = .ok (.aload_n 1, 1) := dTa tdX9_carryRow_0 3 rfl
theorem dX9_carryRow_4 : decode cX9_carryRow 4 = .ok (.arraylength, 1) := dTa tdX9_carryRow_0 4 rfl
theorem dX9_carryRow_5 : decode cX9_carryRow 5 = .ok (.if_icmp .ge 53, 3) := dTa tdX9_carryRow_0 5 rfl
theorem dX9_carryRow_8 : decode cX9_carryRow 8 = .ok (.aload_n 0, 1) := dTa tdX9_carryRow_0 6 rfl
theorem dX9_carryRow_9 : decode cX9_carryRow 9 = .ok (.getfield 483, 3) := dTa tdX9_carryRow_0 7 rfl
theorem dX9_carryRow_12 : decode cX9_carryRow 12 = .ok (.ifCond .eq 18, 3) := dTa tdX9_carryRow_0 8 rfl
theorem dX9_carryRow_15 : decode cX9_carryRow 15 = .ok (.aload_n 1, 1) := dTa tdX9_carryRow_0 9 rfl
theorem dX9_carryRow_16 : decode cX9_carryRow 16 = .ok (.iload_n 2, 1) := dTa tdX9_carryRow_0 10 rfl
theorem dX9_carryRow_17 : decode cX9_carryRow 17 = .ok (.aload_n 0, 1) := dTa tdX9_carryRow_0 11 rfl
theorem dX9_carryRow_18 : decode cX9_carryRow 18 = .ok (.getfield 122, 3) := dTa tdX9_carryRow_0 12 rfl
theorem dX9_carryRow_21 : decode cX9_carryRow 21 = .ok (.aload_n 0, 1) := dTa tdX9_carryRow_0 13 rfl
theorem dX9_carryRow_22 : decode cX9_carryRow 22 = .ok (.getfield 486, 3) := dTa tdX9_carryRow_0 14 rfl
theorem dX9_carryRow_25 : decode cX9_carryRow 25 = .ok (.iaload, 1) := dTa tdX9_carryRow_0 15 rfl
theorem dX9_carryRow_26 : decode cX9_carryRow 26 = .ok (.iastore, 1) := dTa tdX9_carryRow_0 16 rfl
theorem dX9_carryRow_27 : decode cX9_carryRow 27 = .ok (.goto 15, 3) := dTa tdX9_carryRow_0 17 rfl
theorem dX9_carryRow_30 : decode cX9_carryRow 30 = .ok (.aload_n 0, 1) := dTa tdX9_carryRow_0 18 rfl
theorem dX9_carryRow_31 : decode cX9_carryRow 31 = .ok (.getfield 122, 3) := dTa tdX9_carryRow_0 19 rfl
theorem dX9_carryRow_34 : decode cX9_carryRow 34 = .ok (.aload_n 0, 1) := dTa tdX9_carryRow_0 20 rfl
theorem dX9_carryRow_35 : decode cX9_carryRow 35 = .ok (.getfield 486, 3) := dTa tdX9_carryRow_0 21 rfl
theorem dX9_carryRow_38 : decode cX9_carryRow 38 = .ok (.aload_n 1, 1) := dTa tdX9_carryRow_0 22 rfl
theorem dX9_carryRow_39 : decode cX9_carryRow 39 = .ok (.iload_n 2, 1) := dTa tdX9_carryRow_0 23 rfl
theorem dX9_carryRow_40 : decode cX9_carryRow 40 = .ok (.iaload, 1) := dTa tdX9_carryRow_0 24 rfl
theorem dX9_carryRow_41 : decode cX9_carryRow 41 = .ok (.iastore, 1) := dTa tdX9_carryRow_0 25 rfl
theorem dX9_carryRow_42 : decode cX9_carryRow 42 = .ok (.aload_n 0, 1) := dTa tdX9_carryRow_0 26 rfl
theorem dX9_carryRow_43 : decode cX9_carryRow 43 = .ok (.dup, 1) := dTa tdX9_carryRow_0 27 rfl
theorem dX9_carryRow_44 : decode cX9_carryRow 44 = .ok (.getfield 486, 3) := dTa tdX9_carryRow_0 28 rfl
theorem dX9_carryRow_47 : decode cX9_carryRow 47 = .ok (.iconst 1, 1) := dTa tdX9_carryRow_0 29 rfl
theorem dX9_carryRow_48 : decode cX9_carryRow 48 = .ok (.iadd, 1) := dTa tdX9_carryRow_0 30 rfl
theorem dX9_carryRow_49 : decode cX9_carryRow 49 = .ok (.putfield 486, 3) := dTa tdX9_carryRow_0 31 rfl
theorem dX9_carryRow_52 : decode cX9_carryRow 52 = .ok (.iinc 2 1, 3) := dTa tdX9_carryRow_0 32 rfl
theorem dX9_carryRow_55 : decode cX9_carryRow 55 = .ok (.goto (-53), 3) := dTa tdX9_carryRow_0 33 rfl
theorem dX9_carryRow_58 : decode cX9_carryRow 58 = .ok (.return_, 1) := dTa tdX9_carryRow_0 34 rfl
set_option maxRecDepth 100000 in
theorem tdX9_ease_0 : dTb cX9_ease [(0, .aload_n 0, 1), (1, .invokevirtual 404, 3), (4, .ifCond .eq 13, 3), (7, .iload_n 1, 1), (8, .i2l, 1), (9, .lconst 0, 1), (10, .lconst 1, 1), (11, .invokestatic 131, 3), (14, .ifCond .ne 5, 3), (17, .iconst (-1), 1), (18, .ireturn, 1), (19, .aload_n 0, 1), (20, .iconst 0, 1), (21, .invokevirtual 341, 3), (24, .istore_n 2, 1), (25, .aload_n 0, 1), (26, .iconst 1, 1), (27, .invokevirtual 341, 3), (30, .istore_n 3, 1), (31, .iconst 0, 1), (32, .istore 4, 2), (34, .iconst 0, 1), (35, .istore 5, 2), (37, .iload 5, 2), (39, .iload_n 2, 1), (40, .if_icmp .gt 46, 3), (43, .iload 5, 2), (45, .iload_n 2, 1), (46, .iconst (-1), 1), (47, .ixor, 1), (48, .iand, 1), (49, .ifCond .ne 31, 3), (52, .iload 5, 2), (54, .invokestatic 370, 3), (57, .iload 4, 2), (59, .invokestatic 370, 3), (62, .if_icmp .le 18, 3), (65, .aload_n 0, 1), (66, .iload_n 3, 1), (67, .iload 5, 2)] = true := by decide +kernel
theorem dX9_ease_0 : decode cX9_ease 0 = .ok (.aload_n 0, 1) := dTa tdX9_ease_0 0 rfl
theorem dX9_ease_1 : decode cX9_ease 1 = .ok (.invokevirtual 404, 3) := dTa tdX9_ease_0 1 rfl
theorem dX9_ease_4 : decode cX9_ease 4 = .ok (.ifCond .eq 13, 3) := dTa tdX9_ease_0 2 rfl
theorem dX9_ease_7 : decode cX9_ease 7 = .ok (.iload_n 1, 1) := dTa tdX9_ease_0 3 rfl
theorem dX9_ease_8 : decode cX9_ease 8 = .ok (.i2l, 1) := dTa tdX9_ease_0 4 rfl
theorem dX9_ease_9 : decode cX9_ease 9 = .ok (.lconst 0, 1) := dTa tdX9_ease_0 5 rfl
theorem dX9_ease_10 : decode cX9_ease 10 = .ok (.lconst 1, 1) := dTa tdX9_ease_0 6 rfl
theorem dX9_ease_11 : decode cX9_ease 11 = .ok (.invokestatic 131, 3) := dTa tdX9_ease_0 7 rfl
theorem dX9_ease_14 : decode cX9_ease 14 = .ok (.ifCond .ne 5, 3) := dTa tdX9_ease_0 8 rfl
theorem dX9_ease_17 : decode cX9_ease 17 = .ok (.iconst (-1), 1) := dTa tdX9_ease_0 9 rfl
theorem dX9_ease_18 : decode cX9_ease 18 = .ok (.ireturn, 1) := dTa tdX9_ease_0 10 rfl
theorem dX9_ease_19 : decode cX9_ease 19 = .ok (.aload_n 0, 1) := dTa tdX9_ease_0 11 rfl
theorem dX9_ease_20 : decode cX9_ease 20 = .ok (.iconst 0, 1) := dTa tdX9_ease_0 12 rfl
theorem dX9_ease_21 : decode cX9_ease 21 = .ok (.invokevirtual 341, 3) := dTa tdX9_ease_0 13 rfl
theorem dX9_ease_24 : decode cX9_ease 24 = .ok (.istore_n 2, 1) := dTa tdX9_ease_0 14 rfl
theorem dX9_ease_25 : decode cX9_ease 25 = .ok (.aload_n 0, 1) := dTa tdX9_ease_0 15 rfl
theorem dX9_ease_26 : decode cX9_ease 26 = .ok (.iconst 1, 1) := dTa tdX9_ease_0 16 rfl
theorem dX9_ease_27 : decode cX9_ease 27 = .ok (.invokevirtual 341, 3) := dTa tdX9_ease_0 17 rfl
theorem dX9_ease_30 : decode cX9_ease 30 = .ok (.istore_n 3, 1) := dTa tdX9_ease_0 18 rfl
theorem dX9_ease_31 : decode cX9_ease 31 = .ok (.iconst 0, 1) := dTa tdX9_ease_0 19 rfl
theorem dX9_ease_32 : decode cX9_ease 32 = .ok (.istore 4, 2) := dTa tdX9_ease_0 20 rfl
theorem dX9_ease_34 : decode cX9_ease 34 = .ok (.iconst 0, 1) := dTa tdX9_ease_0 21 rfl
theorem dX9_ease_35 : decode cX9_ease 35 = .ok (.istore 5, 2) := dTa tdX9_ease_0 22 rfl
theorem dX9_ease_37 : decode cX9_ease 37 = .ok (.iload 5, 2) := dTa tdX9_ease_0 23 rfl
theorem dX9_ease_39 : decode cX9_ease 39 = .ok (.iload_n 2, 1) := dTa tdX9_ease_0 24 rfl
theorem dX9_ease_40 : decode cX9_ease 40 = .ok (.if_icmp .gt 46, 3) := dTa tdX9_ease_0 25 rfl
theorem dX9_ease_43 : decode cX9_ease 43 = .ok (.iload 5, 2) := dTa tdX9_ease_0 26 rfl
theorem dX9_ease_45 : decode cX9_ease 45 = .ok (.iload_n 2, 1) := dTa tdX9_ease_0 27 rfl
theorem dX9_ease_46 : decode cX9_ease 46 = .ok (.iconst (-1), 1) := dTa tdX9_ease_0 28 rfl
theorem dX9_ease_47 : decode cX9_ease 47 = .ok (.ixor, 1) := dTa tdX9_ease_0 29 rfl
theorem dX9_ease_48 : decode cX9_ease 48 = .ok (.iand, 1) := dTa tdX9_ease_0 30 rfl
theorem dX9_ease_49 : decode cX9_ease 49 = .ok (.ifCond .ne 31, 3) := dTa tdX9_ease_0 31 rfl
theorem dX9_ease_52 : decode cX9_ease 52 = .ok (.iload 5, 2) := dTa tdX9_ease_0 32 rfl
theorem dX9_ease_54 : decode cX9_ease 54 = .ok (.invokestatic 370, 3) := dTa tdX9_ease_0 33 rfl
theorem dX9_ease_57 : decode cX9_ease 57 = .ok (.iload 4, 2) := dTa tdX9_ease_0 34 rfl
theorem dX9_ease_59 : decode cX9_ease 59 = .ok (.invokestatic 370, 3) := dTa tdX9_ease_0 35 rfl
theorem dX9_ease_62 : decode cX9_ease 62 = .ok (.if_icmp .le 18, 3) := dTa tdX9_ease_0 36 rfl
theorem dX9_ease_65 : decode cX9_ease 65 = .ok (.aload_n 0, 1) := dTa tdX9_ease_0 37 rfl
theorem dX9_ease_66 : decode cX9_ease 66 = .ok (.iload_n 3, 1) := dTa tdX9_ease_0 38 rfl
theorem dX9_ease_67 : decode cX9_ease 67 = .ok (.iload 5, 2) := dTa tdX9_ease_0 39 rfl
set_option maxRecDepth 100000 in
theorem tdX9_ease_69 : dTb cX9_ease [(69, .ior, 1), (70, .invokevirtual 367, 3), (73, .ifCond .ne 7, 3), (76, .iload 5, 2), (78, .istore 4, 2), (80, .iinc 5 1, 3), (83, .goto (-46), 3), (86, .iload_n 1, 1), (87, .ifCond .ne 11, 3), (90, .iload 4, 2), (92, .invokestatic 370, 3), (95, .goto 5, 3), (98, .iload 4, 2), (100, .ireturn, 1)] = true := by decide +kernel
theorem dX9_ease_69 : decode cX9_ease 69 = .ok (.ior, 1) := dTa tdX9_ease_69 0 rfl
theorem dX9_ease_70 : decode cX9_ease 70 = .ok (.invokevirtual 367, 3) := dTa tdX9_ease_69 1 rfl
theorem dX9_ease_73 : decode cX9_ease 73 = .ok (.ifCond .ne 7, 3) := dTa tdX9_ease_69 2 rfl
theorem dX9_ease_76 : decode cX9_ease 76 = .ok (.iload 5, 2) := dTa tdX9_ease_69 3 rfl
theorem dX9_ease_78 : decode cX9_ease 78 = .ok (.istore 4, 2) := dTa tdX9_ease_69 4 rfl
theorem dX9_ease_80 : decode cX9_ease 80 = .ok (.iinc 5 1, 3) := dTa tdX9_ease_69 5 rfl
theorem dX9_ease_83 : decode cX9_ease 83 = .ok (.goto (-46), 3) := dTa tdX9_ease_69 6 rfl
theorem dX9_ease_86 : decode cX9_ease 86 = .ok (.iload_n 1, 1) := dTa tdX9_ease_69 7 rfl
theorem dX9_ease_87 : decode cX9_ease 87 = .ok (.ifCond .ne 11, 3) := dTa tdX9_ease_69 8 rfl
theorem dX9_ease_90 : decode cX9_ease 90 = .ok (.iload 4, 2) := dTa tdX9_ease_69 9 rfl
theorem dX9_ease_92 : decode cX9_ease 92 = .ok (.invokestatic 370, 3) := dTa tdX9_ease_69 10 rfl
theorem dX9_ease_95 : decode cX9_ease 95 = .ok (.goto 5, 3) := dTa tdX9_ease_69 11 rfl
theorem dX9_ease_98 : decode cX9_ease 98 = .ok (.iload 4, 2) := dTa tdX9_ease_69 12 rfl
theorem dX9_ease_100 : decode cX9_ease 100 = .ok (.ireturn, 1) := dTa tdX9_ease_69 13 rfl
set_option maxRecDepth 100000 in
theorem tdX9_falls_0 : dTb cX9_falls [(0, .aload_n 0, 1), (1, .invokevirtual 404, 3), (4, .ifCond .eq 13, 3), (7, .iload_n 1, 1), (8, .i2l, 1), (9, .lconst 0, 1), (10, .lconst 1, 1), (11, .invokestatic 131, 3), (14, .ifCond .ne 5, 3), (17, .iconst (-1), 1), (18, .ireturn, 1), (19, .aload_n 0, 1), (20, .invokevirtual 420, 3), (23, .bipush (-2), 2), (25, .istore_n 2, 1), (26, .iconst 0, 1), (27, .istore_n 3, 1), (28, .iload_n 3, 1), (29, .sipush 200, 3), (32, .if_icmp .ge 49, 3), (35, .iload_n 2, 1), (36, .bipush (-2), 2), (38, .if_icmp .ne 43, 3), (41, .aload_n 0, 1), (42, .invokevirtual 383, 3), (45, .istore 4, 2), (47, .iload 4, 2), (49, .ifCond .ne 8, 3), (52, .bipush (-2), 2), (54, .goto 20, 3), (57, .iload_n 1, 1), (58, .ifCond .ne 14, 3), (61, .aload_n 0, 1), (62, .getfield 9, 3), (65, .iconst 4, 1), (66, .iaload, 1), (67, .iconst 1, 1), (68, .isub, 1), (69, .goto 5, 3), (72, .iload 4, 2)] = true := by decide +kernel
theorem dX9_falls_0 : decode cX9_falls 0 = .ok (.aload_n 0, 1) := dTa tdX9_falls_0 0 rfl
theorem dX9_falls_1 : decode cX9_falls 1 = .ok (.invokevirtual 404, 3) := dTa tdX9_falls_0 1 rfl
theorem dX9_falls_4 : decode cX9_falls 4 = .ok (.ifCond .eq 13, 3) := dTa tdX9_falls_0 2 rfl
theorem dX9_falls_7 : decode cX9_falls 7 = .ok (.iload_n 1, 1) := dTa tdX9_falls_0 3 rfl
theorem dX9_falls_8 : decode cX9_falls 8 = .ok (.i2l, 1) := dTa tdX9_falls_0 4 rfl
theorem dX9_falls_9 : decode cX9_falls 9 = .ok (.lconst 0, 1) := dTa tdX9_falls_0 5 rfl
theorem dX9_falls_10 : decode cX9_falls 10 = .ok (.lconst 1, 1) := dTa tdX9_falls_0 6 rfl
theorem dX9_falls_11 : decode cX9_falls 11 = .ok (.invokestatic 131, 3) := dTa tdX9_falls_0 7 rfl
theorem dX9_falls_14 : decode cX9_falls 14 = .ok (.ifCond .ne 5, 3) := dTa tdX9_falls_0 8 rfl
theorem dX9_falls_17 : decode cX9_falls 17 = .ok (.iconst (-1), 1) := dTa tdX9_falls_0 9 rfl
theorem dX9_falls_18 : decode cX9_falls 18 = .ok (.ireturn, 1) := dTa tdX9_falls_0 10 rfl
theorem dX9_falls_19 : decode cX9_falls 19 = .ok (.aload_n 0, 1) := dTa tdX9_falls_0 11 rfl
theorem dX9_falls_20 : decode cX9_falls 20 = .ok (.invokevirtual 420, 3) := dTa tdX9_falls_0 12 rfl
theorem dX9_falls_23 : decode cX9_falls 23 = .ok (.bipush (-2), 2) := dTa tdX9_falls_0 13 rfl
theorem dX9_falls_25 : decode cX9_falls 25 = .ok (.istore_n 2, 1) := dTa tdX9_falls_0 14 rfl
theorem dX9_falls_26 : decode cX9_falls 26 = .ok (.iconst 0, 1) := dTa tdX9_falls_0 15 rfl
theorem dX9_falls_27 : decode cX9_falls 27 = .ok (.istore_n 3, 1) := dTa tdX9_falls_0 16 rfl
theorem dX9_falls_28 : decode cX9_falls 28 = .ok (.iload_n 3, 1) := dTa tdX9_falls_0 17 rfl
theorem dX9_falls_29 : decode cX9_falls 29 = .ok (.sipush 200, 3) := dTa tdX9_falls_0 18 rfl
theorem dX9_falls_32 : decode cX9_falls 32 = .ok (.if_icmp .ge 49, 3) := dTa tdX9_falls_0 19 rfl
theorem dX9_falls_35 : decode cX9_falls 35 = .ok (.iload_n 2, 1) := dTa tdX9_falls_0 20 rfl
theorem dX9_falls_36 : decode cX9_falls 36 = .ok (.bipush (-2), 2) := dTa tdX9_falls_0 21 rfl
theorem dX9_falls_38 : decode cX9_falls 38 = .ok (.if_icmp .ne 43, 3) := dTa tdX9_falls_0 22 rfl
theorem dX9_falls_41 : decode cX9_falls 41 = .ok (.aload_n 0, 1) := dTa tdX9_falls_0 23 rfl
theorem dX9_falls_42 : decode cX9_falls 42 = .ok (.invokevirtual 383, 3) := dTa tdX9_falls_0 24 rfl
theorem dX9_falls_45 : decode cX9_falls 45 = .ok (.istore 4, 2) := dTa tdX9_falls_0 25 rfl
theorem dX9_falls_47 : decode cX9_falls 47 = .ok (.iload 4, 2) := dTa tdX9_falls_0 26 rfl
theorem dX9_falls_49 : decode cX9_falls 49 = .ok (.ifCond .ne 8, 3) := dTa tdX9_falls_0 27 rfl
theorem dX9_falls_52 : decode cX9_falls 52 = .ok (.bipush (-2), 2) := dTa tdX9_falls_0 28 rfl
theorem dX9_falls_54 : decode cX9_falls 54 = .ok (.goto 20, 3) := dTa tdX9_falls_0 29 rfl
theorem dX9_falls_57 : decode cX9_falls 57 = .ok (.iload_n 1, 1) := dTa tdX9_falls_0 30 rfl
theorem dX9_falls_58 : decode cX9_falls 58 = .ok (.ifCond .ne 14, 3) := dTa tdX9_falls_0 31 rfl
theorem dX9_falls_61 : decode cX9_falls 61 = .ok (.aload_n 0, 1) := dTa tdX9_falls_0 32 rfl
theorem dX9_falls_62 : decode cX9_falls 62 = .ok (.getfield 9, 3) := dTa tdX9_falls_0 33 rfl
theorem dX9_falls_65 : decode cX9_falls 65 = .ok (.iconst 4, 1) := dTa tdX9_falls_0 34 rfl
theorem dX9_falls_66 : decode cX9_falls 66 = .ok (.iaload, 1) := dTa tdX9_falls_0 35 rfl
theorem dX9_falls_67 : decode cX9_falls 67 = .ok (.iconst 1, 1) := dTa tdX9_falls_0 36 rfl
theorem dX9_falls_68 : decode cX9_falls 68 = .ok (.isub, 1) := dTa tdX9_falls_0 37 rfl
theorem dX9_falls_69 : decode cX9_falls 69 = .ok (.goto 5, 3) := dTa tdX9_falls_0 38 rfl
theorem dX9_falls_72 : decode cX9_falls 72 = .ok (.iload 4, 2) := dTa tdX9_falls_0 39 rfl
set_option maxRecDepth 100000 in
theorem tdX9_falls_74 : dTb cX9_falls [(74, .istore_n 2, 1), (75, .iinc 3 1, 3), (78, .goto (-50), 3), (81, .aload_n 0, 1), (82, .invokevirtual 426, 3), (85, .iload_n 2, 1), (86, .ireturn, 1)] = true := by decide +kernel
theorem dX9_falls_74 : decode cX9_falls 74 = .ok (.istore_n 2, 1) := dTa tdX9_falls_74 0 rfl
theorem dX9_falls_75 : decode cX9_falls 75 = .ok (.iinc 3 1, 3) := dTa tdX9_falls_74 1 rfl
theorem dX9_falls_78 : decode cX9_falls 78 = .ok (.goto (-50), 3) := dTa tdX9_falls_74 2 rfl
theorem dX9_falls_81 : decode cX9_falls 81 = .ok (.aload_n 0, 1) := dTa tdX9_falls_74 3 rfl
theorem dX9_falls_82 : decode cX9_falls 82 = .ok (.invokevirtual 426, 3) := dTa tdX9_falls_74 4 rfl
theorem dX9_falls_85 : decode cX9_falls 85 = .ok (.iload_n 2, 1) := dTa tdX9_falls_74 5 rfl
theorem dX9_falls_86 : decode cX9_falls 86 = .ok (.ireturn, 1) := dTa tdX9_falls_74 6 rfl
set_option maxRecDepth 100000 in
theorem tdX9_felled_0 : dTb cX9_felled [(0, .aload_n 0, 1), (1, .iload_n 1, 1), (2, .iconst 1, 1), (3, .invokevirtual 410, 3), (6, .ifCond .eq 11, 3), (9, .aload_n 0, 1), (10, .iload_n 1, 1), (11, .invokevirtual 429, 3), (14, .goto 4, 3), (17, .iconst (-1), 1), (18, .ireturn, 1)] = true := by decide +kernel
theorem dX9_felled_0 : decode cX9_felled 0 = .ok (.aload_n 0, 1) := dTa tdX9_felled_0 0 rfl
theorem dX9_felled_1 : decode cX9_felled 1 = .ok (.iload_n 1, 1) := dTa tdX9_felled_0 1 rfl
theorem dX9_felled_2 : decode cX9_felled 2 = .ok (.iconst 1, 1) := dTa tdX9_felled_0 2 rfl
theorem dX9_felled_3 : decode cX9_felled 3 = .ok (.invokevirtual 410, 3) := dTa tdX9_felled_0 3 rfl
theorem dX9_felled_6 : decode cX9_felled 6 = .ok (.ifCond .eq 11, 3) := dTa tdX9_felled_0 4 rfl
theorem dX9_felled_9 : decode cX9_felled 9 = .ok (.aload_n 0, 1) := dTa tdX9_felled_0 5 rfl
theorem dX9_felled_10 : decode cX9_felled 10 = .ok (.iload_n 1, 1) := dTa tdX9_felled_0 6 rfl
theorem dX9_felled_11 : decode cX9_felled 11 = .ok (.invokevirtual 429, 3) := dTa tdX9_felled_0 7 rfl
theorem dX9_felled_14 : decode cX9_felled 14 = .ok (.goto 4, 3) := dTa tdX9_felled_0 8 rfl
theorem dX9_felled_17 : decode cX9_felled 17 = .ok (.iconst (-1), 1) := dTa tdX9_felled_0 9 rfl
theorem dX9_felled_18 : decode cX9_felled 18 = .ok (.ireturn, 1) := dTa tdX9_felled_0 10 rfl
set_option maxRecDepth 100000 in
theorem tdX9_felledBy_0 : dTb cX9_felledBy [(0, .aload_n 0, 1), (1, .invokevirtual 420, 3), (4, .aload_n 0, 1), (5, .getfield 16, 3), (8, .iload_n 1, 1), (9, .iconst 0, 1), (10, .iastore, 1), (11, .aload_n 0, 1), (12, .invokevirtual 380, 3), (15, .istore_n 2, 1), (16, .aload_n 0, 1), (17, .invokevirtual 426, 3), (20, .iload_n 2, 1), (21, .ireturn, 1)] = true := by decide +kernel
theorem dX9_felledBy_0 : decode cX9_felledBy 0 = .ok (.aload_n 0, 1) := dTa tdX9_felledBy_0 0 rfl
theorem dX9_felledBy_1 : decode cX9_felledBy 1 = .ok (.invokevirtual 420, 3) := dTa tdX9_felledBy_0 1 rfl
theorem dX9_felledBy_4 : decode cX9_felledBy 4 = .ok (.aload_n 0, 1) := dTa tdX9_felledBy_0 2 rfl
theorem dX9_felledBy_5 : decode cX9_felledBy 5 = .ok (.getfield 16, 3) := dTa tdX9_felledBy_0 3 rfl
theorem dX9_felledBy_8 : decode cX9_felledBy 8 = .ok (.iload_n 1, 1) := dTa tdX9_felledBy_0 4 rfl
theorem dX9_felledBy_9 : decode cX9_felledBy 9 = .ok (.iconst 0, 1) := dTa tdX9_felledBy_0 5 rfl
theorem dX9_felledBy_10 : decode cX9_felledBy 10 = .ok (.iastore, 1) := dTa tdX9_felledBy_0 6 rfl
theorem dX9_felledBy_11 : decode cX9_felledBy 11 = .ok (.aload_n 0, 1) := dTa tdX9_felledBy_0 7 rfl
theorem dX9_felledBy_12 : decode cX9_felledBy 12 = .ok (.invokevirtual 380, 3) := dTa tdX9_felledBy_0 8 rfl
theorem dX9_felledBy_15 : decode cX9_felledBy 15 = .ok (.istore_n 2, 1) := dTa tdX9_felledBy_0 9 rfl
theorem dX9_felledBy_16 : decode cX9_felledBy 16 = .ok (.aload_n 0, 1) := dTa tdX9_felledBy_0 10 rfl
theorem dX9_felledBy_17 : decode cX9_felledBy 17 = .ok (.invokevirtual 426, 3) := dTa tdX9_felledBy_0 11 rfl
theorem dX9_felledBy_20 : decode cX9_felledBy 20 = .ok (.iload_n 2, 1) := dTa tdX9_felledBy_0 12 rfl
theorem dX9_felledBy_21 : decode cX9_felledBy 21 = .ok (.ireturn, 1) := dTa tdX9_felledBy_0 13 rfl
set_option maxRecDepth 100000 in
theorem tdX9_heavy_0 : dTb cX9_heavy [(0, .aload_n 0, 1), (1, .iload_n 1, 1), (2, .invokevirtual 362, 3), (5, .ifCond .eq 23, 3), (8, .aload_n 0, 1), (9, .getfield 16, 3), (12, .iload_n 1, 1), (13, .iaload, 1), (14, .iconst 2, 1), (15, .if_icmp .eq 13, 3), (18, .iload_n 2, 1), (19, .i2l, 1), (20, .lconst 0, 1), (21, .lconst 1, 1), (22, .invokestatic 131, 3), (25, .ifCond .ne 5, 3), (28, .iconst (-1), 1), (29, .ireturn, 1), (30, .aload_n 0, 1), (31, .getfield 22, 3), (34, .iload_n 1, 1), (35, .iaload, 1), (36, .istore_n 3, 1), (37, .aload_n 0, 1), (38, .iconst 1, 1), (39, .invokevirtual 341, 3), (42, .iconst 1, 1), (43, .iload_n 1, 1), (44, .ishl, 1), (45, .ior, 1), (46, .istore 4, 2), (48, .iconst 0, 1), (49, .istore 5, 2), (51, .bipush (-2), 2), (53, .istore 6, 2), (55, .iconst 1, 1), (56, .istore 7, 2), (58, .iload 7, 2), (60, .bipush 20, 2), (62, .if_icmp .gt 43, 3)] = true := by decide +kernel
theorem dX9_heavy_0 : decode cX9_heavy 0 = .ok (.aload_n 0, 1) := dTa tdX9_heavy_0 0 rfl
theorem dX9_heavy_1 : decode cX9_heavy 1 = .ok (.iload_n 1, 1) := dTa tdX9_heavy_0 1 rfl
theorem dX9_heavy_2 : decode cX9_heavy 2 = .ok (.invokevirtual 362, 3) := dTa tdX9_heavy_0 2 rfl
theorem dX9_heavy_5 : decode cX9_heavy 5 = .ok (.ifCond .eq 23, 3) := dTa tdX9_heavy_0 3 rfl
theorem dX9_heavy_8 : decode cX9_heavy 8 = .ok (.aload_n 0, 1) := dTa tdX9_heavy_0 4 rfl
theorem dX9_heavy_9 : decode cX9_heavy 9 = .ok (.getfield 16, 3) := dTa tdX9_heavy_0 5 rfl
theorem dX9_heavy_12 : decode cX9_heavy 12 = .ok (.iload_n 1, 1) := dTa tdX9_heavy_0 6 rfl
theorem dX9_heavy_13 : decode cX9_heavy 13 = .ok (.iaload, 1) := dTa tdX9_heavy_0 7 rfl
theorem dX9_heavy_14 : decode cX9_heavy 14 = .ok (.iconst 2, 1) := dTa tdX9_heavy_0 8 rfl
theorem dX9_heavy_15 : decode cX9_heavy 15 = .ok (.if_icmp .eq 13, 3) := dTa tdX9_heavy_0 9 rfl
theorem dX9_heavy_18 : decode cX9_heavy 18 = .ok (.iload_n 2, 1) := dTa tdX9_heavy_0 10 rfl
theorem dX9_heavy_19 : decode cX9_heavy 19 = .ok (.i2l, 1) := dTa tdX9_heavy_0 11 rfl
theorem dX9_heavy_20 : decode cX9_heavy 20 = .ok (.lconst 0, 1) := dTa tdX9_heavy_0 12 rfl
theorem dX9_heavy_21 : decode cX9_heavy 21 = .ok (.lconst 1, 1) := dTa tdX9_heavy_0 13 rfl
theorem dX9_heavy_22 : decode cX9_heavy 22 = .ok (.invokestatic 131, 3) := dTa tdX9_heavy_0 14 rfl
theorem dX9_heavy_25 : decode cX9_heavy 25 = .ok (.ifCond .ne 5, 3) := dTa tdX9_heavy_0 15 rfl
theorem dX9_heavy_28 : decode cX9_heavy 28 = .ok (.iconst (-1), 1) := dTa tdX9_heavy_0 16 rfl
theorem dX9_heavy_29 : decode cX9_heavy 29 = .ok (.ireturn, 1) := dTa tdX9_heavy_0 17 rfl
theorem dX9_heavy_30 : decode cX9_heavy 30 = .ok (.aload_n 0, 1) := dTa tdX9_heavy_0 18 rfl
theorem dX9_heavy_31 : decode cX9_heavy 31 = .ok (.getfield 22, 3) := dTa tdX9_heavy_0 19 rfl
theorem dX9_heavy_34 : decode cX9_heavy 34 = .ok (.iload_n 1, 1) := dTa tdX9_heavy_0 20 rfl
theorem dX9_heavy_35 : decode cX9_heavy 35 = .ok (.iaload, 1) := dTa tdX9_heavy_0 21 rfl
theorem dX9_heavy_36 : decode cX9_heavy 36 = .ok (.istore_n 3, 1) := dTa tdX9_heavy_0 22 rfl
theorem dX9_heavy_37 : decode cX9_heavy 37 = .ok (.aload_n 0, 1) := dTa tdX9_heavy_0 23 rfl
theorem dX9_heavy_38 : decode cX9_heavy 38 = .ok (.iconst 1, 1) := dTa tdX9_heavy_0 24 rfl
theorem dX9_heavy_39 : decode cX9_heavy 39 = .ok (.invokevirtual 341, 3) := dTa tdX9_heavy_0 25 rfl
theorem dX9_heavy_42 : decode cX9_heavy 42 = .ok (.iconst 1, 1) := dTa tdX9_heavy_0 26 rfl
theorem dX9_heavy_43 : decode cX9_heavy 43 = .ok (.iload_n 1, 1) := dTa tdX9_heavy_0 27 rfl
theorem dX9_heavy_44 : decode cX9_heavy 44 = .ok (.ishl, 1) := dTa tdX9_heavy_0 28 rfl
theorem dX9_heavy_45 : decode cX9_heavy 45 = .ok (.ior, 1) := dTa tdX9_heavy_0 29 rfl
theorem dX9_heavy_46 : decode cX9_heavy 46 = .ok (.istore 4, 2) := dTa tdX9_heavy_0 30 rfl
theorem dX9_heavy_48 : decode cX9_heavy 48 = .ok (.iconst 0, 1) := dTa tdX9_heavy_0 31 rfl
theorem dX9_heavy_49 : decode cX9_heavy 49 = .ok (.istore 5, 2) := dTa tdX9_heavy_0 32 rfl
theorem dX9_heavy_51 : decode cX9_heavy 51 = .ok (.bipush (-2), 2) := dTa tdX9_heavy_0 33 rfl
theorem dX9_heavy_53 : decode cX9_heavy 53 = .ok (.istore 6, 2) := dTa tdX9_heavy_0 34 rfl
theorem dX9_heavy_55 : decode cX9_heavy 55 = .ok (.iconst 1, 1) := dTa tdX9_heavy_0 35 rfl
theorem dX9_heavy_56 : decode cX9_heavy 56 = .ok (.istore 7, 2) := dTa tdX9_heavy_0 36 rfl
theorem dX9_heavy_58 : decode cX9_heavy 58 = .ok (.iload 7, 2) := dTa tdX9_heavy_0 37 rfl
theorem dX9_heavy_60 : decode cX9_heavy 60 = .ok (.bipush 20, 2) := dTa tdX9_heavy_0 38 rfl
theorem dX9_heavy_62 : decode cX9_heavy 62 = .ok (.if_icmp .gt 43, 3) := dTa tdX9_heavy_0 39 rfl
set_option maxRecDepth 100000 in
theorem tdX9_heavy_65 : dTb cX9_heavy [(65, .aload_n 0, 1), (66, .getfield 22, 3), (69, .iload_n 1, 1), (70, .iload 7, 2), (72, .iastore, 1), (73, .aload_n 0, 1), (74, .iload 4, 2), (76, .invokevirtual 367, 3), (79, .ifCond .ne 20, 3), (82, .iload 5, 2), (84, .ifCond .ne 8, 3), (87, .iload 7, 2), (89, .goto 5, 3), (92, .iload 6, 2), (94, .istore 6, 2), (96, .iinc 5 1, 3), (99, .iinc 7 1, 3), (102, .goto (-44), 3), (105, .aload_n 0, 1), (106, .getfield 22, 3), (109, .iload_n 1, 1), (110, .iload_n 3, 1), (111, .iastore, 1), (112, .iload_n 2, 1), (113, .ifCond .ne 8, 3), (116, .iload 5, 2), (118, .goto 5, 3), (121, .iload 6, 2), (123, .ireturn, 1)] = true := by decide +kernel
theorem dX9_heavy_65 : decode cX9_heavy 65 = .ok (.aload_n 0, 1) := dTa tdX9_heavy_65 0 rfl
theorem dX9_heavy_66 : decode cX9_heavy 66 = .ok (.getfield 22, 3) := dTa tdX9_heavy_65 1 rfl
theorem dX9_heavy_69 : decode cX9_heavy 69 = .ok (.iload_n 1, 1) := dTa tdX9_heavy_65 2 rfl
theorem dX9_heavy_70 : decode cX9_heavy 70 = .ok (.iload 7, 2) := dTa tdX9_heavy_65 3 rfl
theorem dX9_heavy_72 : decode cX9_heavy 72 = .ok (.iastore, 1) := dTa tdX9_heavy_65 4 rfl
theorem dX9_heavy_73 : decode cX9_heavy 73 = .ok (.aload_n 0, 1) := dTa tdX9_heavy_65 5 rfl
theorem dX9_heavy_74 : decode cX9_heavy 74 = .ok (.iload 4, 2) := dTa tdX9_heavy_65 6 rfl
theorem dX9_heavy_76 : decode cX9_heavy 76 = .ok (.invokevirtual 367, 3) := dTa tdX9_heavy_65 7 rfl
theorem dX9_heavy_79 : decode cX9_heavy 79 = .ok (.ifCond .ne 20, 3) := dTa tdX9_heavy_65 8 rfl
theorem dX9_heavy_82 : decode cX9_heavy 82 = .ok (.iload 5, 2) := dTa tdX9_heavy_65 9 rfl
theorem dX9_heavy_84 : decode cX9_heavy 84 = .ok (.ifCond .ne 8, 3) := dTa tdX9_heavy_65 10 rfl
theorem dX9_heavy_87 : decode cX9_heavy 87 = .ok (.iload 7, 2) := dTa tdX9_heavy_65 11 rfl
theorem dX9_heavy_89 : decode cX9_heavy 89 = .ok (.goto 5, 3) := dTa tdX9_heavy_65 12 rfl
theorem dX9_heavy_92 : decode cX9_heavy 92 = .ok (.iload 6, 2) := dTa tdX9_heavy_65 13 rfl
theorem dX9_heavy_94 : decode cX9_heavy 94 = .ok (.istore 6, 2) := dTa tdX9_heavy_65 14 rfl
theorem dX9_heavy_96 : decode cX9_heavy 96 = .ok (.iinc 5 1, 3) := dTa tdX9_heavy_65 15 rfl
theorem dX9_heavy_99 : decode cX9_heavy 99 = .ok (.iinc 7 1, 3) := dTa tdX9_heavy_65 16 rfl
theorem dX9_heavy_102 : decode cX9_heavy 102 = .ok (.goto (-44), 3) := dTa tdX9_heavy_65 17 rfl
theorem dX9_heavy_105 : decode cX9_heavy 105 = .ok (.aload_n 0, 1) := dTa tdX9_heavy_65 18 rfl
theorem dX9_heavy_106 : decode cX9_heavy 106 = .ok (.getfield 22, 3) := dTa tdX9_heavy_65 19 rfl
theorem dX9_heavy_109 : decode cX9_heavy 109 = .ok (.iload_n 1, 1) := dTa tdX9_heavy_65 20 rfl
theorem dX9_heavy_110 : decode cX9_heavy 110 = .ok (.iload_n 3, 1) := dTa tdX9_heavy_65 21 rfl
theorem dX9_heavy_111 : decode cX9_heavy 111 = .ok (.iastore, 1) := dTa tdX9_heavy_65 22 rfl
theorem dX9_heavy_112 : decode cX9_heavy 112 = .ok (.iload_n 2, 1) := dTa tdX9_heavy_65 23 rfl
theorem dX9_heavy_113 : decode cX9_heavy 113 = .ok (.ifCond .ne 8, 3) := dTa tdX9_heavy_65 24 rfl
theorem dX9_heavy_116 : decode cX9_heavy 116 = .ok (.iload 5, 2) := dTa tdX9_heavy_65 25 rfl
theorem dX9_heavy_118 : decode cX9_heavy 118 = .ok (.goto 5, 3) := dTa tdX9_heavy_65 26 rfl
theorem dX9_heavy_121 : decode cX9_heavy 121 = .ok (.iload 6, 2) := dTa tdX9_heavy_65 27 rfl
theorem dX9_heavy_123 : decode cX9_heavy 123 = .ok (.ireturn, 1) := dTa tdX9_heavy_65 28 rfl
set_option maxRecDepth 100000 in
theorem tdX9_help_0 : dTb cX9_help [(0, .aload_n 0, 1), (1, .iload_n 1, 1), (2, .iconst 2, 1), (3, .invokevirtual 410, 3), (6, .ifCond .ne 5, 3), (9, .iconst (-1), 1), (10, .ireturn, 1), (11, .aload_n 0, 1), (12, .invokevirtual 407, 3), (15, .aload_n 0, 1), (16, .getfield 16, 3), (19, .iload_n 1, 1), (20, .iconst 0, 1), (21, .iastore, 1), (22, .aload_n 0, 1), (23, .iconst 2, 1), (24, .invokevirtual 341, 3), (27, .invokestatic 370, 3), (30, .ireturn, 1)] = true := by decide +kernel
theorem dX9_help_0 : decode cX9_help 0 = .ok (.aload_n 0, 1) := dTa tdX9_help_0 0 rfl
theorem dX9_help_1 : decode cX9_help 1 = .ok (.iload_n 1, 1) := dTa tdX9_help_0 1 rfl
theorem dX9_help_2 : decode cX9_help 2 = .ok (.iconst 2, 1) := dTa tdX9_help_0 2 rfl
theorem dX9_help_3 : decode cX9_help 3 = .ok (.invokevirtual 410, 3) := dTa tdX9_help_0 3 rfl
theorem dX9_help_6 : decode cX9_help 6 = .ok (.ifCond .ne 5, 3) := dTa tdX9_help_0 4 rfl
theorem dX9_help_9 : decode cX9_help 9 = .ok (.iconst (-1), 1) := dTa tdX9_help_0 5 rfl
theorem dX9_help_10 : decode cX9_help 10 = .ok (.ireturn, 1) := dTa tdX9_help_0 6 rfl
theorem dX9_help_11 : decode cX9_help 11 = .ok (.aload_n 0, 1) := dTa tdX9_help_0 7 rfl
theorem dX9_help_12 : decode cX9_help 12 = .ok (.invokevirtual 407, 3) := dTa tdX9_help_0 8 rfl
theorem dX9_help_15 : decode cX9_help 15 = .ok (.aload_n 0, 1) := dTa tdX9_help_0 9 rfl
theorem dX9_help_16 : decode cX9_help 16 = .ok (.getfield 16, 3) := dTa tdX9_help_0 10 rfl
theorem dX9_help_19 : decode cX9_help 19 = .ok (.iload_n 1, 1) := dTa tdX9_help_0 11 rfl
theorem dX9_help_20 : decode cX9_help 20 = .ok (.iconst 0, 1) := dTa tdX9_help_0 12 rfl
theorem dX9_help_21 : decode cX9_help 21 = .ok (.iastore, 1) := dTa tdX9_help_0 13 rfl
theorem dX9_help_22 : decode cX9_help 22 = .ok (.aload_n 0, 1) := dTa tdX9_help_0 14 rfl
theorem dX9_help_23 : decode cX9_help 23 = .ok (.iconst 2, 1) := dTa tdX9_help_0 15 rfl
theorem dX9_help_24 : decode cX9_help 24 = .ok (.invokevirtual 341, 3) := dTa tdX9_help_0 16 rfl
theorem dX9_help_27 : decode cX9_help 27 = .ok (.invokestatic 370, 3) := dTa tdX9_help_0 17 rfl
theorem dX9_help_30 : decode cX9_help 30 = .ok (.ireturn, 1) := dTa tdX9_help_0 18 rfl
set_option maxRecDepth 100000 in
theorem tdX9_isSo_0 : dTb cX9_isSo [(0, .aload_n 0, 1), (1, .iload_n 1, 1), (2, .invokevirtual 362, 3), (5, .ifCond .eq 17, 3), (8, .aload_n 0, 1), (9, .getfield 16, 3), (12, .iload_n 1, 1), (13, .iaload, 1), (14, .iload_n 2, 1), (15, .if_icmp .ne 7, 3), (18, .iconst 1, 1), (19, .goto 4, 3), (22, .iconst 0, 1), (23, .ireturn, 1)] = true := by decide +kernel
theorem dX9_isSo_0 : decode cX9_isSo 0 = .ok (.aload_n 0, 1) := dTa tdX9_isSo_0 0 rfl
theorem dX9_isSo_1 : decode cX9_isSo 1 = .ok (.iload_n 1, 1) := dTa tdX9_isSo_0 1 rfl
theorem dX9_isSo_2 : decode cX9_isSo 2 = .ok (.invokevirtual 362, 3) := dTa tdX9_isSo_0 2 rfl
theorem dX9_isSo_5 : decode cX9_isSo 5 = .ok (.ifCond .eq 17, 3) := dTa tdX9_isSo_0 3 rfl
theorem dX9_isSo_8 : decode cX9_isSo 8 = .ok (.aload_n 0, 1) := dTa tdX9_isSo_0 4 rfl
theorem dX9_isSo_9 : decode cX9_isSo 9 = .ok (.getfield 16, 3) := dTa tdX9_isSo_0 5 rfl
theorem dX9_isSo_12 : decode cX9_isSo 12 = .ok (.iload_n 1, 1) := dTa tdX9_isSo_0 6 rfl
theorem dX9_isSo_13 : decode cX9_isSo 13 = .ok (.iaload, 1) := dTa tdX9_isSo_0 7 rfl
theorem dX9_isSo_14 : decode cX9_isSo 14 = .ok (.iload_n 2, 1) := dTa tdX9_isSo_0 8 rfl
theorem dX9_isSo_15 : decode cX9_isSo 15 = .ok (.if_icmp .ne 7, 3) := dTa tdX9_isSo_0 9 rfl
theorem dX9_isSo_18 : decode cX9_isSo 18 = .ok (.iconst 1, 1) := dTa tdX9_isSo_0 10 rfl
theorem dX9_isSo_19 : decode cX9_isSo 19 = .ok (.goto 4, 3) := dTa tdX9_isSo_0 11 rfl
theorem dX9_isSo_22 : decode cX9_isSo 22 = .ok (.iconst 0, 1) := dTa tdX9_isSo_0 12 rfl
theorem dX9_isSo_23 : decode cX9_isSo 23 = .ok (.ireturn, 1) := dTa tdX9_isSo_0 13 rfl
set_option maxRecDepth 100000 in
theorem tdX9_keepsAct_0 : dTb cX9_keepsAct [(0, .aload_n 0, 1), (1, .getfield 299, 3), (4, .bipush 20, 2), (6, .if_icmp .ne 44, 3), (9, .bipush 13, 2), (11, .istore_n 1, 1), (12, .iload_n 1, 1), (13, .sipush 260, 3), (16, .if_icmp .ge 24, 3), (19, .aload_n 0, 1), (20, .getfield 100, 3), (23, .iload_n 1, 1), (24, .bipush 13, 2), (26, .isub, 1), (27, .aload_n 0, 1), (28, .getfield 100, 3), (31, .iload_n 1, 1), (32, .iaload, 1), (33, .iastore, 1), (34, .iinc 1 1, 3), (37, .goto (-25), 3), (40, .aload_n 0, 1), (41, .dup, 1), (42, .getfield 299, 3), (45, .iconst 1, 1), (46, .isub, 1), (47, .putfield 299, 3), (50, .aload_n 0, 1), (51, .aload_n 0, 1), (52, .getfield 299, 3), (55, .iconst 0, 1), (56, .invokevirtual 400, 3), (59, .aload_n 0, 1), (60, .dup, 1), (61, .getfield 299, 3), (64, .iconst 1, 1), (65, .iadd, 1), (66, .putfield 299, 3), (69, .return_, 1)] = true := by decide +kernel
theorem dX9_keepsAct_0 : decode cX9_keepsAct 0 = .ok (.aload_n 0, 1) := dTa tdX9_keepsAct_0 0 rfl
theorem dX9_keepsAct_1 : decode cX9_keepsAct 1 = .ok (.getfield 299, 3) := dTa tdX9_keepsAct_0 1 rfl
theorem dX9_keepsAct_4 : decode cX9_keepsAct 4 = .ok (.bipush 20, 2) := dTa tdX9_keepsAct_0 2 rfl
theorem dX9_keepsAct_6 : decode cX9_keepsAct 6 = .ok (.if_icmp .ne 44, 3) := dTa tdX9_keepsAct_0 3 rfl
theorem dX9_keepsAct_9 : decode cX9_keepsAct 9 = .ok (.bipush 13, 2) := dTa tdX9_keepsAct_0 4 rfl
theorem dX9_keepsAct_11 : decode cX9_keepsAct 11 = .ok (.istore_n 1, 1) := dTa tdX9_keepsAct_0 5 rfl
theorem dX9_keepsAct_12 : decode cX9_keepsAct 12 = .ok (.iload_n 1, 1) := dTa tdX9_keepsAct_0 6 rfl
theorem dX9_keepsAct_13 : decode cX9_keepsAct 13 = .ok (.sipush 260, 3) := dTa tdX9_keepsAct_0 7 rfl
theorem dX9_keepsAct_16 : decode cX9_keepsAct 16 = .ok (.if_icmp .ge 24, 3) := dTa tdX9_keepsAct_0 8 rfl
theorem dX9_keepsAct_19 : decode cX9_keepsAct 19 = .ok (.aload_n 0, 1) := dTa tdX9_keepsAct_0 9 rfl
theorem dX9_keepsAct_20 : decode cX9_keepsAct 20 = .ok (.getfield 100, 3) := dTa tdX9_keepsAct_0 10 rfl
theorem dX9_keepsAct_23 : decode cX9_keepsAct 23 = .ok (.iload_n 1, 1) := dTa tdX9_keepsAct_0 11 rfl
theorem dX9_keepsAct_24 : decode cX9_keepsAct 24 = .ok (.bipush 13, 2) := dTa tdX9_keepsAct_0 12 rfl
theorem dX9_keepsAct_26 : decode cX9_keepsAct 26 = .ok (.isub, 1) := dTa tdX9_keepsAct_0 13 rfl
theorem dX9_keepsAct_27 : decode cX9_keepsAct 27 = .ok (.aload_n 0, 1) := dTa tdX9_keepsAct_0 14 rfl
theorem dX9_keepsAct_28 : decode cX9_keepsAct 28 = .ok (.getfield 100, 3) := dTa tdX9_keepsAct_0 15 rfl
theorem dX9_keepsAct_31 : decode cX9_keepsAct 31 = .ok (.iload_n 1, 1) := dTa tdX9_keepsAct_0 16 rfl
theorem dX9_keepsAct_32 : decode cX9_keepsAct 32 = .ok (.iaload, 1) := dTa tdX9_keepsAct_0 17 rfl
theorem dX9_keepsAct_33 : decode cX9_keepsAct 33 = .ok (.iastore, 1) := dTa tdX9_keepsAct_0 18 rfl
theorem dX9_keepsAct_34 : decode cX9_keepsAct 34 = .ok (.iinc 1 1, 3) := dTa tdX9_keepsAct_0 19 rfl
theorem dX9_keepsAct_37 : decode cX9_keepsAct 37 = .ok (.goto (-25), 3) := dTa tdX9_keepsAct_0 20 rfl
theorem dX9_keepsAct_40 : decode cX9_keepsAct 40 = .ok (.aload_n 0, 1) := dTa tdX9_keepsAct_0 21 rfl
theorem dX9_keepsAct_41 : decode cX9_keepsAct 41 = .ok (.dup, 1) := dTa tdX9_keepsAct_0 22 rfl
theorem dX9_keepsAct_42 : decode cX9_keepsAct 42 = .ok (.getfield 299, 3) := dTa tdX9_keepsAct_0 23 rfl
theorem dX9_keepsAct_45 : decode cX9_keepsAct 45 = .ok (.iconst 1, 1) := dTa tdX9_keepsAct_0 24 rfl
theorem dX9_keepsAct_46 : decode cX9_keepsAct 46 = .ok (.isub, 1) := dTa tdX9_keepsAct_0 25 rfl
theorem dX9_keepsAct_47 : decode cX9_keepsAct 47 = .ok (.putfield 299, 3) := dTa tdX9_keepsAct_0 26 rfl
theorem dX9_keepsAct_50 : decode cX9_keepsAct 50 = .ok (.aload_n 0, 1) := dTa tdX9_keepsAct_0 27 rfl
theorem dX9_keepsAct_51 : decode cX9_keepsAct 51 = .ok (.aload_n 0, 1) := dTa tdX9_keepsAct_0 28 rfl
theorem dX9_keepsAct_52 : decode cX9_keepsAct 52 = .ok (.getfield 299, 3) := dTa tdX9_keepsAct_0 29 rfl
theorem dX9_keepsAct_55 : decode cX9_keepsAct 55 = .ok (.iconst 0, 1) := dTa tdX9_keepsAct_0 30 rfl
theorem dX9_keepsAct_56 : decode cX9_keepsAct 56 = .ok (.invokevirtual 400, 3) := dTa tdX9_keepsAct_0 31 rfl
theorem dX9_keepsAct_59 : decode cX9_keepsAct 59 = .ok (.aload_n 0, 1) := dTa tdX9_keepsAct_0 32 rfl
theorem dX9_keepsAct_60 : decode cX9_keepsAct 60 = .ok (.dup, 1) := dTa tdX9_keepsAct_0 33 rfl
theorem dX9_keepsAct_61 : decode cX9_keepsAct 61 = .ok (.getfield 299, 3) := dTa tdX9_keepsAct_0 34 rfl
theorem dX9_keepsAct_64 : decode cX9_keepsAct 64 = .ok (.iconst 1, 1) := dTa tdX9_keepsAct_0 35 rfl
theorem dX9_keepsAct_65 : decode cX9_keepsAct 65 = .ok (.iadd, 1) := dTa tdX9_keepsAct_0 36 rfl
theorem dX9_keepsAct_66 : decode cX9_keepsAct 66 = .ok (.putfield 299, 3) := dTa tdX9_keepsAct_0 37 rfl
theorem dX9_keepsAct_69 : decode cX9_keepsAct 69 = .ok (.return_, 1) := dTa tdX9_keepsAct_0 38 rfl
set_option maxRecDepth 100000 in
theorem tdX9_keepsAll_0 : dTb cX9_keepsAll [(0, .aload_n 0, 1), (1, .iconst 4, 1), (2, .iconst 0, 1), (3, .invokevirtual 415, 3), (6, .return_, 1)] = true := by decide +kernel
theorem dX9_keepsAll_0 : decode cX9_keepsAll 0 = .ok (.aload_n 0, 1) := dTa tdX9_keepsAll_0 0 rfl
theorem dX9_keepsAll_1 : decode cX9_keepsAll 1 = .ok (.iconst 4, 1) := dTa tdX9_keepsAll_0 1 rfl
theorem dX9_keepsAll_2 : decode cX9_keepsAll 2 = .ok (.iconst 0, 1) := dTa tdX9_keepsAll_0 2 rfl
theorem dX9_keepsAll_3 : decode cX9_keepsAll 3 = .ok (.invokevirtual 415, 3) := dTa tdX9_keepsAll_0 3 rfl
theorem dX9_keepsAll_6 : decode cX9_keepsAll 6 = .ok (.return_, 1) := dTa tdX9_keepsAll_0 4 rfl
set_option maxRecDepth 100000 in
theorem tdX9_laysBack_0 : dTb cX9_laysBack [(0, .aload_n 0, 1), (1, .iconst 4, 1), (2, .iconst 1, 1), (3, .invokevirtual 415, 3), (6, .return_, 1)] = true := by decide +kernel
theorem dX9_laysBack_0 : decode cX9_laysBack 0 = .ok (.aload_n 0, 1) := dTa tdX9_laysBack_0 0 rfl
theorem dX9_laysBack_1 : decode cX9_laysBack 1 = .ok (.iconst 4, 1) := dTa tdX9_laysBack_0 1 rfl
theorem dX9_laysBack_2 : decode cX9_laysBack 2 = .ok (.iconst 1, 1) := dTa tdX9_laysBack_0 2 rfl
theorem dX9_laysBack_3 : decode cX9_laysBack 3 = .ok (.invokevirtual 415, 3) := dTa tdX9_laysBack_0 3 rfl
theorem dX9_laysBack_6 : decode cX9_laysBack 6 = .ok (.return_, 1) := dTa tdX9_laysBack_0 4 rfl
set_option maxRecDepth 100000 in
theorem tdX9_let_0 : dTb cX9_let [(0, .aload_n 0, 1), (1, .iload_n 1, 1), (2, .invokevirtual 347, 3), (5, .ifCond .eq 25, 3), (8, .iload_n 2, 1), (9, .i2l, 1), (10, .lconst 0, 1), (11, .ldc2_w 413, 3), (14, .invokestatic 131, 3), (17, .ifCond .eq 13, 3), (20, .aload_n 0, 1), (21, .getfield 13, 3), (24, .iload_n 1, 1), (25, .iaload, 1), (26, .iload_n 2, 1), (27, .if_icmp .ne 5, 3), (30, .iconst (-1), 1), (31, .ireturn, 1), (32, .aload_n 0, 1), (33, .invokevirtual 407, 3), (36, .aload_n 0, 1), (37, .getfield 13, 3), (40, .iload_n 1, 1), (41, .iload_n 2, 1), (42, .iastore, 1), (43, .aload_n 0, 1), (44, .invokevirtual 380, 3), (47, .ireturn, 1)] = true := by decide +kernel
theorem dX9_let_0 : decode cX9_let 0 = .ok (.aload_n 0, 1) := dTa tdX9_let_0 0 rfl
theorem dX9_let_1 : decode cX9_let 1 = .ok (.iload_n 1, 1) := dTa tdX9_let_0 1 rfl
theorem dX9_let_2 : decode cX9_let 2 = .ok (.invokevirtual 347, 3) := dTa tdX9_let_0 2 rfl
theorem dX9_let_5 : decode cX9_let 5 = .ok (.ifCond .eq 25, 3) := dTa tdX9_let_0 3 rfl
theorem dX9_let_8 : decode cX9_let 8 = .ok (.iload_n 2, 1) := dTa tdX9_let_0 4 rfl
theorem dX9_let_9 : decode cX9_let 9 = .ok (.i2l, 1) := dTa tdX9_let_0 5 rfl
theorem dX9_let_10 : decode cX9_let 10 = .ok (.lconst 0, 1) := dTa tdX9_let_0 6 rfl
theorem dX9_let_11 : decode cX9_let 11 = .ok (.ldc2_w 413, 3) := dTa tdX9_let_0 7 rfl
theorem dX9_let_14 : decode cX9_let 14 = .ok (.invokestatic 131, 3) := dTa tdX9_let_0 8 rfl
theorem dX9_let_17 : decode cX9_let 17 = .ok (.ifCond .eq 13, 3) := dTa tdX9_let_0 9 rfl
theorem dX9_let_20 : decode cX9_let 20 = .ok (.aload_n 0, 1) := dTa tdX9_let_0 10 rfl
theorem dX9_let_21 : decode cX9_let 21 = .ok (.getfield 13, 3) := dTa tdX9_let_0 11 rfl
theorem dX9_let_24 : decode cX9_let 24 = .ok (.iload_n 1, 1) := dTa tdX9_let_0 12 rfl
theorem dX9_let_25 : decode cX9_let 25 = .ok (.iaload, 1) := dTa tdX9_let_0 13 rfl
theorem dX9_let_26 : decode cX9_let 26 = .ok (.iload_n 2, 1) := dTa tdX9_let_0 14 rfl
theorem dX9_let_27 : decode cX9_let 27 = .ok (.if_icmp .ne 5, 3) := dTa tdX9_let_0 15 rfl
theorem dX9_let_30 : decode cX9_let 30 = .ok (.iconst (-1), 1) := dTa tdX9_let_0 16 rfl
theorem dX9_let_31 : decode cX9_let 31 = .ok (.ireturn, 1) := dTa tdX9_let_0 17 rfl
theorem dX9_let_32 : decode cX9_let 32 = .ok (.aload_n 0, 1) := dTa tdX9_let_0 18 rfl
theorem dX9_let_33 : decode cX9_let 33 = .ok (.invokevirtual 407, 3) := dTa tdX9_let_0 19 rfl
theorem dX9_let_36 : decode cX9_let 36 = .ok (.aload_n 0, 1) := dTa tdX9_let_0 20 rfl
theorem dX9_let_37 : decode cX9_let 37 = .ok (.getfield 13, 3) := dTa tdX9_let_0 21 rfl
theorem dX9_let_40 : decode cX9_let 40 = .ok (.iload_n 1, 1) := dTa tdX9_let_0 22 rfl
theorem dX9_let_41 : decode cX9_let 41 = .ok (.iload_n 2, 1) := dTa tdX9_let_0 23 rfl
theorem dX9_let_42 : decode cX9_let 42 = .ok (.iastore, 1) := dTa tdX9_let_0 24 rfl
theorem dX9_let_43 : decode cX9_let 43 = .ok (.aload_n 0, 1) := dTa tdX9_let_0 25 rfl
theorem dX9_let_44 : decode cX9_let 44 = .ok (.invokevirtual 380, 3) := dTa tdX9_let_0 26 rfl
theorem dX9_let_47 : decode cX9_let 47 = .ok (.ireturn, 1) := dTa tdX9_let_0 27 rfl
set_option maxRecDepth 100000 in
theorem tdX9_minute_0 : dTb cX9_minute [(0, .aload_n 0, 1), (1, .invokevirtual 404, 3), (4, .ifCond .eq 15, 3), (7, .aload_n 0, 1), (8, .getfield 9, 3), (11, .iconst 4, 1), (12, .iaload, 1), (13, .sipush 999, 3), (16, .if_icmp .ne 5, 3), (19, .iconst (-1), 1), (20, .ireturn, 1), (21, .aload_n 0, 1), (22, .invokevirtual 407, 3), (25, .aload_n 0, 1), (26, .invokevirtual 383, 3), (29, .ireturn, 1)] = true := by decide +kernel
theorem dX9_minute_0 : decode cX9_minute 0 = .ok (.aload_n 0, 1) := dTa tdX9_minute_0 0 rfl
theorem dX9_minute_1 : decode cX9_minute 1 = .ok (.invokevirtual 404, 3) := dTa tdX9_minute_0 1 rfl
theorem dX9_minute_4 : decode cX9_minute 4 = .ok (.ifCond .eq 15, 3) := dTa tdX9_minute_0 2 rfl
theorem dX9_minute_7 : decode cX9_minute 7 = .ok (.aload_n 0, 1) := dTa tdX9_minute_0 3 rfl
theorem dX9_minute_8 : decode cX9_minute 8 = .ok (.getfield 9, 3) := dTa tdX9_minute_0 4 rfl
theorem dX9_minute_11 : decode cX9_minute 11 = .ok (.iconst 4, 1) := dTa tdX9_minute_0 5 rfl
theorem dX9_minute_12 : decode cX9_minute 12 = .ok (.iaload, 1) := dTa tdX9_minute_0 6 rfl
theorem dX9_minute_13 : decode cX9_minute 13 = .ok (.sipush 999, 3) := dTa tdX9_minute_0 7 rfl
theorem dX9_minute_16 : decode cX9_minute 16 = .ok (.if_icmp .ne 5, 3) := dTa tdX9_minute_0 8 rfl
theorem dX9_minute_19 : decode cX9_minute 19 = .ok (.iconst (-1), 1) := dTa tdX9_minute_0 9 rfl
theorem dX9_minute_20 : decode cX9_minute 20 = .ok (.ireturn, 1) := dTa tdX9_minute_0 10 rfl
theorem dX9_minute_21 : decode cX9_minute 21 = .ok (.aload_n 0, 1) := dTa tdX9_minute_0 11 rfl
theorem dX9_minute_22 : decode cX9_minute 22 = .ok (.invokevirtual 407, 3) := dTa tdX9_minute_0 12 rfl
theorem dX9_minute_25 : decode cX9_minute 25 = .ok (.aload_n 0, 1) := dTa tdX9_minute_0 13 rfl
theorem dX9_minute_26 : decode cX9_minute 26 = .ok (.invokevirtual 383, 3) := dTa tdX9_minute_0 14 rfl
theorem dX9_minute_29 : decode cX9_minute 29 = .ok (.ireturn, 1) := dTa tdX9_minute_0 15 rfl
set_option maxRecDepth 100000 in
theorem tdX9_most_0 : dTb cX9_most [(0, .aload_n 0, 1), (1, .iload_n 1, 1), (2, .invokevirtual 347, 3), (5, .ifCond .ne 5, 3), (8, .iconst (-1), 1), (9, .ireturn, 1), (10, .aload_n 0, 1), (11, .getfield 13, 3), (14, .iload_n 1, 1), (15, .iaload, 1), (16, .istore_n 2, 1), (17, .aload_n 0, 1), (18, .iconst 1, 1), (19, .invokevirtual 341, 3), (22, .istore_n 3, 1), (23, .bipush (-2), 2), (25, .istore 4, 2), (27, .iconst 0, 1), (28, .istore 5, 2), (30, .iload 5, 2), (32, .bipush 99, 2), (34, .if_icmp .gt 34, 3), (37, .aload_n 0, 1), (38, .getfield 13, 3), (41, .iload_n 1, 1), (42, .iload 5, 2), (44, .iastore, 1), (45, .aload_n 0, 1), (46, .iload_n 3, 1), (47, .invokevirtual 367, 3), (50, .ifCond .ne 8, 3), (53, .iload 5, 2), (55, .goto 5, 3), (58, .iload 4, 2), (60, .istore 4, 2), (62, .iinc 5 1, 3), (65, .goto (-35), 3), (68, .aload_n 0, 1), (69, .getfield 13, 3), (72, .iload_n 1, 1)] = true := by decide +kernel
theorem dX9_most_0 : decode cX9_most 0 = .ok (.aload_n 0, 1) := dTa tdX9_most_0 0 rfl
theorem dX9_most_1 : decode cX9_most 1 = .ok (.iload_n 1, 1) := dTa tdX9_most_0 1 rfl
theorem dX9_most_2 : decode cX9_most 2 = .ok (.invokevirtual 347, 3) := dTa tdX9_most_0 2 rfl
theorem dX9_most_5 : decode cX9_most 5 = .ok (.ifCond .ne 5, 3) := dTa tdX9_most_0 3 rfl
theorem dX9_most_8 : decode cX9_most 8 = .ok (.iconst (-1), 1) := dTa tdX9_most_0 4 rfl
theorem dX9_most_9 : decode cX9_most 9 = .ok (.ireturn, 1) := dTa tdX9_most_0 5 rfl
theorem dX9_most_10 : decode cX9_most 10 = .ok (.aload_n 0, 1) := dTa tdX9_most_0 6 rfl
theorem dX9_most_11 : decode cX9_most 11 = .ok (.getfield 13, 3) := dTa tdX9_most_0 7 rfl
theorem dX9_most_14 : decode cX9_most 14 = .ok (.iload_n 1, 1) := dTa tdX9_most_0 8 rfl
theorem dX9_most_15 : decode cX9_most 15 = .ok (.iaload, 1) := dTa tdX9_most_0 9 rfl
theorem dX9_most_16 : decode cX9_most 16 = .ok (.istore_n 2, 1) := dTa tdX9_most_0 10 rfl
theorem dX9_most_17 : decode cX9_most 17 = .ok (.aload_n 0, 1) := dTa tdX9_most_0 11 rfl
theorem dX9_most_18 : decode cX9_most 18 = .ok (.iconst 1, 1) := dTa tdX9_most_0 12 rfl
theorem dX9_most_19 : decode cX9_most 19 = .ok (.invokevirtual 341, 3) := dTa tdX9_most_0 13 rfl
theorem dX9_most_22 : decode cX9_most 22 = .ok (.istore_n 3, 1) := dTa tdX9_most_0 14 rfl
theorem dX9_most_23 : decode cX9_most 23 = .ok (.bipush (-2), 2) := dTa tdX9_most_0 15 rfl
theorem dX9_most_25 : decode cX9_most 25 = .ok (.istore 4, 2) := dTa tdX9_most_0 16 rfl
theorem dX9_most_27 : decode cX9_most 27 = .ok (.iconst 0, 1) := dTa tdX9_most_0 17 rfl
theorem dX9_most_28 : decode cX9_most 28 = .ok (.istore 5, 2) := dTa tdX9_most_0 18 rfl
theorem dX9_most_30 : decode cX9_most 30 = .ok (.iload 5, 2) := dTa tdX9_most_0 19 rfl
theorem dX9_most_32 : decode cX9_most 32 = .ok (.bipush 99, 2) := dTa tdX9_most_0 20 rfl
theorem dX9_most_34 : decode cX9_most 34 = .ok (.if_icmp .gt 34, 3) := dTa tdX9_most_0 21 rfl
theorem dX9_most_37 : decode cX9_most 37 = .ok (.aload_n 0, 1) := dTa tdX9_most_0 22 rfl
theorem dX9_most_38 : decode cX9_most 38 = .ok (.getfield 13, 3) := dTa tdX9_most_0 23 rfl
theorem dX9_most_41 : decode cX9_most 41 = .ok (.iload_n 1, 1) := dTa tdX9_most_0 24 rfl
theorem dX9_most_42 : decode cX9_most 42 = .ok (.iload 5, 2) := dTa tdX9_most_0 25 rfl
theorem dX9_most_44 : decode cX9_most 44 = .ok (.iastore, 1) := dTa tdX9_most_0 26 rfl
theorem dX9_most_45 : decode cX9_most 45 = .ok (.aload_n 0, 1) := dTa tdX9_most_0 27 rfl
theorem dX9_most_46 : decode cX9_most 46 = .ok (.iload_n 3, 1) := dTa tdX9_most_0 28 rfl
theorem dX9_most_47 : decode cX9_most 47 = .ok (.invokevirtual 367, 3) := dTa tdX9_most_0 29 rfl
theorem dX9_most_50 : decode cX9_most 50 = .ok (.ifCond .ne 8, 3) := dTa tdX9_most_0 30 rfl
theorem dX9_most_53 : decode cX9_most 53 = .ok (.iload 5, 2) := dTa tdX9_most_0 31 rfl
theorem dX9_most_55 : decode cX9_most 55 = .ok (.goto 5, 3) := dTa tdX9_most_0 32 rfl
theorem dX9_most_58 : decode cX9_most 58 = .ok (.iload 4, 2) := dTa tdX9_most_0 33 rfl
theorem dX9_most_60 : decode cX9_most 60 = .ok (.istore 4, 2) := dTa tdX9_most_0 34 rfl
theorem dX9_most_62 : decode cX9_most 62 = .ok (.iinc 5 1, 3) := dTa tdX9_most_0 35 rfl
theorem dX9_most_65 : decode cX9_most 65 = .ok (.goto (-35), 3) := dTa tdX9_most_0 36 rfl
theorem dX9_most_68 : decode cX9_most 68 = .ok (.aload_n 0, 1) := dTa tdX9_most_0 37 rfl
theorem dX9_most_69 : decode cX9_most 69 = .ok (.getfield 13, 3) := dTa tdX9_most_0 38 rfl
theorem dX9_most_72 : decode cX9_most 72 = .ok (.iload_n 1, 1) := dTa tdX9_most_0 39 rfl
set_option maxRecDepth 100000 in
theorem tdX9_most_73 : dTb cX9_most [(73, .iload_n 2, 1), (74, .iastore, 1), (75, .iload 4, 2), (77, .ireturn, 1)] = true := by decide +kernel
theorem dX9_most_73 : decode cX9_most 73 = .ok (.iload_n 2, 1) := dTa tdX9_most_73 0 rfl
theorem dX9_most_74 : decode cX9_most 74 = .ok (.iastore, 1) := dTa tdX9_most_73 1 rfl
theorem dX9_most_75 : decode cX9_most 75 = .ok (.iload 4, 2) := dTa tdX9_most_73 2 rfl
theorem dX9_most_77 : decode cX9_most 77 = .ok (.ireturn, 1) := dTa tdX9_most_73 3 rfl
set_option maxRecDepth 100000 in
theorem tdX9_moves_0 : dTb cX9_moves [(0, .aload_n 0, 1), (1, .getfield 386, 3), (4, .ifCond .eq 15, 3), (7, .aload_n 0, 1), (8, .getfield 100, 3), (11, .aload_n 0, 1), (12, .getfield 390, 3), (15, .iaload, 1), (16, .goto 4, 3), (19, .iload_n 1, 1), (20, .istore_n 2, 1), (21, .aload_n 0, 1), (22, .getfield 100, 3), (25, .aload_n 0, 1), (26, .getfield 390, 3), (29, .iload_n 2, 1), (30, .iastore, 1), (31, .aload_n 0, 1), (32, .dup, 1), (33, .getfield 390, 3), (36, .iconst 1, 1), (37, .iadd, 1), (38, .putfield 390, 3), (41, .iload_n 2, 1), (42, .ireturn, 1)] = true := by decide +kernel
theorem dX9_moves_0 : decode cX9_moves 0 = .ok (.aload_n 0, 1) := dTa tdX9_moves_0 0 rfl
theorem dX9_moves_1 : decode cX9_moves 1 = .ok (.getfield 386, 3) := dTa tdX9_moves_0 1 rfl
theorem dX9_moves_4 : decode cX9_moves 4 = .ok (.ifCond .eq 15, 3) := dTa tdX9_moves_0 2 rfl
theorem dX9_moves_7 : decode cX9_moves 7 = .ok (.aload_n 0, 1) := dTa tdX9_moves_0 3 rfl
theorem dX9_moves_8 : decode cX9_moves 8 = .ok (.getfield 100, 3) := dTa tdX9_moves_0 4 rfl
theorem dX9_moves_11 : decode cX9_moves 11 = .ok (.aload_n 0, 1) := dTa tdX9_moves_0 5 rfl
theorem dX9_moves_12 : decode cX9_moves 12 = .ok (.getfield 390, 3) := dTa tdX9_moves_0 6 rfl
theorem dX9_moves_15 : decode cX9_moves 15 = .ok (.iaload, 1) := dTa tdX9_moves_0 7 rfl
theorem dX9_moves_16 : decode cX9_moves 16 = .ok (.goto 4, 3) := dTa tdX9_moves_0 8 rfl
theorem dX9_moves_19 : decode cX9_moves 19 = .ok (.iload_n 1, 1) := dTa tdX9_moves_0 9 rfl
theorem dX9_moves_20 : decode cX9_moves 20 = .ok (.istore_n 2, 1) := dTa tdX9_moves_0 10 rfl
theorem dX9_moves_21 : decode cX9_moves 21 = .ok (.aload_n 0, 1) := dTa tdX9_moves_0 11 rfl
theorem dX9_moves_22 : decode cX9_moves 22 = .ok (.getfield 100, 3) := dTa tdX9_moves_0 12 rfl
theorem dX9_moves_25 : decode cX9_moves 25 = .ok (.aload_n 0, 1) := dTa tdX9_moves_0 13 rfl
theorem dX9_moves_26 : decode cX9_moves 26 = .ok (.getfield 390, 3) := dTa tdX9_moves_0 14 rfl
theorem dX9_moves_29 : decode cX9_moves 29 = .ok (.iload_n 2, 1) := dTa tdX9_moves_0 15 rfl
theorem dX9_moves_30 : decode cX9_moves 30 = .ok (.iastore, 1) := dTa tdX9_moves_0 16 rfl
theorem dX9_moves_31 : decode cX9_moves 31 = .ok (.aload_n 0, 1) := dTa tdX9_moves_0 17 rfl
theorem dX9_moves_32 : decode cX9_moves 32 = .ok (.dup, 1) := dTa tdX9_moves_0 18 rfl
theorem dX9_moves_33 : decode cX9_moves 33 = .ok (.getfield 390, 3) := dTa tdX9_moves_0 19 rfl
theorem dX9_moves_36 : decode cX9_moves 36 = .ok (.iconst 1, 1) := dTa tdX9_moves_0 20 rfl
theorem dX9_moves_37 : decode cX9_moves 37 = .ok (.iadd, 1) := dTa tdX9_moves_0 21 rfl
theorem dX9_moves_38 : decode cX9_moves 38 = .ok (.putfield 390, 3) := dTa tdX9_moves_0 22 rfl
theorem dX9_moves_41 : decode cX9_moves 41 = .ok (.iload_n 2, 1) := dTa tdX9_moves_0 23 rfl
theorem dX9_moves_42 : decode cX9_moves 42 = .ok (.ireturn, 1) := dTa tdX9_moves_0 24 rfl
set_option maxRecDepth 100000 in
theorem tdX9_movesAll_0 : dTb cX9_movesAll [(0, .aload_n 0, 1), (1, .bipush 13, 2), (3, .iload_n 1, 1), (4, .imul, 1), (5, .putfield 390, 3), (8, .aload_n 0, 1), (9, .iload_n 2, 1), (10, .putfield 386, 3), (13, .aload_n 0, 1), (14, .getfield 9, 3), (17, .iconst 4, 1), (18, .aload_n 0, 1), (19, .aload_n 0, 1), (20, .getfield 9, 3), (23, .iconst 4, 1), (24, .iaload, 1), (25, .invokevirtual 393, 3), (28, .iastore, 1), (29, .aload_n 0, 1), (30, .aload_n 0, 1), (31, .getfield 13, 3), (34, .invokevirtual 396, 3), (37, .aload_n 0, 1), (38, .aload_n 0, 1), (39, .getfield 16, 3), (42, .invokevirtual 396, 3), (45, .return_, 1)] = true := by decide +kernel
theorem dX9_movesAll_0 : decode cX9_movesAll 0 = .ok (.aload_n 0, 1) := dTa tdX9_movesAll_0 0 rfl
theorem dX9_movesAll_1 : decode cX9_movesAll 1 = .ok (.bipush 13, 2) := dTa tdX9_movesAll_0 1 rfl
theorem dX9_movesAll_3 : decode cX9_movesAll 3 = .ok (.iload_n 1, 1) := dTa tdX9_movesAll_0 2 rfl
theorem dX9_movesAll_4 : decode cX9_movesAll 4 = .ok (.imul, 1) := dTa tdX9_movesAll_0 3 rfl
theorem dX9_movesAll_5 : decode cX9_movesAll 5 = .ok (.putfield 390, 3) := dTa tdX9_movesAll_0 4 rfl
theorem dX9_movesAll_8 : decode cX9_movesAll 8 = .ok (.aload_n 0, 1) := dTa tdX9_movesAll_0 5 rfl
theorem dX9_movesAll_9 : decode cX9_movesAll 9 = .ok (.iload_n 2, 1) := dTa tdX9_movesAll_0 6 rfl
theorem dX9_movesAll_10 : decode cX9_movesAll 10 = .ok (.putfield 386, 3) := dTa tdX9_movesAll_0 7 rfl
theorem dX9_movesAll_13 : decode cX9_movesAll 13 = .ok (.aload_n 0, 1) := dTa tdX9_movesAll_0 8 rfl
theorem dX9_movesAll_14 : decode cX9_movesAll 14 = .ok (.getfield 9, 3) := dTa tdX9_movesAll_0 9 rfl
theorem dX9_movesAll_17 : decode cX9_movesAll 17 = .ok (.iconst 4, 1) := dTa tdX9_movesAll_0 10 rfl
theorem dX9_movesAll_18 : decode cX9_movesAll 18 = .ok (.aload_n 0, 1) := dTa tdX9_movesAll_0 11 rfl
theorem dX9_movesAll_19 : decode cX9_movesAll 19 = .ok (.aload_n 0, 1) := dTa tdX9_movesAll_0 12 rfl
theorem dX9_movesAll_20 : decode cX9_movesAll 20 = .ok (.getfield 9, 3) := dTa tdX9_movesAll_0 13 rfl
theorem dX9_movesAll_23 : decode cX9_movesAll 23 = .ok (.iconst 4, 1) := dTa tdX9_movesAll_0 14 rfl
theorem dX9_movesAll_24 : decode cX9_movesAll 24 = .ok (.iaload, 1) := dTa tdX9_movesAll_0 15 rfl
theorem dX9_movesAll_25 : decode cX9_movesAll 25 = .ok (.invokevirtual 393, 3) := dTa tdX9_movesAll_0 16 rfl
theorem dX9_movesAll_28 : decode cX9_movesAll 28 = .ok (.iastore, 1) := dTa tdX9_movesAll_0 17 rfl
theorem dX9_movesAll_29 : decode cX9_movesAll 29 = .ok (.aload_n 0, 1) := dTa tdX9_movesAll_0 18 rfl
theorem dX9_movesAll_30 : decode cX9_movesAll 30 = .ok (.aload_n 0, 1) := dTa tdX9_movesAll_0 19 rfl
theorem dX9_movesAll_31 : decode cX9_movesAll 31 = .ok (.getfield 13, 3) := dTa tdX9_movesAll_0 20 rfl
theorem dX9_movesAll_34 : decode cX9_movesAll 34 = .ok (.invokevirtual 396, 3) := dTa tdX9_movesAll_0 21 rfl
theorem dX9_movesAll_37 : decode cX9_movesAll 37 = .ok (.aload_n 0, 1) := dTa tdX9_movesAll_0 22 rfl
theorem dX9_movesAll_38 : decode cX9_movesAll 38 = .ok (.aload_n 0, 1) := dTa tdX9_movesAll_0 23 rfl
theorem dX9_movesAll_39 : decode cX9_movesAll 39 = .ok (.getfield 16, 3) := dTa tdX9_movesAll_0 24 rfl
theorem dX9_movesAll_42 : decode cX9_movesAll 42 = .ok (.invokevirtual 396, 3) := dTa tdX9_movesAll_0 25 rfl
theorem dX9_movesAll_45 : decode cX9_movesAll 45 = .ok (.return_, 1) := dTa tdX9_movesAll_0 26 rfl
set_option maxRecDepth 100000 in
theorem tdX9_movesRow_0 : dTb cX9_movesRow [(0, .iconst 0, 1), (1, .istore_n 2, 1), (2, .iload_n 2, 1), (3, .aload_n 1, 1), (4, .arraylength, 1), (5, .if_icmp .ge 19, 3), (8, .aload_n 1, 1), (9, .iload_n 2, 1), (10, .aload_n 0, 1), (11, .aload_n 1, 1), (12, .iload_n 2, 1), (13, .iaload, 1), (14, .invokevirtual 393, 3), (17, .iastore, 1), (18, .iinc 2 1, 3), (21, .goto (-19), 3), (24, .return_, 1)] = true := by decide +kernel
theorem dX9_movesRow_0 : decode cX9_movesRow 0 = .ok (.iconst 0, 1) := dTa tdX9_movesRow_0 0 rfl
theorem dX9_movesRow_1 : decode cX9_movesRow 1 = .ok (.istore_n 2, 1) := dTa tdX9_movesRow_0 1 rfl
theorem dX9_movesRow_2 : decode cX9_movesRow 2 = .ok (.iload_n 2, 1) := dTa tdX9_movesRow_0 2 rfl
theorem dX9_movesRow_3 : decode cX9_movesRow 3 = .ok (.aload_n 1, 1) := dTa tdX9_movesRow_0 3 rfl
theorem dX9_movesRow_4 : decode cX9_movesRow 4 = .ok (.arraylength, 1) := dTa tdX9_movesRow_0 4 rfl
theorem dX9_movesRow_5 : decode cX9_movesRow 5 = .ok (.if_icmp .ge 19, 3) := dTa tdX9_movesRow_0 5 rfl
theorem dX9_movesRow_8 : decode cX9_movesRow 8 = .ok (.aload_n 1, 1) := dTa tdX9_movesRow_0 6 rfl
theorem dX9_movesRow_9 : decode cX9_movesRow 9 = .ok (.iload_n 2, 1) := dTa tdX9_movesRow_0 7 rfl
theorem dX9_movesRow_10 : decode cX9_movesRow 10 = .ok (.aload_n 0, 1) := dTa tdX9_movesRow_0 8 rfl
theorem dX9_movesRow_11 : decode cX9_movesRow 11 = .ok (.aload_n 1, 1) := dTa tdX9_movesRow_0 9 rfl
theorem dX9_movesRow_12 : decode cX9_movesRow 12 = .ok (.iload_n 2, 1) := dTa tdX9_movesRow_0 10 rfl
theorem dX9_movesRow_13 : decode cX9_movesRow 13 = .ok (.iaload, 1) := dTa tdX9_movesRow_0 11 rfl
theorem dX9_movesRow_14 : decode cX9_movesRow 14 = .ok (.invokevirtual 393, 3) := dTa tdX9_movesRow_0 12 rfl
theorem dX9_movesRow_17 : decode cX9_movesRow 17 = .ok (.iastore, 1) := dTa tdX9_movesRow_0 13 rfl
theorem dX9_movesRow_18 : decode cX9_movesRow 18 = .ok (.iinc 2 1, 3) := dTa tdX9_movesRow_0 14 rfl
theorem dX9_movesRow_21 : decode cX9_movesRow 21 = .ok (.goto (-19), 3) := dTa tdX9_movesRow_0 15 rfl
theorem dX9_movesRow_24 : decode cX9_movesRow 24 = .ok (.return_, 1) := dTa tdX9_movesRow_0 16 rfl
set_option maxRecDepth 100000 in
theorem tdX9_nextOf_0 : dTb cX9_nextOf [(0, .iconst 0, 1), (1, .istore_n 2, 1), (2, .iload_n 2, 1), (3, .aload_n 0, 1), (4, .getfield 9, 3), (7, .iconst 3, 1), (8, .iaload, 1), (9, .if_icmp .ge 44, 3), (12, .iload_n 1, 1), (13, .iconst 1, 1), (14, .iload_n 2, 1), (15, .ishl, 1), (16, .iconst (-1), 1), (17, .ixor, 1), (18, .iand, 1), (19, .istore_n 3, 1), (20, .iload_n 1, 1), (21, .iload_n 2, 1), (22, .invokestatic 332, 3), (25, .ifCond .eq 22, 3), (28, .aload_n 0, 1), (29, .iload_n 3, 1), (30, .invokevirtual 367, 3), (33, .ifCond .ne 14, 3), (36, .aload_n 0, 1), (37, .getfield 106, 3), (40, .iload_n 3, 1), (41, .baload, 1), (42, .ifCond .eq 5, 3), (45, .iload_n 2, 1), (46, .ireturn, 1), (47, .iinc 2 1, 3), (50, .goto (-48), 3), (53, .iconst (-1), 1), (54, .ireturn, 1)] = true := by decide +kernel
theorem dX9_nextOf_0 : decode cX9_nextOf 0 = .ok (.iconst 0, 1) := dTa tdX9_nextOf_0 0 rfl
theorem dX9_nextOf_1 : decode cX9_nextOf 1 = .ok (.istore_n 2, 1) := dTa tdX9_nextOf_0 1 rfl
theorem dX9_nextOf_2 : decode cX9_nextOf 2 = .ok (.iload_n 2, 1) := dTa tdX9_nextOf_0 2 rfl
theorem dX9_nextOf_3 : decode cX9_nextOf 3 = .ok (.aload_n 0, 1) := dTa tdX9_nextOf_0 3 rfl
theorem dX9_nextOf_4 : decode cX9_nextOf 4 = .ok (.getfield 9, 3) := dTa tdX9_nextOf_0 4 rfl
theorem dX9_nextOf_7 : decode cX9_nextOf 7 = .ok (.iconst 3, 1) := dTa tdX9_nextOf_0 5 rfl
theorem dX9_nextOf_8 : decode cX9_nextOf 8 = .ok (.iaload, 1) := dTa tdX9_nextOf_0 6 rfl
theorem dX9_nextOf_9 : decode cX9_nextOf 9 = .ok (.if_icmp .ge 44, 3) := dTa tdX9_nextOf_0 7 rfl
theorem dX9_nextOf_12 : decode cX9_nextOf 12 = .ok (.iload_n 1, 1) := dTa tdX9_nextOf_0 8 rfl
theorem dX9_nextOf_13 : decode cX9_nextOf 13 = .ok (.iconst 1, 1) := dTa tdX9_nextOf_0 9 rfl
theorem dX9_nextOf_14 : decode cX9_nextOf 14 = .ok (.iload_n 2, 1) := dTa tdX9_nextOf_0 10 rfl
theorem dX9_nextOf_15 : decode cX9_nextOf 15 = .ok (.ishl, 1) := dTa tdX9_nextOf_0 11 rfl
theorem dX9_nextOf_16 : decode cX9_nextOf 16 = .ok (.iconst (-1), 1) := dTa tdX9_nextOf_0 12 rfl
theorem dX9_nextOf_17 : decode cX9_nextOf 17 = .ok (.ixor, 1) := dTa tdX9_nextOf_0 13 rfl
theorem dX9_nextOf_18 : decode cX9_nextOf 18 = .ok (.iand, 1) := dTa tdX9_nextOf_0 14 rfl
theorem dX9_nextOf_19 : decode cX9_nextOf 19 = .ok (.istore_n 3, 1) := dTa tdX9_nextOf_0 15 rfl
theorem dX9_nextOf_20 : decode cX9_nextOf 20 = .ok (.iload_n 1, 1) := dTa tdX9_nextOf_0 16 rfl
theorem dX9_nextOf_21 : decode cX9_nextOf 21 = .ok (.iload_n 2, 1) := dTa tdX9_nextOf_0 17 rfl
theorem dX9_nextOf_22 : decode cX9_nextOf 22 = .ok (.invokestatic 332, 3) := dTa tdX9_nextOf_0 18 rfl
theorem dX9_nextOf_25 : decode cX9_nextOf 25 = .ok (.ifCond .eq 22, 3) := dTa tdX9_nextOf_0 19 rfl
theorem dX9_nextOf_28 : decode cX9_nextOf 28 = .ok (.aload_n 0, 1) := dTa tdX9_nextOf_0 20 rfl
theorem dX9_nextOf_29 : decode cX9_nextOf 29 = .ok (.iload_n 3, 1) := dTa tdX9_nextOf_0 21 rfl
theorem dX9_nextOf_30 : decode cX9_nextOf 30 = .ok (.invokevirtual 367, 3) := dTa tdX9_nextOf_0 22 rfl
theorem dX9_nextOf_33 : decode cX9_nextOf 33 = .ok (.ifCond .ne 14, 3) := dTa tdX9_nextOf_0 23 rfl
theorem dX9_nextOf_36 : decode cX9_nextOf 36 = .ok (.aload_n 0, 1) := dTa tdX9_nextOf_0 24 rfl
theorem dX9_nextOf_37 : decode cX9_nextOf 37 = .ok (.getfield 106, 3) := dTa tdX9_nextOf_0 25 rfl
theorem dX9_nextOf_40 : decode cX9_nextOf 40 = .ok (.iload_n 3, 1) := dTa tdX9_nextOf_0 26 rfl
theorem dX9_nextOf_41 : decode cX9_nextOf 41 = .ok (.baload, 1) := dTa tdX9_nextOf_0 27 rfl
theorem dX9_nextOf_42 : decode cX9_nextOf 42 = .ok (.ifCond .eq 5, 3) := dTa tdX9_nextOf_0 28 rfl
theorem dX9_nextOf_45 : decode cX9_nextOf 45 = .ok (.iload_n 2, 1) := dTa tdX9_nextOf_0 29 rfl
theorem dX9_nextOf_46 : decode cX9_nextOf 46 = .ok (.ireturn, 1) := dTa tdX9_nextOf_0 30 rfl
theorem dX9_nextOf_47 : decode cX9_nextOf 47 = .ok (.iinc 2 1, 3) := dTa tdX9_nextOf_0 31 rfl
theorem dX9_nextOf_50 : decode cX9_nextOf 50 = .ok (.goto (-48), 3) := dTa tdX9_nextOf_0 32 rfl
theorem dX9_nextOf_53 : decode cX9_nextOf 53 = .ok (.iconst (-1), 1) := dTa tdX9_nextOf_0 33 rfl
theorem dX9_nextOf_54 : decode cX9_nextOf 54 = .ok (.ireturn, 1) := dTa tdX9_nextOf_0 34 rfl
set_option maxRecDepth 100000 in
theorem tdX9_rise_0 : dTb cX9_rise [(0, .aload_n 0, 1), (1, .iload_n 1, 1), (2, .iconst 1, 1), (3, .invokevirtual 410, 3), (6, .ifCond .ne 5, 3), (9, .iconst (-1), 1), (10, .ireturn, 1), (11, .aload_n 0, 1), (12, .invokevirtual 407, 3), (15, .aload_n 0, 1), (16, .getfield 16, 3), (19, .iload_n 1, 1), (20, .iconst 0, 1), (21, .iastore, 1), (22, .aload_n 0, 1), (23, .invokevirtual 380, 3), (26, .ireturn, 1)] = true := by decide +kernel
theorem dX9_rise_0 : decode cX9_rise 0 = .ok (.aload_n 0, 1) := dTa tdX9_rise_0 0 rfl
theorem dX9_rise_1 : decode cX9_rise 1 = .ok (.iload_n 1, 1) := dTa tdX9_rise_0 1 rfl
theorem dX9_rise_2 : decode cX9_rise 2 = .ok (.iconst 1, 1) := dTa tdX9_rise_0 2 rfl
theorem dX9_rise_3 : decode cX9_rise 3 = .ok (.invokevirtual 410, 3) := dTa tdX9_rise_0 3 rfl
theorem dX9_rise_6 : decode cX9_rise 6 = .ok (.ifCond .ne 5, 3) := dTa tdX9_rise_0 4 rfl
theorem dX9_rise_9 : decode cX9_rise 9 = .ok (.iconst (-1), 1) := dTa tdX9_rise_0 5 rfl
theorem dX9_rise_10 : decode cX9_rise 10 = .ok (.ireturn, 1) := dTa tdX9_rise_0 6 rfl
theorem dX9_rise_11 : decode cX9_rise 11 = .ok (.aload_n 0, 1) := dTa tdX9_rise_0 7 rfl
theorem dX9_rise_12 : decode cX9_rise 12 = .ok (.invokevirtual 407, 3) := dTa tdX9_rise_0 8 rfl
theorem dX9_rise_15 : decode cX9_rise 15 = .ok (.aload_n 0, 1) := dTa tdX9_rise_0 9 rfl
theorem dX9_rise_16 : decode cX9_rise 16 = .ok (.getfield 16, 3) := dTa tdX9_rise_0 10 rfl
theorem dX9_rise_19 : decode cX9_rise 19 = .ok (.iload_n 1, 1) := dTa tdX9_rise_0 11 rfl
theorem dX9_rise_20 : decode cX9_rise 20 = .ok (.iconst 0, 1) := dTa tdX9_rise_0 12 rfl
theorem dX9_rise_21 : decode cX9_rise 21 = .ok (.iastore, 1) := dTa tdX9_rise_0 13 rfl
theorem dX9_rise_22 : decode cX9_rise 22 = .ok (.aload_n 0, 1) := dTa tdX9_rise_0 14 rfl
theorem dX9_rise_23 : decode cX9_rise 23 = .ok (.invokevirtual 380, 3) := dTa tdX9_rise_0 15 rfl
theorem dX9_rise_26 : decode cX9_rise 26 = .ok (.ireturn, 1) := dTa tdX9_rise_0 16 rfl
set_option maxRecDepth 100000 in
theorem tdX9_sit_0 : dTb cX9_sit [(0, .aload_n 0, 1), (1, .iload_n 1, 1), (2, .iconst 0, 1), (3, .invokevirtual 410, 3), (6, .ifCond .ne 5, 3), (9, .iconst (-1), 1), (10, .ireturn, 1), (11, .aload_n 0, 1), (12, .invokevirtual 407, 3), (15, .aload_n 0, 1), (16, .getfield 16, 3), (19, .iload_n 1, 1), (20, .iconst 1, 1), (21, .iastore, 1), (22, .aload_n 0, 1), (23, .invokevirtual 380, 3), (26, .ireturn, 1)] = true := by decide +kernel
theorem dX9_sit_0 : decode cX9_sit 0 = .ok (.aload_n 0, 1) := dTa tdX9_sit_0 0 rfl
theorem dX9_sit_1 : decode cX9_sit 1 = .ok (.iload_n 1, 1) := dTa tdX9_sit_0 1 rfl
theorem dX9_sit_2 : decode cX9_sit 2 = .ok (.iconst 0, 1) := dTa tdX9_sit_0 2 rfl
theorem dX9_sit_3 : decode cX9_sit 3 = .ok (.invokevirtual 410, 3) := dTa tdX9_sit_0 3 rfl
theorem dX9_sit_6 : decode cX9_sit 6 = .ok (.ifCond .ne 5, 3) := dTa tdX9_sit_0 4 rfl
theorem dX9_sit_9 : decode cX9_sit 9 = .ok (.iconst (-1), 1) := dTa tdX9_sit_0 5 rfl
theorem dX9_sit_10 : decode cX9_sit 10 = .ok (.ireturn, 1) := dTa tdX9_sit_0 6 rfl
theorem dX9_sit_11 : decode cX9_sit 11 = .ok (.aload_n 0, 1) := dTa tdX9_sit_0 7 rfl
