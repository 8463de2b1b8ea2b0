/-! 26, 1 -/
theorem dX9_sit_12 : decode cX9_sit 12 = .ok (.invokevirtual 407, 3) := dTa tdX9_sit_0 8 rfl
theorem dX9_sit_15 : decode cX9_sit 15 = .ok (.aload_n 0, 1) := dTa tdX9_sit_0 9 rfl
theorem dX9_sit_16 : decode cX9_sit 16 = .ok (.getfield 16, 3) := dTa tdX9_sit_0 10 rfl
theorem dX9_sit_19 : decode cX9_sit 19 = .ok (.iload_n 1, 1) := dTa tdX9_sit_0 11 rfl
theorem dX9_sit_20 : decode cX9_sit 20 = .ok (.iconst 1, 1) := dTa tdX9_sit_0 12 rfl
theorem dX9_sit_21 : decode cX9_sit 21 = .ok (.iastore, 1) := dTa tdX9_sit_0 13 rfl
theorem dX9_sit_22 : decode cX9_sit 22 = .ok (.aload_n 0, 1) := dTa tdX9_sit_0 14 rfl
theorem dX9_sit_23 : decode cX9_sit 23 = .ok (.invokevirtual 380, 3) := dTa tdX9_sit_0 15 rfl
theorem dX9_sit_26 : decode cX9_sit 26 = .ok (.ireturn, 1) := dTa tdX9_sit_0 16 rfl
set_option maxRecDepth 100000 in
theorem tdX9_tall_0 : dTb cX9_tall [(0, .aload_n 0, 1), (1, .invokevirtual 404, 3), (4, .ifCond .eq 13, 3), (7, .iload_n 1, 1), (8, .i2l, 1), (9, .lconst 0, 1), (10, .lconst 1, 1), (11, .invokestatic 131, 3), (14, .ifCond .ne 5, 3), (17, .iconst (-1), 1), (18, .ireturn, 1), (19, .bipush (-2), 2), (21, .istore_n 2, 1), (22, .bipush (-2), 2), (24, .istore_n 3, 1), (25, .iconst 0, 1), (26, .istore 4, 2), (28, .iload 4, 2), (30, .aload_n 0, 1), (31, .getfield 9, 3), (34, .iconst 3, 1), (35, .iaload, 1), (36, .if_icmp .ge 46, 3), (39, .aload_n 0, 1), (40, .getfield 16, 3), (43, .iload 4, 2), (45, .iaload, 1), (46, .iconst 1, 1), (47, .if_icmp .ne 29, 3), (50, .aload_n 0, 1), (51, .iload 4, 2), (53, .invokevirtual 429, 3), (56, .invokestatic 370, 3), (59, .iload_n 3, 1), (60, .if_icmp .le 16, 3), (63, .iload 4, 2), (65, .istore_n 2, 1), (66, .aload_n 0, 1), (67, .iload 4, 2), (69, .invokevirtual 429, 3)] = true := by decide +kernel
theorem dX9_tall_0 : decode cX9_tall 0 = .ok (.aload_n 0, 1) := dTa tdX9_tall_0 0 rfl
theorem dX9_tall_1 : decode cX9_tall 1 = .ok (.invokevirtual 404, 3) := dTa tdX9_tall_0 1 rfl
theorem dX9_tall_4 : decode cX9_tall 4 = .ok (.ifCond .eq 13, 3) := dTa tdX9_tall_0 2 rfl
theorem dX9_tall_7 : decode cX9_tall 7 = .ok (.iload_n 1, 1) := dTa tdX9_tall_0 3 rfl
theorem dX9_tall_8 : decode cX9_tall 8 = .ok (.i2l, 1) := dTa tdX9_tall_0 4 rfl
theorem dX9_tall_9 : decode cX9_tall 9 = .ok (.lconst 0, 1) := dTa tdX9_tall_0 5 rfl
theorem dX9_tall_10 : decode cX9_tall 10 = .ok (.lconst 1, 1) := dTa tdX9_tall_0 6 rfl
theorem dX9_tall_11 : decode cX9_tall 11 = .ok (.invokestatic 131, 3) := dTa tdX9_tall_0 7 rfl
theorem dX9_tall_14 : decode cX9_tall 14 = .ok (.ifCond .ne 5, 3) := dTa tdX9_tall_0 8 rfl
theorem dX9_tall_17 : decode cX9_tall 17 = .ok (.iconst (-1), 1) := dTa tdX9_tall_0 9 rfl
theorem dX9_tall_18 : decode cX9_tall 18 = .ok (.ireturn, 1) := dTa tdX9_tall_0 10 rfl
theorem dX9_tall_19 : decode cX9_tall 19 = .ok (.bipush (-2), 2) := dTa tdX9_tall_0 11 rfl
theorem dX9_tall_21 : decode cX9_tall 21 = .ok (.istore_n 2, 1) := dTa tdX9_tall_0 12 rfl
theorem dX9_tall_22 : decode cX9_tall 22 = .ok (.bipush (-2), 2) := dTa tdX9_tall_0 13 rfl
theorem dX9_tall_24 : decode cX9_tall 24 = .ok (.istore_n 3, 1) := dTa tdX9_tall_0 14 rfl
theorem dX9_tall_25 : decode cX9_tall 25 = .ok (.iconst 0, 1) := dTa tdX9_tall_0 15 rfl
theorem dX9_tall_26 : decode cX9_tall 26 = .ok (.istore 4, 2) := dTa tdX9_tall_0 16 rfl
theorem dX9_tall_28 : decode cX9_tall 28 = .ok (.iload 4, 2) := dTa tdX9_tall_0 17 rfl
theorem dX9_tall_30 : decode cX9_tall 30 = .ok (.aload_n 0, 1) := dTa tdX9_tall_0 18 rfl
theorem dX9_tall_31 : decode cX9_tall 31 = .ok (.getfield 9, 3) := dTa tdX9_tall_0 19 rfl
theorem dX9_tall_34 : decode cX9_tall 34 = .ok (.iconst 3, 1) := dTa tdX9_tall_0 20 rfl
theorem dX9_tall_35 : decode cX9_tall 35 = .ok (.iaload, 1) := dTa tdX9_tall_0 21 rfl
theorem dX9_tall_36 : decode cX9_tall 36 = .ok (.if_icmp .ge 46, 3) := dTa tdX9_tall_0 22 rfl
theorem dX9_tall_39 : decode cX9_tall 39 = .ok (.aload_n 0, 1) := dTa tdX9_tall_0 23 rfl
theorem dX9_tall_40 : decode cX9_tall 40 = .ok (.getfield 16, 3) := dTa tdX9_tall_0 24 rfl
theorem dX9_tall_43 : decode cX9_tall 43 = .ok (.iload 4, 2) := dTa tdX9_tall_0 25 rfl
theorem dX9_tall_45 : decode cX9_tall 45 = .ok (.iaload, 1) := dTa tdX9_tall_0 26 rfl
theorem dX9_tall_46 : decode cX9_tall 46 = .ok (.iconst 1, 1) := dTa tdX9_tall_0 27 rfl
theorem dX9_tall_47 : decode cX9_tall 47 = .ok (.if_icmp .ne 29, 3) := dTa tdX9_tall_0 28 rfl
theorem dX9_tall_50 : decode cX9_tall 50 = .ok (.aload_n 0, 1) := dTa tdX9_tall_0 29 rfl
theorem dX9_tall_51 : decode cX9_tall 51 = .ok (.iload 4, 2) := dTa tdX9_tall_0 30 rfl
theorem dX9_tall_53 : decode cX9_tall 53 = .ok (.invokevirtual 429, 3) := dTa tdX9_tall_0 31 rfl
theorem dX9_tall_56 : decode cX9_tall 56 = .ok (.invokestatic 370, 3) := dTa tdX9_tall_0 32 rfl
theorem dX9_tall_59 : decode cX9_tall 59 = .ok (.iload_n 3, 1) := dTa tdX9_tall_0 33 rfl
theorem dX9_tall_60 : decode cX9_tall 60 = .ok (.if_icmp .le 16, 3) := dTa tdX9_tall_0 34 rfl
theorem dX9_tall_63 : decode cX9_tall 63 = .ok (.iload 4, 2) := dTa tdX9_tall_0 35 rfl
theorem dX9_tall_65 : decode cX9_tall 65 = .ok (.istore_n 2, 1) := dTa tdX9_tall_0 36 rfl
theorem dX9_tall_66 : decode cX9_tall 66 = .ok (.aload_n 0, 1) := dTa tdX9_tall_0 37 rfl
theorem dX9_tall_67 : decode cX9_tall 67 = .ok (.iload 4, 2) := dTa tdX9_tall_0 38 rfl
theorem dX9_tall_69 : decode cX9_tall 69 = .ok (.invokevirtual 429, 3) := dTa tdX9_tall_0 39 rfl
set_option maxRecDepth 100000 in
theorem tdX9_tall_72 : dTb cX9_tall [(72, .invokestatic 370, 3), (75, .istore_n 3, 1), (76, .iinc 4 1, 3), (79, .goto (-51), 3), (82, .iload_n 1, 1), (83, .ifCond .ne 7, 3), (86, .iload_n 2, 1), (87, .goto 4, 3), (90, .iload_n 3, 1), (91, .ireturn, 1)] = true := by decide +kernel
theorem dX9_tall_72 : decode cX9_tall 72 = .ok (.invokestatic 370, 3) := dTa tdX9_tall_72 0 rfl
theorem dX9_tall_75 : decode cX9_tall 75 = .ok (.istore_n 3, 1) := dTa tdX9_tall_72 1 rfl
theorem dX9_tall_76 : decode cX9_tall 76 = .ok (.iinc 4 1, 3) := dTa tdX9_tall_72 2 rfl
theorem dX9_tall_79 : decode cX9_tall 79 = .ok (.goto (-51), 3) := dTa tdX9_tall_72 3 rfl
theorem dX9_tall_82 : decode cX9_tall 82 = .ok (.iload_n 1, 1) := dTa tdX9_tall_72 4 rfl
theorem dX9_tall_83 : decode cX9_tall 83 = .ok (.ifCond .ne 7, 3) := dTa tdX9_tall_72 5 rfl
theorem dX9_tall_86 : decode cX9_tall 86 = .ok (.iload_n 2, 1) := dTa tdX9_tall_72 6 rfl
theorem dX9_tall_87 : decode cX9_tall 87 = .ok (.goto 4, 3) := dTa tdX9_tall_72 7 rfl
theorem dX9_tall_90 : decode cX9_tall 90 = .ok (.iload_n 3, 1) := dTa tdX9_tall_72 8 rfl
theorem dX9_tall_91 : decode cX9_tall 91 = .ok (.ireturn, 1) := dTa tdX9_tall_72 9 rfl
set_option maxRecDepth 100000 in
theorem tdX9_undo_0 : dTb cX9_undo [(0, .aload_n 0, 1), (1, .getfield 299, 3), (4, .ifCond .ne 6, 3), (7, .bipush (-2), 2), (9, .ireturn, 1), (10, .aload_n 0, 1), (11, .dup, 1), (12, .getfield 299, 3), (15, .iconst 1, 1), (16, .isub, 1), (17, .putfield 299, 3), (20, .aload_n 0, 1), (21, .aload_n 0, 1), (22, .getfield 299, 3), (25, .iconst 1, 1), (26, .invokevirtual 400, 3), (29, .aload_n 0, 1), (30, .getfield 299, 3), (33, .ireturn, 1)] = true := by decide +kernel
theorem dX9_undo_0 : decode cX9_undo 0 = .ok (.aload_n 0, 1) := dTa tdX9_undo_0 0 rfl
theorem dX9_undo_1 : decode cX9_undo 1 = .ok (.getfield 299, 3) := dTa tdX9_undo_0 1 rfl
theorem dX9_undo_4 : decode cX9_undo 4 = .ok (.ifCond .ne 6, 3) := dTa tdX9_undo_0 2 rfl
theorem dX9_undo_7 : decode cX9_undo 7 = .ok (.bipush (-2), 2) := dTa tdX9_undo_0 3 rfl
theorem dX9_undo_9 : decode cX9_undo 9 = .ok (.ireturn, 1) := dTa tdX9_undo_0 4 rfl
theorem dX9_undo_10 : decode cX9_undo 10 = .ok (.aload_n 0, 1) := dTa tdX9_undo_0 5 rfl
theorem dX9_undo_11 : decode cX9_undo 11 = .ok (.dup, 1) := dTa tdX9_undo_0 6 rfl
theorem dX9_undo_12 : decode cX9_undo 12 = .ok (.getfield 299, 3) := dTa tdX9_undo_0 7 rfl
theorem dX9_undo_15 : decode cX9_undo 15 = .ok (.iconst 1, 1) := dTa tdX9_undo_0 8 rfl
theorem dX9_undo_16 : decode cX9_undo 16 = .ok (.isub, 1) := dTa tdX9_undo_0 9 rfl
theorem dX9_undo_17 : decode cX9_undo 17 = .ok (.putfield 299, 3) := dTa tdX9_undo_0 10 rfl
theorem dX9_undo_20 : decode cX9_undo 20 = .ok (.aload_n 0, 1) := dTa tdX9_undo_0 11 rfl
theorem dX9_undo_21 : decode cX9_undo 21 = .ok (.aload_n 0, 1) := dTa tdX9_undo_0 12 rfl
theorem dX9_undo_22 : decode cX9_undo 22 = .ok (.getfield 299, 3) := dTa tdX9_undo_0 13 rfl
theorem dX9_undo_25 : decode cX9_undo 25 = .ok (.iconst 1, 1) := dTa tdX9_undo_0 14 rfl
theorem dX9_undo_26 : decode cX9_undo 26 = .ok (.invokevirtual 400, 3) := dTa tdX9_undo_0 15 rfl
theorem dX9_undo_29 : decode cX9_undo 29 = .ok (.aload_n 0, 1) := dTa tdX9_undo_0 16 rfl
theorem dX9_undo_30 : decode cX9_undo 30 = .ok (.getfield 299, 3) := dTa tdX9_undo_0 17 rfl
theorem dX9_undo_33 : decode cX9_undo 33 = .ok (.ireturn, 1) := dTa tdX9_undo_0 18 rfl
set_option maxRecDepth 100000 in
theorem tdX9_way_0 : dTb cX9_way [(0, .aload_n 0, 1), (1, .invokevirtual 404, 3), (4, .ifCond .eq 15, 3), (7, .iload_n 1, 1), (8, .i2l, 1), (9, .lconst 0, 1), (10, .ldc2_w 432, 3), (13, .invokestatic 131, 3), (16, .ifCond .ne 6, 3), (19, .bipush (-3), 2), (21, .ireturn, 1), (22, .aload_n 0, 1), (23, .iconst 1, 1), (24, .invokevirtual 341, 3), (27, .istore_n 2, 1), (28, .iconst 0, 1), (29, .istore_n 3, 1), (30, .iload_n 3, 1), (31, .iload_n 2, 1), (32, .if_icmp .gt 41, 3), (35, .iload_n 3, 1), (36, .iload_n 2, 1), (37, .iconst (-1), 1), (38, .ixor, 1), (39, .iand, 1), (40, .ifCond .ne 27, 3), (43, .aload_n 0, 1), (44, .getfield 106, 3), (47, .iload_n 3, 1), (48, .iload_n 3, 1), (49, .ifCond .eq 12, 3), (52, .aload_n 0, 1), (53, .iload_n 3, 1), (54, .invokevirtual 434, 3), (57, .iconst (-1), 1), (58, .if_icmp .eq 7, 3), (61, .iconst 1, 1), (62, .goto 4, 3), (65, .iconst 0, 1), (66, .bastore, 1)] = true := by decide +kernel
theorem dX9_way_0 : decode cX9_way 0 = .ok (.aload_n 0, 1) := dTa tdX9_way_0 0 rfl
theorem dX9_way_1 : decode cX9_way 1 = .ok (.invokevirtual 404, 3) := dTa tdX9_way_0 1 rfl
theorem dX9_way_4 : decode cX9_way 4 = .ok (.ifCond .eq 15, 3) := dTa tdX9_way_0 2 rfl
theorem dX9_way_7 : decode cX9_way 7 = .ok (.iload_n 1, 1) := dTa tdX9_way_0 3 rfl
theorem dX9_way_8 : decode cX9_way 8 = .ok (.i2l, 1) := dTa tdX9_way_0 4 rfl
theorem dX9_way_9 : decode cX9_way 9 = .ok (.lconst 0, 1) := dTa tdX9_way_0 5 rfl
theorem dX9_way_10 : decode cX9_way 10 = .ok (.ldc2_w 432, 3) := dTa tdX9_way_0 6 rfl
theorem dX9_way_13 : decode cX9_way 13 = .ok (.invokestatic 131, 3) := dTa tdX9_way_0 7 rfl
theorem dX9_way_16 : decode cX9_way 16 = .ok (.ifCond .ne 6, 3) := dTa tdX9_way_0 8 rfl
theorem dX9_way_19 : decode cX9_way 19 = .ok (.bipush (-3), 2) := dTa tdX9_way_0 9 rfl
theorem dX9_way_21 : decode cX9_way 21 = .ok (.ireturn, 1) := dTa tdX9_way_0 10 rfl
theorem dX9_way_22 : decode cX9_way 22 = .ok (.aload_n 0, 1) := dTa tdX9_way_0 11 rfl
theorem dX9_way_23 : decode cX9_way 23 = .ok (.iconst 1, 1) := dTa tdX9_way_0 12 rfl
theorem dX9_way_24 : decode cX9_way 24 = .ok (.invokevirtual 341, 3) := dTa tdX9_way_0 13 rfl
theorem dX9_way_27 : decode cX9_way 27 = .ok (.istore_n 2, 1) := dTa tdX9_way_0 14 rfl
theorem dX9_way_28 : decode cX9_way 28 = .ok (.iconst 0, 1) := dTa tdX9_way_0 15 rfl
theorem dX9_way_29 : decode cX9_way 29 = .ok (.istore_n 3, 1) := dTa tdX9_way_0 16 rfl
theorem dX9_way_30 : decode cX9_way 30 = .ok (.iload_n 3, 1) := dTa tdX9_way_0 17 rfl
theorem dX9_way_31 : decode cX9_way 31 = .ok (.iload_n 2, 1) := dTa tdX9_way_0 18 rfl
theorem dX9_way_32 : decode cX9_way 32 = .ok (.if_icmp .gt 41, 3) := dTa tdX9_way_0 19 rfl
theorem dX9_way_35 : decode cX9_way 35 = .ok (.iload_n 3, 1) := dTa tdX9_way_0 20 rfl
theorem dX9_way_36 : decode cX9_way 36 = .ok (.iload_n 2, 1) := dTa tdX9_way_0 21 rfl
theorem dX9_way_37 : decode cX9_way 37 = .ok (.iconst (-1), 1) := dTa tdX9_way_0 22 rfl
theorem dX9_way_38 : decode cX9_way 38 = .ok (.ixor, 1) := dTa tdX9_way_0 23 rfl
theorem dX9_way_39 : decode cX9_way 39 = .ok (.iand, 1) := dTa tdX9_way_0 24 rfl
theorem dX9_way_40 : decode cX9_way 40 = .ok (.ifCond .ne 27, 3) := dTa tdX9_way_0 25 rfl
theorem dX9_way_43 : decode cX9_way 43 = .ok (.aload_n 0, 1) := dTa tdX9_way_0 26 rfl
theorem dX9_way_44 : decode cX9_way 44 = .ok (.getfield 106, 3) := dTa tdX9_way_0 27 rfl
theorem dX9_way_47 : decode cX9_way 47 = .ok (.iload_n 3, 1) := dTa tdX9_way_0 28 rfl
theorem dX9_way_48 : decode cX9_way 48 = .ok (.iload_n 3, 1) := dTa tdX9_way_0 29 rfl
theorem dX9_way_49 : decode cX9_way 49 = .ok (.ifCond .eq 12, 3) := dTa tdX9_way_0 30 rfl
theorem dX9_way_52 : decode cX9_way 52 = .ok (.aload_n 0, 1) := dTa tdX9_way_0 31 rfl
theorem dX9_way_53 : decode cX9_way 53 = .ok (.iload_n 3, 1) := dTa tdX9_way_0 32 rfl
theorem dX9_way_54 : decode cX9_way 54 = .ok (.invokevirtual 434, 3) := dTa tdX9_way_0 33 rfl
theorem dX9_way_57 : decode cX9_way 57 = .ok (.iconst (-1), 1) := dTa tdX9_way_0 34 rfl
theorem dX9_way_58 : decode cX9_way 58 = .ok (.if_icmp .eq 7, 3) := dTa tdX9_way_0 35 rfl
theorem dX9_way_61 : decode cX9_way 61 = .ok (.iconst 1, 1) := dTa tdX9_way_0 36 rfl
theorem dX9_way_62 : decode cX9_way 62 = .ok (.goto 4, 3) := dTa tdX9_way_0 37 rfl
theorem dX9_way_65 : decode cX9_way 65 = .ok (.iconst 0, 1) := dTa tdX9_way_0 38 rfl
theorem dX9_way_66 : decode cX9_way 66 = .ok (.bastore, 1) := dTa tdX9_way_0 39 rfl
set_option maxRecDepth 100000 in
theorem tdX9_way_67 : dTb cX9_way [(67, .iinc 3 1, 3), (70, .goto (-40), 3), (73, .aload_n 0, 1), (74, .getfield 106, 3), (77, .iload_n 2, 1), (78, .baload, 1), (79, .ifCond .ne 6, 3), (82, .bipush (-2), 2), (84, .ireturn, 1), (85, .iload_n 2, 1), (86, .istore_n 3, 1), (87, .iconst 0, 1), (88, .istore 4, 2), (90, .iload 4, 2), (92, .iload_n 1, 1), (93, .if_icmp .ge 25, 3), (96, .iload_n 3, 1), (97, .ifCond .eq 21, 3), (100, .iload_n 3, 1), (101, .iconst 1, 1), (102, .aload_n 0, 1), (103, .iload_n 3, 1), (104, .invokevirtual 434, 3), (107, .ishl, 1), (108, .iconst (-1), 1), (109, .ixor, 1), (110, .iand, 1), (111, .istore_n 3, 1), (112, .iinc 4 1, 3), (115, .goto (-25), 3), (118, .iload_n 3, 1), (119, .ifCond .ne 7, 3), (122, .iconst (-1), 1), (123, .goto 8, 3), (126, .aload_n 0, 1), (127, .iload_n 3, 1), (128, .invokevirtual 434, 3), (131, .ireturn, 1)] = true := by decide +kernel
theorem dX9_way_67 : decode cX9_way 67 = .ok (.iinc 3 1, 3) := dTa tdX9_way_67 0 rfl
theorem dX9_way_70 : decode cX9_way 70 = .ok (.goto (-40), 3) := dTa tdX9_way_67 1 rfl
theorem dX9_way_73 : decode cX9_way 73 = .ok (.aload_n 0, 1) := dTa tdX9_way_67 2 rfl
theorem dX9_way_74 : decode cX9_way 74 = .ok (.getfield 106, 3) := dTa tdX9_way_67 3 rfl
theorem dX9_way_77 : decode cX9_way 77 = .ok (.iload_n 2, 1) := dTa tdX9_way_67 4 rfl
theorem dX9_way_78 : decode cX9_way 78 = .ok (.baload, 1) := dTa tdX9_way_67 5 rfl
theorem dX9_way_79 : decode cX9_way 79 = .ok (.ifCond .ne 6, 3) := dTa tdX9_way_67 6 rfl
theorem dX9_way_82 : decode cX9_way 82 = .ok (.bipush (-2), 2) := dTa tdX9_way_67 7 rfl
theorem dX9_way_84 : decode cX9_way 84 = .ok (.ireturn, 1) := dTa tdX9_way_67 8 rfl
theorem dX9_way_85 : decode cX9_way 85 = .ok (.iload_n 2, 1) := dTa tdX9_way_67 9 rfl
theorem dX9_way_86 : decode cX9_way 86 = .ok (.istore_n 3, 1) := dTa tdX9_way_67 10 rfl
theorem dX9_way_87 : decode cX9_way 87 = .ok (.iconst 0, 1) := dTa tdX9_way_67 11 rfl
theorem dX9_way_88 : decode cX9_way 88 = .ok (.istore 4, 2) := dTa tdX9_way_67 12 rfl
theorem dX9_way_90 : decode cX9_way 90 = .ok (.iload 4, 2) := dTa tdX9_way_67 13 rfl
theorem dX9_way_92 : decode cX9_way 92 = .ok (.iload_n 1, 1) := dTa tdX9_way_67 14 rfl
theorem dX9_way_93 : decode cX9_way 93 = .ok (.if_icmp .ge 25, 3) := dTa tdX9_way_67 15 rfl
theorem dX9_way_96 : decode cX9_way 96 = .ok (.iload_n 3, 1) := dTa tdX9_way_67 16 rfl
theorem dX9_way_97 : decode cX9_way 97 = .ok (.ifCond .eq 21, 3) := dTa tdX9_way_67 17 rfl
theorem dX9_way_100 : decode cX9_way 100 = .ok (.iload_n 3, 1) := dTa tdX9_way_67 18 rfl
theorem dX9_way_101 : decode cX9_way 101 = .ok (.iconst 1, 1) := dTa tdX9_way_67 19 rfl
theorem dX9_way_102 : decode cX9_way 102 = .ok (.aload_n 0, 1) := dTa tdX9_way_67 20 rfl
theorem dX9_way_103 : decode cX9_way 103 = .ok (.iload_n 3, 1) := dTa tdX9_way_67 21 rfl
theorem dX9_way_104 : decode cX9_way 104 = .ok (.invokevirtual 434, 3) := dTa tdX9_way_67 22 rfl
theorem dX9_way_107 : decode cX9_way 107 = .ok (.ishl, 1) := dTa tdX9_way_67 23 rfl
theorem dX9_way_108 : decode cX9_way 108 = .ok (.iconst (-1), 1) := dTa tdX9_way_67 24 rfl
theorem dX9_way_109 : decode cX9_way 109 = .ok (.ixor, 1) := dTa tdX9_way_67 25 rfl
theorem dX9_way_110 : decode cX9_way 110 = .ok (.iand, 1) := dTa tdX9_way_67 26 rfl
theorem dX9_way_111 : decode cX9_way 111 = .ok (.istore_n 3, 1) := dTa tdX9_way_67 27 rfl
theorem dX9_way_112 : decode cX9_way 112 = .ok (.iinc 4 1, 3) := dTa tdX9_way_67 28 rfl
theorem dX9_way_115 : decode cX9_way 115 = .ok (.goto (-25), 3) := dTa tdX9_way_67 29 rfl
theorem dX9_way_118 : decode cX9_way 118 = .ok (.iload_n 3, 1) := dTa tdX9_way_67 30 rfl
theorem dX9_way_119 : decode cX9_way 119 = .ok (.ifCond .ne 7, 3) := dTa tdX9_way_67 31 rfl
theorem dX9_way_122 : decode cX9_way 122 = .ok (.iconst (-1), 1) := dTa tdX9_way_67 32 rfl
theorem dX9_way_123 : decode cX9_way 123 = .ok (.goto 8, 3) := dTa tdX9_way_67 33 rfl
theorem dX9_way_126 : decode cX9_way 126 = .ok (.aload_n 0, 1) := dTa tdX9_way_67 34 rfl
theorem dX9_way_127 : decode cX9_way 127 = .ok (.iload_n 3, 1) := dTa tdX9_way_67 35 rfl
theorem dX9_way_128 : decode cX9_way 128 = .ok (.invokevirtual 434, 3) := dTa tdX9_way_67 36 rfl
theorem dX9_way_131 : decode cX9_way 131 = .ok (.ireturn, 1) := dTa tdX9_way_67 37 rfl
set_option maxRecDepth 20000 in
theorem bq_wsX9_ahead : subq wsX9_ahead [wsX9_ahead_r1, wsX9_ahead_r2, wsX9_ahead_r3, wsX9_ahead_r4, wsX9_ahead_r5] := ⟨(fun _ h => (List.mem_cons_of_mem _ (List.mem_append_left _ (List.mem_append_left _ h)))), (fun _ h => (List.mem_cons_of_mem _ (List.mem_append_left _ (List.mem_append_right _ (List.mem_append_left _ h))))), (fun _ h => (List.mem_cons_of_mem _ (List.mem_append_left _ (List.mem_append_right _ (List.mem_append_right _ (List.mem_append_left _ h)))))), (fun _ h => (List.mem_cons_of_mem _ (List.mem_append_left _ (List.mem_append_right _ (List.mem_append_right _ (List.mem_append_right _ (List.mem_append_left _ h))))))), (fun _ h => (List.mem_cons_of_mem _ (List.mem_append_left _ (List.mem_append_right _ (List.mem_append_right _ (List.mem_append_right _ (List.mem_append_right _ h))))))), trivial⟩
set_option maxRecDepth 20000 in
theorem ggX9_ahead_X9_bits : GoodIn wsX9_ahead wsX9_bits := (goodIn_cons (good_rb bq_wsX9_ahead ([(3, 10)] : List (Nat × Nat)) rfl (by decide +kernel)) (good_rb bq_wsX9_ahead ([] : List (Nat × Nat)) rfl (by decide +kernel)))
set_option maxRecDepth 20000 in
theorem gX9_ahead_X9_bits : GoodIn wsX9_ahead (va_wsS RX9 370 yX9_bits wsX9_bits) := goodIn_app (good_rp ([81, 82, 7] : List Nat) rfl (by decide +kernel)) ggX9_ahead_X9_bits
set_option maxRecDepth 20000 in
theorem ggX9_ahead_X9_givesNow : GoodIn wsX9_ahead wsX9_givesNow := (goodIn_cons (good_rb bq_wsX9_ahead ([(2, 23)] : List (Nat × Nat)) rfl (by decide +kernel)) (goodIn_app (goodIn_app (good_rb bq_wsX9_ahead ([(2, 9), (2, 10), (2, 11), (0, 6), (2, 12), (0, 8), (0, 2), (3, 0), (3, 1), (3, 2), (3, 3), (1, 3), (1, 8), (1, 2), (1, 4), (2, 17), (2, 18), (2, 19), (2, 13), (2, 14), (2, 15), (2, 16), (3, 4), (3, 5)] : List (Nat × Nat)) rfl (by decide +kernel)) (good_rb bq_wsX9_ahead ([(3, 6), (3, 7)] : List (Nat × Nat)) rfl (by decide +kernel))) (goodIn_sb (fun _ h => (List.mem_cons_of_mem _ (List.mem_append_right _ h))) (by decide +kernel))))
set_option maxRecDepth 20000 in
theorem gX9_ahead_X9_givesNow : GoodIn wsX9_ahead (wsV RX9 359 RX9 yX9_givesNow wsX9_givesNow) := goodIn_app (good_rp ([69, 70, 71, 7] : List Nat) rfl (by decide +kernel)) ggX9_ahead_X9_givesNow
set_option maxRecDepth 20000 in
theorem ggX9_ahead_X9_goFor : GoodIn wsX9_ahead wsX9_goFor := (goodIn_cons (good_rb bq_wsX9_ahead ([(1, 22)] : List (Nat × Nat)) rfl (by decide +kernel)) (goodIn_app (goodIn_app (good_rb bq_wsX9_ahead ([(1, 23), (2, 0), (2, 1), (0, 6), (2, 2), (0, 8), (0, 2), (2, 3), (2, 4), (2, 5), (2, 6), (2, 7), (1, 3), (1, 8), (2, 8), (1, 4), (1, 7), (1, 2), (2, 9), (2, 10), (2, 11), (2, 12), (2, 13), (2, 14)] : List (Nat × Nat)) rfl (by decide +kernel)) (goodIn_app (good_rb bq_wsX9_ahead ([(2, 15), (2, 16), (2, 17), (2, 18), (2, 19), (2, 20), (2, 21), (2, 22), (2, 23), (3, 0), (3, 1), (3, 2), (3, 3), (3, 4), (3, 5), (3, 6), (3, 7), (3, 8), (3, 9), (3, 10), (3, 11), (3, 12), (3, 13), (3, 14)] : List (Nat × Nat)) rfl (by decide +kernel)) (goodIn_app (good_rb bq_wsX9_ahead ([(3, 15), (3, 16), (3, 17), (3, 18), (3, 19), (3, 20), (3, 21), (3, 22), (3, 23), (4, 0), (4, 1), (4, 2), (4, 3), (4, 4), (4, 5), (4, 6), (4, 7), (4, 8), (4, 9), (4, 10), (4, 11), (4, 12), (4, 13), (4, 14)] : List (Nat × Nat)) rfl (by decide +kernel)) (good_rb bq_wsX9_ahead ([(4, 15)] : List (Nat × Nat)) rfl (by decide +kernel))))) (goodIn_sb (fun _ h => (List.mem_cons_of_mem _ (List.mem_append_right _ h))) (by decide +kernel))))
set_option maxRecDepth 20000 in
theorem gX9_ahead_X9_goFor : GoodIn wsX9_ahead (wsV RX9 423 RX9 yX9_goFor wsX9_goFor) := goodIn_app (good_rp ([44, 45, 46, 7] : List Nat) rfl (by decide +kernel)) ggX9_ahead_X9_goFor
set_option maxRecDepth 20000 in
theorem ggX9_ahead_X9_in : GoodIn wsX9_ahead wsX9_in := (goodIn_cons (good_rb bq_wsX9_ahead ([(0, 11)] : List (Nat × Nat)) rfl (by decide +kernel)) (good_rb bq_wsX9_ahead ([] : List (Nat × Nat)) rfl (by decide +kernel)))
set_option maxRecDepth 20000 in
theorem gX9_ahead_X9_in : GoodIn wsX9_ahead (va_wsS RX9 131 yX9_in wsX9_in) := goodIn_app (good_rp ([10, 11, 7] : List Nat) rfl (by decide +kernel)) ggX9_ahead_X9_in
set_option maxRecDepth 20000 in
theorem ggX9_ahead_X9_isHall : GoodIn wsX9_ahead wsX9_isHall := (goodIn_cons (good_rb bq_wsX9_ahead ([(0, 7)] : List (Nat × Nat)) rfl (by decide +kernel)) (goodIn_app (good_rb bq_wsX9_ahead ([(0, 8)] : List (Nat × Nat)) rfl (by decide +kernel)) (goodIn_sb (fun _ h => (List.mem_cons_of_mem _ (List.mem_append_right _ h))) (by decide +kernel))))
set_option maxRecDepth 20000 in
theorem gX9_ahead_X9_isHall : GoodIn wsX9_ahead (wsV RX9 404 RX9 yX9_isHall wsX9_isHall) := goodIn_app (good_rp ([4, 5, 6, 7] : List Nat) rfl (by decide +kernel)) ggX9_ahead_X9_isHall
set_option maxRecDepth 20000 in
theorem ggX9_ahead_X9_isSitter : GoodIn wsX9_ahead wsX9_isSitter := (goodIn_cons (good_rb bq_wsX9_ahead ([(0, 15)] : List (Nat × Nat)) rfl (by decide +kernel)) (goodIn_app (good_rb bq_wsX9_ahead ([(0, 8), (0, 9), (0, 10), (0, 6), (0, 11)] : List (Nat × Nat)) rfl (by decide +kernel)) (goodIn_sb (fun _ h => (List.mem_cons_of_mem _ (List.mem_append_right _ h))) (by decide +kernel))))
set_option maxRecDepth 20000 in
theorem gX9_ahead_X9_isSitter : GoodIn wsX9_ahead (wsV RX9 362 RX9 yX9_isSitter wsX9_isSitter) := goodIn_app (good_rp ([13, 14, 15, 7] : List Nat) rfl (by decide +kernel)) ggX9_ahead_X9_isSitter
set_option maxRecDepth 20000 in
theorem ggX9_ahead_X9_keepsAll : GoodIn wsX9_ahead wsX9_keepsAll := (goodIn_cons (good_rb bq_wsX9_ahead ([(0, 19)] : List (Nat × Nat)) rfl (by decide +kernel)) (goodIn_app (goodIn_app (good_rb bq_wsX9_ahead ([(0, 20), (0, 21), (0, 22), (0, 6), (0, 23), (1, 0), (1, 1), (0, 8), (1, 2), (0, 2), (1, 3), (1, 4), (1, 5), (1, 6), (1, 7), (1, 8), (1, 9), (1, 10), (1, 11), (1, 12), (1, 13), (1, 14), (1, 15), (1, 16)] : List (Nat × Nat)) rfl (by decide +kernel)) (good_rb bq_wsX9_ahead ([(1, 17), (1, 18)] : List (Nat × Nat)) rfl (by decide +kernel))) (goodIn_sb (fun _ h => (List.mem_cons_of_mem _ (List.mem_append_right _ h))) (by decide +kernel))))
set_option maxRecDepth 20000 in
theorem gX9_ahead_X9_keepsAll : GoodIn wsX9_ahead (wsV RX9 420 RX9 yX9_keepsAll wsX9_keepsAll) := goodIn_app (good_rp ([17, 18, 19, 7] : List Nat) rfl (by decide +kernel)) ggX9_ahead_X9_keepsAll
set_option maxRecDepth 20000 in
theorem ggX9_ahead_X9_laysBack : GoodIn wsX9_ahead wsX9_laysBack := (goodIn_cons (good_rb bq_wsX9_ahead ([(4, 19)] : List (Nat × Nat)) rfl (by decide +kernel)) (goodIn_app (goodIn_app (good_rb bq_wsX9_ahead ([(0, 20), (0, 21), (0, 22), (0, 6), (0, 23), (1, 0), (1, 1), (0, 8), (1, 2), (0, 2), (1, 3), (1, 4), (1, 5), (1, 6), (1, 7), (1, 8), (1, 9), (1, 10), (1, 11), (1, 12), (1, 13), (1, 14), (1, 15), (1, 16)] : List (Nat × Nat)) rfl (by decide +kernel)) (good_rb bq_wsX9_ahead ([(1, 17), (1, 18)] : List (Nat × Nat)) rfl (by decide +kernel))) (goodIn_sb (fun _ h => (List.mem_cons_of_mem _ (List.mem_append_right _ h))) (by decide +kernel))))
set_option maxRecDepth 20000 in
theorem gX9_ahead_X9_laysBack : GoodIn wsX9_ahead (wsV RX9 426 RX9 yX9_laysBack wsX9_laysBack) := goodIn_app (good_rp ([113, 114, 115, 7] : List Nat) rfl (by decide +kernel)) ggX9_ahead_X9_laysBack
set_option maxRecDepth 20000 in
theorem ggX9_ahead_X9_those : GoodIn wsX9_ahead wsX9_those := (goodIn_cons (good_rb bq_wsX9_ahead ([(2, 12)] : List (Nat × Nat)) rfl (by decide +kernel)) (goodIn_app (good_rb bq_wsX9_ahead ([(0, 8), (0, 2)] : List (Nat × Nat)) rfl (by decide +kernel)) (goodIn_sb (fun _ h => (List.mem_cons_of_mem _ (List.mem_append_right _ h))) (by decide +kernel))))
set_option maxRecDepth 20000 in
theorem gX9_ahead_X9_those : GoodIn wsX9_ahead (wsV RX9 341 RX9 yX9_those wsX9_those) := goodIn_app (good_rp ([58, 59, 60, 7] : List Nat) rfl (by decide +kernel)) ggX9_ahead_X9_those
set_option maxRecDepth 20000 in
theorem bq_wsX9_carriesAll : subq wsX9_carriesAll [[.fieldLink RX9 486 "ChairCaneModel" "imageAt" "I", .fieldLink RX9 483 "ChairCaneModel" "goesBack" "Z", .fieldLink RX9 9 "ChairCaneModel" "scalar" "[I", .fieldLink RX9 13 "ChairCaneModel" "cane" "[I", .fieldLink RX9 16 "ChairCaneModel" "is" "[I", .fieldLink RX9 19 "ChairCaneModel" "strandOf" "[I", .fieldLink RX9 22 "ChairCaneModel" "weight" "[I", .fieldLink RX9 103 "ChairCaneModel" "pastOf" "[I", .fieldLink RX9 299 "ChairCaneModel" "pastMany" "I", .fieldLink RX9 25 "ChairCaneModel" "height" "[I", .fieldLink RX9 28 "ChairCaneModel" "chairOf" "[I", .fieldLink RX9 31 "ChairCaneModel" "noteMinute" "[I", .fieldLink RX9 34 "ChairCaneModel" "noteWho" "[I", .fieldLink RX9 37 "ChairCaneModel" "noteIs" "[I", .fieldLink RX9 40 "ChairCaneModel" "toldCane" "[I", .fieldLink RX9 100 "ChairCaneModel" "past" "[I", .methodLink RX9 489 yX9_carryRow, .instanceMethod yX9_carryRow, .selects RX9 yX9_carryRow yX9_carryRow, .initialized RX9, .code yX9_carryRow cX9_carryRow 3 none, .fieldLink RX9 122 "ChairCaneModel" "images" "[I"]] := ⟨(fun _ h => (List.mem_cons_of_mem _ (List.mem_append_left _ h))), trivial⟩
set_option maxRecDepth 20000 in
theorem ggX9_carriesAll_X9_carryRow : GoodIn wsX9_carriesAll wsX9_carryRow := (goodIn_cons (good_rb bq_wsX9_carriesAll ([(0, 20)] : List (Nat × Nat)) rfl (by decide +kernel)) (goodIn_app (good_rb bq_wsX9_carriesAll ([(0, 1), (0, 21), (0, 0)] : List (Nat × Nat)) rfl (by decide +kernel)) (goodIn_sb (fun _ h => (List.mem_cons_of_mem _ (List.mem_append_right _ h))) (by decide +kernel))))
set_option maxRecDepth 20000 in
theorem gX9_carriesAll_X9_carryRow : GoodIn wsX9_carriesAll (wsV RX9 489 RX9 yX9_carryRow wsX9_carryRow) := goodIn_app (good_rp ([17, 18, 19, 20] : List Nat) rfl (by decide +kernel)) ggX9_carriesAll_X9_carryRow
set_option maxRecDepth 20000 in
theorem bq_wsX9_ease : subq wsX9_ease [wsX9_ease_r1, wsX9_ease_r2] := ⟨(fun _ h => (List.mem_cons_of_mem _ (List.mem_append_left _ (List.mem_append_left _ h)))), (fun _ h => (List.mem_cons_of_mem _ (List.mem_append_left _ (List.mem_append_right _ h)))), trivial⟩
set_option maxRecDepth 20000 in
theorem ggX9_ease_X9_bits : GoodIn wsX9_ease wsX9_bits := (goodIn_cons (good_rb bq_wsX9_ease ([(0, 16)] : List (Nat × Nat)) rfl (by decide +kernel)) (good_rb bq_wsX9_ease ([] : List (Nat × Nat)) rfl (by decide +kernel)))
set_option maxRecDepth 20000 in
theorem gX9_ease_X9_bits : GoodIn wsX9_ease (va_wsS RX9 370 yX9_bits wsX9_bits) := goodIn_app (good_rp ([15, 16, 4] : List Nat) rfl (by decide +kernel)) ggX9_ease_X9_bits
set_option maxRecDepth 20000 in
theorem ggX9_ease_X9_dropsOf : GoodIn wsX9_ease wsX9_dropsOf := (goodIn_cons (good_rb bq_wsX9_ease ([(0, 20)] : List (Nat × Nat)) rfl (by decide +kernel)) (goodIn_app (good_rb bq_wsX9_ease ([(0, 5), (0, 21), (0, 22), (0, 23), (1, 0), (0, 3), (1, 1), (1, 2), (1, 3), (1, 4), (1, 5), (1, 6), (1, 7), (1, 8), (1, 9), (1, 10), (1, 11), (1, 12), (1, 13), (1, 14), (1, 15), (1, 16)] : List (Nat × Nat)) rfl (by decide +kernel)) (goodIn_sb (fun _ h => (List.mem_cons_of_mem _ (List.mem_append_right _ h))) (by decide +kernel))))
set_option maxRecDepth 20000 in
theorem gX9_ease_X9_dropsOf : GoodIn wsX9_ease (wsV RX9 367 RX9 yX9_dropsOf wsX9_dropsOf) := goodIn_app (good_rp ([18, 19, 20, 4] : List Nat) rfl (by decide +kernel)) ggX9_ease_X9_dropsOf
set_option maxRecDepth 20000 in
theorem ggX9_ease_X9_in : GoodIn wsX9_ease wsX9_in := (goodIn_cons (good_rb bq_wsX9_ease ([(0, 8)] : List (Nat × Nat)) rfl (by decide +kernel)) (good_rb bq_wsX9_ease ([] : List (Nat × Nat)) rfl (by decide +kernel)))
set_option maxRecDepth 20000 in
theorem gX9_ease_X9_in : GoodIn wsX9_ease (va_wsS RX9 131 yX9_in wsX9_in) := goodIn_app (good_rp ([7, 8, 4] : List Nat) rfl (by decide +kernel)) ggX9_ease_X9_in
set_option maxRecDepth 20000 in
theorem ggX9_ease_X9_isHall : GoodIn wsX9_ease wsX9_isHall := (goodIn_cons (good_rb bq_wsX9_ease ([(0, 4)] : List (Nat × Nat)) rfl (by decide +kernel)) (goodIn_app (good_rb bq_wsX9_ease ([(0, 5)] : List (Nat × Nat)) rfl (by decide +kernel)) (goodIn_sb (fun _ h => (List.mem_cons_of_mem _ (List.mem_append_right _ h))) (by decide +kernel))))
set_option maxRecDepth 20000 in
theorem gX9_ease_X9_isHall : GoodIn wsX9_ease (wsV RX9 404 RX9 yX9_isHall wsX9_isHall) := goodIn_app (good_rp ([1, 2, 3, 4] : List Nat) rfl (by decide +kernel)) ggX9_ease_X9_isHall
set_option maxRecDepth 20000 in
theorem ggX9_ease_X9_those : GoodIn wsX9_ease wsX9_those := (goodIn_cons (good_rb bq_wsX9_ease ([(0, 12)] : List (Nat × Nat)) rfl (by decide +kernel)) (goodIn_app (good_rb bq_wsX9_ease ([(0, 5), (0, 13)] : List (Nat × Nat)) rfl (by decide +kernel)) (goodIn_sb (fun _ h => (List.mem_cons_of_mem _ (List.mem_append_right _ h))) (by decide +kernel))))
set_option maxRecDepth 20000 in
theorem gX9_ease_X9_those : GoodIn wsX9_ease (wsV RX9 341 RX9 yX9_those wsX9_those) := goodIn_app (good_rp ([10, 11, 12, 4] : List Nat) rfl (by decide +kernel)) ggX9_ease_X9_those
set_option maxRecDepth 20000 in
theorem bq_wsX9_falls : subq wsX9_falls [wsX9_falls_r1, wsX9_falls_r2, wsX9_falls_r3, wsX9_falls_r4, wsX9_falls_r5] := ⟨(fun _ h => (List.mem_cons_of_mem _ (List.mem_append_left _ (List.mem_append_left _ h)))), (fun _ h => (List.mem_cons_of_mem _ (List.mem_append_left _ (List.mem_append_right _ (List.mem_append_left _ h))))), (fun _ h => (List.mem_cons_of_mem _ (List.mem_append_left _ (List.mem_append_right _ (List.mem_append_right _ (List.mem_append_left _ h)))))), (fun _ h => (List.mem_cons_of_mem _ (List.mem_append_left _ (List.mem_append_right _ (List.mem_append_right _ (List.mem_append_right _ (List.mem_append_left _ h))))))), (fun _ h => (List.mem_cons_of_mem _ (List.mem_append_left _ (List.mem_append_right _ (List.mem_append_right _ (List.mem_append_right _ (List.mem_append_right _ h))))))), trivial⟩
set_option maxRecDepth 20000 in
theorem ggX9_falls_X9_goes : GoodIn wsX9_falls wsX9_goes := (goodIn_cons (good_rb bq_wsX9_falls ([(1, 16)] : List (Nat × Nat)) rfl (by decide +kernel)) (goodIn_app (goodIn_app (good_rb bq_wsX9_falls ([(0, 0), (0, 20), (1, 17), (1, 18), (1, 19), (0, 4), (1, 20), (1, 21), (0, 21), (1, 2), (1, 22), (0, 22), (1, 1), (0, 19), (1, 23), (2, 0), (2, 1), (2, 2), (2, 3), (2, 4), (2, 5), (2, 6), (2, 7), (2, 8)] : List (Nat × Nat)) rfl (by decide +kernel)) (goodIn_app (good_rb bq_wsX9_falls ([(2, 9), (2, 10), (2, 11), (2, 12), (2, 13), (2, 14), (2, 15), (2, 16), (2, 17), (2, 18), (2, 19), (2, 20), (2, 21), (2, 22), (2, 23), (3, 0), (3, 1), (3, 2), (3, 3), (3, 4), (3, 5), (3, 6), (3, 7), (3, 8)] : List (Nat × Nat)) rfl (by decide +kernel)) (good_rb bq_wsX9_falls ([(3, 9), (3, 10), (3, 11), (3, 12), (3, 13), (3, 14), (3, 15), (3, 16), (3, 17), (3, 18), (3, 19), (3, 20), (3, 21), (3, 22), (3, 23), (4, 0), (4, 1), (4, 2), (4, 3), (4, 4), (4, 5)] : List (Nat × Nat)) rfl (by decide +kernel)))) (goodIn_sb (fun _ h => (List.mem_cons_of_mem _ (List.mem_append_right _ h))) (by decide +kernel))))
set_option maxRecDepth 20000 in
theorem gX9_falls_X9_goes : GoodIn wsX9_falls (wsV RX9 383 RX9 yX9_goes wsX9_goes) := goodIn_app (good_rp ([38, 39, 40, 5] : List Nat) rfl (by decide +kernel)) ggX9_falls_X9_goes
set_option maxRecDepth 20000 in
theorem ggX9_falls_X9_in : GoodIn wsX9_falls wsX9_in := (goodIn_cons (good_rb bq_wsX9_falls ([(0, 8)] : List (Nat × Nat)) rfl (by decide +kernel)) (good_rb bq_wsX9_falls ([] : List (Nat × Nat)) rfl (by decide +kernel)))
set_option maxRecDepth 20000 in
theorem gX9_falls_X9_in : GoodIn wsX9_falls (va_wsS RX9 131 yX9_in wsX9_in) := goodIn_app (good_rp ([7, 8, 5] : List Nat) rfl (by decide +kernel)) ggX9_falls_X9_in
set_option maxRecDepth 20000 in
theorem ggX9_falls_X9_isHall : GoodIn wsX9_falls wsX9_isHall := (goodIn_cons (good_rb bq_wsX9_falls ([(0, 5)] : List (Nat × Nat)) rfl (by decide +kernel)) (goodIn_app (good_rb bq_wsX9_falls ([(0, 0)] : List (Nat × Nat)) rfl (by decide +kernel)) (goodIn_sb (fun _ h => (List.mem_cons_of_mem _ (List.mem_append_right _ h))) (by decide +kernel))))
set_option maxRecDepth 20000 in
theorem gX9_falls_X9_isHall : GoodIn wsX9_falls (wsV RX9 404 RX9 yX9_isHall wsX9_isHall) := goodIn_app (good_rp ([2, 3, 4, 5] : List Nat) rfl (by decide +kernel)) ggX9_falls_X9_isHall
set_option maxRecDepth 20000 in
theorem ggX9_falls_X9_keepsAll : GoodIn wsX9_falls wsX9_keepsAll := (goodIn_cons (good_rb bq_wsX9_falls ([(0, 12)] : List (Nat × Nat)) rfl (by decide +kernel)) (goodIn_app (goodIn_app (good_rb bq_wsX9_falls ([(0, 13), (0, 14), (0, 15), (0, 4), (0, 16), (0, 17), (0, 18), (0, 0), (0, 19), (0, 20), (0, 21), (0, 22), (0, 23), (1, 0), (1, 1), (1, 2), (1, 3), (1, 4), (1, 5), (1, 6), (1, 7), (1, 8), (1, 9), (1, 10)] : List (Nat × Nat)) rfl (by decide +kernel)) (good_rb bq_wsX9_falls ([(1, 11), (1, 12)] : List (Nat × Nat)) rfl (by decide +kernel))) (goodIn_sb (fun _ h => (List.mem_cons_of_mem _ (List.mem_append_right _ h))) (by decide +kernel))))
set_option maxRecDepth 20000 in
theorem gX9_falls_X9_keepsAll : GoodIn wsX9_falls (wsV RX9 420 RX9 yX9_keepsAll wsX9_keepsAll) := goodIn_app (good_rp ([10, 11, 12, 5] : List Nat) rfl (by decide +kernel)) ggX9_falls_X9_keepsAll
set_option maxRecDepth 20000 in
theorem ggX9_falls_X9_laysBack : GoodIn wsX9_falls wsX9_laysBack := (goodIn_cons (good_rb bq_wsX9_falls ([(4, 9)] : List (Nat × Nat)) rfl (by decide +kernel)) (goodIn_app (goodIn_app (good_rb bq_wsX9_falls ([(0, 13), (0, 14), (0, 15), (0, 4), (0, 16), (0, 17), (0, 18), (0, 0), (0, 19), (0, 20), (0, 21), (0, 22), (0, 23), (1, 0), (1, 1), (1, 2), (1, 3), (1, 4), (1, 5), (1, 6), (1, 7), (1, 8), (1, 9), (1, 10)] : List (Nat × Nat)) rfl (by decide +kernel)) (good_rb bq_wsX9_falls ([(1, 11), (1, 12)] : List (Nat × Nat)) rfl (by decide +kernel))) (goodIn_sb (fun _ h => (List.mem_cons_of_mem _ (List.mem_append_right _ h))) (by decide +kernel))))
set_option maxRecDepth 20000 in
theorem gX9_falls_X9_laysBack : GoodIn wsX9_falls (wsV RX9 426 RX9 yX9_laysBack wsX9_laysBack) := goodIn_app (good_rp ([103, 104, 105, 5] : List Nat) rfl (by decide +kernel)) ggX9_falls_X9_laysBack
set_option maxRecDepth 20000 in
theorem bq_wsX9_felledBy : subq wsX9_felledBy [wsX9_felledBy_r1, wsX9_felledBy_r2, wsX9_felledBy_r3] := ⟨(fun _ h => (List.mem_cons_of_mem _ (List.mem_append_left _ (List.mem_append_left _ h)))), (fun _ h => (List.mem_cons_of_mem _ (List.mem_append_left _ (List.mem_append_right _ (List.mem_append_left _ h))))), (fun _ h => (List.mem_cons_of_mem _ (List.mem_append_left _ (List.mem_append_right _ (List.mem_append_right _ h))))), trivial⟩
set_option maxRecDepth 20000 in
theorem ggX9_felledBy_X9_keepsAll : GoodIn wsX9_felledBy wsX9_keepsAll := (goodIn_cons (good_rb bq_wsX9_felledBy ([(0, 5)] : List (Nat × Nat)) rfl (by decide +kernel)) (goodIn_app (goodIn_app (good_rb bq_wsX9_felledBy ([(0, 6), (0, 7), (0, 8), (0, 4), (0, 9), (0, 10), (0, 11), (0, 12), (0, 13), (0, 0), (0, 14), (0, 15), (0, 16), (0, 17), (0, 18), (0, 19), (0, 20), (0, 21), (0, 22), (0, 23), (1, 0), (1, 1), (1, 2), (1, 3)] : List (Nat × Nat)) rfl (by decide +kernel)) (good_rb bq_wsX9_felledBy ([(1, 4), (1, 5)] : List (Nat × Nat)) rfl (by decide +kernel))) (goodIn_sb (fun _ h => (List.mem_cons_of_mem _ (List.mem_append_right _ h))) (by decide +kernel))))
set_option maxRecDepth 20000 in
theorem gX9_felledBy_X9_keepsAll : GoodIn wsX9_felledBy (wsV RX9 420 RX9 yX9_keepsAll wsX9_keepsAll) := goodIn_app (good_rp ([2, 3, 4, 5] : List Nat) rfl (by decide +kernel)) ggX9_felledBy_X9_keepsAll
set_option maxRecDepth 20000 in
theorem ggX9_felledBy_X9_laysBack : GoodIn wsX9_felledBy wsX9_laysBack := (goodIn_cons (good_rb bq_wsX9_felledBy ([(2, 12)] : List (Nat × Nat)) rfl (by decide +kernel)) (goodIn_app (goodIn_app (good_rb bq_wsX9_felledBy ([(0, 6), (0, 7), (0, 8), (0, 4), (0, 9), (0, 10), (0, 11), (0, 12), (0, 13), (0, 0), (0, 14), (0, 15), (0, 16), (0, 17), (0, 18), (0, 19), (0, 20), (0, 21), (0, 22), (0, 23), (1, 0), (1, 1), (1, 2), (1, 3)] : List (Nat × Nat)) rfl (by decide +kernel)) (good_rb bq_wsX9_felledBy ([(1, 4), (1, 5)] : List (Nat × Nat)) rfl (by decide +kernel))) (goodIn_sb (fun _ h => (List.mem_cons_of_mem _ (List.mem_append_right _ h))) (by decide +kernel))))
set_option maxRecDepth 20000 in
theorem gX9_felledBy_X9_laysBack : GoodIn wsX9_felledBy (wsV RX9 426 RX9 yX9_laysBack wsX9_laysBack) := goodIn_app (good_rp ([58, 59, 60, 5] : List Nat) rfl (by decide +kernel)) ggX9_felledBy_X9_laysBack
set_option maxRecDepth 20000 in
theorem ggX9_felledBy_X9_settles : GoodIn wsX9_felledBy wsX9_settles := (goodIn_cons (good_rb bq_wsX9_felledBy ([(1, 9)] : List (Nat × Nat)) rfl (by decide +kernel)) (goodIn_app (goodIn_app (good_rb bq_wsX9_felledBy ([(0, 12), (0, 0), (1, 10), (1, 11), (1, 12), (0, 4), (1, 13), (1, 14), (1, 15), (1, 16), (1, 17), (0, 18), (0, 19), (1, 18), (1, 19), (1, 20), (1, 21), (1, 22), (1, 23), (2, 0), (0, 14), (0, 13), (0, 15), (2, 1)] : List (Nat × Nat)) rfl (by decide +kernel)) (good_rb bq_wsX9_felledBy ([(2, 2), (2, 3), (2, 4), (2, 5), (2, 6), (2, 7), (2, 8)] : List (Nat × Nat)) rfl (by decide +kernel))) (goodIn_sb (fun _ h => (List.mem_cons_of_mem _ (List.mem_append_right _ h))) (by decide +kernel))))
set_option maxRecDepth 20000 in
theorem gX9_felledBy_X9_settles : GoodIn wsX9_felledBy (wsV RX9 380 RX9 yX9_settles wsX9_settles) := goodIn_app (good_rp ([31, 32, 33, 5] : List Nat) rfl (by decide +kernel)) ggX9_felledBy_X9_settles
set_option maxRecDepth 20000 in
theorem bq_wsX9_felled : subq wsX9_felled [wsX9_felled_r1, wsX9_felled_r2, wsX9_felled_r3, wsX9_felled_r4] := ⟨(fun _ h => (List.mem_cons_of_mem _ (List.mem_append_left _ (List.mem_append_left _ h)))), (fun _ h => (List.mem_cons_of_mem _ (List.mem_append_left _ (List.mem_append_right _ (List.mem_append_left _ h))))), (fun _ h => (List.mem_cons_of_mem _ (List.mem_append_left _ (List.mem_append_right _ (List.mem_append_right _ (List.mem_append_left _ h)))))), (fun _ h => (List.mem_cons_of_mem _ (List.mem_append_left _ (List.mem_append_right _ (List.mem_append_right _ (List.mem_append_right _ h)))))), trivial⟩
set_option maxRecDepth 20000 in
theorem ggX9_felled_X9_felledBy : GoodIn wsX9_felled wsX9_felledBy := (goodIn_cons (good_rb bq_wsX9_felled ([(0, 17)] : List (Nat × Nat)) rfl (by decide +kernel)) (goodIn_app (goodIn_app (good_rb bq_wsX9_felled ([(0, 5), (0, 18), (0, 19), (0, 20), (0, 3), (0, 21), (0, 22), (0, 23), (1, 0), (1, 1), (1, 2), (1, 3), (0, 10), (1, 4), (1, 5), (1, 6), (1, 7), (1, 8), (1, 9), (1, 10), (1, 11), (1, 12), (1, 13), (1, 14)] : List (Nat × Nat)) rfl (by decide +kernel)) (goodIn_app (good_rb bq_wsX9_felled ([(1, 15), (1, 16), (1, 17), (1, 18), (1, 19), (1, 20), (1, 21), (1, 22), (1, 23), (2, 0), (2, 1), (2, 2), (2, 3), (2, 4), (2, 5), (2, 6), (2, 7), (2, 8), (2, 9), (2, 10), (2, 11), (2, 12), (2, 13), (2, 14)] : List (Nat × Nat)) rfl (by decide +kernel)) (good_rb bq_wsX9_felled ([(2, 15), (2, 16), (2, 17), (2, 18), (2, 19), (2, 20), (2, 21), (2, 22), (2, 23), (3, 0), (3, 1), (3, 2), (3, 3)] : List (Nat × Nat)) rfl (by decide +kernel)))) (goodIn_sb (fun _ h => (List.mem_cons_of_mem _ (List.mem_append_right _ h))) (by decide +kernel))))
set_option maxRecDepth 20000 in
theorem gX9_felled_X9_felledBy : GoodIn wsX9_felled (wsV RX9 429 RX9 yX9_felledBy wsX9_felledBy) := goodIn_app (good_rp ([15, 16, 17, 4] : List Nat) rfl (by decide +kernel)) ggX9_felled_X9_felledBy
set_option maxRecDepth 20000 in
theorem ggX9_felled_X9_isSo : GoodIn wsX9_felled wsX9_isSo := (goodIn_cons (good_rb bq_wsX9_felled ([(0, 4)] : List (Nat × Nat)) rfl (by decide +kernel)) (goodIn_app (good_rb bq_wsX9_felled ([(0, 5), (0, 6), (0, 7), (0, 8), (0, 3), (0, 9), (0, 10), (0, 11), (0, 12), (0, 13)] : List (Nat × Nat)) rfl (by decide +kernel)) (goodIn_sb (fun _ h => (List.mem_cons_of_mem _ (List.mem_append_right _ h))) (by decide +kernel))))
set_option maxRecDepth 20000 in
theorem gX9_felled_X9_isSo : GoodIn wsX9_felled (wsV RX9 410 RX9 yX9_isSo wsX9_isSo) := goodIn_app (good_rp ([1, 2, 3, 4] : List Nat) rfl (by decide +kernel)) ggX9_felled_X9_isSo
set_option maxRecDepth 20000 in
theorem bq_wsX9_heavy : subq wsX9_heavy [wsX9_heavy_r1, wsX9_heavy_r2] := ⟨(fun _ h => (List.mem_cons_of_mem _ (List.mem_append_left _ (List.mem_append_left _ h)))), (fun _ h => (List.mem_cons_of_mem _ (List.mem_append_left _ (List.mem_append_right _ h)))), trivial⟩
set_option maxRecDepth 20000 in
theorem ggX9_heavy_X9_dropsOf : GoodIn wsX9_heavy wsX9_dropsOf := (goodIn_cons (good_rb bq_wsX9_heavy ([(0, 18)] : List (Nat × Nat)) rfl (by decide +kernel)) (goodIn_app (good_rb bq_wsX9_heavy ([(0, 7), (0, 19), (0, 20), (0, 21), (0, 22), (0, 5), (0, 23), (1, 0), (1, 1), (1, 2), (1, 3), (1, 4), (1, 5), (0, 1), (1, 6), (1, 7), (1, 8), (1, 9), (1, 10), (1, 11), (1, 12), (1, 13)] : List (Nat × Nat)) rfl (by decide +kernel)) (goodIn_sb (fun _ h => (List.mem_cons_of_mem _ (List.mem_append_right _ h))) (by decide +kernel))))
set_option maxRecDepth 20000 in
theorem gX9_heavy_X9_dropsOf : GoodIn wsX9_heavy (wsV RX9 367 RX9 yX9_dropsOf wsX9_dropsOf) := goodIn_app (good_rp ([16, 17, 18, 6] : List Nat) rfl (by decide +kernel)) ggX9_heavy_X9_dropsOf
set_option maxRecDepth 20000 in
theorem ggX9_heavy_X9_in : GoodIn wsX9_heavy wsX9_in := (goodIn_cons (good_rb bq_wsX9_heavy ([(0, 10)] : List (Nat × Nat)) rfl (by decide +kernel)) (good_rb bq_wsX9_heavy ([] : List (Nat × Nat)) rfl (by decide +kernel)))
set_option maxRecDepth 20000 in
theorem gX9_heavy_X9_in : GoodIn wsX9_heavy (va_wsS RX9 131 yX9_in wsX9_in) := goodIn_app (good_rp ([9, 10, 6] : List Nat) rfl (by decide +kernel)) ggX9_heavy_X9_in
set_option maxRecDepth 20000 in
theorem ggX9_heavy_X9_isSitter : GoodIn wsX9_heavy wsX9_isSitter := (goodIn_cons (good_rb bq_wsX9_heavy ([(0, 6)] : List (Nat × Nat)) rfl (by decide +kernel)) (goodIn_app (good_rb bq_wsX9_heavy ([(0, 7), (0, 8), (0, 9), (0, 5), (0, 10)] : List (Nat × Nat)) rfl (by decide +kernel)) (goodIn_sb (fun _ h => (List.mem_cons_of_mem _ (List.mem_append_right _ h))) (by decide +kernel))))
set_option maxRecDepth 20000 in
theorem gX9_heavy_X9_isSitter : GoodIn wsX9_heavy (wsV RX9 362 RX9 yX9_isSitter wsX9_isSitter) := goodIn_app (good_rp ([3, 4, 5, 6] : List Nat) rfl (by decide +kernel)) ggX9_heavy_X9_isSitter
set_option maxRecDepth 20000 in
theorem ggX9_heavy_X9_those : GoodIn wsX9_heavy wsX9_those := (goodIn_cons (good_rb bq_wsX9_heavy ([(0, 14)] : List (Nat × Nat)) rfl (by decide +kernel)) (goodIn_app (good_rb bq_wsX9_heavy ([(0, 7), (0, 0)] : List (Nat × Nat)) rfl (by decide +kernel)) (goodIn_sb (fun _ h => (List.mem_cons_of_mem _ (List.mem_append_right _ h))) (by decide +kernel))))
set_option maxRecDepth 20000 in
theorem gX9_heavy_X9_those : GoodIn wsX9_heavy (wsV RX9 341 RX9 yX9_those wsX9_those) := goodIn_app (good_rp ([12, 13, 14, 6] : List Nat) rfl (by decide +kernel)) ggX9_heavy_X9_those
set_option maxRecDepth 20000 in
theorem bq_wsX9_help : subq wsX9_help [wsX9_help_r1, wsX9_help_r2] := ⟨(fun _ h => (List.mem_cons_of_mem _ (List.mem_append_left _ (List.mem_append_left _ h)))), (fun _ h => (List.mem_cons_of_mem _ (List.mem_append_left _ (List.mem_append_right _ h)))), trivial⟩
set_option maxRecDepth 20000 in
theorem ggX9_help_X9_bits : GoodIn wsX9_help wsX9_bits := (goodIn_cons (good_rb bq_wsX9_help ([(1, 17)] : List (Nat × Nat)) rfl (by decide +kernel)) (good_rb bq_wsX9_help ([] : List (Nat × Nat)) rfl (by decide +kernel)))
set_option maxRecDepth 20000 in
theorem gX9_help_X9_bits : GoodIn wsX9_help (va_wsS RX9 370 yX9_bits wsX9_bits) := goodIn_app (good_rp ([40, 41, 5] : List Nat) rfl (by decide +kernel)) ggX9_help_X9_bits
set_option maxRecDepth 20000 in
theorem ggX9_help_X9_isSo : GoodIn wsX9_help wsX9_isSo := (goodIn_cons (good_rb bq_wsX9_help ([(0, 5)] : List (Nat × Nat)) rfl (by decide +kernel)) (goodIn_app (good_rb bq_wsX9_help ([(0, 0), (0, 6), (0, 7), (0, 8), (0, 4), (0, 9), (0, 10), (0, 11), (0, 12), (0, 13)] : List (Nat × Nat)) rfl (by decide +kernel)) (goodIn_sb (fun _ h => (List.mem_cons_of_mem _ (List.mem_append_right _ h))) (by decide +kernel))))
set_option maxRecDepth 20000 in
theorem gX9_help_X9_isSo : GoodIn wsX9_help (wsV RX9 410 RX9 yX9_isSo wsX9_isSo) := goodIn_app (good_rp ([2, 3, 4, 5] : List Nat) rfl (by decide +kernel)) ggX9_help_X9_isSo
set_option maxRecDepth 20000 in
theorem ggX9_help_X9_keepsAct : GoodIn wsX9_help wsX9_keepsAct := (goodIn_cons (good_rb bq_wsX9_help ([(0, 17)] : List (Nat × Nat)) rfl (by decide +kernel)) (goodIn_app (good_rb bq_wsX9_help ([(0, 18), (0, 19), (0, 20), (0, 21), (0, 22), (0, 4), (0, 23), (1, 0), (1, 1), (0, 10), (1, 2), (0, 0), (1, 3), (1, 4), (1, 5), (1, 6), (1, 7), (1, 8), (1, 9), (1, 10)] : List (Nat × Nat)) rfl (by decide +kernel)) (goodIn_sb (fun _ h => (List.mem_cons_of_mem _ (List.mem_append_right _ h))) (by decide +kernel))))
set_option maxRecDepth 20000 in
theorem gX9_help_X9_keepsAct : GoodIn wsX9_help (wsV RX9 407 RX9 yX9_keepsAct wsX9_keepsAct) := goodIn_app (good_rp ([15, 16, 17, 5] : List Nat) rfl (by decide +kernel)) ggX9_help_X9_keepsAct
set_option maxRecDepth 20000 in
theorem ggX9_help_X9_those : GoodIn wsX9_help wsX9_those := (goodIn_cons (good_rb bq_wsX9_help ([(1, 14)] : List (Nat × Nat)) rfl (by decide +kernel)) (goodIn_app (good_rb bq_wsX9_help ([(0, 10), (0, 0)] : List (Nat × Nat)) rfl (by decide +kernel)) (goodIn_sb (fun _ h => (List.mem_cons_of_mem _ (List.mem_append_right _ h))) (by decide +kernel))))
set_option maxRecDepth 20000 in
theorem gX9_help_X9_those : GoodIn wsX9_help (wsV RX9 341 RX9 yX9_those wsX9_those) := goodIn_app (good_rp ([36, 37, 38, 5] : List Nat) rfl (by decide +kernel)) ggX9_help_X9_those
set_option maxRecDepth 20000 in
theorem bq_wsX9_isSo : subq wsX9_isSo [[.fieldLink RX9 16 "ChairCaneModel" "is" "[I", .methodLink RX9 362 yX9_isSitter, .instanceMethod yX9_isSitter, .selects RX9 yX9_isSitter yX9_isSitter, .initialized RX9, .code yX9_isSitter cX9_isSitter 2 (some .boolean), .fieldLink RX9 9 "ChairCaneModel" "scalar" "[I", .methodLink RX9 131 yX9_in, .static yX9_in, .code yX9_in cX9_in 6 (some .boolean)]] := ⟨(fun _ h => (List.mem_cons_of_mem _ (List.mem_append_left _ h))), trivial⟩
set_option maxRecDepth 20000 in
theorem ggX9_isSo_X9_isSitter : GoodIn wsX9_isSo wsX9_isSitter := (goodIn_cons (good_rb bq_wsX9_isSo ([(0, 5)] : List (Nat × Nat)) rfl (by decide +kernel)) (goodIn_app (good_rb bq_wsX9_isSo ([(0, 6), (0, 7), (0, 8), (0, 4), (0, 9)] : List (Nat × Nat)) rfl (by decide +kernel)) (goodIn_sb (fun _ h => (List.mem_cons_of_mem _ (List.mem_append_right _ h))) (by decide +kernel))))
set_option maxRecDepth 20000 in
theorem gX9_isSo_X9_isSitter : GoodIn wsX9_isSo (wsV RX9 362 RX9 yX9_isSitter wsX9_isSitter) := goodIn_app (good_rp ([2, 3, 4, 5] : List Nat) rfl (by decide +kernel)) ggX9_isSo_X9_isSitter
set_option maxRecDepth 20000 in
theorem bq_wsX9_keepsAct : subq wsX9_keepsAct [[.fieldLink RX9 299 "ChairCaneModel" "pastMany" "I", .fieldLink RX9 100 "ChairCaneModel" "past" "[I", .methodLink RX9 400 yX9_movesAll, .instanceMethod yX9_movesAll, .selects RX9 yX9_movesAll yX9_movesAll, .initialized RX9, .code yX9_movesAll cX9_movesAll 3 none, .fieldLink RX9 390 "ChairCaneModel" "pastAt" "I", .fieldLink RX9 386 "ChairCaneModel" "takesBack" "Z", .fieldLink RX9 9 "ChairCaneModel" "scalar" "[I", .fieldLink RX9 13 "ChairCaneModel" "cane" "[I", .fieldLink RX9 16 "ChairCaneModel" "is" "[I", .methodLink RX9 393 yX9_moves, .instanceMethod yX9_moves, .selects RX9 yX9_moves yX9_moves, .code yX9_moves cX9_moves 3 (some .int), .methodLink RX9 396 yX9_movesRow, .instanceMethod yX9_movesRow, .selects RX9 yX9_movesRow yX9_movesRow, .code yX9_movesRow cX9_movesRow 3 none]] := ⟨(fun _ h => (List.mem_cons_of_mem _ (List.mem_append_left _ h))), trivial⟩
set_option maxRecDepth 20000 in
theorem ggX9_keepsAct_X9_movesAll : GoodIn wsX9_keepsAct wsX9_movesAll := (goodIn_cons (good_rb bq_wsX9_keepsAct ([(0, 6)] : List (Nat × Nat)) rfl (by decide +kernel)) (goodIn_app (good_rb bq_wsX9_keepsAct ([(0, 7), (0, 8), (0, 9), (0, 10), (0, 11), (0, 12), (0, 13), (0, 14), (0, 5), (0, 15), (0, 1), (0, 16), (0, 17), (0, 18), (0, 19)] : List (Nat × Nat)) rfl (by decide +kernel)) (goodIn_sb (fun _ h => (List.mem_cons_of_mem _ (List.mem_append_right _ h))) (by decide +kernel))))
set_option maxRecDepth 20000 in
theorem gX9_keepsAct_X9_movesAll : GoodIn wsX9_keepsAct (wsV RX9 400 RX9 yX9_movesAll wsX9_movesAll) := goodIn_app (good_rp ([3, 4, 5, 6] : List Nat) rfl (by decide +kernel)) ggX9_keepsAct_X9_movesAll
set_option maxRecDepth 20000 in
theorem bq_wsX9_keepsAll : subq wsX9_keepsAll [wsX9_keepsAll_r1, wsX9_keepsAll_r2] := ⟨(fun _ h => (List.mem_cons_of_mem _ (List.mem_append_left _ (List.mem_append_left _ h)))), (fun _ h => (List.mem_cons_of_mem _ (List.mem_append_left _ (List.mem_append_right _ h)))), trivial⟩
set_option maxRecDepth 20000 in
theorem ggX9_keepsAll_X9_carriesAll : GoodIn wsX9_keepsAll wsX9_carriesAll := (goodIn_cons (good_rb bq_wsX9_keepsAll ([(0, 4)] : List (Nat × Nat)) rfl (by decide +kernel)) (goodIn_app (good_rb bq_wsX9_keepsAll ([(0, 5), (0, 6), (0, 7), (0, 8), (0, 9), (0, 10), (0, 11), (0, 12), (0, 13), (0, 14), (0, 15), (0, 16), (0, 17), (0, 18), (0, 19), (0, 20), (0, 21), (0, 22), (0, 23), (0, 3), (1, 0), (1, 1)] : List (Nat × Nat)) rfl (by decide +kernel)) (goodIn_sb (fun _ h => (List.mem_cons_of_mem _ (List.mem_append_right _ h))) (by decide +kernel))))
set_option maxRecDepth 20000 in
theorem gX9_keepsAll_X9_carriesAll : GoodIn wsX9_keepsAll (wsV RX9 415 RX9 yX9_carriesAll wsX9_carriesAll) := goodIn_app (good_rp ([1, 2, 3, 4] : List Nat) rfl (by decide +kernel)) ggX9_keepsAll_X9_carriesAll
set_option maxRecDepth 20000 in
theorem bq_wsX9_laysBack : subq wsX9_laysBack [wsX9_laysBack_r1, wsX9_laysBack_r2] := ⟨(fun _ h => (List.mem_cons_of_mem _ (List.mem_append_left _ (List.mem_append_left _ h)))), (fun _ h => (List.mem_cons_of_mem _ (List.mem_append_left _ (List.mem_append_right _ h)))), trivial⟩
set_option maxRecDepth 20000 in
theorem ggX9_laysBack_X9_carriesAll : GoodIn wsX9_laysBack wsX9_carriesAll := (goodIn_cons (good_rb bq_wsX9_laysBack ([(0, 4)] : List (Nat × Nat)) rfl (by decide +kernel)) (goodIn_app (good_rb bq_wsX9_laysBack ([(0, 5), (0, 6), (0, 7), (0, 8), (0, 9), (0, 10), (0, 11), (0, 12), (0, 13), (0, 14), (0, 15), (0, 16), (0, 17), (0, 18), (0, 19), (0, 20), (0, 21), (0, 22), (0, 23), (0, 3), (1, 0), (1, 1)] : List (Nat × Nat)) rfl (by decide +kernel)) (goodIn_sb (fun _ h => (List.mem_cons_of_mem _ (List.mem_append_right _ h))) (by decide +kernel))))
set_option maxRecDepth 20000 in
theorem gX9_laysBack_X9_carriesAll : GoodIn wsX9_laysBack (wsV RX9 415 RX9 yX9_carriesAll wsX9_carriesAll) := goodIn_app (good_rp ([1, 2, 3, 4] : List Nat) rfl (by decide +kernel)) ggX9_laysBack_X9_carriesAll
set_option maxRecDepth 20000 in
theorem bq_wsX9_let : subq wsX9_let [wsX9_let_r1, wsX9_let_r2, wsX9_let_r3] := ⟨(fun _ h => (List.mem_cons_of_mem _ (List.mem_append_left _ (List.mem_append_left _ h)))), (fun _ h => (List.mem_cons_of_mem _ (List.mem_append_left _ (List.mem_append_right _ (List.mem_append_left _ h))))), (fun _ h => (List.mem_cons_of_mem _ (List.mem_append_left _ (List.mem_append_right _ (List.mem_append_right _ h))))), trivial⟩
set_option maxRecDepth 20000 in
theorem ggX9_let_X9_in : GoodIn wsX9_let wsX9_in := (goodIn_cons (good_rb bq_wsX9_let ([(0, 10)] : List (Nat × Nat)) rfl (by decide +kernel)) (good_rb bq_wsX9_let ([] : List (Nat × Nat)) rfl (by decide +kernel)))
set_option maxRecDepth 20000 in
theorem gX9_let_X9_in : GoodIn wsX9_let (va_wsS RX9 131 yX9_in wsX9_in) := goodIn_app (good_rp ([9, 10, 6] : List Nat) rfl (by decide +kernel)) ggX9_let_X9_in
set_option maxRecDepth 20000 in
theorem ggX9_let_X9_isStrand : GoodIn wsX9_let wsX9_isStrand := (goodIn_cons (good_rb bq_wsX9_let ([(0, 6)] : List (Nat × Nat)) rfl (by decide +kernel)) (goodIn_app (good_rb bq_wsX9_let ([(0, 7), (0, 8), (0, 9), (0, 5), (0, 10)] : List (Nat × Nat)) rfl (by decide +kernel)) (goodIn_sb (fun _ h => (List.mem_cons_of_mem _ (List.mem_append_right _ h))) (by decide +kernel))))
set_option maxRecDepth 20000 in
theorem gX9_let_X9_isStrand : GoodIn wsX9_let (wsV RX9 347 RX9 yX9_isStrand wsX9_isStrand) := goodIn_app (good_rp ([3, 4, 5, 6] : List Nat) rfl (by decide +kernel)) ggX9_let_X9_isStrand
set_option maxRecDepth 20000 in
theorem ggX9_let_X9_keepsAct : GoodIn wsX9_let wsX9_keepsAct := (goodIn_cons (good_rb bq_wsX9_let ([(0, 14)] : List (Nat × Nat)) rfl (by decide +kernel)) (goodIn_app (good_rb bq_wsX9_let ([(0, 15), (0, 16), (0, 17), (0, 18), (0, 19), (0, 5), (0, 20), (0, 21), (0, 22), (0, 7), (0, 1), (0, 23), (1, 0), (1, 1), (1, 2), (1, 3), (1, 4), (1, 5), (1, 6), (1, 7)] : List (Nat × Nat)) rfl (by decide +kernel)) (goodIn_sb (fun _ h => (List.mem_cons_of_mem _ (List.mem_append_right _ h))) (by decide +kernel))))
set_option maxRecDepth 20000 in
theorem gX9_let_X9_keepsAct : GoodIn wsX9_let (wsV RX9 407 RX9 yX9_keepsAct wsX9_keepsAct) := goodIn_app (good_rp ([12, 13, 14, 6] : List Nat) rfl (by decide +kernel)) ggX9_let_X9_keepsAct
set_option maxRecDepth 20000 in
theorem ggX9_let_X9_settles : GoodIn wsX9_let wsX9_settles := (goodIn_cons (good_rb bq_wsX9_let ([(1, 11)] : List (Nat × Nat)) rfl (by decide +kernel)) (goodIn_app (goodIn_app (good_rb bq_wsX9_let ([(0, 7), (0, 23), (1, 12), (1, 13), (1, 14), (0, 5), (1, 15), (1, 16), (1, 17), (1, 18), (1, 19), (1, 20), (1, 21), (1, 22), (1, 23), (2, 0), (2, 1), (2, 2), (2, 3), (2, 4), (2, 5), (0, 1), (2, 6), (2, 7)] : List (Nat × Nat)) rfl (by decide +kernel)) (good_rb bq_wsX9_let ([(2, 8), (2, 9), (2, 10), (2, 11), (2, 12), (2, 13), (2, 14)] : List (Nat × Nat)) rfl (by decide +kernel))) (goodIn_sb (fun _ h => (List.mem_cons_of_mem _ (List.mem_append_right _ h))) (by decide +kernel))))
set_option maxRecDepth 20000 in
theorem gX9_let_X9_settles : GoodIn wsX9_let (wsV RX9 380 RX9 yX9_settles wsX9_settles) := goodIn_app (good_rp ([33, 34, 35, 6] : List Nat) rfl (by decide +kernel)) ggX9_let_X9_settles
set_option maxRecDepth 20000 in
theorem bq_wsX9_minute : subq wsX9_minute [wsX9_minute_r1, wsX9_minute_r2, wsX9_minute_r3, wsX9_minute_r4, wsX9_minute_r5] := ⟨(fun _ h => (List.mem_cons_of_mem _ (List.mem_append_left _ (List.mem_append_left _ h)))), (fun _ h => (List.mem_cons_of_mem _ (List.mem_append_left _ (List.mem_append_right _ (List.mem_append_left _ h))))), (fun _ h => (List.mem_cons_of_mem _ (List.mem_append_left _ (List.mem_append_right _ (List.mem_append_right _ (List.mem_append_left _ h)))))), (fun _ h => (List.mem_cons_of_mem _ (List.mem_append_left _ (List.mem_append_right _ (List.mem_append_right _ (List.mem_append_right _ (List.mem_append_left _ h))))))), (fun _ h => (List.mem_cons_of_mem _ (List.mem_append_left _ (List.mem_append_right _ (List.mem_append_right _ (List.mem_append_right _ (List.mem_append_right _ h))))))), trivial⟩
set_option maxRecDepth 20000 in
theorem ggX9_minute_X9_goes : GoodIn wsX9_minute wsX9_goes := (goodIn_cons (good_rb bq_wsX9_minute ([(1, 7)] : List (Nat × Nat)) rfl (by decide +kernel)) (goodIn_app (goodIn_app (good_rb bq_wsX9_minute ([(0, 0), (0, 19), (1, 8), (1, 9), (1, 10), (0, 4), (1, 11), (1, 12), (1, 13), (1, 14), (1, 15), (1, 16), (1, 17), (0, 18), (1, 18), (1, 19), (1, 20), (1, 21), (1, 22), (1, 23), (2, 0), (2, 1), (2, 2), (2, 3)] : List (Nat × Nat)) rfl (by decide +kernel)) (goodIn_app (good_rb bq_wsX9_minute ([(2, 4), (2, 5), (2, 6), (2, 7), (2, 8), (2, 9), (2, 10), (2, 11), (2, 12), (2, 13), (2, 14), (2, 15), (2, 16), (2, 17), (2, 18), (2, 19), (2, 20), (2, 21), (2, 22), (2, 23), (3, 0), (3, 1), (3, 2), (3, 3)] : List (Nat × Nat)) rfl (by decide +kernel)) (good_rb bq_wsX9_minute ([(3, 4), (3, 5), (3, 6), (3, 7), (3, 8), (3, 9), (3, 10), (3, 11), (3, 12), (3, 13), (3, 14), (3, 15), (3, 16), (3, 17), (3, 18), (3, 19), (3, 20), (3, 21), (3, 22), (3, 23), (4, 0)] : List (Nat × Nat)) rfl (by decide +kernel)))) (goodIn_sb (fun _ h => (List.mem_cons_of_mem _ (List.mem_append_right _ h))) (by decide +kernel))))
set_option maxRecDepth 20000 in
theorem gX9_minute_X9_goes : GoodIn wsX9_minute (wsV RX9 383 RX9 yX9_goes wsX9_goes) := goodIn_app (good_rp ([29, 30, 31, 5] : List Nat) rfl (by decide +kernel)) ggX9_minute_X9_goes
set_option maxRecDepth 20000 in
theorem ggX9_minute_X9_isHall : GoodIn wsX9_minute wsX9_isHall := (goodIn_cons (good_rb bq_wsX9_minute ([(0, 5)] : List (Nat × Nat)) rfl (by decide +kernel)) (goodIn_app (good_rb bq_wsX9_minute ([(0, 0)] : List (Nat × Nat)) rfl (by decide +kernel)) (goodIn_sb (fun _ h => (List.mem_cons_of_mem _ (List.mem_append_right _ h))) (by decide +kernel))))
set_option maxRecDepth 20000 in
theorem gX9_minute_X9_isHall : GoodIn wsX9_minute (wsV RX9 404 RX9 yX9_isHall wsX9_isHall) := goodIn_app (good_rp ([2, 3, 4, 5] : List Nat) rfl (by decide +kernel)) ggX9_minute_X9_isHall
set_option maxRecDepth 20000 in
theorem ggX9_minute_X9_keepsAct : GoodIn wsX9_minute wsX9_keepsAct := (goodIn_cons (good_rb bq_wsX9_minute ([(0, 9)] : List (Nat × Nat)) rfl (by decide +kernel)) (goodIn_app (good_rb bq_wsX9_minute ([(0, 10), (0, 11), (0, 12), (0, 13), (0, 14), (0, 4), (0, 15), (0, 16), (0, 17), (0, 0), (0, 18), (0, 19), (0, 20), (0, 21), (0, 22), (0, 23), (1, 0), (1, 1), (1, 2), (1, 3)] : List (Nat × Nat)) rfl (by decide +kernel)) (goodIn_sb (fun _ h => (List.mem_cons_of_mem _ (List.mem_append_right _ h))) (by decide +kernel))))
set_option maxRecDepth 20000 in
theorem gX9_minute_X9_keepsAct : GoodIn wsX9_minute (wsV RX9 407 RX9 yX9_keepsAct wsX9_keepsAct) := goodIn_app (good_rp ([7, 8, 9, 5] : List Nat) rfl (by decide +kernel)) ggX9_minute_X9_keepsAct
set_option maxRecDepth 20000 in
theorem bq_wsX9_most : subq wsX9_most [wsX9_most_r1, wsX9_most_r2] := ⟨(fun _ h => (List.mem_cons_of_mem _ (List.mem_append_left _ (List.mem_append_left _ h)))), (fun _ h => (List.mem_cons_of_mem _ (List.mem_append_left _ (List.mem_append_right _ h)))), trivial⟩
set_option maxRecDepth 20000 in
theorem ggX9_most_X9_dropsOf : GoodIn wsX9_most wsX9_dropsOf := (goodIn_cons (good_rb bq_wsX9_most ([(0, 18)] : List (Nat × Nat)) rfl (by decide +kernel)) (goodIn_app (good_rb bq_wsX9_most ([(0, 6), (0, 19), (0, 20), (0, 21), (0, 22), (0, 4), (0, 23), (1, 0), (1, 1), (1, 2), (1, 3), (1, 4), (0, 0), (1, 5), (1, 6), (1, 7), (1, 8), (1, 9), (1, 10), (1, 11), (1, 12), (1, 13)] : List (Nat × Nat)) rfl (by decide +kernel)) (goodIn_sb (fun _ h => (List.mem_cons_of_mem _ (List.mem_append_right _ h))) (by decide +kernel))))
set_option maxRecDepth 20000 in
theorem gX9_most_X9_dropsOf : GoodIn wsX9_most (wsV RX9 367 RX9 yX9_dropsOf wsX9_dropsOf) := goodIn_app (good_rp ([16, 17, 18, 5] : List Nat) rfl (by decide +kernel)) ggX9_most_X9_dropsOf
set_option maxRecDepth 20000 in
theorem ggX9_most_X9_isStrand : GoodIn wsX9_most wsX9_isStrand := (goodIn_cons (good_rb bq_wsX9_most ([(0, 5)] : List (Nat × Nat)) rfl (by decide +kernel)) (goodIn_app (good_rb bq_wsX9_most ([(0, 6), (0, 7), (0, 8), (0, 4), (0, 9)] : List (Nat × Nat)) rfl (by decide +kernel)) (goodIn_sb (fun _ h => (List.mem_cons_of_mem _ (List.mem_append_right _ h))) (by decide +kernel))))
set_option maxRecDepth 20000 in
theorem gX9_most_X9_isStrand : GoodIn wsX9_most (wsV RX9 347 RX9 yX9_isStrand wsX9_isStrand) := goodIn_app (good_rp ([2, 3, 4, 5] : List Nat) rfl (by decide +kernel)) ggX9_most_X9_isStrand
set_option maxRecDepth 20000 in
theorem ggX9_most_X9_those : GoodIn wsX9_most wsX9_those := (goodIn_cons (good_rb bq_wsX9_most ([(0, 13)] : List (Nat × Nat)) rfl (by decide +kernel)) (goodIn_app (good_rb bq_wsX9_most ([(0, 6), (0, 14)] : List (Nat × Nat)) rfl (by decide +kernel)) (goodIn_sb (fun _ h => (List.mem_cons_of_mem _ (List.mem_append_right _ h))) (by decide +kernel))))
set_option maxRecDepth 20000 in
theorem gX9_most_X9_those : GoodIn wsX9_most (wsV RX9 341 RX9 yX9_those wsX9_those) := goodIn_app (good_rp ([11, 12, 13, 5] : List Nat) rfl (by decide +kernel)) ggX9_most_X9_those
set_option maxRecDepth 20000 in
theorem bq_wsX9_movesAll : subq wsX9_movesAll [[.fieldLink RX9 390 "ChairCaneModel" "pastAt" "I", .fieldLink RX9 386 "ChairCaneModel" "takesBack" "Z", .fieldLink RX9 9 "ChairCaneModel" "scalar" "[I", .fieldLink RX9 13 "ChairCaneModel" "cane" "[I", .fieldLink RX9 16 "ChairCaneModel" "is" "[I", .methodLink RX9 393 yX9_moves, .instanceMethod yX9_moves, .selects RX9 yX9_moves yX9_moves, .initialized RX9, .code yX9_moves cX9_moves 3 (some .int), .fieldLink RX9 100 "ChairCaneModel" "past" "[I", .methodLink RX9 396 yX9_movesRow, .instanceMethod yX9_movesRow, .selects RX9 yX9_movesRow yX9_movesRow, .code yX9_movesRow cX9_movesRow 3 none]] := ⟨(fun _ h => (List.mem_cons_of_mem _ (List.mem_append_left _ h))), trivial⟩
set_option maxRecDepth 20000 in
theorem ggX9_movesAll_X9_moves : GoodIn wsX9_movesAll wsX9_moves := (goodIn_cons (good_rb bq_wsX9_movesAll ([(0, 9)] : List (Nat × Nat)) rfl (by decide +kernel)) (goodIn_app (good_rb bq_wsX9_movesAll ([(0, 1), (0, 10), (0, 0)] : List (Nat × Nat)) rfl (by decide +kernel)) (goodIn_sb (fun _ h => (List.mem_cons_of_mem _ (List.mem_append_right _ h))) (by decide +kernel))))
set_option maxRecDepth 20000 in
theorem gX9_movesAll_X9_moves : GoodIn wsX9_movesAll (wsV RX9 393 RX9 yX9_moves wsX9_moves) := goodIn_app (good_rp ([6, 7, 8, 9] : List Nat) rfl (by decide +kernel)) ggX9_movesAll_X9_moves
set_option maxRecDepth 20000 in
theorem ggX9_movesAll_X9_movesRow : GoodIn wsX9_movesAll wsX9_movesRow := (goodIn_cons (good_rb bq_wsX9_movesAll ([(0, 14)] : List (Nat × Nat)) rfl (by decide +kernel)) (goodIn_app (good_rb bq_wsX9_movesAll ([(0, 5), (0, 6), (0, 7), (0, 8), (0, 9), (0, 1), (0, 10), (0, 0)] : List (Nat × Nat)) rfl (by decide +kernel)) (goodIn_sb (fun _ h => (List.mem_cons_of_mem _ (List.mem_append_right _ h))) (by decide +kernel))))
set_option maxRecDepth 20000 in
theorem gX9_movesAll_X9_movesRow : GoodIn wsX9_movesAll (wsV RX9 396 RX9 yX9_movesRow wsX9_movesRow) := goodIn_app (good_rp ([12, 13, 14, 9] : List Nat) rfl (by decide +kernel)) ggX9_movesAll_X9_movesRow
set_option maxRecDepth 20000 in
theorem bq_wsX9_movesRow : subq wsX9_movesRow [[.methodLink RX9 393 yX9_moves, .instanceMethod yX9_moves, .selects RX9 yX9_moves yX9_moves, .initialized RX9, .code yX9_moves cX9_moves 3 (some .int), .fieldLink RX9 386 "ChairCaneModel" "takesBack" "Z", .fieldLink RX9 100 "ChairCaneModel" "past" "[I", .fieldLink RX9 390 "ChairCaneModel" "pastAt" "I"]] := ⟨(fun _ h => (List.mem_cons_of_mem _ (List.mem_append_left _ h))), trivial⟩
set_option maxRecDepth 20000 in
theorem ggX9_movesRow_X9_moves : GoodIn wsX9_movesRow wsX9_moves := (goodIn_cons (good_rb bq_wsX9_movesRow ([(0, 4)] : List (Nat × Nat)) rfl (by decide +kernel)) (goodIn_app (good_rb bq_wsX9_movesRow ([(0, 5), (0, 6), (0, 7)] : List (Nat × Nat)) rfl (by decide +kernel)) (goodIn_sb (fun _ h => (List.mem_cons_of_mem _ (List.mem_append_right _ h))) (by decide +kernel))))
set_option maxRecDepth 20000 in
theorem gX9_movesRow_X9_moves : GoodIn wsX9_movesRow (wsV RX9 393 RX9 yX9_moves wsX9_moves) := goodIn_app (good_rp ([1, 2, 3, 4] : List Nat) rfl (by decide +kernel)) ggX9_movesRow_X9_moves
set_option maxRecDepth 20000 in
theorem bq_wsX9_nextOf : subq wsX9_nextOf [wsX9_nextOf_r1, wsX9_nextOf_r2] := ⟨(fun _ h => (List.mem_cons_of_mem _ (List.mem_append_left _ (List.mem_append_left _ h)))), (fun _ h => (List.mem_cons_of_mem _ (List.mem_append_left _ (List.mem_append_right _ h)))), trivial⟩
set_option maxRecDepth 20000 in
theorem ggX9_nextOf_X9_dropsOf : GoodIn wsX9_nextOf wsX9_dropsOf := (goodIn_cons (good_rb bq_wsX9_nextOf ([(0, 9)] : List (Nat × Nat)) rfl (by decide +kernel)) (goodIn_app (good_rb bq_wsX9_nextOf ([(0, 0), (0, 10), (0, 11), (0, 2), (0, 3), (0, 4), (0, 5), (0, 12), (0, 13), (0, 14), (0, 15), (0, 16), (0, 17), (0, 18), (0, 19), (0, 20), (0, 21), (0, 22), (0, 23), (1, 0), (1, 1), (1, 2)] : List (Nat × Nat)) rfl (by decide +kernel)) (goodIn_sb (fun _ h => (List.mem_cons_of_mem _ (List.mem_append_right _ h))) (by decide +kernel))))
set_option maxRecDepth 20000 in
theorem gX9_nextOf_X9_dropsOf : GoodIn wsX9_nextOf (wsV RX9 367 RX9 yX9_dropsOf wsX9_dropsOf) := goodIn_app (good_rp ([7, 8, 9, 5] : List Nat) rfl (by decide +kernel)) ggX9_nextOf_X9_dropsOf
set_option maxRecDepth 20000 in
theorem ggX9_nextOf_X9_has : GoodIn wsX9_nextOf wsX9_has := (goodIn_cons (good_rb bq_wsX9_nextOf ([(0, 5)] : List (Nat × Nat)) rfl (by decide +kernel)) (good_rb bq_wsX9_nextOf ([] : List (Nat × Nat)) rfl (by decide +kernel)))
set_option maxRecDepth 20000 in
theorem gX9_nextOf_X9_has : GoodIn wsX9_nextOf (va_wsS RX9 332 yX9_has wsX9_has) := goodIn_app (good_rp ([3, 4, 5] : List Nat) rfl (by decide +kernel)) ggX9_nextOf_X9_has
set_option maxRecDepth 20000 in
theorem bq_wsX9_rise : subq wsX9_rise [wsX9_rise_r1, wsX9_rise_r2, wsX9_rise_r3] := ⟨(fun _ h => (List.mem_cons_of_mem _ (List.mem_append_left _ (List.mem_append_left _ h)))), (fun _ h => (List.mem_cons_of_mem _ (List.mem_append_left _ (List.mem_append_right _ (List.mem_append_left _ h))))), (fun _ h => (List.mem_cons_of_mem _ (List.mem_append_left _ (List.mem_append_right _ (List.mem_append_right _ h))))), trivial⟩
set_option maxRecDepth 20000 in
theorem ggX9_rise_X9_isSo : GoodIn wsX9_rise wsX9_isSo := (goodIn_cons (good_rb bq_wsX9_rise ([(0, 5)] : List (Nat × Nat)) rfl (by decide +kernel)) (goodIn_app (good_rb bq_wsX9_rise ([(0, 0), (0, 6), (0, 7), (0, 8), (0, 4), (0, 9), (0, 10), (0, 11), (0, 12), (0, 13)] : List (Nat × Nat)) rfl (by decide +kernel)) (goodIn_sb (fun _ h => (List.mem_cons_of_mem _ (List.mem_append_right _ h))) (by decide +kernel))))
set_option maxRecDepth 20000 in
theorem gX9_rise_X9_isSo : GoodIn wsX9_rise (wsV RX9 410 RX9 yX9_isSo wsX9_isSo) := goodIn_app (good_rp ([2, 3, 4, 5] : List Nat) rfl (by decide +kernel)) ggX9_rise_X9_isSo
set_option maxRecDepth 20000 in
theorem ggX9_rise_X9_keepsAct : GoodIn wsX9_rise wsX9_keepsAct := (goodIn_cons (good_rb bq_wsX9_rise ([(0, 17)] : List (Nat × Nat)) rfl (by decide +kernel)) (goodIn_app (good_rb bq_wsX9_rise ([(0, 18), (0, 19), (0, 20), (0, 21), (0, 22), (0, 4), (0, 23), (1, 0), (1, 1), (0, 10), (1, 2), (0, 0), (1, 3), (1, 4), (1, 5), (1, 6), (1, 7), (1, 8), (1, 9), (1, 10)] : List (Nat × Nat)) rfl (by decide +kernel)) (goodIn_sb (fun _ h => (List.mem_cons_of_mem _ (List.mem_append_right _ h))) (by decide +kernel))))
set_option maxRecDepth 20000 in
theorem gX9_rise_X9_keepsAct : GoodIn wsX9_rise (wsV RX9 407 RX9 yX9_keepsAct wsX9_keepsAct) := goodIn_app (good_rp ([15, 16, 17, 5] : List Nat) rfl (by decide +kernel)) ggX9_rise_X9_keepsAct
set_option maxRecDepth 20000 in
theorem ggX9_rise_X9_settles : GoodIn wsX9_rise wsX9_settles := (goodIn_cons (good_rb bq_wsX9_rise ([(1, 14)] : List (Nat × Nat)) rfl (by decide +kernel)) (goodIn_app (goodIn_app (good_rb bq_wsX9_rise ([(0, 10), (0, 0), (1, 15), (1, 16), (1, 17), (0, 4), (1, 18), (1, 19), (1, 20), (1, 21), (1, 22), (1, 23), (2, 0), (2, 1), (2, 2), (2, 3), (2, 4), (2, 5), (2, 6), (2, 7), (2, 8), (1, 2), (2, 9), (2, 10)] : List (Nat × Nat)) rfl (by decide +kernel)) (good_rb bq_wsX9_rise ([(2, 11), (2, 12), (2, 13), (2, 14), (2, 15), (2, 16), (2, 17)] : List (Nat × Nat)) rfl (by decide +kernel))) (goodIn_sb (fun _ h => (List.mem_cons_of_mem _ (List.mem_append_right _ h))) (by decide +kernel))))
set_option maxRecDepth 20000 in
theorem gX9_rise_X9_settles : GoodIn wsX9_rise (wsV RX9 380 RX9 yX9_settles wsX9_settles) := goodIn_app (good_rp ([36, 37, 38, 5] : List Nat) rfl (by decide +kernel)) ggX9_rise_X9_settles
set_option maxRecDepth 20000 in
theorem bq_wsX9_sit : subq wsX9_sit [wsX9_sit_r1, wsX9_sit_r2, wsX9_sit_r3] := ⟨(fun _ h => (List.mem_cons_of_mem _ (List.mem_append_left _ (List.mem_append_left _ h)))), (fun _ h => (List.mem_cons_of_mem _ (List.mem_append_left _ (List.mem_append_right _ (List.mem_append_left _ h))))), (fun _ h => (List.mem_cons_of_mem _ (List.mem_append_left _ (List.mem_append_right _ (List.mem_append_right _ h))))), trivial⟩
set_option maxRecDepth 20000 in
theorem ggX9_sit_X9_isSo : GoodIn wsX9_sit wsX9_isSo := (goodIn_cons (good_rb bq_wsX9_sit ([(0, 5)] : List (Nat × Nat)) rfl (by decide +kernel)) (goodIn_app (good_rb bq_wsX9_sit ([(0, 0), (0, 6), (0, 7), (0, 8), (0, 4), (0, 9), (0, 10), (0, 11), (0, 12), (0, 13)] : List (Nat × Nat)) rfl (by decide +kernel)) (goodIn_sb (fun _ h => (List.mem_cons_of_mem _ (List.mem_append_right _ h))) (by decide +kernel))))
set_option maxRecDepth 20000 in
theorem gX9_sit_X9_isSo : GoodIn wsX9_sit (wsV RX9 410 RX9 yX9_isSo wsX9_isSo) := goodIn_app (good_rp ([2, 3, 4, 5] : List Nat) rfl (by decide +kernel)) ggX9_sit_X9_isSo
set_option maxRecDepth 20000 in
theorem ggX9_sit_X9_keepsAct : GoodIn wsX9_sit wsX9_keepsAct := (goodIn_cons (good_rb bq_wsX9_sit ([(0, 17)] : List (Nat × Nat)) rfl (by decide +kernel)) (goodIn_app (good_rb bq_wsX9_sit ([(0, 18), (0, 19), (0, 20), (0, 21), (0, 22), (0, 4), (0, 23), (1, 0), (1, 1), (0, 10), (1, 2), (0, 0), (1, 3), (1, 4), (1, 5), (1, 6), (1, 7), (1, 8), (1, 9), (1, 10)] : List (Nat × Nat)) rfl (by decide +kernel)) (goodIn_sb (fun _ h => (List.mem_cons_of_mem _ (List.mem_append_right _ h))) (by decide +kernel))))
set_option maxRecDepth 20000 in
theorem gX9_sit_X9_keepsAct : GoodIn wsX9_sit (wsV RX9 407 RX9 yX9_keepsAct wsX9_keepsAct) := goodIn_app (good_rp ([15, 16, 17, 5] : List Nat) rfl (by decide +kernel)) ggX9_sit_X9_keepsAct
set_option maxRecDepth 20000 in
theorem ggX9_sit_X9_settles : GoodIn wsX9_sit wsX9_settles := (goodIn_cons (good_rb bq_wsX9_sit ([(1, 14)] : List (Nat × Nat)) rfl (by decide +kernel)) (goodIn_app (goodIn_app (good_rb bq_wsX9_sit ([(0, 10), (0, 0), (1, 15), (1, 16), (1, 17), (0, 4), (1, 18), (1, 19), (1, 20), (1, 21), (1, 22), (1, 23), (2, 0), (2, 1), (2, 2), (2, 3), (2, 4), (2, 5), (2, 6), (2, 7), (2, 8), (1, 2), (2, 9), (2, 10)] : List (Nat × Nat)) rfl (by decide +kernel)) (good_rb bq_wsX9_sit ([(2, 11), (2, 12), (2, 13), (2, 14), (2, 15), (2, 16), (2, 17)] : List (Nat × Nat)) rfl (by decide +kernel))) (goodIn_sb (fun _ h => (List.mem_cons_of_mem _ (List.mem_append_right _ h))) (by decide +kernel))))
set_option maxRecDepth 20000 in
theorem gX9_sit_X9_settles : GoodIn wsX9_sit (wsV RX9 380 RX9 yX9_settles wsX9_settles) := goodIn_app (good_rp ([36, 37, 38, 5] : List Nat) rfl (by decide +kernel)) ggX9_sit_X9_settles
set_option maxRecDepth 20000 in
theorem bq_wsX9_tall : subq wsX9_tall [wsX9_tall_r1, wsX9_tall_r2, wsX9_tall_r3, wsX9_tall_r4] := ⟨(fun _ h => (List.mem_cons_of_mem _ (List.mem_append_left _ (List.mem_append_left _ h)))), (fun _ h => (List.mem_cons_of_mem _ (List.mem_append_left _ (List.mem_append_right _ (List.mem_append_left _ h))))), (fun _ h => (List.mem_cons_of_mem _ (List.mem_append_left _ (List.mem_append_right _ (List.mem_append_right _ (List.mem_append_left _ h)))))), (fun _ h => (List.mem_cons_of_mem _ (List.mem_append_left _ (List.mem_append_right _ (List.mem_append_right _ (List.mem_append_right _ h)))))), trivial⟩
set_option maxRecDepth 20000 in
theorem ggX9_tall_X9_bits : GoodIn wsX9_tall wsX9_bits := (goodIn_cons (good_rb bq_wsX9_tall ([(3, 2)] : List (Nat × Nat)) rfl (by decide +kernel)) (good_rb bq_wsX9_tall ([] : List (Nat × Nat)) rfl (by decide +kernel)))
set_option maxRecDepth 20000 in
theorem gX9_tall_X9_bits : GoodIn wsX9_tall (va_wsS RX9 370 yX9_bits wsX9_bits) := goodIn_app (good_rp ([73, 74, 6] : List Nat) rfl (by decide +kernel)) ggX9_tall_X9_bits
set_option maxRecDepth 20000 in
theorem ggX9_tall_X9_felledBy : GoodIn wsX9_tall wsX9_felledBy := (goodIn_cons (good_rb bq_wsX9_tall ([(0, 13)] : List (Nat × Nat)) rfl (by decide +kernel)) (goodIn_app (goodIn_app (good_rb bq_wsX9_tall ([(0, 1), (0, 14), (0, 15), (0, 16), (0, 5), (0, 17), (0, 18), (0, 19), (0, 20), (0, 21), (0, 22), (0, 23), (0, 0), (1, 0), (1, 1), (1, 2), (1, 3), (1, 4), (1, 5), (1, 6), (1, 7), (1, 8), (1, 9), (1, 10)] : List (Nat × Nat)) rfl (by decide +kernel)) (goodIn_app (good_rb bq_wsX9_tall ([(1, 11), (1, 12), (1, 13), (1, 14), (1, 15), (1, 16), (1, 17), (1, 18), (1, 19), (1, 20), (1, 21), (1, 22), (1, 23), (2, 0), (2, 1), (2, 2), (2, 3), (2, 4), (2, 5), (2, 6), (2, 7), (2, 8), (2, 9), (2, 10)] : List (Nat × Nat)) rfl (by decide +kernel)) (good_rb bq_wsX9_tall ([(2, 11), (2, 12), (2, 13), (2, 14), (2, 15), (2, 16), (2, 17), (2, 18), (2, 19), (2, 20), (2, 21), (2, 22), (2, 23)] : List (Nat × Nat)) rfl (by decide +kernel)))) (goodIn_sb (fun _ h => (List.mem_cons_of_mem _ (List.mem_append_right _ h))) (by decide +kernel))))
set_option maxRecDepth 20000 in
theorem gX9_tall_X9_felledBy : GoodIn wsX9_tall (wsV RX9 429 RX9 yX9_felledBy wsX9_felledBy) := goodIn_app (good_rp ([11, 12, 13, 6] : List Nat) rfl (by decide +kernel)) ggX9_tall_X9_felledBy
set_option maxRecDepth 20000 in
theorem ggX9_tall_X9_in : GoodIn wsX9_tall wsX9_in := (goodIn_cons (good_rb bq_wsX9_tall ([(0, 9)] : List (Nat × Nat)) rfl (by decide +kernel)) (good_rb bq_wsX9_tall ([] : List (Nat × Nat)) rfl (by decide +kernel)))
set_option maxRecDepth 20000 in
theorem gX9_tall_X9_in : GoodIn wsX9_tall (va_wsS RX9 131 yX9_in wsX9_in) := goodIn_app (good_rp ([8, 9, 6] : List Nat) rfl (by decide +kernel)) ggX9_tall_X9_in
set_option maxRecDepth 20000 in
theorem ggX9_tall_X9_isHall : GoodIn wsX9_tall wsX9_isHall := (goodIn_cons (good_rb bq_wsX9_tall ([(0, 6)] : List (Nat × Nat)) rfl (by decide +kernel)) (goodIn_app (good_rb bq_wsX9_tall ([(0, 0)] : List (Nat × Nat)) rfl (by decide +kernel)) (goodIn_sb (fun _ h => (List.mem_cons_of_mem _ (List.mem_append_right _ h))) (by decide +kernel))))
set_option maxRecDepth 20000 in
theorem gX9_tall_X9_isHall : GoodIn wsX9_tall (wsV RX9 404 RX9 yX9_isHall wsX9_isHall) := goodIn_app (good_rp ([3, 4, 5, 6] : List Nat) rfl (by decide +kernel)) ggX9_tall_X9_isHall
set_option maxRecDepth 20000 in
theorem bq_wsX9_undo : subq wsX9_undo [[.fieldLink RX9 299 "ChairCaneModel" "pastMany" "I", .methodLink RX9 400 yX9_movesAll, .instanceMethod yX9_movesAll, .selects RX9 yX9_movesAll yX9_movesAll, .initialized RX9, .code yX9_movesAll cX9_movesAll 3 none, .fieldLink RX9 390 "ChairCaneModel" "pastAt" "I", .fieldLink RX9 386 "ChairCaneModel" "takesBack" "Z", .fieldLink RX9 9 "ChairCaneModel" "scalar" "[I", .fieldLink RX9 13 "ChairCaneModel" "cane" "[I", .fieldLink RX9 16 "ChairCaneModel" "is" "[I", .methodLink RX9 393 yX9_moves, .instanceMethod yX9_moves, .selects RX9 yX9_moves yX9_moves, .code yX9_moves cX9_moves 3 (some .int), .fieldLink RX9 100 "ChairCaneModel" "past" "[I", .methodLink RX9 396 yX9_movesRow, .instanceMethod yX9_movesRow, .selects RX9 yX9_movesRow yX9_movesRow, .code yX9_movesRow cX9_movesRow 3 none]] := ⟨(fun _ h => (List.mem_cons_of_mem _ (List.mem_append_left _ h))), trivial⟩
set_option maxRecDepth 20000 in
theorem ggX9_undo_X9_movesAll : GoodIn wsX9_undo wsX9_movesAll := (goodIn_cons (good_rb bq_wsX9_undo ([(0, 5)] : List (Nat × Nat)) rfl (by decide +kernel)) (goodIn_app (good_rb bq_wsX9_undo ([(0, 6), (0, 7), (0, 8), (0, 9), (0, 10), (0, 11), (0, 12), (0, 13), (0, 4), (0, 14), (0, 15), (0, 16), (0, 17), (0, 18), (0, 19)] : List (Nat × Nat)) rfl (by decide +kernel)) (goodIn_sb (fun _ h => (List.mem_cons_of_mem _ (List.mem_append_right _ h))) (by decide +kernel))))
set_option maxRecDepth 20000 in
theorem gX9_undo_X9_movesAll : GoodIn wsX9_undo (wsV RX9 400 RX9 yX9_movesAll wsX9_movesAll) := goodIn_app (good_rp ([2, 3, 4, 5] : List Nat) rfl (by decide +kernel)) ggX9_undo_X9_movesAll
set_option maxRecDepth 20000 in
theorem bq_wsX9_way : subq wsX9_way [wsX9_way_r1, wsX9_way_r2] := ⟨(fun _ h => (List.mem_cons_of_mem _ (List.mem_append_left _ (List.mem_append_left _ h)))), (fun _ h => (List.mem_cons_of_mem _ (List.mem_append_left _ (List.mem_append_right _ h)))), trivial⟩
set_option maxRecDepth 20000 in
theorem ggX9_way_X9_in : GoodIn wsX9_way wsX9_in := (goodIn_cons (good_rb bq_wsX9_way ([(0, 10)] : List (Nat × Nat)) rfl (by decide +kernel)) (good_rb bq_wsX9_way ([] : List (Nat × Nat)) rfl (by decide +kernel)))
set_option maxRecDepth 20000 in
theorem gX9_way_X9_in : GoodIn wsX9_way (va_wsS RX9 131 yX9_in wsX9_in) := goodIn_app (good_rp ([9, 10, 6] : List Nat) rfl (by decide +kernel)) ggX9_way_X9_in
set_option maxRecDepth 20000 in
theorem ggX9_way_X9_isHall : GoodIn wsX9_way wsX9_isHall := (goodIn_cons (good_rb bq_wsX9_way ([(0, 6)] : List (Nat × Nat)) rfl (by decide +kernel)) (goodIn_app (good_rb bq_wsX9_way ([(0, 7)] : List (Nat × Nat)) rfl (by decide +kernel)) (goodIn_sb (fun _ h => (List.mem_cons_of_mem _ (List.mem_append_right _ h))) (by decide +kernel))))
set_option maxRecDepth 20000 in
theorem gX9_way_X9_isHall : GoodIn wsX9_way (wsV RX9 404 RX9 yX9_isHall wsX9_isHall) := goodIn_app (good_rp ([3, 4, 5, 6] : List Nat) rfl (by decide +kernel)) ggX9_way_X9_isHall
set_option maxRecDepth 20000 in
theorem ggX9_way_X9_nextOf : GoodIn wsX9_way wsX9_nextOf := (goodIn_cons (good_rb bq_wsX9_way ([(0, 19)] : List (Nat × Nat)) rfl (by decide +kernel)) (goodIn_app (goodIn_app (good_rb bq_wsX9_way ([(0, 7), (0, 1), (0, 20), (0, 21), (0, 5), (0, 22), (0, 23), (1, 0), (1, 1), (1, 2), (1, 3), (1, 4), (1, 5), (1, 6), (1, 7), (1, 8), (1, 9), (1, 10), (1, 11), (1, 12), (1, 13), (1, 14), (1, 15), (1, 16)] : List (Nat × Nat)) rfl (by decide +kernel)) (good_rb bq_wsX9_way ([(1, 17), (1, 18), (1, 19)] : List (Nat × Nat)) rfl (by decide +kernel))) (goodIn_sb (fun _ h => (List.mem_cons_of_mem _ (List.mem_append_right _ h))) (by decide +kernel))))
set_option maxRecDepth 20000 in
theorem gX9_way_X9_nextOf : GoodIn wsX9_way (wsV RX9 434 RX9 yX9_nextOf wsX9_nextOf) := goodIn_app (good_rp ([17, 18, 19, 6] : List Nat) rfl (by decide +kernel)) ggX9_way_X9_nextOf
set_option maxRecDepth 20000 in
theorem ggX9_way_X9_those : GoodIn wsX9_way wsX9_those := (goodIn_cons (good_rb bq_wsX9_way ([(0, 14)] : List (Nat × Nat)) rfl (by decide +kernel)) (goodIn_app (good_rb bq_wsX9_way ([(0, 7), (0, 15)] : List (Nat × Nat)) rfl (by decide +kernel)) (goodIn_sb (fun _ h => (List.mem_cons_of_mem _ (List.mem_append_right _ h))) (by decide +kernel))))
set_option maxRecDepth 20000 in
theorem gX9_way_X9_those : GoodIn wsX9_way (wsV RX9 341 RX9 yX9_those wsX9_those) := goodIn_app (good_rp ([12, 13, 14, 6] : List Nat) rfl (by decide +kernel)) ggX9_way_X9_those
noncomputable def b_X9_moves_20 (F : Nat)    (y0 : Int32) (mi : Nat → Int32) (pr : Nat → Int32) : Option (Int32 × (Nat → Int32) × (Nat → Int32)) :=
  if ib (mi 42) 260 then (some (y0, (uF mi 42 ((mi 42) + 1)), (upd pr (Int32.toNatClampNeg (mi 42)) y0))) else none
noncomputable def f_X9_moves (F : Nat)  (x1 : Int32) (mi : Nat → Int32) (pr : Nat → Int32) : Option (Int32 × (Nat → Int32) × (Nat → Int32)) :=
  if (mi 43) = 0 then (b_X9_moves_20 F x1 mi pr) else (if ib (mi 42) 260 then (b_X9_moves_20 F (pr (Int32.toNatClampNeg (mi 42))) mi pr) else none)
set_option maxRecDepth 20000 in
theorem bq_wsX9_moves : subq wsX9_moves [[.fieldLink RX9 386 "ChairCaneModel" "takesBack" "Z", .fieldLink RX9 100 "ChairCaneModel" "past" "[I", .fieldLink RX9 390 "ChairCaneModel" "pastAt" "I"]] := ⟨(fun _ h => (List.mem_cons_of_mem _ (List.mem_append_left _ h))), trivial⟩
set_option maxHeartbeats 4000000 in
set_option maxRecDepth 100000 in
theorem c_X9_moves (l : Launch) (D : va_G) (k : Nat → ClassId) (sz : Nat)  (va : Nat → Nat) (F : Nat)  (x1 : Int32) (mi : Nat → Int32) (pr : Nat → Int32)  {res : Int32 × (Nat → Int32) × (Nat → Int32)} (h : f_X9_moves F x1 mi pr = some res) : CtI l yX9_moves wsX9_moves (rmK 1 0 0) [.ref (va 0), .int x1] D k sz (([((va 0), .inr (7, [.int (mi 0), .ref (va 1), .ref (va 2), .ref (va 3), .ref (va 4), .ref (va 5), .ref (va 6), .ref (va 7), .ref (va 8), .ref (va 9), .ref (va 10), .ref (va 11), .ref (va 12), .ref (va 13), .ref (va 14), .ref (va 15), .ref (va 16), .ref (va 17), .int (mi 18), .int (mi 19), .int (mi 20), .int (mi 21), .int (mi 22), .int (mi 23), .int (mi 24), .int (mi 25), .int (mi 26), .int (mi 27), .ref (va 18), .ref (va 19), .ref (va 20), .ref (va 21), .ref (va 22), .ref (va 23), .ref (va 24), .ref (va 25), .ref (va 26), .ref (va 27), .ref (va 28), .ref (va 29), .ref (va 30), .int (mi 41), .int (mi 42), .int (mi 43), .ref (va 31), .ref (va 32), .ref (va 33), .ref (va 34), .ref (va 35), .ref (va 36), .ref (va 37), .int (mi 51), .int (mi 52)]))] : va_W) ++ (([((va 29), hcI k 260 pr)] : va_W))) (fun r (_ : Unit) => r = res.1) (fun _ : Unit => ([((va 0), .inr (7, [.int (res.2.1 0), .ref (va 1), .ref (va 2), .ref (va 3), .ref (va 4), .ref (va 5), .ref (va 6), .ref (va 7), .ref (va 8), .ref (va 9), .ref (va 10), .ref (va 11), .ref (va 12), .ref (va 13), .ref (va 14), .ref (va 15), .ref (va 16), .ref (va 17), .int (res.2.1 18), .int (res.2.1 19), .int (res.2.1 20), .int (res.2.1 21), .int (res.2.1 22), .int (res.2.1 23), .int (res.2.1 24), .int (res.2.1 25), .int (res.2.1 26), .int (res.2.1 27), .ref (va 18), .ref (va 19), .ref (va 20), .ref (va 21), .ref (va 22), .ref (va 23), .ref (va 24), .ref (va 25), .ref (va 26), .ref (va 27), .ref (va 28), .ref (va 29), .ref (va 30), .int (res.2.1 41), .int (res.2.1 42), .int (res.2.1 43), .ref (va 31), .ref (va 32), .ref (va 33), .ref (va 34), .ref (va 35), .ref (va 36), .ref (va 37), .int (res.2.1 51), .int (res.2.1 52)]))] : va_W) ++ (([((va 29), hcI k 260 res.2.2)] : va_W))) 0 0 := by
  refine CtI.mk (cc := cX9_moves) (maxL := 3) (ret := (some .int)) (by decide) rfl (Nat.le_of_ble_eq_true rfl) ?_
  intro p e s m below meth c A ls E hP hD hS hl
  obtain ⟨hx, hb, hr, hml, hown, hts, hlocks, hin, hG, hA⟩ := E
  have hown : s.vm.findClass RX9 = some m.cls := hown
  have in9 : ∀ w ∈ u_ws RX9 TX9 53, w ∈ wsX9_moves := fun _ h => List.mem_cons_of_mem _ (List.mem_append_right _ h)
  have hl : lv_has ls 3 [(0, .ref (va 0)), (1, .int x1)] := hl
  have B20 : ∀ (y0 : Int32) (mi : Nat → Int32) (pr : Nat → Int32) (H : Heap) (locs : List Loc) (ls : Array Slot), b_X9_moves_20 F y0 mi pr = some res → va_P D vwCl (([((va 0), .inr (7, [.int (mi 0), .ref (va 1), .ref (va 2), .ref (va 3), .ref (va 4), .ref (va 5), .ref (va 6), .ref (va 7), .ref (va 8), .ref (va 9), .ref (va 10), .ref (va 11), .ref (va 12), .ref (va 13), .ref (va 14), .ref (va 15), .ref (va 16), .ref (va 17), .int (mi 18), .int (mi 19), .int (mi 20), .int (mi 21), .int (mi 22), .int (mi 23), .int (mi 24), .int (mi 25), .int (mi 26), .int (mi 27), .ref (va 18), .ref (va 19), .ref (va 20), .ref (va 21), .ref (va 22), .ref (va 23), .ref (va 24), .ref (va 25), .ref (va 26), .ref (va 27), .ref (va 28), .ref (va 29), .ref (va 30), .int (mi 41), .int (mi 42), .int (mi 43), .ref (va 31), .ref (va 32), .ref (va 33), .ref (va 34), .ref (va 35), .ref (va 36), .ref (va 37), .int (mi 51), .int (mi 52)]))] : va_W) ++ (([((va 29), hcI k 260 pr)] : va_W))) H → va_D A (([((va 0), .inr (7, [.int (mi 0), .ref (va 1), .ref (va 2), .ref (va 3), .ref (va 4), .ref (va 5), .ref (va 6), .ref (va 7), .ref (va 8), .ref (va 9), .ref (va 10), .ref (va 11), .ref (va 12), .ref (va 13), .ref (va 14), .ref (va 15), .ref (va 16), .ref (va 17), .int (mi 18), .int (mi 19), .int (mi 20), .int (mi 21), .int (mi 22), .int (mi 23), .int (mi 24), .int (mi 25), .int (mi 26), .int (mi 27), .ref (va 18), .ref (va 19), .ref (va 20), .ref (va 21), .ref (va 22), .ref (va 23), .ref (va 24), .ref (va 25), .ref (va 26), .ref (va 27), .ref (va 28), .ref (va 29), .ref (va 30), .int (mi 41), .int (mi 42), .int (mi 43), .ref (va 31), .ref (va 32), .ref (va 33), .ref (va 34), .ref (va 35), .ref (va 36), .ref (va 37), .int (mi 51), .int (mi 52)]))] : va_W) ++ (([((va 29), hcI k 260 pr)] : va_W))) → va_S A s.heap H locs → lv_has ls 3 [(0, .ref (va 0))] → W p l e (rmK 1 0 0) s m (List.toArray [.ref (va 0), .int x1]) below meth c H locs 0 0 (MQ below (va_Qi (fun r (_ : Unit) => r = res.1) (hcB D (fun _ : Unit => ([((va 0), .inr (7, [.int (res.2.1 0), .ref (va 1), .ref (va 2), .ref (va 3), .ref (va 4), .ref (va 5), .ref (va 6), .ref (va 7), .ref (va 8), .ref (va 9), .ref (va 10), .ref (va 11), .ref (va 12), .ref (va 13), .ref (va 14), .ref (va 15), .ref (va 16), .ref (va 17), .int (res.2.1 18), .int (res.2.1 19), .int (res.2.1 20), .int (res.2.1 21), .int (res.2.1 22), .int (res.2.1 23), .int (res.2.1 24), .int (res.2.1 25), .int (res.2.1 26), .int (res.2.1 27), .ref (va 18), .ref (va 19), .ref (va 20), .ref (va 21), .ref (va 22), .ref (va 23), .ref (va 24), .ref (va 25), .ref (va 26), .ref (va 27), .ref (va 28), .ref (va 29), .ref (va 30), .int (res.2.1 41), .int (res.2.1 42), .int (res.2.1 43), .ref (va 31), .ref (va 32), .ref (va 33), .ref (va 34), .ref (va 35), .ref (va 36), .ref (va 37), .int (res.2.1 51), .int (res.2.1 52)]))] : va_W) ++ (([((va 29), hcI k 260 res.2.2)] : va_W))) A) A) (List.toArray [.ref (va 0), .int x1]) s 0 0 A) (F0 m 20 ls [.int y0]) := by
    intro y0 mi pr H locs ls h hP hD hS hl
    refine lv_istore_n (lv' := [(2, .int y0), (0, .ref (va 0))]) hx hb dX9_moves_20 rfl hl (by decide) rfl (fun ls hl => ?_)
    refine lv_aload_n hx hb dX9_moves_21 rfl (lv_at hl 1 rfl) ?_
    refine va_get (D := D) (ci := 7) (v := .ref (va 29)) (C := RX9) (T := TX9) (N := 53) hx hb hts in9 hown hG.1 hP 0 rfl rfl 39 (by decide) (hts (.fieldLink RX9 100 "ChairCaneModel" "past" "[I") (mem_b bq_wsX9_moves 0 1 rfl)) (fun _ h9 => h9) rfl dX9_moves_22 ?_
    refine lv_aload_n hx hb dX9_moves_25 rfl (lv_at hl 1 rfl) ?_
    refine va_get (D := D) (ci := 7) (v := .int (mi 42)) (C := RX9) (T := TX9) (N := 53) hx hb hts in9 hown hG.1 hP 0 rfl rfl 42 (by decide) (hts (.fieldLink RX9 390 "ChairCaneModel" "pastAt" "I") (mem_b bq_wsX9_moves 0 2 rfl)) (fun _ h9 => h9) rfl dX9_moves_26 ?_
    refine lv_iload_n hx hb dX9_moves_29 rfl (lv_at hl 0 rfl) ?_
    obtain ⟨g1, h⟩ := fw_g h
    refine va_iast hx hb hG.1 hP hD hS 1 0 rfl rfl (ib_vp g1) dX9_moves_30 (fun H locs hP hD hS => ?_)
    refine lv_aload_n hx hb dX9_moves_31 rfl (lv_at hl 1 rfl) ?_
    refine lv_dup hx hb dX9_moves_32 rfl ?_
    refine va_get (D := D) (ci := 7) (v := .int (mi 42)) (C := RX9) (T := TX9) (N := 53) hx hb hts in9 hown hG.1 hP 0 rfl rfl 42 (by decide) (hts (.fieldLink RX9 390 "ChairCaneModel" "pastAt" "I") (mem_b bq_wsX9_moves 0 2 rfl)) (fun _ h9 => h9) rfl dX9_moves_33 ?_
    refine lv_iconst (v := 1) hx hb dX9_moves_36 (by decide) ?_
    refine lv_iadd hx hb dX9_moves_37 ?_
    refine va_put (D := D) (ci := 7) (v := .int ((mi 42) + 1)) (C := RX9) (T := TX9) (N := 53) hx hb hts in9 tyX9 tyX9_ok nmX9 hown hG.1 hP hD hS 0 rfl rfl 42 (by decide) (hts (.fieldLink RX9 390 "ChairCaneModel" "pastAt" "I") (mem_b bq_wsX9_moves 0 2 rfl)) (fun _ h9 => h9) rfl (tyX9_ok 42 (by decide)) rfl rfl (Nat.le_of_ble_eq_true rfl) dX9_moves_38 (fun H locs hP hD hS => ?_)
    refine lv_iload_n hx hb dX9_moves_41 rfl (lv_at hl 0 rfl) ?_
    exact fw_endI (rv := fun b : Int32 × (Nat → Int32) × (Nat → Int32) => b.1) (wp := fun b : Int32 × (Nat → Int32) × (Nat → Int32) => ([((va 0), .inr (7, [.int (b.2.1 0), .ref (va 1), .ref (va 2), .ref (va 3), .ref (va 4), .ref (va 5), .ref (va 6), .ref (va 7), .ref (va 8), .ref (va 9), .ref (va 10), .ref (va 11), .ref (va 12), .ref (va 13), .ref (va 14), .ref (va 15), .ref (va 16), .ref (va 17), .int (b.2.1 18), .int (b.2.1 19), .int (b.2.1 20), .int (b.2.1 21), .int (b.2.1 22), .int (b.2.1 23), .int (b.2.1 24), .int (b.2.1 25), .int (b.2.1 26), .int (b.2.1 27), .ref (va 18), .ref (va 19), .ref (va 20), .ref (va 21), .ref (va 22), .ref (va 23), .ref (va 24), .ref (va 25), .ref (va 26), .ref (va 27), .ref (va 28), .ref (va 29), .ref (va 30), .int (b.2.1 41), .int (b.2.1 42), .int (b.2.1 43), .ref (va 31), .ref (va 32), .ref (va 33), .ref (va 34), .ref (va 35), .ref (va 36), .ref (va 37), .int (b.2.1 51), .int (b.2.1 52)]))] : va_W) ++ (([((va 29), hcI k 260 b.2.2)] : va_W))) hx hb hr hlocks h rfl hP hD hS dX9_moves_42
  refine lv_aload_n hx hb dX9_moves_0 rfl (lv_at hl 0 rfl) ?_
  refine va_get (D := D) (ci := 7) (v := .int (mi 43)) (C := RX9) (T := TX9) (N := 53) hx hb hts in9 hown hG.1 hP 0 rfl rfl 43 (by decide) (hts (.fieldLink RX9 386 "ChairCaneModel" "takesBack" "Z") (mem_b bq_wsX9_moves 0 0 rfl)) (fun _ h9 => h9) rfl dX9_moves_1 ?_
  refine lv_if_eq (tgt := 19) hx hb dX9_moves_4 (by decide) (fun c2 => ?_) (fun c2 => ?_)
  · have h := fw_t c2 h
    refine lv_iload_n hx hb dX9_moves_19 rfl (lv_at hl 1 rfl) ?_
    exact B20 _ _ _ _ _ _ h hP hD hS (lv_sub hl [0] rfl)
  · have h := fw_f c2 h
    refine lv_aload_n hx hb dX9_moves_7 rfl (lv_at hl 0 rfl) ?_
    refine va_get (D := D) (ci := 7) (v := .ref (va 29)) (C := RX9) (T := TX9) (N := 53) hx hb hts in9 hown hG.1 hP 0 rfl rfl 39 (by decide) (hts (.fieldLink RX9 100 "ChairCaneModel" "past" "[I") (mem_b bq_wsX9_moves 0 1 rfl)) (fun _ h9 => h9) rfl dX9_moves_8 ?_
    refine lv_aload_n hx hb dX9_moves_11 rfl (lv_at hl 0 rfl) ?_
    refine va_get (D := D) (ci := 7) (v := .int (mi 42)) (C := RX9) (T := TX9) (N := 53) hx hb hts in9 hown hG.1 hP 0 rfl rfl 42 (by decide) (hts (.fieldLink RX9 390 "ChairCaneModel" "pastAt" "I") (mem_b bq_wsX9_moves 0 2 rfl)) (fun _ h9 => h9) rfl dX9_moves_12 ?_
    obtain ⟨g3, h⟩ := fw_g h
    refine va_iald hx hb hG.1 hP 1 0 rfl rfl (ib_vp g3) dX9_moves_15 ?_
    refine lv_goto (tgt := 20) hx hb dX9_moves_16 (by decide) ?_
    exact B20 _ _ _ _ _ _ h hP hD hS (lv_sub hl [0] rfl)
