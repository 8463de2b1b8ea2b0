/-! the class, as functions -/
set_option maxRecDepth 100000 in
theorem tdX8_ahead_0 : dTb cX8_ahead [(0, .aload_n 0, 1), (1, .getfield 29, 3), (4, .getfield 81, 3), (7, .astore 4, 2), (9, .aload 4, 2), (11, .getfield 150, 3), (14, .ifCond .eq 22, 3), (17, .iload_n 2, 1), (18, .ifCond .lt 18, 3), (21, .iload_n 2, 1), (22, .bipush 100, 2), (24, .if_icmp .gt 12, 3), (27, .iload_n 3, 1), (28, .ifCond .lt 8, 3), (31, .iload_n 3, 1), (32, .iconst 2, 1), (33, .if_icmp .le 5, 3), (36, .iconst (-1), 1), (37, .ireturn, 1), (38, .iload_n 3, 1), (39, .iconst 2, 1), (40, .if_icmp .eq 14, 3), (43, .aload 4, 2), (45, .iload_n 1, 1), (46, .invokevirtual 138, 3), (49, .ifCond .ne 5, 3), (52, .iconst (-1), 1), (53, .ireturn, 1), (54, .aload_n 0, 1), (55, .getfield 44, 3), (58, .aload 4, 2), (60, .invokevirtual 84, 3), (63, .aload_n 0, 1), (64, .getfield 44, 3), (67, .iload_n 2, 1), (68, .aload_n 0, 1), (69, .invokevirtual 160, 3), (72, .invokevirtual 193, 3), (75, .iload_n 3, 1), (76, .iconst 2, 1)] = true := by decide +kernel
theorem dX8_ahead_0 : decode cX8_ahead 0 = .ok (.aload_n 0, 1) := dTa tdX8_ahead_0 0 rfl
theorem dX8_ahead_1 : decode cX8_ahead 1 = .ok (.getfield 29, 3) := dTa tdX8_ahead_0 1 rfl
theorem dX8_ahead_4 : decode cX8_ahead 4 = .ok (.getfield 81, 3) := dTa tdX8_ahead_0 2 rfl
theorem dX8_ahead_7 : decode cX8_ahead 7 = .ok (.astore 4, 2) := dTa tdX8_ahead_0 3 rfl
theorem dX8_ahead_9 : decode cX8_ahead 9 = .ok (.aload 4, 2) := dTa tdX8_ahead_0 4 rfl
theorem dX8_ahead_11 : decode cX8_ahead 11 = .ok (.getfield 150, 3) := dTa tdX8_ahead_0 5 rfl
theorem dX8_ahead_14 : decode cX8_ahead 14 = .ok (.ifCond .eq 22, 3) := dTa tdX8_ahead_0 6 rfl
theorem dX8_ahead_17 : decode cX8_ahead 17 = .ok (.iload_n 2, 1) := dTa tdX8_ahead_0 7 rfl
theorem dX8_ahead_18 : decode cX8_ahead 18 = .ok (.ifCond .lt 18, 3) := dTa tdX8_ahead_0 8 rfl
theorem dX8_ahead_21 : decode cX8_ahead 21 = .ok (.iload_n 2, 1) := dTa tdX8_ahead_0 9 rfl
theorem dX8_ahead_22 : decode cX8_ahead 22 = .ok (.bipush 100, 2) := dTa tdX8_ahead_0 10 rfl
theorem dX8_ahead_24 : decode cX8_ahead 24 = .ok (.if_icmp .gt 12, 3) := dTa tdX8_ahead_0 11 rfl
theorem dX8_ahead_27 : decode cX8_ahead 27 = .ok (.iload_n 3, 1) := dTa tdX8_ahead_0 12 rfl
theorem dX8_ahead_28 : decode cX8_ahead 28 = .ok (.ifCond .lt 8, 3) := dTa tdX8_ahead_0 13 rfl
theorem dX8_ahead_31 : decode cX8_ahead 31 = .ok (.iload_n 3, 1) := dTa tdX8_ahead_0 14 rfl
theorem dX8_ahead_32 : decode cX8_ahead 32 = .ok (.iconst 2, 1) := dTa tdX8_ahead_0 15 rfl
theorem dX8_ahead_33 : decode cX8_ahead 33 = .ok (.if_icmp .le 5, 3) := dTa tdX8_ahead_0 16 rfl
theorem dX8_ahead_36 : decode cX8_ahead 36 = .ok (.iconst (-1), 1) := dTa tdX8_ahead_0 17 rfl
theorem dX8_ahead_37 : decode cX8_ahead 37 = .ok (.ireturn, 1) := dTa tdX8_ahead_0 18 rfl
theorem dX8_ahead_38 : decode cX8_ahead 38 = .ok (.iload_n 3, 1) := dTa tdX8_ahead_0 19 rfl
theorem dX8_ahead_39 : decode cX8_ahead 39 = .ok (.iconst 2, 1) := dTa tdX8_ahead_0 20 rfl
theorem dX8_ahead_40 : decode cX8_ahead 40 = .ok (.if_icmp .eq 14, 3) := dTa tdX8_ahead_0 21 rfl
theorem dX8_ahead_43 : decode cX8_ahead 43 = .ok (.aload 4, 2) := dTa tdX8_ahead_0 22 rfl
theorem dX8_ahead_45 : decode cX8_ahead 45 = .ok (.iload_n 1, 1) := dTa tdX8_ahead_0 23 rfl
theorem dX8_ahead_46 : decode cX8_ahead 46 = .ok (.invokevirtual 138, 3) := dTa tdX8_ahead_0 24 rfl
theorem dX8_ahead_49 : decode cX8_ahead 49 = .ok (.ifCond .ne 5, 3) := dTa tdX8_ahead_0 25 rfl
theorem dX8_ahead_52 : decode cX8_ahead 52 = .ok (.iconst (-1), 1) := dTa tdX8_ahead_0 26 rfl
theorem dX8_ahead_53 : decode cX8_ahead 53 = .ok (.ireturn, 1) := dTa tdX8_ahead_0 27 rfl
theorem dX8_ahead_54 : decode cX8_ahead 54 = .ok (.aload_n 0, 1) := dTa tdX8_ahead_0 28 rfl
theorem dX8_ahead_55 : decode cX8_ahead 55 = .ok (.getfield 44, 3) := dTa tdX8_ahead_0 29 rfl
theorem dX8_ahead_58 : decode cX8_ahead 58 = .ok (.aload 4, 2) := dTa tdX8_ahead_0 30 rfl
theorem dX8_ahead_60 : decode cX8_ahead 60 = .ok (.invokevirtual 84, 3) := dTa tdX8_ahead_0 31 rfl
theorem dX8_ahead_63 : decode cX8_ahead 63 = .ok (.aload_n 0, 1) := dTa tdX8_ahead_0 32 rfl
theorem dX8_ahead_64 : decode cX8_ahead 64 = .ok (.getfield 44, 3) := dTa tdX8_ahead_0 33 rfl
theorem dX8_ahead_67 : decode cX8_ahead 67 = .ok (.iload_n 2, 1) := dTa tdX8_ahead_0 34 rfl
theorem dX8_ahead_68 : decode cX8_ahead 68 = .ok (.aload_n 0, 1) := dTa tdX8_ahead_0 35 rfl
theorem dX8_ahead_69 : decode cX8_ahead 69 = .ok (.invokevirtual 160, 3) := dTa tdX8_ahead_0 36 rfl
theorem dX8_ahead_72 : decode cX8_ahead 72 = .ok (.invokevirtual 193, 3) := dTa tdX8_ahead_0 37 rfl
theorem dX8_ahead_75 : decode cX8_ahead 75 = .ok (.iload_n 3, 1) := dTa tdX8_ahead_0 38 rfl
theorem dX8_ahead_76 : decode cX8_ahead 76 = .ok (.iconst 2, 1) := dTa tdX8_ahead_0 39 rfl
set_option maxRecDepth 100000 in
theorem tdX8_ahead_77 : dTb cX8_ahead [(77, .if_icmp .ne 14, 3), (80, .aload_n 0, 1), (81, .getfield 44, 3), (84, .getfield 179, 3), (87, .invokestatic 182, 3), (90, .ireturn, 1), (91, .iload_n 3, 1), (92, .ifCond .ne 14, 3), (95, .aload_n 0, 1), (96, .getfield 44, 3), (99, .iload_n 1, 1), (100, .invokevirtual 147, 3), (103, .goto 11, 3), (106, .aload_n 0, 1), (107, .getfield 44, 3), (110, .iload_n 1, 1), (111, .invokevirtual 135, 3), (114, .ireturn, 1)] = true := by decide +kernel
theorem dX8_ahead_77 : decode cX8_ahead 77 = .ok (.if_icmp .ne 14, 3) := dTa tdX8_ahead_77 0 rfl
theorem dX8_ahead_80 : decode cX8_ahead 80 = .ok (.aload_n 0, 1) := dTa tdX8_ahead_77 1 rfl
theorem dX8_ahead_81 : decode cX8_ahead 81 = .ok (.getfield 44, 3) := dTa tdX8_ahead_77 2 rfl
theorem dX8_ahead_84 : decode cX8_ahead 84 = .ok (.getfield 179, 3) := dTa tdX8_ahead_77 3 rfl
theorem dX8_ahead_87 : decode cX8_ahead 87 = .ok (.invokestatic 182, 3) := dTa tdX8_ahead_77 4 rfl
theorem dX8_ahead_90 : decode cX8_ahead 90 = .ok (.ireturn, 1) := dTa tdX8_ahead_77 5 rfl
theorem dX8_ahead_91 : decode cX8_ahead 91 = .ok (.iload_n 3, 1) := dTa tdX8_ahead_77 6 rfl
theorem dX8_ahead_92 : decode cX8_ahead 92 = .ok (.ifCond .ne 14, 3) := dTa tdX8_ahead_77 7 rfl
theorem dX8_ahead_95 : decode cX8_ahead 95 = .ok (.aload_n 0, 1) := dTa tdX8_ahead_77 8 rfl
theorem dX8_ahead_96 : decode cX8_ahead 96 = .ok (.getfield 44, 3) := dTa tdX8_ahead_77 9 rfl
theorem dX8_ahead_99 : decode cX8_ahead 99 = .ok (.iload_n 1, 1) := dTa tdX8_ahead_77 10 rfl
theorem dX8_ahead_100 : decode cX8_ahead 100 = .ok (.invokevirtual 147, 3) := dTa tdX8_ahead_77 11 rfl
theorem dX8_ahead_103 : decode cX8_ahead 103 = .ok (.goto 11, 3) := dTa tdX8_ahead_77 12 rfl
theorem dX8_ahead_106 : decode cX8_ahead 106 = .ok (.aload_n 0, 1) := dTa tdX8_ahead_77 13 rfl
theorem dX8_ahead_107 : decode cX8_ahead 107 = .ok (.getfield 44, 3) := dTa tdX8_ahead_77 14 rfl
theorem dX8_ahead_110 : decode cX8_ahead 110 = .ok (.iload_n 1, 1) := dTa tdX8_ahead_77 15 rfl
theorem dX8_ahead_111 : decode cX8_ahead 111 = .ok (.invokevirtual 135, 3) := dTa tdX8_ahead_77 16 rfl
theorem dX8_ahead_114 : decode cX8_ahead 114 = .ok (.ireturn, 1) := dTa tdX8_ahead_77 17 rfl
set_option maxRecDepth 100000 in
theorem tdX8_chair_0 : dTb cX8_chair [(0, .aload_n 0, 1), (1, .getfield 29, 3), (4, .getfield 81, 3), (7, .astore_n 3, 1), (8, .aload_n 3, 1), (9, .iload_n 1, 1), (10, .invokevirtual 122, 3), (13, .ifCond .ne 6, 3), (16, .bipush (-2), 2), (18, .ireturn, 1), (19, .iload_n 2, 1), (20, .tableswitch 62 0 3 #[32, 39, 46, 52], 32), (52, .aload_n 3, 1), (53, .getfield 125, 3), (56, .iload_n 1, 1), (57, .iaload, 1), (58, .ireturn, 1), (59, .aload_n 3, 1), (60, .getfield 128, 3), (63, .iload_n 1, 1), (64, .iaload, 1), (65, .ireturn, 1), (66, .aload_n 3, 1), (67, .iload_n 1, 1), (68, .invokevirtual 131, 3), (71, .ireturn, 1), (72, .aload_n 3, 1), (73, .aload_n 3, 1), (74, .iload_n 1, 1), (75, .invokevirtual 131, 3), (78, .invokevirtual 135, 3), (81, .ireturn, 1), (82, .bipush (-2), 2), (84, .ireturn, 1)] = true := by decide +kernel
theorem dX8_chair_0 : decode cX8_chair 0 = .ok (.aload_n 0, 1) := dTa tdX8_chair_0 0 rfl
theorem dX8_chair_1 : decode cX8_chair 1 = .ok (.getfield 29, 3) := dTa tdX8_chair_0 1 rfl
theorem dX8_chair_4 : decode cX8_chair 4 = .ok (.getfield 81, 3) := dTa tdX8_chair_0 2 rfl
theorem dX8_chair_7 : decode cX8_chair 7 = .ok (.astore_n 3, 1) := dTa tdX8_chair_0 3 rfl
theorem dX8_chair_8 : decode cX8_chair 8 = .ok (.aload_n 3, 1) := dTa tdX8_chair_0 4 rfl
theorem dX8_chair_9 : decode cX8_chair 9 = .ok (.iload_n 1, 1) := dTa tdX8_chair_0 5 rfl
theorem dX8_chair_10 : decode cX8_chair 10 = .ok (.invokevirtual 122, 3) := dTa tdX8_chair_0 6 rfl
theorem dX8_chair_13 : decode cX8_chair 13 = .ok (.ifCond .ne 6, 3) := dTa tdX8_chair_0 7 rfl
theorem dX8_chair_16 : decode cX8_chair 16 = .ok (.bipush (-2), 2) := dTa tdX8_chair_0 8 rfl
theorem dX8_chair_18 : decode cX8_chair 18 = .ok (.ireturn, 1) := dTa tdX8_chair_0 9 rfl
theorem dX8_chair_19 : decode cX8_chair 19 = .ok (.iload_n 2, 1) := dTa tdX8_chair_0 10 rfl
theorem dX8_chair_20 : decode cX8_chair 20 = .ok (.tableswitch 62 0 3 #[32, 39, 46, 52], 32) := dTa tdX8_chair_0 11 rfl
theorem dX8_chair_52 : decode cX8_chair 52 = .ok (.aload_n 3, 1) := dTa tdX8_chair_0 12 rfl
theorem dX8_chair_53 : decode cX8_chair 53 = .ok (.getfield 125, 3) := dTa tdX8_chair_0 13 rfl
theorem dX8_chair_56 : decode cX8_chair 56 = .ok (.iload_n 1, 1) := dTa tdX8_chair_0 14 rfl
theorem dX8_chair_57 : decode cX8_chair 57 = .ok (.iaload, 1) := dTa tdX8_chair_0 15 rfl
theorem dX8_chair_58 : decode cX8_chair 58 = .ok (.ireturn, 1) := dTa tdX8_chair_0 16 rfl
theorem dX8_chair_59 : decode cX8_chair 59 = .ok (.aload_n 3, 1) := dTa tdX8_chair_0 17 rfl
theorem dX8_chair_60 : decode cX8_chair 60 = .ok (.getfield 128, 3) := dTa tdX8_chair_0 18 rfl
theorem dX8_chair_63 : decode cX8_chair 63 = .ok (.iload_n 1, 1) := dTa tdX8_chair_0 19 rfl
theorem dX8_chair_64 : decode cX8_chair 64 = .ok (.iaload, 1) := dTa tdX8_chair_0 20 rfl
theorem dX8_chair_65 : decode cX8_chair 65 = .ok (.ireturn, 1) := dTa tdX8_chair_0 21 rfl
theorem dX8_chair_66 : decode cX8_chair 66 = .ok (.aload_n 3, 1) := dTa tdX8_chair_0 22 rfl
theorem dX8_chair_67 : decode cX8_chair 67 = .ok (.iload_n 1, 1) := dTa tdX8_chair_0 23 rfl
theorem dX8_chair_68 : decode cX8_chair 68 = .ok (.invokevirtual 131, 3) := dTa tdX8_chair_0 24 rfl
theorem dX8_chair_71 : decode cX8_chair 71 = .ok (.ireturn, 1) := dTa tdX8_chair_0 25 rfl
theorem dX8_chair_72 : decode cX8_chair 72 = .ok (.aload_n 3, 1) := dTa tdX8_chair_0 26 rfl
theorem dX8_chair_73 : decode cX8_chair 73 = .ok (.aload_n 3, 1) := dTa tdX8_chair_0 27 rfl
theorem dX8_chair_74 : decode cX8_chair 74 = .ok (.iload_n 1, 1) := dTa tdX8_chair_0 28 rfl
theorem dX8_chair_75 : decode cX8_chair 75 = .ok (.invokevirtual 131, 3) := dTa tdX8_chair_0 29 rfl
theorem dX8_chair_78 : decode cX8_chair 78 = .ok (.invokevirtual 135, 3) := dTa tdX8_chair_0 30 rfl
theorem dX8_chair_81 : decode cX8_chair 81 = .ok (.ireturn, 1) := dTa tdX8_chair_0 31 rfl
theorem dX8_chair_82 : decode cX8_chair 82 = .ok (.bipush (-2), 2) := dTa tdX8_chair_0 32 rfl
theorem dX8_chair_84 : decode cX8_chair 84 = .ok (.ireturn, 1) := dTa tdX8_chair_0 33 rfl
set_option maxRecDepth 100000 in
theorem tdX8_drawOf_0 : dTb cX8_drawOf [(0, .iload_n 0, 1), (1, .ldc_w 314, 3), (4, .idiv, 1), (5, .ireturn, 1)] = true := by decide +kernel
theorem dX8_drawOf_0 : decode cX8_drawOf 0 = .ok (.iload_n 0, 1) := dTa tdX8_drawOf_0 0 rfl
theorem dX8_drawOf_1 : decode cX8_drawOf 1 = .ok (.ldc_w 314, 3) := dTa tdX8_drawOf_0 1 rfl
theorem dX8_drawOf_4 : decode cX8_drawOf 4 = .ok (.idiv, 1) := dTa tdX8_drawOf_0 2 rfl
theorem dX8_drawOf_5 : decode cX8_drawOf 5 = .ok (.ireturn, 1) := dTa tdX8_drawOf_0 3 rfl
set_option maxRecDepth 100000 in
theorem tdX8_ease_0 : dTb cX8_ease [(0, .aload_n 0, 1), (1, .getfield 29, 3), (4, .getfield 81, 3), (7, .astore_n 2, 1), (8, .aload_n 2, 1), (9, .getfield 150, 3), (12, .ifCond .eq 12, 3), (15, .iload_n 1, 1), (16, .ifCond .lt 8, 3), (19, .iload_n 1, 1), (20, .iconst 1, 1), (21, .if_icmp .le 5, 3), (24, .iconst (-1), 1), (25, .ireturn, 1), (26, .aload_n 2, 1), (27, .invokevirtual 206, 3), (30, .istore_n 3, 1), (31, .iconst 0, 1), (32, .istore 4, 2), (34, .iconst 0, 1), (35, .istore 5, 2), (37, .aload_n 0, 1), (38, .getfield 44, 3), (41, .aload_n 2, 1), (42, .invokevirtual 84, 3), (45, .iconst 1, 1), (46, .istore 6, 2), (48, .iload 6, 2), (50, .iload_n 3, 1), (51, .if_icmp .gt 56, 3), (54, .iload 6, 2), (56, .iload_n 3, 1), (57, .iconst (-1), 1), (58, .ixor, 1), (59, .iand, 1), (60, .ifCond .ne 41, 3), (63, .iload 6, 2), (65, .invokestatic 182, 3), (68, .iload 4, 2), (70, .if_icmp .le 31, 3)] = true := by decide +kernel
theorem dX8_ease_0 : decode cX8_ease 0 = .ok (.aload_n 0, 1) := dTa tdX8_ease_0 0 rfl
theorem dX8_ease_1 : decode cX8_ease 1 = .ok (.getfield 29, 3) := dTa tdX8_ease_0 1 rfl
theorem dX8_ease_4 : decode cX8_ease 4 = .ok (.getfield 81, 3) := dTa tdX8_ease_0 2 rfl
theorem dX8_ease_7 : decode cX8_ease 7 = .ok (.astore_n 2, 1) := dTa tdX8_ease_0 3 rfl
theorem dX8_ease_8 : decode cX8_ease 8 = .ok (.aload_n 2, 1) := dTa tdX8_ease_0 4 rfl
theorem dX8_ease_9 : decode cX8_ease 9 = .ok (.getfield 150, 3) := dTa tdX8_ease_0 5 rfl
theorem dX8_ease_12 : decode cX8_ease 12 = .ok (.ifCond .eq 12, 3) := dTa tdX8_ease_0 6 rfl
theorem dX8_ease_15 : decode cX8_ease 15 = .ok (.iload_n 1, 1) := dTa tdX8_ease_0 7 rfl
theorem dX8_ease_16 : decode cX8_ease 16 = .ok (.ifCond .lt 8, 3) := dTa tdX8_ease_0 8 rfl
theorem dX8_ease_19 : decode cX8_ease 19 = .ok (.iload_n 1, 1) := dTa tdX8_ease_0 9 rfl
theorem dX8_ease_20 : decode cX8_ease 20 = .ok (.iconst 1, 1) := dTa tdX8_ease_0 10 rfl
theorem dX8_ease_21 : decode cX8_ease 21 = .ok (.if_icmp .le 5, 3) := dTa tdX8_ease_0 11 rfl
theorem dX8_ease_24 : decode cX8_ease 24 = .ok (.iconst (-1), 1) := dTa tdX8_ease_0 12 rfl
theorem dX8_ease_25 : decode cX8_ease 25 = .ok (.ireturn, 1) := dTa tdX8_ease_0 13 rfl
theorem dX8_ease_26 : decode cX8_ease 26 = .ok (.aload_n 2, 1) := dTa tdX8_ease_0 14 rfl
theorem dX8_ease_27 : decode cX8_ease 27 = .ok (.invokevirtual 206, 3) := dTa tdX8_ease_0 15 rfl
theorem dX8_ease_30 : decode cX8_ease 30 = .ok (.istore_n 3, 1) := dTa tdX8_ease_0 16 rfl
theorem dX8_ease_31 : decode cX8_ease 31 = .ok (.iconst 0, 1) := dTa tdX8_ease_0 17 rfl
theorem dX8_ease_32 : decode cX8_ease 32 = .ok (.istore 4, 2) := dTa tdX8_ease_0 18 rfl
theorem dX8_ease_34 : decode cX8_ease 34 = .ok (.iconst 0, 1) := dTa tdX8_ease_0 19 rfl
theorem dX8_ease_35 : decode cX8_ease 35 = .ok (.istore 5, 2) := dTa tdX8_ease_0 20 rfl
theorem dX8_ease_37 : decode cX8_ease 37 = .ok (.aload_n 0, 1) := dTa tdX8_ease_0 21 rfl
theorem dX8_ease_38 : decode cX8_ease 38 = .ok (.getfield 44, 3) := dTa tdX8_ease_0 22 rfl
theorem dX8_ease_41 : decode cX8_ease 41 = .ok (.aload_n 2, 1) := dTa tdX8_ease_0 23 rfl
theorem dX8_ease_42 : decode cX8_ease 42 = .ok (.invokevirtual 84, 3) := dTa tdX8_ease_0 24 rfl
theorem dX8_ease_45 : decode cX8_ease 45 = .ok (.iconst 1, 1) := dTa tdX8_ease_0 25 rfl
theorem dX8_ease_46 : decode cX8_ease 46 = .ok (.istore 6, 2) := dTa tdX8_ease_0 26 rfl
theorem dX8_ease_48 : decode cX8_ease 48 = .ok (.iload 6, 2) := dTa tdX8_ease_0 27 rfl
theorem dX8_ease_50 : decode cX8_ease 50 = .ok (.iload_n 3, 1) := dTa tdX8_ease_0 28 rfl
theorem dX8_ease_51 : decode cX8_ease 51 = .ok (.if_icmp .gt 56, 3) := dTa tdX8_ease_0 29 rfl
theorem dX8_ease_54 : decode cX8_ease 54 = .ok (.iload 6, 2) := dTa tdX8_ease_0 30 rfl
theorem dX8_ease_56 : decode cX8_ease 56 = .ok (.iload_n 3, 1) := dTa tdX8_ease_0 31 rfl
theorem dX8_ease_57 : decode cX8_ease 57 = .ok (.iconst (-1), 1) := dTa tdX8_ease_0 32 rfl
theorem dX8_ease_58 : decode cX8_ease 58 = .ok (.ixor, 1) := dTa tdX8_ease_0 33 rfl
theorem dX8_ease_59 : decode cX8_ease 59 = .ok (.iand, 1) := dTa tdX8_ease_0 34 rfl
theorem dX8_ease_60 : decode cX8_ease 60 = .ok (.ifCond .ne 41, 3) := dTa tdX8_ease_0 35 rfl
theorem dX8_ease_63 : decode cX8_ease 63 = .ok (.iload 6, 2) := dTa tdX8_ease_0 36 rfl
theorem dX8_ease_65 : decode cX8_ease 65 = .ok (.invokestatic 182, 3) := dTa tdX8_ease_0 37 rfl
theorem dX8_ease_68 : decode cX8_ease 68 = .ok (.iload 4, 2) := dTa tdX8_ease_0 38 rfl
theorem dX8_ease_70 : decode cX8_ease 70 = .ok (.if_icmp .le 31, 3) := dTa tdX8_ease_0 39 rfl
set_option maxRecDepth 100000 in
theorem tdX8_ease_73 : dTb cX8_ease [(73, .aload_n 0, 1), (74, .getfield 44, 3), (77, .aload_n 2, 1), (78, .getfield 200, 3), (81, .iload 6, 2), (83, .ior, 1), (84, .invokevirtual 209, 3), (87, .ifCond .eq 14, 3), (90, .iload 6, 2), (92, .invokestatic 182, 3), (95, .istore 4, 2), (97, .iload 6, 2), (99, .istore 5, 2), (101, .iinc 6 1, 3), (104, .goto (-56), 3), (107, .iload_n 1, 1), (108, .ifCond .ne 8, 3), (111, .iload 4, 2), (113, .goto 5, 3), (116, .iload 5, 2), (118, .ireturn, 1)] = true := by decide +kernel
theorem dX8_ease_73 : decode cX8_ease 73 = .ok (.aload_n 0, 1) := dTa tdX8_ease_73 0 rfl
theorem dX8_ease_74 : decode cX8_ease 74 = .ok (.getfield 44, 3) := dTa tdX8_ease_73 1 rfl
theorem dX8_ease_77 : decode cX8_ease 77 = .ok (.aload_n 2, 1) := dTa tdX8_ease_73 2 rfl
theorem dX8_ease_78 : decode cX8_ease 78 = .ok (.getfield 200, 3) := dTa tdX8_ease_73 3 rfl
theorem dX8_ease_81 : decode cX8_ease 81 = .ok (.iload 6, 2) := dTa tdX8_ease_73 4 rfl
theorem dX8_ease_83 : decode cX8_ease 83 = .ok (.ior, 1) := dTa tdX8_ease_73 5 rfl
theorem dX8_ease_84 : decode cX8_ease 84 = .ok (.invokevirtual 209, 3) := dTa tdX8_ease_73 6 rfl
theorem dX8_ease_87 : decode cX8_ease 87 = .ok (.ifCond .eq 14, 3) := dTa tdX8_ease_73 7 rfl
theorem dX8_ease_90 : decode cX8_ease 90 = .ok (.iload 6, 2) := dTa tdX8_ease_73 8 rfl
theorem dX8_ease_92 : decode cX8_ease 92 = .ok (.invokestatic 182, 3) := dTa tdX8_ease_73 9 rfl
theorem dX8_ease_95 : decode cX8_ease 95 = .ok (.istore 4, 2) := dTa tdX8_ease_73 10 rfl
theorem dX8_ease_97 : decode cX8_ease 97 = .ok (.iload 6, 2) := dTa tdX8_ease_73 11 rfl
theorem dX8_ease_99 : decode cX8_ease 99 = .ok (.istore 5, 2) := dTa tdX8_ease_73 12 rfl
theorem dX8_ease_101 : decode cX8_ease 101 = .ok (.iinc 6 1, 3) := dTa tdX8_ease_73 13 rfl
theorem dX8_ease_104 : decode cX8_ease 104 = .ok (.goto (-56), 3) := dTa tdX8_ease_73 14 rfl
theorem dX8_ease_107 : decode cX8_ease 107 = .ok (.iload_n 1, 1) := dTa tdX8_ease_73 15 rfl
theorem dX8_ease_108 : decode cX8_ease 108 = .ok (.ifCond .ne 8, 3) := dTa tdX8_ease_73 16 rfl
theorem dX8_ease_111 : decode cX8_ease 111 = .ok (.iload 4, 2) := dTa tdX8_ease_73 17 rfl
theorem dX8_ease_113 : decode cX8_ease 113 = .ok (.goto 5, 3) := dTa tdX8_ease_73 18 rfl
theorem dX8_ease_116 : decode cX8_ease 116 = .ok (.iload 5, 2) := dTa tdX8_ease_73 19 rfl
theorem dX8_ease_118 : decode cX8_ease 118 = .ok (.ireturn, 1) := dTa tdX8_ease_73 20 rfl
set_option maxRecDepth 100000 in
theorem tdX8_end_0 : dTb cX8_end [(0, .iload_n 1, 1), (1, .ifCond .lt 14, 3), (4, .iload_n 1, 1), (5, .aload_n 0, 1), (6, .getfield 10, 3), (9, .getfield 65, 3), (12, .if_icmp .le 5, 3), (15, .iconst (-1), 1), (16, .ireturn, 1), (17, .aload_n 0, 1), (18, .getfield 10, 3), (21, .iload_n 1, 1), (22, .putfield 65, 3), (25, .iload_n 1, 1), (26, .ireturn, 1)] = true := by decide +kernel
theorem dX8_end_0 : decode cX8_end 0 = .ok (.iload_n 1, 1) := dTa tdX8_end_0 0 rfl
theorem dX8_end_1 : decode cX8_end 1 = .ok (.ifCond .lt 14, 3) := dTa tdX8_end_0 1 rfl
theorem dX8_end_4 : decode cX8_end 4 = .ok (.iload_n 1, 1) := dTa tdX8_end_0 2 rfl
theorem dX8_end_5 : decode cX8_end 5 = .ok (.aload_n 0, 1) := dTa tdX8_end_0 3 rfl
theorem dX8_end_6 : decode cX8_end 6 = .ok (.getfield 10, 3) := dTa tdX8_end_0 4 rfl
theorem dX8_end_9 : decode cX8_end 9 = .ok (.getfield 65, 3) := dTa tdX8_end_0 5 rfl
theorem dX8_end_12 : decode cX8_end 12 = .ok (.if_icmp .le 5, 3) := dTa tdX8_end_0 6 rfl
theorem dX8_end_15 : decode cX8_end 15 = .ok (.iconst (-1), 1) := dTa tdX8_end_0 7 rfl
theorem dX8_end_16 : decode cX8_end 16 = .ok (.ireturn, 1) := dTa tdX8_end_0 8 rfl
theorem dX8_end_17 : decode cX8_end 17 = .ok (.aload_n 0, 1) := dTa tdX8_end_0 9 rfl
theorem dX8_end_18 : decode cX8_end 18 = .ok (.getfield 10, 3) := dTa tdX8_end_0 10 rfl
theorem dX8_end_21 : decode cX8_end 21 = .ok (.iload_n 1, 1) := dTa tdX8_end_0 11 rfl
theorem dX8_end_22 : decode cX8_end 22 = .ok (.putfield 65, 3) := dTa tdX8_end_0 12 rfl
theorem dX8_end_25 : decode cX8_end 25 = .ok (.iload_n 1, 1) := dTa tdX8_end_0 13 rfl
theorem dX8_end_26 : decode cX8_end 26 = .ok (.ireturn, 1) := dTa tdX8_end_0 14 rfl
set_option maxRecDepth 100000 in
theorem tdX8_falls_0 : dTb cX8_falls [(0, .aload_n 0, 1), (1, .getfield 29, 3), (4, .getfield 81, 3), (7, .getfield 150, 3), (10, .ifCond .eq 12, 3), (13, .iload_n 1, 1), (14, .ifCond .lt 8, 3), (17, .iload_n 1, 1), (18, .iconst 1, 1), (19, .if_icmp .le 5, 3), (22, .iconst (-1), 1), (23, .ireturn, 1), (24, .aload_n 0, 1), (25, .invokevirtual 160, 3), (28, .astore_n 2, 1), (29, .aload_n 0, 1), (30, .getfield 44, 3), (33, .aload_n 0, 1), (34, .getfield 29, 3), (37, .getfield 81, 3), (40, .invokevirtual 84, 3), (43, .iconst 0, 1), (44, .istore_n 3, 1), (45, .iload_n 3, 1), (46, .sipush 200, 3), (49, .if_icmp .ge 45, 3), (52, .aload_n 0, 1), (53, .getfield 44, 3), (56, .getfield 154, 3), (59, .istore 4, 2), (61, .aload_n 0, 1), (62, .getfield 44, 3), (65, .aload_n 2, 1), (66, .invokevirtual 164, 3), (69, .istore 5, 2), (71, .iload 5, 2), (73, .ifCond .eq 15, 3), (76, .iload_n 1, 1), (77, .ifCond .ne 8, 3), (80, .iload 4, 2)] = true := by decide +kernel
theorem dX8_falls_0 : decode cX8_falls 0 = .ok (.aload_n 0, 1) := dTa tdX8_falls_0 0 rfl
theorem dX8_falls_1 : decode cX8_falls 1 = .ok (.getfield 29, 3) := dTa tdX8_falls_0 1 rfl
theorem dX8_falls_4 : decode cX8_falls 4 = .ok (.getfield 81, 3) := dTa tdX8_falls_0 2 rfl
theorem dX8_falls_7 : decode cX8_falls 7 = .ok (.getfield 150, 3) := dTa tdX8_falls_0 3 rfl
theorem dX8_falls_10 : decode cX8_falls 10 = .ok (.ifCond .eq 12, 3) := dTa tdX8_falls_0 4 rfl
theorem dX8_falls_13 : decode cX8_falls 13 = .ok (.iload_n 1, 1) := dTa tdX8_falls_0 5 rfl
theorem dX8_falls_14 : decode cX8_falls 14 = .ok (.ifCond .lt 8, 3) := dTa tdX8_falls_0 6 rfl
theorem dX8_falls_17 : decode cX8_falls 17 = .ok (.iload_n 1, 1) := dTa tdX8_falls_0 7 rfl
theorem dX8_falls_18 : decode cX8_falls 18 = .ok (.iconst 1, 1) := dTa tdX8_falls_0 8 rfl
theorem dX8_falls_19 : decode cX8_falls 19 = .ok (.if_icmp .le 5, 3) := dTa tdX8_falls_0 9 rfl
theorem dX8_falls_22 : decode cX8_falls 22 = .ok (.iconst (-1), 1) := dTa tdX8_falls_0 10 rfl
theorem dX8_falls_23 : decode cX8_falls 23 = .ok (.ireturn, 1) := dTa tdX8_falls_0 11 rfl
theorem dX8_falls_24 : decode cX8_falls 24 = .ok (.aload_n 0, 1) := dTa tdX8_falls_0 12 rfl
theorem dX8_falls_25 : decode cX8_falls 25 = .ok (.invokevirtual 160, 3) := dTa tdX8_falls_0 13 rfl
theorem dX8_falls_28 : decode cX8_falls 28 = .ok (.astore_n 2, 1) := dTa tdX8_falls_0 14 rfl
theorem dX8_falls_29 : decode cX8_falls 29 = .ok (.aload_n 0, 1) := dTa tdX8_falls_0 15 rfl
theorem dX8_falls_30 : decode cX8_falls 30 = .ok (.getfield 44, 3) := dTa tdX8_falls_0 16 rfl
theorem dX8_falls_33 : decode cX8_falls 33 = .ok (.aload_n 0, 1) := dTa tdX8_falls_0 17 rfl
theorem dX8_falls_34 : decode cX8_falls 34 = .ok (.getfield 29, 3) := dTa tdX8_falls_0 18 rfl
theorem dX8_falls_37 : decode cX8_falls 37 = .ok (.getfield 81, 3) := dTa tdX8_falls_0 19 rfl
theorem dX8_falls_40 : decode cX8_falls 40 = .ok (.invokevirtual 84, 3) := dTa tdX8_falls_0 20 rfl
theorem dX8_falls_43 : decode cX8_falls 43 = .ok (.iconst 0, 1) := dTa tdX8_falls_0 21 rfl
theorem dX8_falls_44 : decode cX8_falls 44 = .ok (.istore_n 3, 1) := dTa tdX8_falls_0 22 rfl
theorem dX8_falls_45 : decode cX8_falls 45 = .ok (.iload_n 3, 1) := dTa tdX8_falls_0 23 rfl
theorem dX8_falls_46 : decode cX8_falls 46 = .ok (.sipush 200, 3) := dTa tdX8_falls_0 24 rfl
theorem dX8_falls_49 : decode cX8_falls 49 = .ok (.if_icmp .ge 45, 3) := dTa tdX8_falls_0 25 rfl
theorem dX8_falls_52 : decode cX8_falls 52 = .ok (.aload_n 0, 1) := dTa tdX8_falls_0 26 rfl
theorem dX8_falls_53 : decode cX8_falls 53 = .ok (.getfield 44, 3) := dTa tdX8_falls_0 27 rfl
theorem dX8_falls_56 : decode cX8_falls 56 = .ok (.getfield 154, 3) := dTa tdX8_falls_0 28 rfl
theorem dX8_falls_59 : decode cX8_falls 59 = .ok (.istore 4, 2) := dTa tdX8_falls_0 29 rfl
theorem dX8_falls_61 : decode cX8_falls 61 = .ok (.aload_n 0, 1) := dTa tdX8_falls_0 30 rfl
theorem dX8_falls_62 : decode cX8_falls 62 = .ok (.getfield 44, 3) := dTa tdX8_falls_0 31 rfl
theorem dX8_falls_65 : decode cX8_falls 65 = .ok (.aload_n 2, 1) := dTa tdX8_falls_0 32 rfl
theorem dX8_falls_66 : decode cX8_falls 66 = .ok (.invokevirtual 164, 3) := dTa tdX8_falls_0 33 rfl
theorem dX8_falls_69 : decode cX8_falls 69 = .ok (.istore 5, 2) := dTa tdX8_falls_0 34 rfl
theorem dX8_falls_71 : decode cX8_falls 71 = .ok (.iload 5, 2) := dTa tdX8_falls_0 35 rfl
theorem dX8_falls_73 : decode cX8_falls 73 = .ok (.ifCond .eq 15, 3) := dTa tdX8_falls_0 36 rfl
theorem dX8_falls_76 : decode cX8_falls 76 = .ok (.iload_n 1, 1) := dTa tdX8_falls_0 37 rfl
theorem dX8_falls_77 : decode cX8_falls 77 = .ok (.ifCond .ne 8, 3) := dTa tdX8_falls_0 38 rfl
theorem dX8_falls_80 : decode cX8_falls 80 = .ok (.iload 4, 2) := dTa tdX8_falls_0 39 rfl
set_option maxRecDepth 100000 in
theorem tdX8_falls_82 : dTb cX8_falls [(82, .goto 5, 3), (85, .iload 5, 2), (87, .ireturn, 1), (88, .iinc 3 1, 3), (91, .goto (-46), 3), (94, .bipush (-2), 2), (96, .ireturn, 1)] = true := by decide +kernel
theorem dX8_falls_82 : decode cX8_falls 82 = .ok (.goto 5, 3) := dTa tdX8_falls_82 0 rfl
theorem dX8_falls_85 : decode cX8_falls 85 = .ok (.iload 5, 2) := dTa tdX8_falls_82 1 rfl
theorem dX8_falls_87 : decode cX8_falls 87 = .ok (.ireturn, 1) := dTa tdX8_falls_82 2 rfl
theorem dX8_falls_88 : decode cX8_falls 88 = .ok (.iinc 3 1, 3) := dTa tdX8_falls_82 3 rfl
theorem dX8_falls_91 : decode cX8_falls 91 = .ok (.goto (-46), 3) := dTa tdX8_falls_82 4 rfl
theorem dX8_falls_94 : decode cX8_falls 94 = .ok (.bipush (-2), 2) := dTa tdX8_falls_82 5 rfl
theorem dX8_falls_96 : decode cX8_falls 96 = .ok (.ireturn, 1) := dTa tdX8_falls_82 6 rfl
set_option maxRecDepth 100000 in
theorem tdX8_feed_0 : dTb cX8_feed [(0, .aload_n 0, 1), (1, .getfield 10, 3), (4, .getfield 65, 3), (7, .bipush 20, 2), (9, .iadd, 1), (10, .sipush 400, 3), (13, .if_icmp .le 5, 3), (16, .iconst (-1), 1), (17, .ireturn, 1), (18, .aload_n 0, 1), (19, .getfield 10, 3), (22, .iload_n 1, 1), (23, .invokevirtual 68, 3), (26, .aload_n 0, 1), (27, .getfield 10, 3), (30, .iload_n 2, 1), (31, .invokevirtual 68, 3), (34, .aload_n 0, 1), (35, .getfield 10, 3), (38, .iload_n 3, 1), (39, .invokevirtual 68, 3), (42, .aload_n 0, 1), (43, .getfield 10, 3), (46, .iload 4, 2), (48, .invokevirtual 68, 3), (51, .aload_n 0, 1), (52, .getfield 10, 3), (55, .iload 5, 2), (57, .invokevirtual 68, 3), (60, .aload_n 0, 1), (61, .getfield 10, 3), (64, .getfield 65, 3), (67, .ireturn, 1)] = true := by decide +kernel
theorem dX8_feed_0 : decode cX8_feed 0 = .ok (.aload_n 0, 1) := dTa tdX8_feed_0 0 rfl
theorem dX8_feed_1 : decode cX8_feed 1 = .ok (.getfield 10, 3) := dTa tdX8_feed_0 1 rfl
theorem dX8_feed_4 : decode cX8_feed 4 = .ok (.getfield 65, 3) := dTa tdX8_feed_0 2 rfl
theorem dX8_feed_7 : decode cX8_feed 7 = .ok (.bipush 20, 2) := dTa tdX8_feed_0 3 rfl
theorem dX8_feed_9 : decode cX8_feed 9 = .ok (.iadd, 1) := dTa tdX8_feed_0 4 rfl
theorem dX8_feed_10 : decode cX8_feed 10 = .ok (.sipush 400, 3) := dTa tdX8_feed_0 5 rfl
theorem dX8_feed_13 : decode cX8_feed 13 = .ok (.if_icmp .le 5, 3) := dTa tdX8_feed_0 6 rfl
theorem dX8_feed_16 : decode cX8_feed 16 = .ok (.iconst (-1), 1) := dTa tdX8_feed_0 7 rfl
theorem dX8_feed_17 : decode cX8_feed 17 = .ok (.ireturn, 1) := dTa tdX8_feed_0 8 rfl
theorem dX8_feed_18 : decode cX8_feed 18 = .ok (.aload_n 0, 1) := dTa tdX8_feed_0 9 rfl
theorem dX8_feed_19 : decode cX8_feed 19 = .ok (.getfield 10, 3) := dTa tdX8_feed_0 10 rfl
theorem dX8_feed_22 : decode cX8_feed 22 = .ok (.iload_n 1, 1) := dTa tdX8_feed_0 11 rfl
theorem dX8_feed_23 : decode cX8_feed 23 = .ok (.invokevirtual 68, 3) := dTa tdX8_feed_0 12 rfl
theorem dX8_feed_26 : decode cX8_feed 26 = .ok (.aload_n 0, 1) := dTa tdX8_feed_0 13 rfl
theorem dX8_feed_27 : decode cX8_feed 27 = .ok (.getfield 10, 3) := dTa tdX8_feed_0 14 rfl
theorem dX8_feed_30 : decode cX8_feed 30 = .ok (.iload_n 2, 1) := dTa tdX8_feed_0 15 rfl
theorem dX8_feed_31 : decode cX8_feed 31 = .ok (.invokevirtual 68, 3) := dTa tdX8_feed_0 16 rfl
theorem dX8_feed_34 : decode cX8_feed 34 = .ok (.aload_n 0, 1) := dTa tdX8_feed_0 17 rfl
theorem dX8_feed_35 : decode cX8_feed 35 = .ok (.getfield 10, 3) := dTa tdX8_feed_0 18 rfl
theorem dX8_feed_38 : decode cX8_feed 38 = .ok (.iload_n 3, 1) := dTa tdX8_feed_0 19 rfl
theorem dX8_feed_39 : decode cX8_feed 39 = .ok (.invokevirtual 68, 3) := dTa tdX8_feed_0 20 rfl
theorem dX8_feed_42 : decode cX8_feed 42 = .ok (.aload_n 0, 1) := dTa tdX8_feed_0 21 rfl
theorem dX8_feed_43 : decode cX8_feed 43 = .ok (.getfield 10, 3) := dTa tdX8_feed_0 22 rfl
theorem dX8_feed_46 : decode cX8_feed 46 = .ok (.iload 4, 2) := dTa tdX8_feed_0 23 rfl
theorem dX8_feed_48 : decode cX8_feed 48 = .ok (.invokevirtual 68, 3) := dTa tdX8_feed_0 24 rfl
theorem dX8_feed_51 : decode cX8_feed 51 = .ok (.aload_n 0, 1) := dTa tdX8_feed_0 25 rfl
theorem dX8_feed_52 : decode cX8_feed 52 = .ok (.getfield 10, 3) := dTa tdX8_feed_0 26 rfl
theorem dX8_feed_55 : decode cX8_feed 55 = .ok (.iload 5, 2) := dTa tdX8_feed_0 27 rfl
theorem dX8_feed_57 : decode cX8_feed 57 = .ok (.invokevirtual 68, 3) := dTa tdX8_feed_0 28 rfl
theorem dX8_feed_60 : decode cX8_feed 60 = .ok (.aload_n 0, 1) := dTa tdX8_feed_0 29 rfl
theorem dX8_feed_61 : decode cX8_feed 61 = .ok (.getfield 10, 3) := dTa tdX8_feed_0 30 rfl
theorem dX8_feed_64 : decode cX8_feed 64 = .ok (.getfield 65, 3) := dTa tdX8_feed_0 31 rfl
theorem dX8_feed_67 : decode cX8_feed 67 = .ok (.ireturn, 1) := dTa tdX8_feed_0 32 rfl
set_option maxRecDepth 100000 in
theorem tdX8_felled_0 : dTb cX8_felled [(0, .aload_n 0, 1), (1, .getfield 29, 3), (4, .getfield 81, 3), (7, .iload_n 1, 1), (8, .invokevirtual 176, 3), (11, .ifCond .eq 11, 3), (14, .aload_n 0, 1), (15, .iload_n 1, 1), (16, .invokevirtual 203, 3), (19, .goto 4, 3), (22, .iconst (-1), 1), (23, .ireturn, 1)] = true := by decide +kernel
theorem dX8_felled_0 : decode cX8_felled 0 = .ok (.aload_n 0, 1) := dTa tdX8_felled_0 0 rfl
theorem dX8_felled_1 : decode cX8_felled 1 = .ok (.getfield 29, 3) := dTa tdX8_felled_0 1 rfl
theorem dX8_felled_4 : decode cX8_felled 4 = .ok (.getfield 81, 3) := dTa tdX8_felled_0 2 rfl
theorem dX8_felled_7 : decode cX8_felled 7 = .ok (.iload_n 1, 1) := dTa tdX8_felled_0 3 rfl
theorem dX8_felled_8 : decode cX8_felled 8 = .ok (.invokevirtual 176, 3) := dTa tdX8_felled_0 4 rfl
theorem dX8_felled_11 : decode cX8_felled 11 = .ok (.ifCond .eq 11, 3) := dTa tdX8_felled_0 5 rfl
theorem dX8_felled_14 : decode cX8_felled 14 = .ok (.aload_n 0, 1) := dTa tdX8_felled_0 6 rfl
theorem dX8_felled_15 : decode cX8_felled 15 = .ok (.iload_n 1, 1) := dTa tdX8_felled_0 7 rfl
theorem dX8_felled_16 : decode cX8_felled 16 = .ok (.invokevirtual 203, 3) := dTa tdX8_felled_0 8 rfl
theorem dX8_felled_19 : decode cX8_felled 19 = .ok (.goto 4, 3) := dTa tdX8_felled_0 9 rfl
theorem dX8_felled_22 : decode cX8_felled 22 = .ok (.iconst (-1), 1) := dTa tdX8_felled_0 10 rfl
theorem dX8_felled_23 : decode cX8_felled 23 = .ok (.ireturn, 1) := dTa tdX8_felled_0 11 rfl
set_option maxRecDepth 100000 in
theorem tdX8_felledBy_0 : dTb cX8_felledBy [(0, .aload_n 0, 1), (1, .getfield 44, 3), (4, .aload_n 0, 1), (5, .getfield 29, 3), (8, .getfield 81, 3), (11, .invokevirtual 84, 3), (14, .aload_n 0, 1), (15, .getfield 44, 3), (18, .iload_n 1, 1), (19, .iconst 0, 1), (20, .invokevirtual 168, 3), (23, .aload_n 0, 1), (24, .getfield 44, 3), (27, .invokevirtual 172, 3), (30, .ireturn, 1)] = true := by decide +kernel
theorem dX8_felledBy_0 : decode cX8_felledBy 0 = .ok (.aload_n 0, 1) := dTa tdX8_felledBy_0 0 rfl
theorem dX8_felledBy_1 : decode cX8_felledBy 1 = .ok (.getfield 44, 3) := dTa tdX8_felledBy_0 1 rfl
theorem dX8_felledBy_4 : decode cX8_felledBy 4 = .ok (.aload_n 0, 1) := dTa tdX8_felledBy_0 2 rfl
theorem dX8_felledBy_5 : decode cX8_felledBy 5 = .ok (.getfield 29, 3) := dTa tdX8_felledBy_0 3 rfl
theorem dX8_felledBy_8 : decode cX8_felledBy 8 = .ok (.getfield 81, 3) := dTa tdX8_felledBy_0 4 rfl
theorem dX8_felledBy_11 : decode cX8_felledBy 11 = .ok (.invokevirtual 84, 3) := dTa tdX8_felledBy_0 5 rfl
theorem dX8_felledBy_14 : decode cX8_felledBy 14 = .ok (.aload_n 0, 1) := dTa tdX8_felledBy_0 6 rfl
theorem dX8_felledBy_15 : decode cX8_felledBy 15 = .ok (.getfield 44, 3) := dTa tdX8_felledBy_0 7 rfl
theorem dX8_felledBy_18 : decode cX8_felledBy 18 = .ok (.iload_n 1, 1) := dTa tdX8_felledBy_0 8 rfl
theorem dX8_felledBy_19 : decode cX8_felledBy 19 = .ok (.iconst 0, 1) := dTa tdX8_felledBy_0 9 rfl
theorem dX8_felledBy_20 : decode cX8_felledBy 20 = .ok (.invokevirtual 168, 3) := dTa tdX8_felledBy_0 10 rfl
theorem dX8_felledBy_23 : decode cX8_felledBy 23 = .ok (.aload_n 0, 1) := dTa tdX8_felledBy_0 11 rfl
theorem dX8_felledBy_24 : decode cX8_felledBy 24 = .ok (.getfield 44, 3) := dTa tdX8_felledBy_0 12 rfl
theorem dX8_felledBy_27 : decode cX8_felledBy 27 = .ok (.invokevirtual 172, 3) := dTa tdX8_felledBy_0 13 rfl
theorem dX8_felledBy_30 : decode cX8_felledBy 30 = .ok (.ireturn, 1) := dTa tdX8_felledBy_0 14 rfl
set_option maxRecDepth 100000 in
theorem tdX8_findSafeSets_0 : dTb cX8_findSafeSets [(0, .aload_n 0, 1), (1, .getfield 29, 3), (4, .getfield 81, 3), (7, .getfield 200, 3), (10, .istore_n 1, 1), (11, .aload_n 0, 1), (12, .getfield 44, 3), (15, .aload_n 0, 1), (16, .getfield 29, 3), (19, .getfield 81, 3), (22, .invokevirtual 84, 3), (25, .aload_n 0, 1), (26, .getfield 48, 3), (29, .iconst 0, 1), (30, .iconst 1, 1), (31, .bastore, 1), (32, .iconst 1, 1), (33, .istore_n 2, 1), (34, .iload_n 2, 1), (35, .sipush 256, 3), (38, .if_icmp .ge 48, 3), (41, .aload_n 0, 1), (42, .getfield 48, 3), (45, .iload_n 2, 1), (46, .iload_n 2, 1), (47, .iload_n 1, 1), (48, .iconst (-1), 1), (49, .ixor, 1), (50, .iand, 1), (51, .ifCond .ne 27, 3), (54, .aload_n 0, 1), (55, .iload_n 2, 1), (56, .invokevirtual 215, 3), (59, .iconst (-1), 1), (60, .if_icmp .eq 18, 3), (63, .aload_n 0, 1), (64, .getfield 44, 3), (67, .iload_n 2, 1), (68, .invokevirtual 209, 3), (71, .ifCond .eq 7, 3)] = true := by decide +kernel
theorem dX8_findSafeSets_0 : decode cX8_findSafeSets 0 = .ok (.aload_n 0, 1) := dTa tdX8_findSafeSets_0 0 rfl
theorem dX8_findSafeSets_1 : decode cX8_findSafeSets 1 = .ok (.getfield 29, 3) := dTa tdX8_findSafeSets_0 1 rfl
theorem dX8_findSafeSets_4 : decode cX8_findSafeSets 4 = .ok (.getfield 81, 3) := dTa tdX8_findSafeSets_0 2 rfl
theorem dX8_findSafeSets_7 : decode cX8_findSafeSets 7 = .ok (.getfield 200, 3) := dTa tdX8_findSafeSets_0 3 rfl
theorem dX8_findSafeSets_10 : decode cX8_findSafeSets 10 = .ok (.istore_n 1, 1) := dTa tdX8_findSafeSets_0 4 rfl
theorem dX8_findSafeSets_11 : decode cX8_findSafeSets 11 = .ok (.aload_n 0, 1) := dTa tdX8_findSafeSets_0 5 rfl
theorem dX8_findSafeSets_12 : decode cX8_findSafeSets 12 = .ok (.getfield 44, 3) := dTa tdX8_findSafeSets_0 6 rfl
theorem dX8_findSafeSets_15 : decode cX8_findSafeSets 15 = .ok (.aload_n 0, 1) := dTa tdX8_findSafeSets_0 7 rfl
theorem dX8_findSafeSets_16 : decode cX8_findSafeSets 16 = .ok (.getfield 29, 3) := dTa tdX8_findSafeSets_0 8 rfl
theorem dX8_findSafeSets_19 : decode cX8_findSafeSets 19 = .ok (.getfield 81, 3) := dTa tdX8_findSafeSets_0 9 rfl
theorem dX8_findSafeSets_22 : decode cX8_findSafeSets 22 = .ok (.invokevirtual 84, 3) := dTa tdX8_findSafeSets_0 10 rfl
theorem dX8_findSafeSets_25 : decode cX8_findSafeSets 25 = .ok (.aload_n 0, 1) := dTa tdX8_findSafeSets_0 11 rfl
theorem dX8_findSafeSets_26 : decode cX8_findSafeSets 26 = .ok (.getfield 48, 3) := dTa tdX8_findSafeSets_0 12 rfl
theorem dX8_findSafeSets_29 : decode cX8_findSafeSets 29 = .ok (.iconst 0, 1) := dTa tdX8_findSafeSets_0 13 rfl
theorem dX8_findSafeSets_30 : decode cX8_findSafeSets 30 = .ok (.iconst 1, 1) := dTa tdX8_findSafeSets_0 14 rfl
theorem dX8_findSafeSets_31 : decode cX8_findSafeSets 31 = .ok (.bastore, 1) := dTa tdX8_findSafeSets_0 15 rfl
theorem dX8_findSafeSets_32 : decode cX8_findSafeSets 32 = .ok (.iconst 1, 1) := dTa tdX8_findSafeSets_0 16 rfl
theorem dX8_findSafeSets_33 : decode cX8_findSafeSets 33 = .ok (.istore_n 2, 1) := dTa tdX8_findSafeSets_0 17 rfl
theorem dX8_findSafeSets_34 : decode cX8_findSafeSets 34 = .ok (.iload_n 2, 1) := dTa tdX8_findSafeSets_0 18 rfl
theorem dX8_findSafeSets_35 : decode cX8_findSafeSets 35 = .ok (.sipush 256, 3) := dTa tdX8_findSafeSets_0 19 rfl
theorem dX8_findSafeSets_38 : decode cX8_findSafeSets 38 = .ok (.if_icmp .ge 48, 3) := dTa tdX8_findSafeSets_0 20 rfl
theorem dX8_findSafeSets_41 : decode cX8_findSafeSets 41 = .ok (.aload_n 0, 1) := dTa tdX8_findSafeSets_0 21 rfl
theorem dX8_findSafeSets_42 : decode cX8_findSafeSets 42 = .ok (.getfield 48, 3) := dTa tdX8_findSafeSets_0 22 rfl
theorem dX8_findSafeSets_45 : decode cX8_findSafeSets 45 = .ok (.iload_n 2, 1) := dTa tdX8_findSafeSets_0 23 rfl
theorem dX8_findSafeSets_46 : decode cX8_findSafeSets 46 = .ok (.iload_n 2, 1) := dTa tdX8_findSafeSets_0 24 rfl
theorem dX8_findSafeSets_47 : decode cX8_findSafeSets 47 = .ok (.iload_n 1, 1) := dTa tdX8_findSafeSets_0 25 rfl
theorem dX8_findSafeSets_48 : decode cX8_findSafeSets 48 = .ok (.iconst (-1), 1) := dTa tdX8_findSafeSets_0 26 rfl
theorem dX8_findSafeSets_49 : decode cX8_findSafeSets 49 = .ok (.ixor, 1) := dTa tdX8_findSafeSets_0 27 rfl
theorem dX8_findSafeSets_50 : decode cX8_findSafeSets 50 = .ok (.iand, 1) := dTa tdX8_findSafeSets_0 28 rfl
theorem dX8_findSafeSets_51 : decode cX8_findSafeSets 51 = .ok (.ifCond .ne 27, 3) := dTa tdX8_findSafeSets_0 29 rfl
theorem dX8_findSafeSets_54 : decode cX8_findSafeSets 54 = .ok (.aload_n 0, 1) := dTa tdX8_findSafeSets_0 30 rfl
theorem dX8_findSafeSets_55 : decode cX8_findSafeSets 55 = .ok (.iload_n 2, 1) := dTa tdX8_findSafeSets_0 31 rfl
theorem dX8_findSafeSets_56 : decode cX8_findSafeSets 56 = .ok (.invokevirtual 215, 3) := dTa tdX8_findSafeSets_0 32 rfl
theorem dX8_findSafeSets_59 : decode cX8_findSafeSets 59 = .ok (.iconst (-1), 1) := dTa tdX8_findSafeSets_0 33 rfl
theorem dX8_findSafeSets_60 : decode cX8_findSafeSets 60 = .ok (.if_icmp .eq 18, 3) := dTa tdX8_findSafeSets_0 34 rfl
theorem dX8_findSafeSets_63 : decode cX8_findSafeSets 63 = .ok (.aload_n 0, 1) := dTa tdX8_findSafeSets_0 35 rfl
theorem dX8_findSafeSets_64 : decode cX8_findSafeSets 64 = .ok (.getfield 44, 3) := dTa tdX8_findSafeSets_0 36 rfl
theorem dX8_findSafeSets_67 : decode cX8_findSafeSets 67 = .ok (.iload_n 2, 1) := dTa tdX8_findSafeSets_0 37 rfl
theorem dX8_findSafeSets_68 : decode cX8_findSafeSets 68 = .ok (.invokevirtual 209, 3) := dTa tdX8_findSafeSets_0 38 rfl
theorem dX8_findSafeSets_71 : decode cX8_findSafeSets 71 = .ok (.ifCond .eq 7, 3) := dTa tdX8_findSafeSets_0 39 rfl
set_option maxRecDepth 100000 in
theorem tdX8_findSafeSets_74 : dTb cX8_findSafeSets [(74, .iconst 1, 1), (75, .goto 4, 3), (78, .iconst 0, 1), (79, .bastore, 1), (80, .iinc 2 1, 3), (83, .goto (-49), 3), (86, .return_, 1)] = true := by decide +kernel
theorem dX8_findSafeSets_74 : decode cX8_findSafeSets 74 = .ok (.iconst 1, 1) := dTa tdX8_findSafeSets_74 0 rfl
theorem dX8_findSafeSets_75 : decode cX8_findSafeSets 75 = .ok (.goto 4, 3) := dTa tdX8_findSafeSets_74 1 rfl
theorem dX8_findSafeSets_78 : decode cX8_findSafeSets 78 = .ok (.iconst 0, 1) := dTa tdX8_findSafeSets_74 2 rfl
theorem dX8_findSafeSets_79 : decode cX8_findSafeSets 79 = .ok (.bastore, 1) := dTa tdX8_findSafeSets_74 3 rfl
theorem dX8_findSafeSets_80 : decode cX8_findSafeSets 80 = .ok (.iinc 2 1, 3) := dTa tdX8_findSafeSets_74 4 rfl
theorem dX8_findSafeSets_83 : decode cX8_findSafeSets 83 = .ok (.goto (-49), 3) := dTa tdX8_findSafeSets_74 5 rfl
theorem dX8_findSafeSets_86 : decode cX8_findSafeSets 86 = .ok (.return_, 1) := dTa tdX8_findSafeSets_74 6 rfl
set_option maxRecDepth 100000 in
theorem tdX8_firstToRise_0 : dTb cX8_firstToRise [(0, .iconst 0, 1), (1, .istore_n 2, 1), (2, .iload_n 2, 1), (3, .bipush 8, 2), (5, .if_icmp .ge 44, 3), (8, .iload_n 1, 1), (9, .iconst 1, 1), (10, .iload_n 2, 1), (11, .ishl, 1), (12, .iconst (-1), 1), (13, .ixor, 1), (14, .iand, 1), (15, .istore_n 3, 1), (16, .iload_n 3, 1), (17, .iload_n 1, 1), (18, .if_icmp .eq 25, 3), (21, .iload_n 3, 1), (22, .ifCond .lt 21, 3), (25, .iload_n 3, 1), (26, .sipush 256, 3), (29, .if_icmp .ge 14, 3), (32, .aload_n 0, 1), (33, .getfield 48, 3), (36, .iload_n 3, 1), (37, .baload, 1), (38, .ifCond .eq 5, 3), (41, .iload_n 2, 1), (42, .ireturn, 1), (43, .iinc 2 1, 3), (46, .goto (-44), 3), (49, .iconst (-1), 1), (50, .ireturn, 1)] = true := by decide +kernel
theorem dX8_firstToRise_0 : decode cX8_firstToRise 0 = .ok (.iconst 0, 1) := dTa tdX8_firstToRise_0 0 rfl
theorem dX8_firstToRise_1 : decode cX8_firstToRise 1 = .ok (.istore_n 2, 1) := dTa tdX8_firstToRise_0 1 rfl
theorem dX8_firstToRise_2 : decode cX8_firstToRise 2 = .ok (.iload_n 2, 1) := dTa tdX8_firstToRise_0 2 rfl
theorem dX8_firstToRise_3 : decode cX8_firstToRise 3 = .ok (.bipush 8, 2) := dTa tdX8_firstToRise_0 3 rfl
theorem dX8_firstToRise_5 : decode cX8_firstToRise 5 = .ok (.if_icmp .ge 44, 3) := dTa tdX8_firstToRise_0 4 rfl
theorem dX8_firstToRise_8 : decode cX8_firstToRise 8 = .ok (.iload_n 1, 1) := dTa tdX8_firstToRise_0 5 rfl
theorem dX8_firstToRise_9 : decode cX8_firstToRise 9 = .ok (.iconst 1, 1) := dTa tdX8_firstToRise_0 6 rfl
theorem dX8_firstToRise_10 : decode cX8_firstToRise 10 = .ok (.iload_n 2, 1) := dTa tdX8_firstToRise_0 7 rfl
theorem dX8_firstToRise_11 : decode cX8_firstToRise 11 = .ok (.ishl, 1) := dTa tdX8_firstToRise_0 8 rfl
theorem dX8_firstToRise_12 : decode cX8_firstToRise 12 = .ok (.iconst (-1), 1) := dTa tdX8_firstToRise_0 9 rfl
theorem dX8_firstToRise_13 : decode cX8_firstToRise 13 = .ok (.ixor, 1) := dTa tdX8_firstToRise_0 10 rfl
theorem dX8_firstToRise_14 : decode cX8_firstToRise 14 = .ok (.iand, 1) := dTa tdX8_firstToRise_0 11 rfl
theorem dX8_firstToRise_15 : decode cX8_firstToRise 15 = .ok (.istore_n 3, 1) := dTa tdX8_firstToRise_0 12 rfl
theorem dX8_firstToRise_16 : decode cX8_firstToRise 16 = .ok (.iload_n 3, 1) := dTa tdX8_firstToRise_0 13 rfl
theorem dX8_firstToRise_17 : decode cX8_firstToRise 17 = .ok (.iload_n 1, 1) := dTa tdX8_firstToRise_0 14 rfl
theorem dX8_firstToRise_18 : decode cX8_firstToRise 18 = .ok (.if_icmp .eq 25, 3) := dTa tdX8_firstToRise_0 15 rfl
theorem dX8_firstToRise_21 : decode cX8_firstToRise 21 = .ok (.iload_n 3, 1) := dTa tdX8_firstToRise_0 16 rfl
theorem dX8_firstToRise_22 : decode cX8_firstToRise 22 = .ok (.ifCond .lt 21, 3) := dTa tdX8_firstToRise_0 17 rfl
theorem dX8_firstToRise_25 : decode cX8_firstToRise 25 = .ok (.iload_n 3, 1) := dTa tdX8_firstToRise_0 18 rfl
theorem dX8_firstToRise_26 : decode cX8_firstToRise 26 = .ok (.sipush 256, 3) := dTa tdX8_firstToRise_0 19 rfl
theorem dX8_firstToRise_29 : decode cX8_firstToRise 29 = .ok (.if_icmp .ge 14, 3) := dTa tdX8_firstToRise_0 20 rfl
theorem dX8_firstToRise_32 : decode cX8_firstToRise 32 = .ok (.aload_n 0, 1) := dTa tdX8_firstToRise_0 21 rfl
theorem dX8_firstToRise_33 : decode cX8_firstToRise 33 = .ok (.getfield 48, 3) := dTa tdX8_firstToRise_0 22 rfl
theorem dX8_firstToRise_36 : decode cX8_firstToRise 36 = .ok (.iload_n 3, 1) := dTa tdX8_firstToRise_0 23 rfl
theorem dX8_firstToRise_37 : decode cX8_firstToRise 37 = .ok (.baload, 1) := dTa tdX8_firstToRise_0 24 rfl
theorem dX8_firstToRise_38 : decode cX8_firstToRise 38 = .ok (.ifCond .eq 5, 3) := dTa tdX8_firstToRise_0 25 rfl
theorem dX8_firstToRise_41 : decode cX8_firstToRise 41 = .ok (.iload_n 2, 1) := dTa tdX8_firstToRise_0 26 rfl
theorem dX8_firstToRise_42 : decode cX8_firstToRise 42 = .ok (.ireturn, 1) := dTa tdX8_firstToRise_0 27 rfl
theorem dX8_firstToRise_43 : decode cX8_firstToRise 43 = .ok (.iinc 2 1, 3) := dTa tdX8_firstToRise_0 28 rfl
theorem dX8_firstToRise_46 : decode cX8_firstToRise 46 = .ok (.goto (-44), 3) := dTa tdX8_firstToRise_0 29 rfl
theorem dX8_firstToRise_49 : decode cX8_firstToRise 49 = .ok (.iconst (-1), 1) := dTa tdX8_firstToRise_0 30 rfl
theorem dX8_firstToRise_50 : decode cX8_firstToRise 50 = .ok (.ireturn, 1) := dTa tdX8_firstToRise_0 31 rfl
set_option maxRecDepth 100000 in
theorem tdX8_force_0 : dTb cX8_force [(0, .iload_n 1, 1), (1, .iconst (-1), 1), (2, .if_icmp .lt 11, 3), (5, .iload_n 1, 1), (6, .aload_n 0, 1), (7, .getfield 22, 3), (10, .if_icmp .lt 6, 3), (13, .bipush (-2), 2), (15, .ireturn, 1), (16, .aload_n 0, 1), (17, .getfield 29, 3), (20, .getfield 112, 3), (23, .istore_n 2, 1), (24, .aload_n 0, 1), (25, .getfield 29, 3), (28, .iload_n 1, 1), (29, .putfield 112, 3), (32, .iload_n 2, 1), (33, .ireturn, 1)] = true := by decide +kernel
theorem dX8_force_0 : decode cX8_force 0 = .ok (.iload_n 1, 1) := dTa tdX8_force_0 0 rfl
theorem dX8_force_1 : decode cX8_force 1 = .ok (.iconst (-1), 1) := dTa tdX8_force_0 1 rfl
theorem dX8_force_2 : decode cX8_force 2 = .ok (.if_icmp .lt 11, 3) := dTa tdX8_force_0 2 rfl
theorem dX8_force_5 : decode cX8_force 5 = .ok (.iload_n 1, 1) := dTa tdX8_force_0 3 rfl
theorem dX8_force_6 : decode cX8_force 6 = .ok (.aload_n 0, 1) := dTa tdX8_force_0 4 rfl
theorem dX8_force_7 : decode cX8_force 7 = .ok (.getfield 22, 3) := dTa tdX8_force_0 5 rfl
theorem dX8_force_10 : decode cX8_force 10 = .ok (.if_icmp .lt 6, 3) := dTa tdX8_force_0 6 rfl
theorem dX8_force_13 : decode cX8_force 13 = .ok (.bipush (-2), 2) := dTa tdX8_force_0 7 rfl
theorem dX8_force_15 : decode cX8_force 15 = .ok (.ireturn, 1) := dTa tdX8_force_0 8 rfl
theorem dX8_force_16 : decode cX8_force 16 = .ok (.aload_n 0, 1) := dTa tdX8_force_0 9 rfl
theorem dX8_force_17 : decode cX8_force 17 = .ok (.getfield 29, 3) := dTa tdX8_force_0 10 rfl
theorem dX8_force_20 : decode cX8_force 20 = .ok (.getfield 112, 3) := dTa tdX8_force_0 11 rfl
theorem dX8_force_23 : decode cX8_force 23 = .ok (.istore_n 2, 1) := dTa tdX8_force_0 12 rfl
theorem dX8_force_24 : decode cX8_force 24 = .ok (.aload_n 0, 1) := dTa tdX8_force_0 13 rfl
theorem dX8_force_25 : decode cX8_force 25 = .ok (.getfield 29, 3) := dTa tdX8_force_0 14 rfl
theorem dX8_force_28 : decode cX8_force 28 = .ok (.iload_n 1, 1) := dTa tdX8_force_0 15 rfl
theorem dX8_force_29 : decode cX8_force 29 = .ok (.putfield 112, 3) := dTa tdX8_force_0 16 rfl
theorem dX8_force_32 : decode cX8_force 32 = .ok (.iload_n 2, 1) := dTa tdX8_force_0 17 rfl
theorem dX8_force_33 : decode cX8_force 33 = .ok (.ireturn, 1) := dTa tdX8_force_0 18 rfl
set_option maxRecDepth 100000 in
theorem tdX8_hall_0 : dTb cX8_hall [(0, .aload_n 0, 1), (1, .getfield 10, 3), (4, .aload_n 0, 1), (5, .getfield 44, 3), (8, .invokestatic 72, 3), (11, .istore_n 1, 1), (12, .aload_n 0, 1), (13, .getfield 10, 3), (16, .getfield 78, 3), (19, .istore_n 2, 1), (20, .aload_n 0, 1), (21, .getfield 10, 3), (24, .iconst 0, 1), (25, .putfield 65, 3), (28, .iload_n 1, 1), (29, .ifCond .ne 8, 3), (32, .bipush (-2), 2), (34, .iload_n 2, 1), (35, .isub, 1), (36, .ireturn, 1), (37, .aload_n 0, 1), (38, .getfield 29, 3), (41, .getfield 81, 3), (44, .aload_n 0, 1), (45, .getfield 44, 3), (48, .invokevirtual 84, 3), (51, .aload_n 0, 1), (52, .getfield 29, 3), (55, .getfield 88, 3), (58, .invokevirtual 92, 3), (61, .aload_n 0, 1), (62, .getfield 29, 3), (65, .getfield 97, 3), (68, .invokevirtual 101, 3), (71, .aload_n 0, 1), (72, .getfield 29, 3), (75, .getfield 81, 3), (78, .getfield 104, 3), (81, .ireturn, 1)] = true := by decide +kernel
theorem dX8_hall_0 : decode cX8_hall 0 = .ok (.aload_n 0, 1) := dTa tdX8_hall_0 0 rfl
theorem dX8_hall_1 : decode cX8_hall 1 = .ok (.getfield 10, 3) := dTa tdX8_hall_0 1 rfl
theorem dX8_hall_4 : decode cX8_hall 4 = .ok (.aload_n 0, 1) := dTa tdX8_hall_0 2 rfl
theorem dX8_hall_5 : decode cX8_hall 5 = .ok (.getfield 44, 3) := dTa tdX8_hall_0 3 rfl
theorem dX8_hall_8 : decode cX8_hall 8 = .ok (.invokestatic 72, 3) := dTa tdX8_hall_0 4 rfl
theorem dX8_hall_11 : decode cX8_hall 11 = .ok (.istore_n 1, 1) := dTa tdX8_hall_0 5 rfl
theorem dX8_hall_12 : decode cX8_hall 12 = .ok (.aload_n 0, 1) := dTa tdX8_hall_0 6 rfl
theorem dX8_hall_13 : decode cX8_hall 13 = .ok (.getfield 10, 3) := dTa tdX8_hall_0 7 rfl
theorem dX8_hall_16 : decode cX8_hall 16 = .ok (.getfield 78, 3) := dTa tdX8_hall_0 8 rfl
theorem dX8_hall_19 : decode cX8_hall 19 = .ok (.istore_n 2, 1) := dTa tdX8_hall_0 9 rfl
theorem dX8_hall_20 : decode cX8_hall 20 = .ok (.aload_n 0, 1) := dTa tdX8_hall_0 10 rfl
theorem dX8_hall_21 : decode cX8_hall 21 = .ok (.getfield 10, 3) := dTa tdX8_hall_0 11 rfl
theorem dX8_hall_24 : decode cX8_hall 24 = .ok (.iconst 0, 1) := dTa tdX8_hall_0 12 rfl
theorem dX8_hall_25 : decode cX8_hall 25 = .ok (.putfield 65, 3) := dTa tdX8_hall_0 13 rfl
theorem dX8_hall_28 : decode cX8_hall 28 = .ok (.iload_n 1, 1) := dTa tdX8_hall_0 14 rfl
theorem dX8_hall_29 : decode cX8_hall 29 = .ok (.ifCond .ne 8, 3) := dTa tdX8_hall_0 15 rfl
theorem dX8_hall_32 : decode cX8_hall 32 = .ok (.bipush (-2), 2) := dTa tdX8_hall_0 16 rfl
theorem dX8_hall_34 : decode cX8_hall 34 = .ok (.iload_n 2, 1) := dTa tdX8_hall_0 17 rfl
theorem dX8_hall_35 : decode cX8_hall 35 = .ok (.isub, 1) := dTa tdX8_hall_0 18 rfl
theorem dX8_hall_36 : decode cX8_hall 36 = .ok (.ireturn, 1) := dTa tdX8_hall_0 19 rfl
theorem dX8_hall_37 : decode cX8_hall 37 = .ok (.aload_n 0, 1) := dTa tdX8_hall_0 20 rfl
theorem dX8_hall_38 : decode cX8_hall 38 = .ok (.getfield 29, 3) := dTa tdX8_hall_0 21 rfl
theorem dX8_hall_41 : decode cX8_hall 41 = .ok (.getfield 81, 3) := dTa tdX8_hall_0 22 rfl
theorem dX8_hall_44 : decode cX8_hall 44 = .ok (.aload_n 0, 1) := dTa tdX8_hall_0 23 rfl
theorem dX8_hall_45 : decode cX8_hall 45 = .ok (.getfield 44, 3) := dTa tdX8_hall_0 24 rfl
theorem dX8_hall_48 : decode cX8_hall 48 = .ok (.invokevirtual 84, 3) := dTa tdX8_hall_0 25 rfl
theorem dX8_hall_51 : decode cX8_hall 51 = .ok (.aload_n 0, 1) := dTa tdX8_hall_0 26 rfl
theorem dX8_hall_52 : decode cX8_hall 52 = .ok (.getfield 29, 3) := dTa tdX8_hall_0 27 rfl
theorem dX8_hall_55 : decode cX8_hall 55 = .ok (.getfield 88, 3) := dTa tdX8_hall_0 28 rfl
theorem dX8_hall_58 : decode cX8_hall 58 = .ok (.invokevirtual 92, 3) := dTa tdX8_hall_0 29 rfl
theorem dX8_hall_61 : decode cX8_hall 61 = .ok (.aload_n 0, 1) := dTa tdX8_hall_0 30 rfl
theorem dX8_hall_62 : decode cX8_hall 62 = .ok (.getfield 29, 3) := dTa tdX8_hall_0 31 rfl
theorem dX8_hall_65 : decode cX8_hall 65 = .ok (.getfield 97, 3) := dTa tdX8_hall_0 32 rfl
theorem dX8_hall_68 : decode cX8_hall 68 = .ok (.invokevirtual 101, 3) := dTa tdX8_hall_0 33 rfl
theorem dX8_hall_71 : decode cX8_hall 71 = .ok (.aload_n 0, 1) := dTa tdX8_hall_0 34 rfl
theorem dX8_hall_72 : decode cX8_hall 72 = .ok (.getfield 29, 3) := dTa tdX8_hall_0 35 rfl
theorem dX8_hall_75 : decode cX8_hall 75 = .ok (.getfield 81, 3) := dTa tdX8_hall_0 36 rfl
theorem dX8_hall_78 : decode cX8_hall 78 = .ok (.getfield 104, 3) := dTa tdX8_hall_0 37 rfl
theorem dX8_hall_81 : decode cX8_hall 81 = .ok (.ireturn, 1) := dTa tdX8_hall_0 38 rfl
set_option maxRecDepth 100000 in
theorem tdX8_heavy_0 : dTb cX8_heavy [(0, .aload_n 0, 1), (1, .getfield 29, 3), (4, .getfield 81, 3), (7, .astore_n 3, 1), (8, .aload_n 3, 1), (9, .iload_n 1, 1), (10, .invokevirtual 221, 3), (13, .ifCond .eq 12, 3), (16, .iload_n 2, 1), (17, .ifCond .lt 8, 3), (20, .iload_n 2, 1), (21, .iconst 1, 1), (22, .if_icmp .le 5, 3), (25, .iconst (-1), 1), (26, .ireturn, 1), (27, .iconst 0, 1), (28, .istore 4, 2), (30, .bipush (-2), 2), (32, .istore 5, 2), (34, .aload_n 0, 1), (35, .getfield 44, 3), (38, .aload_n 3, 1), (39, .invokevirtual 84, 3), (42, .bipush 20, 2), (44, .istore 6, 2), (46, .iload 6, 2), (48, .iconst 1, 1), (49, .if_icmp .lt 45, 3), (52, .aload_n 0, 1), (53, .getfield 44, 3), (56, .getfield 144, 3), (59, .iload_n 1, 1), (60, .iload 6, 2), (62, .iastore, 1), (63, .aload_n 0, 1), (64, .getfield 44, 3), (67, .aload_n 3, 1), (68, .getfield 200, 3), (71, .iconst 1, 1), (72, .iload_n 1, 1)] = true := by decide +kernel
theorem dX8_heavy_0 : decode cX8_heavy 0 = .ok (.aload_n 0, 1) := dTa tdX8_heavy_0 0 rfl
theorem dX8_heavy_1 : decode cX8_heavy 1 = .ok (.getfield 29, 3) := dTa tdX8_heavy_0 1 rfl
theorem dX8_heavy_4 : decode cX8_heavy 4 = .ok (.getfield 81, 3) := dTa tdX8_heavy_0 2 rfl
theorem dX8_heavy_7 : decode cX8_heavy 7 = .ok (.astore_n 3, 1) := dTa tdX8_heavy_0 3 rfl
theorem dX8_heavy_8 : decode cX8_heavy 8 = .ok (.aload_n 3, 1) := dTa tdX8_heavy_0 4 rfl
theorem dX8_heavy_9 : decode cX8_heavy 9 = .ok (.iload_n 1, 1) := dTa tdX8_heavy_0 5 rfl
theorem dX8_heavy_10 : decode cX8_heavy 10 = .ok (.invokevirtual 221, 3) := dTa tdX8_heavy_0 6 rfl
theorem dX8_heavy_13 : decode cX8_heavy 13 = .ok (.ifCond .eq 12, 3) := dTa tdX8_heavy_0 7 rfl
theorem dX8_heavy_16 : decode cX8_heavy 16 = .ok (.iload_n 2, 1) := dTa tdX8_heavy_0 8 rfl
theorem dX8_heavy_17 : decode cX8_heavy 17 = .ok (.ifCond .lt 8, 3) := dTa tdX8_heavy_0 9 rfl
theorem dX8_heavy_20 : decode cX8_heavy 20 = .ok (.iload_n 2, 1) := dTa tdX8_heavy_0 10 rfl
theorem dX8_heavy_21 : decode cX8_heavy 21 = .ok (.iconst 1, 1) := dTa tdX8_heavy_0 11 rfl
theorem dX8_heavy_22 : decode cX8_heavy 22 = .ok (.if_icmp .le 5, 3) := dTa tdX8_heavy_0 12 rfl
theorem dX8_heavy_25 : decode cX8_heavy 25 = .ok (.iconst (-1), 1) := dTa tdX8_heavy_0 13 rfl
theorem dX8_heavy_26 : decode cX8_heavy 26 = .ok (.ireturn, 1) := dTa tdX8_heavy_0 14 rfl
theorem dX8_heavy_27 : decode cX8_heavy 27 = .ok (.iconst 0, 1) := dTa tdX8_heavy_0 15 rfl
theorem dX8_heavy_28 : decode cX8_heavy 28 = .ok (.istore 4, 2) := dTa tdX8_heavy_0 16 rfl
theorem dX8_heavy_30 : decode cX8_heavy 30 = .ok (.bipush (-2), 2) := dTa tdX8_heavy_0 17 rfl
theorem dX8_heavy_32 : decode cX8_heavy 32 = .ok (.istore 5, 2) := dTa tdX8_heavy_0 18 rfl
theorem dX8_heavy_34 : decode cX8_heavy 34 = .ok (.aload_n 0, 1) := dTa tdX8_heavy_0 19 rfl
theorem dX8_heavy_35 : decode cX8_heavy 35 = .ok (.getfield 44, 3) := dTa tdX8_heavy_0 20 rfl
theorem dX8_heavy_38 : decode cX8_heavy 38 = .ok (.aload_n 3, 1) := dTa tdX8_heavy_0 21 rfl
theorem dX8_heavy_39 : decode cX8_heavy 39 = .ok (.invokevirtual 84, 3) := dTa tdX8_heavy_0 22 rfl
theorem dX8_heavy_42 : decode cX8_heavy 42 = .ok (.bipush 20, 2) := dTa tdX8_heavy_0 23 rfl
theorem dX8_heavy_44 : decode cX8_heavy 44 = .ok (.istore 6, 2) := dTa tdX8_heavy_0 24 rfl
theorem dX8_heavy_46 : decode cX8_heavy 46 = .ok (.iload 6, 2) := dTa tdX8_heavy_0 25 rfl
theorem dX8_heavy_48 : decode cX8_heavy 48 = .ok (.iconst 1, 1) := dTa tdX8_heavy_0 26 rfl
theorem dX8_heavy_49 : decode cX8_heavy 49 = .ok (.if_icmp .lt 45, 3) := dTa tdX8_heavy_0 27 rfl
theorem dX8_heavy_52 : decode cX8_heavy 52 = .ok (.aload_n 0, 1) := dTa tdX8_heavy_0 28 rfl
theorem dX8_heavy_53 : decode cX8_heavy 53 = .ok (.getfield 44, 3) := dTa tdX8_heavy_0 29 rfl
theorem dX8_heavy_56 : decode cX8_heavy 56 = .ok (.getfield 144, 3) := dTa tdX8_heavy_0 30 rfl
theorem dX8_heavy_59 : decode cX8_heavy 59 = .ok (.iload_n 1, 1) := dTa tdX8_heavy_0 31 rfl
theorem dX8_heavy_60 : decode cX8_heavy 60 = .ok (.iload 6, 2) := dTa tdX8_heavy_0 32 rfl
theorem dX8_heavy_62 : decode cX8_heavy 62 = .ok (.iastore, 1) := dTa tdX8_heavy_0 33 rfl
theorem dX8_heavy_63 : decode cX8_heavy 63 = .ok (.aload_n 0, 1) := dTa tdX8_heavy_0 34 rfl
theorem dX8_heavy_64 : decode cX8_heavy 64 = .ok (.getfield 44, 3) := dTa tdX8_heavy_0 35 rfl
theorem dX8_heavy_67 : decode cX8_heavy 67 = .ok (.aload_n 3, 1) := dTa tdX8_heavy_0 36 rfl
theorem dX8_heavy_68 : decode cX8_heavy 68 = .ok (.getfield 200, 3) := dTa tdX8_heavy_0 37 rfl
theorem dX8_heavy_71 : decode cX8_heavy 71 = .ok (.iconst 1, 1) := dTa tdX8_heavy_0 38 rfl
theorem dX8_heavy_72 : decode cX8_heavy 72 = .ok (.iload_n 1, 1) := dTa tdX8_heavy_0 39 rfl
set_option maxRecDepth 100000 in
theorem tdX8_heavy_73 : dTb cX8_heavy [(73, .ishl, 1), (74, .ior, 1), (75, .invokevirtual 209, 3), (78, .ifCond .eq 10, 3), (81, .iinc 4 1, 3), (84, .iload 6, 2), (86, .istore 5, 2), (88, .iinc 6 (-1), 3), (91, .goto (-45), 3), (94, .iload_n 2, 1), (95, .ifCond .ne 8, 3), (98, .iload 4, 2), (100, .goto 5, 3), (103, .iload 5, 2), (105, .ireturn, 1)] = true := by decide +kernel
theorem dX8_heavy_73 : decode cX8_heavy 73 = .ok (.ishl, 1) := dTa tdX8_heavy_73 0 rfl
theorem dX8_heavy_74 : decode cX8_heavy 74 = .ok (.ior, 1) := dTa tdX8_heavy_73 1 rfl
theorem dX8_heavy_75 : decode cX8_heavy 75 = .ok (.invokevirtual 209, 3) := dTa tdX8_heavy_73 2 rfl
theorem dX8_heavy_78 : decode cX8_heavy 78 = .ok (.ifCond .eq 10, 3) := dTa tdX8_heavy_73 3 rfl
theorem dX8_heavy_81 : decode cX8_heavy 81 = .ok (.iinc 4 1, 3) := dTa tdX8_heavy_73 4 rfl
theorem dX8_heavy_84 : decode cX8_heavy 84 = .ok (.iload 6, 2) := dTa tdX8_heavy_73 5 rfl
theorem dX8_heavy_86 : decode cX8_heavy 86 = .ok (.istore 5, 2) := dTa tdX8_heavy_73 6 rfl
theorem dX8_heavy_88 : decode cX8_heavy 88 = .ok (.iinc 6 (-1), 3) := dTa tdX8_heavy_73 7 rfl
theorem dX8_heavy_91 : decode cX8_heavy 91 = .ok (.goto (-45), 3) := dTa tdX8_heavy_73 8 rfl
theorem dX8_heavy_94 : decode cX8_heavy 94 = .ok (.iload_n 2, 1) := dTa tdX8_heavy_73 9 rfl
theorem dX8_heavy_95 : decode cX8_heavy 95 = .ok (.ifCond .ne 8, 3) := dTa tdX8_heavy_73 10 rfl
theorem dX8_heavy_98 : decode cX8_heavy 98 = .ok (.iload 4, 2) := dTa tdX8_heavy_73 11 rfl
theorem dX8_heavy_100 : decode cX8_heavy 100 = .ok (.goto 5, 3) := dTa tdX8_heavy_73 12 rfl
theorem dX8_heavy_103 : decode cX8_heavy 103 = .ok (.iload 5, 2) := dTa tdX8_heavy_73 13 rfl
theorem dX8_heavy_105 : decode cX8_heavy 105 = .ok (.ireturn, 1) := dTa tdX8_heavy_73 14 rfl
set_option maxRecDepth 100000 in
theorem tdX8_help_0 : dTb cX8_help [(0, .aload_n 0, 1), (1, .getfield 29, 3), (4, .getfield 81, 3), (7, .iload_n 1, 1), (8, .invokevirtual 147, 3), (11, .iconst 2, 1), (12, .if_icmp .eq 5, 3), (15, .iconst (-1), 1), (16, .ireturn, 1), (17, .aload_n 0, 1), (18, .getfield 29, 3), (21, .getfield 88, 3), (24, .aload_n 0, 1), (25, .getfield 29, 3), (28, .getfield 81, 3), (31, .invokevirtual 157, 3), (34, .aload_n 0, 1), (35, .getfield 29, 3), (38, .getfield 81, 3), (41, .dup, 1), (42, .getfield 179, 3), (45, .iconst 1, 1), (46, .iload_n 1, 1), (47, .ishl, 1), (48, .iconst (-1), 1), (49, .ixor, 1), (50, .iand, 1), (51, .putfield 179, 3), (54, .aload_n 0, 1), (55, .getfield 29, 3), (58, .getfield 81, 3), (61, .getfield 179, 3), (64, .invokestatic 182, 3), (67, .ireturn, 1)] = true := by decide +kernel
theorem dX8_help_0 : decode cX8_help 0 = .ok (.aload_n 0, 1) := dTa tdX8_help_0 0 rfl
theorem dX8_help_1 : decode cX8_help 1 = .ok (.getfield 29, 3) := dTa tdX8_help_0 1 rfl
theorem dX8_help_4 : decode cX8_help 4 = .ok (.getfield 81, 3) := dTa tdX8_help_0 2 rfl
theorem dX8_help_7 : decode cX8_help 7 = .ok (.iload_n 1, 1) := dTa tdX8_help_0 3 rfl
theorem dX8_help_8 : decode cX8_help 8 = .ok (.invokevirtual 147, 3) := dTa tdX8_help_0 4 rfl
theorem dX8_help_11 : decode cX8_help 11 = .ok (.iconst 2, 1) := dTa tdX8_help_0 5 rfl
theorem dX8_help_12 : decode cX8_help 12 = .ok (.if_icmp .eq 5, 3) := dTa tdX8_help_0 6 rfl
theorem dX8_help_15 : decode cX8_help 15 = .ok (.iconst (-1), 1) := dTa tdX8_help_0 7 rfl
theorem dX8_help_16 : decode cX8_help 16 = .ok (.ireturn, 1) := dTa tdX8_help_0 8 rfl
theorem dX8_help_17 : decode cX8_help 17 = .ok (.aload_n 0, 1) := dTa tdX8_help_0 9 rfl
theorem dX8_help_18 : decode cX8_help 18 = .ok (.getfield 29, 3) := dTa tdX8_help_0 10 rfl
theorem dX8_help_21 : decode cX8_help 21 = .ok (.getfield 88, 3) := dTa tdX8_help_0 11 rfl
theorem dX8_help_24 : decode cX8_help 24 = .ok (.aload_n 0, 1) := dTa tdX8_help_0 12 rfl
theorem dX8_help_25 : decode cX8_help 25 = .ok (.getfield 29, 3) := dTa tdX8_help_0 13 rfl
theorem dX8_help_28 : decode cX8_help 28 = .ok (.getfield 81, 3) := dTa tdX8_help_0 14 rfl
theorem dX8_help_31 : decode cX8_help 31 = .ok (.invokevirtual 157, 3) := dTa tdX8_help_0 15 rfl
theorem dX8_help_34 : decode cX8_help 34 = .ok (.aload_n 0, 1) := dTa tdX8_help_0 16 rfl
theorem dX8_help_35 : decode cX8_help 35 = .ok (.getfield 29, 3) := dTa tdX8_help_0 17 rfl
theorem dX8_help_38 : decode cX8_help 38 = .ok (.getfield 81, 3) := dTa tdX8_help_0 18 rfl
theorem dX8_help_41 : decode cX8_help 41 = .ok (.dup, 1) := dTa tdX8_help_0 19 rfl
theorem dX8_help_42 : decode cX8_help 42 = .ok (.getfield 179, 3) := dTa tdX8_help_0 20 rfl
theorem dX8_help_45 : decode cX8_help 45 = .ok (.iconst 1, 1) := dTa tdX8_help_0 21 rfl
theorem dX8_help_46 : decode cX8_help 46 = .ok (.iload_n 1, 1) := dTa tdX8_help_0 22 rfl
theorem dX8_help_47 : decode cX8_help 47 = .ok (.ishl, 1) := dTa tdX8_help_0 23 rfl
theorem dX8_help_48 : decode cX8_help 48 = .ok (.iconst (-1), 1) := dTa tdX8_help_0 24 rfl
theorem dX8_help_49 : decode cX8_help 49 = .ok (.ixor, 1) := dTa tdX8_help_0 25 rfl
theorem dX8_help_50 : decode cX8_help 50 = .ok (.iand, 1) := dTa tdX8_help_0 26 rfl
theorem dX8_help_51 : decode cX8_help 51 = .ok (.putfield 179, 3) := dTa tdX8_help_0 27 rfl
theorem dX8_help_54 : decode cX8_help 54 = .ok (.aload_n 0, 1) := dTa tdX8_help_0 28 rfl
theorem dX8_help_55 : decode cX8_help 55 = .ok (.getfield 29, 3) := dTa tdX8_help_0 29 rfl
theorem dX8_help_58 : decode cX8_help 58 = .ok (.getfield 81, 3) := dTa tdX8_help_0 30 rfl
theorem dX8_help_61 : decode cX8_help 61 = .ok (.getfield 179, 3) := dTa tdX8_help_0 31 rfl
theorem dX8_help_64 : decode cX8_help 64 = .ok (.invokestatic 182, 3) := dTa tdX8_help_0 32 rfl
theorem dX8_help_67 : decode cX8_help 67 = .ok (.ireturn, 1) := dTa tdX8_help_0 33 rfl
set_option maxRecDepth 100000 in
theorem tdX8_let_0 : dTb cX8_let [(0, .aload_n 0, 1), (1, .getfield 29, 3), (4, .getfield 81, 3), (7, .astore_n 3, 1), (8, .aload_n 3, 1), (9, .iload_n 1, 1), (10, .invokevirtual 115, 3), (13, .ifCond .eq 23, 3), (16, .iload_n 2, 1), (17, .ifCond .lt 19, 3), (20, .iload_n 2, 1), (21, .bipush 99, 2), (23, .if_icmp .gt 13, 3), (26, .iload_n 2, 1), (27, .aload_n 3, 1), (28, .getfield 119, 3), (31, .iload_n 1, 1), (32, .iaload, 1), (33, .if_icmp .ne 5, 3), (36, .iconst (-1), 1), (37, .ireturn, 1), (38, .aload_n 0, 1), (39, .getfield 29, 3), (42, .getfield 88, 3), (45, .aload_n 3, 1), (46, .invokevirtual 157, 3), (49, .aload_n 3, 1), (50, .getfield 119, 3), (53, .iload_n 1, 1), (54, .iload_n 2, 1), (55, .iastore, 1), (56, .aload_n 3, 1), (57, .invokevirtual 172, 3), (60, .ireturn, 1)] = true := by decide +kernel
theorem dX8_let_0 : decode cX8_let 0 = .ok (.aload_n 0, 1) := dTa tdX8_let_0 0 rfl
theorem dX8_let_1 : decode cX8_let 1 = .ok (.getfield 29, 3) := dTa tdX8_let_0 1 rfl
theorem dX8_let_4 : decode cX8_let 4 = .ok (.getfield 81, 3) := dTa tdX8_let_0 2 rfl
theorem dX8_let_7 : decode cX8_let 7 = .ok (.astore_n 3, 1) := dTa tdX8_let_0 3 rfl
theorem dX8_let_8 : decode cX8_let 8 = .ok (.aload_n 3, 1) := dTa tdX8_let_0 4 rfl
theorem dX8_let_9 : decode cX8_let 9 = .ok (.iload_n 1, 1) := dTa tdX8_let_0 5 rfl
theorem dX8_let_10 : decode cX8_let 10 = .ok (.invokevirtual 115, 3) := dTa tdX8_let_0 6 rfl
theorem dX8_let_13 : decode cX8_let 13 = .ok (.ifCond .eq 23, 3) := dTa tdX8_let_0 7 rfl
theorem dX8_let_16 : decode cX8_let 16 = .ok (.iload_n 2, 1) := dTa tdX8_let_0 8 rfl
theorem dX8_let_17 : decode cX8_let 17 = .ok (.ifCond .lt 19, 3) := dTa tdX8_let_0 9 rfl
theorem dX8_let_20 : decode cX8_let 20 = .ok (.iload_n 2, 1) := dTa tdX8_let_0 10 rfl
theorem dX8_let_21 : decode cX8_let 21 = .ok (.bipush 99, 2) := dTa tdX8_let_0 11 rfl
theorem dX8_let_23 : decode cX8_let 23 = .ok (.if_icmp .gt 13, 3) := dTa tdX8_let_0 12 rfl
theorem dX8_let_26 : decode cX8_let 26 = .ok (.iload_n 2, 1) := dTa tdX8_let_0 13 rfl
theorem dX8_let_27 : decode cX8_let 27 = .ok (.aload_n 3, 1) := dTa tdX8_let_0 14 rfl
theorem dX8_let_28 : decode cX8_let 28 = .ok (.getfield 119, 3) := dTa tdX8_let_0 15 rfl
theorem dX8_let_31 : decode cX8_let 31 = .ok (.iload_n 1, 1) := dTa tdX8_let_0 16 rfl
theorem dX8_let_32 : decode cX8_let 32 = .ok (.iaload, 1) := dTa tdX8_let_0 17 rfl
theorem dX8_let_33 : decode cX8_let 33 = .ok (.if_icmp .ne 5, 3) := dTa tdX8_let_0 18 rfl
theorem dX8_let_36 : decode cX8_let 36 = .ok (.iconst (-1), 1) := dTa tdX8_let_0 19 rfl
theorem dX8_let_37 : decode cX8_let 37 = .ok (.ireturn, 1) := dTa tdX8_let_0 20 rfl
theorem dX8_let_38 : decode cX8_let 38 = .ok (.aload_n 0, 1) := dTa tdX8_let_0 21 rfl
theorem dX8_let_39 : decode cX8_let 39 = .ok (.getfield 29, 3) := dTa tdX8_let_0 22 rfl
theorem dX8_let_42 : decode cX8_let 42 = .ok (.getfield 88, 3) := dTa tdX8_let_0 23 rfl
theorem dX8_let_45 : decode cX8_let 45 = .ok (.aload_n 3, 1) := dTa tdX8_let_0 24 rfl
theorem dX8_let_46 : decode cX8_let 46 = .ok (.invokevirtual 157, 3) := dTa tdX8_let_0 25 rfl
theorem dX8_let_49 : decode cX8_let 49 = .ok (.aload_n 3, 1) := dTa tdX8_let_0 26 rfl
theorem dX8_let_50 : decode cX8_let 50 = .ok (.getfield 119, 3) := dTa tdX8_let_0 27 rfl
theorem dX8_let_53 : decode cX8_let 53 = .ok (.iload_n 1, 1) := dTa tdX8_let_0 28 rfl
theorem dX8_let_54 : decode cX8_let 54 = .ok (.iload_n 2, 1) := dTa tdX8_let_0 29 rfl
theorem dX8_let_55 : decode cX8_let 55 = .ok (.iastore, 1) := dTa tdX8_let_0 30 rfl
theorem dX8_let_56 : decode cX8_let 56 = .ok (.aload_n 3, 1) := dTa tdX8_let_0 31 rfl
theorem dX8_let_57 : decode cX8_let 57 = .ok (.invokevirtual 172, 3) := dTa tdX8_let_0 32 rfl
theorem dX8_let_60 : decode cX8_let 60 = .ok (.ireturn, 1) := dTa tdX8_let_0 33 rfl
set_option maxRecDepth 100000 in
theorem tdX8_minute_0 : dTb cX8_minute [(0, .aload_n 0, 1), (1, .getfield 29, 3), (4, .getfield 81, 3), (7, .astore_n 1, 1), (8, .aload_n 1, 1), (9, .getfield 150, 3), (12, .ifCond .eq 13, 3), (15, .aload_n 1, 1), (16, .getfield 154, 3), (19, .sipush 999, 3), (22, .if_icmp .lt 5, 3), (25, .iconst (-1), 1), (26, .ireturn, 1), (27, .aload_n 0, 1), (28, .getfield 29, 3), (31, .getfield 88, 3), (34, .aload_n 1, 1), (35, .invokevirtual 157, 3), (38, .aload_n 1, 1), (39, .aload_n 0, 1), (40, .invokevirtual 160, 3), (43, .invokevirtual 164, 3), (46, .ireturn, 1)] = true := by decide +kernel
theorem dX8_minute_0 : decode cX8_minute 0 = .ok (.aload_n 0, 1) := dTa tdX8_minute_0 0 rfl
theorem dX8_minute_1 : decode cX8_minute 1 = .ok (.getfield 29, 3) := dTa tdX8_minute_0 1 rfl
theorem dX8_minute_4 : decode cX8_minute 4 = .ok (.getfield 81, 3) := dTa tdX8_minute_0 2 rfl
theorem dX8_minute_7 : decode cX8_minute 7 = .ok (.astore_n 1, 1) := dTa tdX8_minute_0 3 rfl
theorem dX8_minute_8 : decode cX8_minute 8 = .ok (.aload_n 1, 1) := dTa tdX8_minute_0 4 rfl
theorem dX8_minute_9 : decode cX8_minute 9 = .ok (.getfield 150, 3) := dTa tdX8_minute_0 5 rfl
theorem dX8_minute_12 : decode cX8_minute 12 = .ok (.ifCond .eq 13, 3) := dTa tdX8_minute_0 6 rfl
theorem dX8_minute_15 : decode cX8_minute 15 = .ok (.aload_n 1, 1) := dTa tdX8_minute_0 7 rfl
theorem dX8_minute_16 : decode cX8_minute 16 = .ok (.getfield 154, 3) := dTa tdX8_minute_0 8 rfl
theorem dX8_minute_19 : decode cX8_minute 19 = .ok (.sipush 999, 3) := dTa tdX8_minute_0 9 rfl
theorem dX8_minute_22 : decode cX8_minute 22 = .ok (.if_icmp .lt 5, 3) := dTa tdX8_minute_0 10 rfl
theorem dX8_minute_25 : decode cX8_minute 25 = .ok (.iconst (-1), 1) := dTa tdX8_minute_0 11 rfl
theorem dX8_minute_26 : decode cX8_minute 26 = .ok (.ireturn, 1) := dTa tdX8_minute_0 12 rfl
theorem dX8_minute_27 : decode cX8_minute 27 = .ok (.aload_n 0, 1) := dTa tdX8_minute_0 13 rfl
theorem dX8_minute_28 : decode cX8_minute 28 = .ok (.getfield 29, 3) := dTa tdX8_minute_0 14 rfl
theorem dX8_minute_31 : decode cX8_minute 31 = .ok (.getfield 88, 3) := dTa tdX8_minute_0 15 rfl
theorem dX8_minute_34 : decode cX8_minute 34 = .ok (.aload_n 1, 1) := dTa tdX8_minute_0 16 rfl
theorem dX8_minute_35 : decode cX8_minute 35 = .ok (.invokevirtual 157, 3) := dTa tdX8_minute_0 17 rfl
theorem dX8_minute_38 : decode cX8_minute 38 = .ok (.aload_n 1, 1) := dTa tdX8_minute_0 18 rfl
theorem dX8_minute_39 : decode cX8_minute 39 = .ok (.aload_n 0, 1) := dTa tdX8_minute_0 19 rfl
theorem dX8_minute_40 : decode cX8_minute 40 = .ok (.invokevirtual 160, 3) := dTa tdX8_minute_0 20 rfl
theorem dX8_minute_43 : decode cX8_minute 43 = .ok (.invokevirtual 164, 3) := dTa tdX8_minute_0 21 rfl
theorem dX8_minute_46 : decode cX8_minute 46 = .ok (.ireturn, 1) := dTa tdX8_minute_0 22 rfl
set_option maxRecDepth 100000 in
theorem tdX8_most_0 : dTb cX8_most [(0, .aload_n 0, 1), (1, .getfield 29, 3), (4, .getfield 81, 3), (7, .iload_n 1, 1), (8, .invokevirtual 115, 3), (11, .ifCond .ne 5, 3), (14, .iconst (-1), 1), (15, .ireturn, 1), (16, .aload_n 0, 1), (17, .getfield 44, 3), (20, .aload_n 0, 1), (21, .getfield 29, 3), (24, .getfield 81, 3), (27, .invokevirtual 84, 3), (30, .bipush 99, 2), (32, .istore_n 2, 1), (33, .iload_n 2, 1), (34, .ifCond .lt 31, 3), (37, .aload_n 0, 1), (38, .getfield 44, 3), (41, .getfield 119, 3), (44, .iload_n 1, 1), (45, .iload_n 2, 1), (46, .iastore, 1), (47, .aload_n 0, 1), (48, .getfield 44, 3), (51, .invokevirtual 218, 3), (54, .ifCond .ne 5, 3), (57, .iload_n 2, 1), (58, .ireturn, 1), (59, .iinc 2 (-1), 3), (62, .goto (-29), 3), (65, .bipush (-2), 2), (67, .ireturn, 1)] = true := by decide +kernel
theorem dX8_most_0 : decode cX8_most 0 = .ok (.aload_n 0, 1) := dTa tdX8_most_0 0 rfl
theorem dX8_most_1 : decode cX8_most 1 = .ok (.getfield 29, 3) := dTa tdX8_most_0 1 rfl
theorem dX8_most_4 : decode cX8_most 4 = .ok (.getfield 81, 3) := dTa tdX8_most_0 2 rfl
theorem dX8_most_7 : decode cX8_most 7 = .ok (.iload_n 1, 1) := dTa tdX8_most_0 3 rfl
theorem dX8_most_8 : decode cX8_most 8 = .ok (.invokevirtual 115, 3) := dTa tdX8_most_0 4 rfl
theorem dX8_most_11 : decode cX8_most 11 = .ok (.ifCond .ne 5, 3) := dTa tdX8_most_0 5 rfl
theorem dX8_most_14 : decode cX8_most 14 = .ok (.iconst (-1), 1) := dTa tdX8_most_0 6 rfl
theorem dX8_most_15 : decode cX8_most 15 = .ok (.ireturn, 1) := dTa tdX8_most_0 7 rfl
theorem dX8_most_16 : decode cX8_most 16 = .ok (.aload_n 0, 1) := dTa tdX8_most_0 8 rfl
theorem dX8_most_17 : decode cX8_most 17 = .ok (.getfield 44, 3) := dTa tdX8_most_0 9 rfl
theorem dX8_most_20 : decode cX8_most 20 = .ok (.aload_n 0, 1) := dTa tdX8_most_0 10 rfl
theorem dX8_most_21 : decode cX8_most 21 = .ok (.getfield 29, 3) := dTa tdX8_most_0 11 rfl
theorem dX8_most_24 : decode cX8_most 24 = .ok (.getfield 81, 3) := dTa tdX8_most_0 12 rfl
theorem dX8_most_27 : decode cX8_most 27 = .ok (.invokevirtual 84, 3) := dTa tdX8_most_0 13 rfl
theorem dX8_most_30 : decode cX8_most 30 = .ok (.bipush 99, 2) := dTa tdX8_most_0 14 rfl
theorem dX8_most_32 : decode cX8_most 32 = .ok (.istore_n 2, 1) := dTa tdX8_most_0 15 rfl
theorem dX8_most_33 : decode cX8_most 33 = .ok (.iload_n 2, 1) := dTa tdX8_most_0 16 rfl
theorem dX8_most_34 : decode cX8_most 34 = .ok (.ifCond .lt 31, 3) := dTa tdX8_most_0 17 rfl
theorem dX8_most_37 : decode cX8_most 37 = .ok (.aload_n 0, 1) := dTa tdX8_most_0 18 rfl
theorem dX8_most_38 : decode cX8_most 38 = .ok (.getfield 44, 3) := dTa tdX8_most_0 19 rfl
theorem dX8_most_41 : decode cX8_most 41 = .ok (.getfield 119, 3) := dTa tdX8_most_0 20 rfl
theorem dX8_most_44 : decode cX8_most 44 = .ok (.iload_n 1, 1) := dTa tdX8_most_0 21 rfl
theorem dX8_most_45 : decode cX8_most 45 = .ok (.iload_n 2, 1) := dTa tdX8_most_0 22 rfl
theorem dX8_most_46 : decode cX8_most 46 = .ok (.iastore, 1) := dTa tdX8_most_0 23 rfl
theorem dX8_most_47 : decode cX8_most 47 = .ok (.aload_n 0, 1) := dTa tdX8_most_0 24 rfl
theorem dX8_most_48 : decode cX8_most 48 = .ok (.getfield 44, 3) := dTa tdX8_most_0 25 rfl
theorem dX8_most_51 : decode cX8_most 51 = .ok (.invokevirtual 218, 3) := dTa tdX8_most_0 26 rfl
theorem dX8_most_54 : decode cX8_most 54 = .ok (.ifCond .ne 5, 3) := dTa tdX8_most_0 27 rfl
theorem dX8_most_57 : decode cX8_most 57 = .ok (.iload_n 2, 1) := dTa tdX8_most_0 28 rfl
theorem dX8_most_58 : decode cX8_most 58 = .ok (.ireturn, 1) := dTa tdX8_most_0 29 rfl
theorem dX8_most_59 : decode cX8_most 59 = .ok (.iinc 2 (-1), 3) := dTa tdX8_most_0 30 rfl
theorem dX8_most_62 : decode cX8_most 62 = .ok (.goto (-29), 3) := dTa tdX8_most_0 31 rfl
theorem dX8_most_65 : decode cX8_most 65 = .ok (.bipush (-2), 2) := dTa tdX8_most_0 32 rfl
theorem dX8_most_67 : decode cX8_most 67 = .ok (.ireturn, 1) := dTa tdX8_most_0 33 rfl
set_option maxRecDepth 100000 in
theorem tdX8_nextDrawn_0 : dTb cX8_nextDrawn [(0, .iload_n 0, 1), (1, .i2l, 1), (2, .ldc2_w 308, 3), (5, .lmul, 1), (6, .ldc2_w 310, 3), (9, .ladd, 1), (10, .ldc2_w 312, 3), (13, .land, 1), (14, .l2i, 1), (15, .ireturn, 1)] = true := by decide +kernel
theorem dX8_nextDrawn_0 : decode cX8_nextDrawn 0 = .ok (.iload_n 0, 1) := dTa tdX8_nextDrawn_0 0 rfl
theorem dX8_nextDrawn_1 : decode cX8_nextDrawn 1 = .ok (.i2l, 1) := dTa tdX8_nextDrawn_0 1 rfl
theorem dX8_nextDrawn_2 : decode cX8_nextDrawn 2 = .ok (.ldc2_w 308, 3) := dTa tdX8_nextDrawn_0 2 rfl
theorem dX8_nextDrawn_5 : decode cX8_nextDrawn 5 = .ok (.lmul, 1) := dTa tdX8_nextDrawn_0 3 rfl
theorem dX8_nextDrawn_6 : decode cX8_nextDrawn 6 = .ok (.ldc2_w 310, 3) := dTa tdX8_nextDrawn_0 4 rfl
theorem dX8_nextDrawn_9 : decode cX8_nextDrawn 9 = .ok (.ladd, 1) := dTa tdX8_nextDrawn_0 5 rfl
theorem dX8_nextDrawn_10 : decode cX8_nextDrawn 10 = .ok (.ldc2_w 312, 3) := dTa tdX8_nextDrawn_0 6 rfl
theorem dX8_nextDrawn_13 : decode cX8_nextDrawn 13 = .ok (.land, 1) := dTa tdX8_nextDrawn_0 7 rfl
theorem dX8_nextDrawn_14 : decode cX8_nextDrawn 14 = .ok (.l2i, 1) := dTa tdX8_nextDrawn_0 8 rfl
theorem dX8_nextDrawn_15 : decode cX8_nextDrawn 15 = .ok (.ireturn, 1) := dTa tdX8_nextDrawn_0 9 rfl
set_option maxRecDepth 100000 in
theorem tdX8_pence_0 : dTb cX8_pence [(0, .aload_n 0, 1), (1, .getfield 29, 3), (4, .getfield 81, 3), (7, .astore_n 3, 1), (8, .iload_n 1, 1), (9, .ifCond .lt 18, 3), (12, .iload_n 1, 1), (13, .sipush 9999, 3), (16, .if_icmp .gt 11, 3), (19, .aload_n 3, 1), (20, .iload_n 2, 1), (21, .invokevirtual 138, 3), (24, .ifCond .ne 5, 3), (27, .iconst (-1), 1), (28, .ireturn, 1), (29, .aload_n 3, 1), (30, .invokevirtual 224, 3), (33, .istore 4, 2), (35, .iload 4, 2), (37, .ifCond .gt 5, 3), (40, .iconst 0, 1), (41, .ireturn, 1), (42, .iload_n 1, 1), (43, .aload_n 3, 1), (44, .iload_n 2, 1), (45, .invokevirtual 135, 3), (48, .imul, 1), (49, .istore 5, 2), (51, .iload_n 1, 1), (52, .istore 6, 2), (54, .iconst 0, 1), (55, .istore 7, 2), (57, .iconst 0, 1), (58, .istore 8, 2), (60, .iload 8, 2), (62, .aload_n 3, 1), (63, .getfield 104, 3), (66, .if_icmp .ge 64, 3), (69, .iload_n 1, 1), (70, .aload_n 3, 1)] = true := by decide +kernel
theorem dX8_pence_0 : decode cX8_pence 0 = .ok (.aload_n 0, 1) := dTa tdX8_pence_0 0 rfl
theorem dX8_pence_1 : decode cX8_pence 1 = .ok (.getfield 29, 3) := dTa tdX8_pence_0 1 rfl
theorem dX8_pence_4 : decode cX8_pence 4 = .ok (.getfield 81, 3) := dTa tdX8_pence_0 2 rfl
theorem dX8_pence_7 : decode cX8_pence 7 = .ok (.astore_n 3, 1) := dTa tdX8_pence_0 3 rfl
theorem dX8_pence_8 : decode cX8_pence 8 = .ok (.iload_n 1, 1) := dTa tdX8_pence_0 4 rfl
theorem dX8_pence_9 : decode cX8_pence 9 = .ok (.ifCond .lt 18, 3) := dTa tdX8_pence_0 5 rfl
theorem dX8_pence_12 : decode cX8_pence 12 = .ok (.iload_n 1, 1) := dTa tdX8_pence_0 6 rfl
theorem dX8_pence_13 : decode cX8_pence 13 = .ok (.sipush 9999, 3) := dTa tdX8_pence_0 7 rfl
theorem dX8_pence_16 : decode cX8_pence 16 = .ok (.if_icmp .gt 11, 3) := dTa tdX8_pence_0 8 rfl
theorem dX8_pence_19 : decode cX8_pence 19 = .ok (.aload_n 3, 1) := dTa tdX8_pence_0 9 rfl
theorem dX8_pence_20 : decode cX8_pence 20 = .ok (.iload_n 2, 1) := dTa tdX8_pence_0 10 rfl
theorem dX8_pence_21 : decode cX8_pence 21 = .ok (.invokevirtual 138, 3) := dTa tdX8_pence_0 11 rfl
theorem dX8_pence_24 : decode cX8_pence 24 = .ok (.ifCond .ne 5, 3) := dTa tdX8_pence_0 12 rfl
theorem dX8_pence_27 : decode cX8_pence 27 = .ok (.iconst (-1), 1) := dTa tdX8_pence_0 13 rfl
theorem dX8_pence_28 : decode cX8_pence 28 = .ok (.ireturn, 1) := dTa tdX8_pence_0 14 rfl
theorem dX8_pence_29 : decode cX8_pence 29 = .ok (.aload_n 3, 1) := dTa tdX8_pence_0 15 rfl
theorem dX8_pence_30 : decode cX8_pence 30 = .ok (.invokevirtual 224, 3) := dTa tdX8_pence_0 16 rfl
theorem dX8_pence_33 : decode cX8_pence 33 = .ok (.istore 4, 2) := dTa tdX8_pence_0 17 rfl
theorem dX8_pence_35 : decode cX8_pence 35 = .ok (.iload 4, 2) := dTa tdX8_pence_0 18 rfl
theorem dX8_pence_37 : decode cX8_pence 37 = .ok (.ifCond .gt 5, 3) := dTa tdX8_pence_0 19 rfl
theorem dX8_pence_40 : decode cX8_pence 40 = .ok (.iconst 0, 1) := dTa tdX8_pence_0 20 rfl
theorem dX8_pence_41 : decode cX8_pence 41 = .ok (.ireturn, 1) := dTa tdX8_pence_0 21 rfl
theorem dX8_pence_42 : decode cX8_pence 42 = .ok (.iload_n 1, 1) := dTa tdX8_pence_0 22 rfl
theorem dX8_pence_43 : decode cX8_pence 43 = .ok (.aload_n 3, 1) := dTa tdX8_pence_0 23 rfl
theorem dX8_pence_44 : decode cX8_pence 44 = .ok (.iload_n 2, 1) := dTa tdX8_pence_0 24 rfl
theorem dX8_pence_45 : decode cX8_pence 45 = .ok (.invokevirtual 135, 3) := dTa tdX8_pence_0 25 rfl
theorem dX8_pence_48 : decode cX8_pence 48 = .ok (.imul, 1) := dTa tdX8_pence_0 26 rfl
theorem dX8_pence_49 : decode cX8_pence 49 = .ok (.istore 5, 2) := dTa tdX8_pence_0 27 rfl
theorem dX8_pence_51 : decode cX8_pence 51 = .ok (.iload_n 1, 1) := dTa tdX8_pence_0 28 rfl
theorem dX8_pence_52 : decode cX8_pence 52 = .ok (.istore 6, 2) := dTa tdX8_pence_0 29 rfl
theorem dX8_pence_54 : decode cX8_pence 54 = .ok (.iconst 0, 1) := dTa tdX8_pence_0 30 rfl
theorem dX8_pence_55 : decode cX8_pence 55 = .ok (.istore 7, 2) := dTa tdX8_pence_0 31 rfl
theorem dX8_pence_57 : decode cX8_pence 57 = .ok (.iconst 0, 1) := dTa tdX8_pence_0 32 rfl
theorem dX8_pence_58 : decode cX8_pence 58 = .ok (.istore 8, 2) := dTa tdX8_pence_0 33 rfl
theorem dX8_pence_60 : decode cX8_pence 60 = .ok (.iload 8, 2) := dTa tdX8_pence_0 34 rfl
theorem dX8_pence_62 : decode cX8_pence 62 = .ok (.aload_n 3, 1) := dTa tdX8_pence_0 35 rfl
theorem dX8_pence_63 : decode cX8_pence 63 = .ok (.getfield 104, 3) := dTa tdX8_pence_0 36 rfl
theorem dX8_pence_66 : decode cX8_pence 66 = .ok (.if_icmp .ge 64, 3) := dTa tdX8_pence_0 37 rfl
theorem dX8_pence_69 : decode cX8_pence 69 = .ok (.iload_n 1, 1) := dTa tdX8_pence_0 38 rfl
theorem dX8_pence_70 : decode cX8_pence 70 = .ok (.aload_n 3, 1) := dTa tdX8_pence_0 39 rfl
set_option maxRecDepth 100000 in
theorem tdX8_pence_71 : dTb cX8_pence [(71, .iload 8, 2), (73, .invokevirtual 135, 3), (76, .imul, 1), (77, .istore 9, 2), (79, .iload 6, 2), (81, .iload 9, 2), (83, .iload 4, 2), (85, .idiv, 1), (86, .isub, 1), (87, .istore 6, 2), (89, .iload 9, 2), (91, .iload 4, 2), (93, .irem, 1), (94, .iload 5, 2), (96, .iload 4, 2), (98, .irem, 1), (99, .if_icmp .gt 22, 3), (102, .iload 9, 2), (104, .iload 4, 2), (106, .irem, 1), (107, .iload 5, 2), (109, .iload 4, 2), (111, .irem, 1), (112, .if_icmp .ne 12, 3), (115, .iload 8, 2), (117, .iload_n 2, 1), (118, .if_icmp .ge 6, 3), (121, .iinc 7 1, 3), (124, .iinc 8 1, 3), (127, .goto (-67), 3), (130, .iload 5, 2), (132, .iload 4, 2), (134, .idiv, 1), (135, .iload 7, 2), (137, .iload 6, 2), (139, .if_icmp .ge 7, 3), (142, .iconst 1, 1), (143, .goto 4, 3), (146, .iconst 0, 1), (147, .iadd, 1)] = true := by decide +kernel
theorem dX8_pence_71 : decode cX8_pence 71 = .ok (.iload 8, 2) := dTa tdX8_pence_71 0 rfl
theorem dX8_pence_73 : decode cX8_pence 73 = .ok (.invokevirtual 135, 3) := dTa tdX8_pence_71 1 rfl
theorem dX8_pence_76 : decode cX8_pence 76 = .ok (.imul, 1) := dTa tdX8_pence_71 2 rfl
theorem dX8_pence_77 : decode cX8_pence 77 = .ok (.istore 9, 2) := dTa tdX8_pence_71 3 rfl
theorem dX8_pence_79 : decode cX8_pence 79 = .ok (.iload 6, 2) := dTa tdX8_pence_71 4 rfl
theorem dX8_pence_81 : decode cX8_pence 81 = .ok (.iload 9, 2) := dTa tdX8_pence_71 5 rfl
theorem dX8_pence_83 : decode cX8_pence 83 = .ok (.iload 4, 2) := dTa tdX8_pence_71 6 rfl
theorem dX8_pence_85 : decode cX8_pence 85 = .ok (.idiv, 1) := dTa tdX8_pence_71 7 rfl
theorem dX8_pence_86 : decode cX8_pence 86 = .ok (.isub, 1) := dTa tdX8_pence_71 8 rfl
theorem dX8_pence_87 : decode cX8_pence 87 = .ok (.istore 6, 2) := dTa tdX8_pence_71 9 rfl
theorem dX8_pence_89 : decode cX8_pence 89 = .ok (.iload 9, 2) := dTa tdX8_pence_71 10 rfl
theorem dX8_pence_91 : decode cX8_pence 91 = .ok (.iload 4, 2) := dTa tdX8_pence_71 11 rfl
theorem dX8_pence_93 : decode cX8_pence 93 = .ok (.irem, 1) := dTa tdX8_pence_71 12 rfl
theorem dX8_pence_94 : decode cX8_pence 94 = .ok (.iload 5, 2) := dTa tdX8_pence_71 13 rfl
theorem dX8_pence_96 : decode cX8_pence 96 = .ok (.iload 4, 2) := dTa tdX8_pence_71 14 rfl
theorem dX8_pence_98 : decode cX8_pence 98 = .ok (.irem, 1) := dTa tdX8_pence_71 15 rfl
theorem dX8_pence_99 : decode cX8_pence 99 = .ok (.if_icmp .gt 22, 3) := dTa tdX8_pence_71 16 rfl
theorem dX8_pence_102 : decode cX8_pence 102 = .ok (.iload 9, 2) := dTa tdX8_pence_71 17 rfl
