/-! the class: more, as functions -/
set_option maxRecDepth 100000 in
theorem tdX8_beginAnew_0 : dTb cX8_beginAnew [(0, .aload_n 0, 1), (1, .getfield 44, 3), (4, .aload_n 0, 1), (5, .getfield 29, 3), (8, .getfield 81, 3), (11, .invokevirtual 84, 3), (14, .aload_n 0, 1), (15, .getfield 44, 3), (18, .invokevirtual 279, 3), (21, .return_, 1)] = true := by decide +kernel
theorem dX8_beginAnew_0 : decode cX8_beginAnew 0 = .ok (.aload_n 0, 1) := dTa tdX8_beginAnew_0 0 rfl
theorem dX8_beginAnew_1 : decode cX8_beginAnew 1 = .ok (.getfield 44, 3) := dTa tdX8_beginAnew_0 1 rfl
theorem dX8_beginAnew_4 : decode cX8_beginAnew 4 = .ok (.aload_n 0, 1) := dTa tdX8_beginAnew_0 2 rfl
theorem dX8_beginAnew_5 : decode cX8_beginAnew 5 = .ok (.getfield 29, 3) := dTa tdX8_beginAnew_0 3 rfl
theorem dX8_beginAnew_8 : decode cX8_beginAnew 8 = .ok (.getfield 81, 3) := dTa tdX8_beginAnew_0 4 rfl
theorem dX8_beginAnew_11 : decode cX8_beginAnew 11 = .ok (.invokevirtual 84, 3) := dTa tdX8_beginAnew_0 5 rfl
theorem dX8_beginAnew_14 : decode cX8_beginAnew 14 = .ok (.aload_n 0, 1) := dTa tdX8_beginAnew_0 6 rfl
theorem dX8_beginAnew_15 : decode cX8_beginAnew 15 = .ok (.getfield 44, 3) := dTa tdX8_beginAnew_0 7 rfl
theorem dX8_beginAnew_18 : decode cX8_beginAnew 18 = .ok (.invokevirtual 279, 3) := dTa tdX8_beginAnew_0 8 rfl
theorem dX8_beginAnew_21 : decode cX8_beginAnew 21 = .ok (.return_, 1) := dTa tdX8_beginAnew_0 9 rfl
set_option maxRecDepth 100000 in
theorem tdX8_count_0 : dTb cX8_count [(0, .aload_n 0, 1), (1, .getfield 29, 3), (4, .getfield 81, 3), (7, .astore_n 2, 1), (8, .iload_n 1, 1), (9, .tableswitch 153 0 12 #[67, 72, 77, 82, 87, 95, 100, 105, 110, 115, 126, 137, 145], 67), (76, .aload_n 2, 1), (77, .getfield 247, 3), (80, .ireturn, 1), (81, .aload_n 2, 1), (82, .getfield 315, 3), (85, .ireturn, 1), (86, .aload_n 2, 1), (87, .getfield 104, 3), (90, .ireturn, 1), (91, .aload_n 0, 1), (92, .getfield 22, 3), (95, .ireturn, 1), (96, .aload_n 0, 1), (97, .getfield 29, 3), (100, .getfield 112, 3), (103, .ireturn, 1), (104, .aload_n 2, 1), (105, .getfield 154, 3), (108, .ireturn, 1), (109, .aload_n 2, 1), (110, .getfield 200, 3), (113, .ireturn, 1), (114, .aload_n 2, 1), (115, .getfield 179, 3), (118, .ireturn, 1), (119, .aload_n 2, 1), (120, .invokevirtual 224, 3), (123, .ireturn, 1), (124, .aload_n 0, 1), (125, .getfield 29, 3), (128, .getfield 97, 3), (131, .getfield 244, 3), (134, .ireturn, 1), (135, .aload_n 0, 1)] = true := by decide +kernel
theorem dX8_count_0 : decode cX8_count 0 = .ok (.aload_n 0, 1) := dTa tdX8_count_0 0 rfl
theorem dX8_count_1 : decode cX8_count 1 = .ok (.getfield 29, 3) := dTa tdX8_count_0 1 rfl
theorem dX8_count_4 : decode cX8_count 4 = .ok (.getfield 81, 3) := dTa tdX8_count_0 2 rfl
theorem dX8_count_7 : decode cX8_count 7 = .ok (.astore_n 2, 1) := dTa tdX8_count_0 3 rfl
theorem dX8_count_8 : decode cX8_count 8 = .ok (.iload_n 1, 1) := dTa tdX8_count_0 4 rfl
theorem dX8_count_9 : decode cX8_count 9 = .ok (.tableswitch 153 0 12 #[67, 72, 77, 82, 87, 95, 100, 105, 110, 115, 126, 137, 145], 67) := dTa tdX8_count_0 5 rfl
theorem dX8_count_76 : decode cX8_count 76 = .ok (.aload_n 2, 1) := dTa tdX8_count_0 6 rfl
theorem dX8_count_77 : decode cX8_count 77 = .ok (.getfield 247, 3) := dTa tdX8_count_0 7 rfl
theorem dX8_count_80 : decode cX8_count 80 = .ok (.ireturn, 1) := dTa tdX8_count_0 8 rfl
theorem dX8_count_81 : decode cX8_count 81 = .ok (.aload_n 2, 1) := dTa tdX8_count_0 9 rfl
theorem dX8_count_82 : decode cX8_count 82 = .ok (.getfield 315, 3) := dTa tdX8_count_0 10 rfl
theorem dX8_count_85 : decode cX8_count 85 = .ok (.ireturn, 1) := dTa tdX8_count_0 11 rfl
theorem dX8_count_86 : decode cX8_count 86 = .ok (.aload_n 2, 1) := dTa tdX8_count_0 12 rfl
theorem dX8_count_87 : decode cX8_count 87 = .ok (.getfield 104, 3) := dTa tdX8_count_0 13 rfl
theorem dX8_count_90 : decode cX8_count 90 = .ok (.ireturn, 1) := dTa tdX8_count_0 14 rfl
theorem dX8_count_91 : decode cX8_count 91 = .ok (.aload_n 0, 1) := dTa tdX8_count_0 15 rfl
theorem dX8_count_92 : decode cX8_count 92 = .ok (.getfield 22, 3) := dTa tdX8_count_0 16 rfl
theorem dX8_count_95 : decode cX8_count 95 = .ok (.ireturn, 1) := dTa tdX8_count_0 17 rfl
theorem dX8_count_96 : decode cX8_count 96 = .ok (.aload_n 0, 1) := dTa tdX8_count_0 18 rfl
theorem dX8_count_97 : decode cX8_count 97 = .ok (.getfield 29, 3) := dTa tdX8_count_0 19 rfl
theorem dX8_count_100 : decode cX8_count 100 = .ok (.getfield 112, 3) := dTa tdX8_count_0 20 rfl
theorem dX8_count_103 : decode cX8_count 103 = .ok (.ireturn, 1) := dTa tdX8_count_0 21 rfl
theorem dX8_count_104 : decode cX8_count 104 = .ok (.aload_n 2, 1) := dTa tdX8_count_0 22 rfl
theorem dX8_count_105 : decode cX8_count 105 = .ok (.getfield 154, 3) := dTa tdX8_count_0 23 rfl
theorem dX8_count_108 : decode cX8_count 108 = .ok (.ireturn, 1) := dTa tdX8_count_0 24 rfl
theorem dX8_count_109 : decode cX8_count 109 = .ok (.aload_n 2, 1) := dTa tdX8_count_0 25 rfl
theorem dX8_count_110 : decode cX8_count 110 = .ok (.getfield 200, 3) := dTa tdX8_count_0 26 rfl
theorem dX8_count_113 : decode cX8_count 113 = .ok (.ireturn, 1) := dTa tdX8_count_0 27 rfl
theorem dX8_count_114 : decode cX8_count 114 = .ok (.aload_n 2, 1) := dTa tdX8_count_0 28 rfl
theorem dX8_count_115 : decode cX8_count 115 = .ok (.getfield 179, 3) := dTa tdX8_count_0 29 rfl
theorem dX8_count_118 : decode cX8_count 118 = .ok (.ireturn, 1) := dTa tdX8_count_0 30 rfl
theorem dX8_count_119 : decode cX8_count 119 = .ok (.aload_n 2, 1) := dTa tdX8_count_0 31 rfl
theorem dX8_count_120 : decode cX8_count 120 = .ok (.invokevirtual 224, 3) := dTa tdX8_count_0 32 rfl
theorem dX8_count_123 : decode cX8_count 123 = .ok (.ireturn, 1) := dTa tdX8_count_0 33 rfl
theorem dX8_count_124 : decode cX8_count 124 = .ok (.aload_n 0, 1) := dTa tdX8_count_0 34 rfl
theorem dX8_count_125 : decode cX8_count 125 = .ok (.getfield 29, 3) := dTa tdX8_count_0 35 rfl
theorem dX8_count_128 : decode cX8_count 128 = .ok (.getfield 97, 3) := dTa tdX8_count_0 36 rfl
theorem dX8_count_131 : decode cX8_count 131 = .ok (.getfield 244, 3) := dTa tdX8_count_0 37 rfl
theorem dX8_count_134 : decode cX8_count 134 = .ok (.ireturn, 1) := dTa tdX8_count_0 38 rfl
theorem dX8_count_135 : decode cX8_count 135 = .ok (.aload_n 0, 1) := dTa tdX8_count_0 39 rfl
set_option maxRecDepth 100000 in
theorem tdX8_count_136 : dTb cX8_count [(136, .getfield 29, 3), (139, .getfield 88, 3), (142, .getfield 187, 3), (145, .ireturn, 1), (146, .aload_n 0, 1), (147, .getfield 29, 3), (150, .getfield 292, 3), (153, .ireturn, 1), (154, .aload_n 0, 1), (155, .getfield 10, 3), (158, .getfield 65, 3), (161, .ireturn, 1), (162, .iconst (-1), 1), (163, .ireturn, 1)] = true := by decide +kernel
theorem dX8_count_136 : decode cX8_count 136 = .ok (.getfield 29, 3) := dTa tdX8_count_136 0 rfl
theorem dX8_count_139 : decode cX8_count 139 = .ok (.getfield 88, 3) := dTa tdX8_count_136 1 rfl
theorem dX8_count_142 : decode cX8_count 142 = .ok (.getfield 187, 3) := dTa tdX8_count_136 2 rfl
theorem dX8_count_145 : decode cX8_count 145 = .ok (.ireturn, 1) := dTa tdX8_count_136 3 rfl
theorem dX8_count_146 : decode cX8_count 146 = .ok (.aload_n 0, 1) := dTa tdX8_count_136 4 rfl
theorem dX8_count_147 : decode cX8_count 147 = .ok (.getfield 29, 3) := dTa tdX8_count_136 5 rfl
theorem dX8_count_150 : decode cX8_count 150 = .ok (.getfield 292, 3) := dTa tdX8_count_136 6 rfl
theorem dX8_count_153 : decode cX8_count 153 = .ok (.ireturn, 1) := dTa tdX8_count_136 7 rfl
theorem dX8_count_154 : decode cX8_count 154 = .ok (.aload_n 0, 1) := dTa tdX8_count_136 8 rfl
theorem dX8_count_155 : decode cX8_count 155 = .ok (.getfield 10, 3) := dTa tdX8_count_136 9 rfl
theorem dX8_count_158 : decode cX8_count 158 = .ok (.getfield 65, 3) := dTa tdX8_count_136 10 rfl
theorem dX8_count_161 : decode cX8_count 161 = .ok (.ireturn, 1) := dTa tdX8_count_136 11 rfl
theorem dX8_count_162 : decode cX8_count 162 = .ok (.iconst (-1), 1) := dTa tdX8_count_136 12 rfl
theorem dX8_count_163 : decode cX8_count 163 = .ok (.ireturn, 1) := dTa tdX8_count_136 13 rfl
set_option maxRecDepth 100000 in
theorem tdX8_look_0 : dTb cX8_look [(0, .aload_n 0, 1), (1, .getfield 29, 3), (4, .getfield 81, 3), (7, .astore_n 3, 1), (8, .aload_n 3, 1), (9, .getfield 150, 3), (12, .ifCond .eq 22, 3), (15, .iload_n 1, 1), (16, .ifCond .lt 18, 3), (19, .iload_n 1, 1), (20, .bipush 60, 2), (22, .if_icmp .gt 12, 3), (25, .iload_n 2, 1), (26, .ifCond .lt 8, 3), (29, .iload_n 2, 1), (30, .iconst 1, 1), (31, .if_icmp .le 5, 3), (34, .iconst (-1), 1), (35, .ireturn, 1), (36, .aload_n 0, 1), (37, .iload_n 1, 1), (38, .invokevirtual 258, 3), (41, .ifCond .ne 6, 3), (44, .bipush (-2), 2), (46, .ireturn, 1), (47, .iconst (-1), 1), (48, .istore 4, 2), (50, .iconst 0, 1), (51, .istore 5, 2), (53, .iconst 0, 1), (54, .istore 6, 2), (56, .iload 6, 2), (58, .aload_n 3, 1), (59, .getfield 104, 3), (62, .if_icmp .ge 38, 3), (65, .aload_n 0, 1), (66, .iload 6, 2), (68, .invokevirtual 261, 3), (71, .istore 7, 2), (73, .iload 4, 2)] = true := by decide +kernel
theorem dX8_look_0 : decode cX8_look 0 = .ok (.aload_n 0, 1) := dTa tdX8_look_0 0 rfl
theorem dX8_look_1 : decode cX8_look 1 = .ok (.getfield 29, 3) := dTa tdX8_look_0 1 rfl
theorem dX8_look_4 : decode cX8_look 4 = .ok (.getfield 81, 3) := dTa tdX8_look_0 2 rfl
theorem dX8_look_7 : decode cX8_look 7 = .ok (.astore_n 3, 1) := dTa tdX8_look_0 3 rfl
theorem dX8_look_8 : decode cX8_look 8 = .ok (.aload_n 3, 1) := dTa tdX8_look_0 4 rfl
theorem dX8_look_9 : decode cX8_look 9 = .ok (.getfield 150, 3) := dTa tdX8_look_0 5 rfl
theorem dX8_look_12 : decode cX8_look 12 = .ok (.ifCond .eq 22, 3) := dTa tdX8_look_0 6 rfl
theorem dX8_look_15 : decode cX8_look 15 = .ok (.iload_n 1, 1) := dTa tdX8_look_0 7 rfl
theorem dX8_look_16 : decode cX8_look 16 = .ok (.ifCond .lt 18, 3) := dTa tdX8_look_0 8 rfl
theorem dX8_look_19 : decode cX8_look 19 = .ok (.iload_n 1, 1) := dTa tdX8_look_0 9 rfl
theorem dX8_look_20 : decode cX8_look 20 = .ok (.bipush 60, 2) := dTa tdX8_look_0 10 rfl
theorem dX8_look_22 : decode cX8_look 22 = .ok (.if_icmp .gt 12, 3) := dTa tdX8_look_0 11 rfl
theorem dX8_look_25 : decode cX8_look 25 = .ok (.iload_n 2, 1) := dTa tdX8_look_0 12 rfl
theorem dX8_look_26 : decode cX8_look 26 = .ok (.ifCond .lt 8, 3) := dTa tdX8_look_0 13 rfl
theorem dX8_look_29 : decode cX8_look 29 = .ok (.iload_n 2, 1) := dTa tdX8_look_0 14 rfl
theorem dX8_look_30 : decode cX8_look 30 = .ok (.iconst 1, 1) := dTa tdX8_look_0 15 rfl
theorem dX8_look_31 : decode cX8_look 31 = .ok (.if_icmp .le 5, 3) := dTa tdX8_look_0 16 rfl
theorem dX8_look_34 : decode cX8_look 34 = .ok (.iconst (-1), 1) := dTa tdX8_look_0 17 rfl
theorem dX8_look_35 : decode cX8_look 35 = .ok (.ireturn, 1) := dTa tdX8_look_0 18 rfl
theorem dX8_look_36 : decode cX8_look 36 = .ok (.aload_n 0, 1) := dTa tdX8_look_0 19 rfl
theorem dX8_look_37 : decode cX8_look 37 = .ok (.iload_n 1, 1) := dTa tdX8_look_0 20 rfl
theorem dX8_look_38 : decode cX8_look 38 = .ok (.invokevirtual 258, 3) := dTa tdX8_look_0 21 rfl
theorem dX8_look_41 : decode cX8_look 41 = .ok (.ifCond .ne 6, 3) := dTa tdX8_look_0 22 rfl
theorem dX8_look_44 : decode cX8_look 44 = .ok (.bipush (-2), 2) := dTa tdX8_look_0 23 rfl
theorem dX8_look_46 : decode cX8_look 46 = .ok (.ireturn, 1) := dTa tdX8_look_0 24 rfl
theorem dX8_look_47 : decode cX8_look 47 = .ok (.iconst (-1), 1) := dTa tdX8_look_0 25 rfl
theorem dX8_look_48 : decode cX8_look 48 = .ok (.istore 4, 2) := dTa tdX8_look_0 26 rfl
theorem dX8_look_50 : decode cX8_look 50 = .ok (.iconst 0, 1) := dTa tdX8_look_0 27 rfl
theorem dX8_look_51 : decode cX8_look 51 = .ok (.istore 5, 2) := dTa tdX8_look_0 28 rfl
theorem dX8_look_53 : decode cX8_look 53 = .ok (.iconst 0, 1) := dTa tdX8_look_0 29 rfl
theorem dX8_look_54 : decode cX8_look 54 = .ok (.istore 6, 2) := dTa tdX8_look_0 30 rfl
theorem dX8_look_56 : decode cX8_look 56 = .ok (.iload 6, 2) := dTa tdX8_look_0 31 rfl
theorem dX8_look_58 : decode cX8_look 58 = .ok (.aload_n 3, 1) := dTa tdX8_look_0 32 rfl
theorem dX8_look_59 : decode cX8_look 59 = .ok (.getfield 104, 3) := dTa tdX8_look_0 33 rfl
theorem dX8_look_62 : decode cX8_look 62 = .ok (.if_icmp .ge 38, 3) := dTa tdX8_look_0 34 rfl
theorem dX8_look_65 : decode cX8_look 65 = .ok (.aload_n 0, 1) := dTa tdX8_look_0 35 rfl
theorem dX8_look_66 : decode cX8_look 66 = .ok (.iload 6, 2) := dTa tdX8_look_0 36 rfl
theorem dX8_look_68 : decode cX8_look 68 = .ok (.invokevirtual 261, 3) := dTa tdX8_look_0 37 rfl
theorem dX8_look_71 : decode cX8_look 71 = .ok (.istore 7, 2) := dTa tdX8_look_0 38 rfl
theorem dX8_look_73 : decode cX8_look 73 = .ok (.iload 4, 2) := dTa tdX8_look_0 39 rfl
set_option maxRecDepth 100000 in
theorem tdX8_look_75 : dTb cX8_look [(75, .iconst (-1), 1), (76, .if_icmp .eq 10, 3), (79, .iload 7, 2), (81, .iload 5, 2), (83, .if_icmp .ge 11, 3), (86, .iload 6, 2), (88, .istore 4, 2), (90, .iload 7, 2), (92, .istore 5, 2), (94, .iinc 6 1, 3), (97, .goto (-41), 3), (100, .iload 4, 2), (102, .iconst (-1), 1), (103, .if_icmp .ne 6, 3), (106, .bipush (-2), 2), (108, .ireturn, 1), (109, .iload_n 2, 1), (110, .ifCond .ne 8, 3), (113, .iload 4, 2), (115, .goto 5, 3), (118, .iload 5, 2), (120, .ireturn, 1)] = true := by decide +kernel
theorem dX8_look_75 : decode cX8_look 75 = .ok (.iconst (-1), 1) := dTa tdX8_look_75 0 rfl
theorem dX8_look_76 : decode cX8_look 76 = .ok (.if_icmp .eq 10, 3) := dTa tdX8_look_75 1 rfl
theorem dX8_look_79 : decode cX8_look 79 = .ok (.iload 7, 2) := dTa tdX8_look_75 2 rfl
theorem dX8_look_81 : decode cX8_look 81 = .ok (.iload 5, 2) := dTa tdX8_look_75 3 rfl
theorem dX8_look_83 : decode cX8_look 83 = .ok (.if_icmp .ge 11, 3) := dTa tdX8_look_75 4 rfl
theorem dX8_look_86 : decode cX8_look 86 = .ok (.iload 6, 2) := dTa tdX8_look_75 5 rfl
theorem dX8_look_88 : decode cX8_look 88 = .ok (.istore 4, 2) := dTa tdX8_look_75 6 rfl
theorem dX8_look_90 : decode cX8_look 90 = .ok (.iload 7, 2) := dTa tdX8_look_75 7 rfl
theorem dX8_look_92 : decode cX8_look 92 = .ok (.istore 5, 2) := dTa tdX8_look_75 8 rfl
theorem dX8_look_94 : decode cX8_look 94 = .ok (.iinc 6 1, 3) := dTa tdX8_look_75 9 rfl
theorem dX8_look_97 : decode cX8_look 97 = .ok (.goto (-41), 3) := dTa tdX8_look_75 10 rfl
theorem dX8_look_100 : decode cX8_look 100 = .ok (.iload 4, 2) := dTa tdX8_look_75 11 rfl
theorem dX8_look_102 : decode cX8_look 102 = .ok (.iconst (-1), 1) := dTa tdX8_look_75 12 rfl
theorem dX8_look_103 : decode cX8_look 103 = .ok (.if_icmp .ne 6, 3) := dTa tdX8_look_75 13 rfl
theorem dX8_look_106 : decode cX8_look 106 = .ok (.bipush (-2), 2) := dTa tdX8_look_75 14 rfl
theorem dX8_look_108 : decode cX8_look 108 = .ok (.ireturn, 1) := dTa tdX8_look_75 15 rfl
theorem dX8_look_109 : decode cX8_look 109 = .ok (.iload_n 2, 1) := dTa tdX8_look_75 16 rfl
theorem dX8_look_110 : decode cX8_look 110 = .ok (.ifCond .ne 8, 3) := dTa tdX8_look_75 17 rfl
theorem dX8_look_113 : decode cX8_look 113 = .ok (.iload 4, 2) := dTa tdX8_look_75 18 rfl
theorem dX8_look_115 : decode cX8_look 115 = .ok (.goto 5, 3) := dTa tdX8_look_75 19 rfl
theorem dX8_look_118 : decode cX8_look 118 = .ok (.iload 5, 2) := dTa tdX8_look_75 20 rfl
theorem dX8_look_120 : decode cX8_look 120 = .ok (.ireturn, 1) := dTa tdX8_look_75 21 rfl
set_option maxRecDepth 100000 in
theorem tdX8_mostAlike_0 : dTb cX8_mostAlike [(0, .iload_n 1, 1), (1, .iconst 3, 1), (2, .imul, 1), (3, .istore_n 2, 1), (4, .aload_n 0, 1), (5, .getfield 61, 3), (8, .iload_n 2, 1), (9, .iaload, 1), (10, .aload_n 0, 1), (11, .getfield 61, 3), (14, .iload_n 2, 1), (15, .iconst 1, 1), (16, .iadd, 1), (17, .iaload, 1), (18, .aload_n 0, 1), (19, .getfield 61, 3), (22, .iload_n 2, 1), (23, .iconst 2, 1), (24, .iadd, 1), (25, .iaload, 1), (26, .invokestatic 273, 3), (29, .invokestatic 273, 3), (32, .ireturn, 1)] = true := by decide +kernel
theorem dX8_mostAlike_0 : decode cX8_mostAlike 0 = .ok (.iload_n 1, 1) := dTa tdX8_mostAlike_0 0 rfl
theorem dX8_mostAlike_1 : decode cX8_mostAlike 1 = .ok (.iconst 3, 1) := dTa tdX8_mostAlike_0 1 rfl
theorem dX8_mostAlike_2 : decode cX8_mostAlike 2 = .ok (.imul, 1) := dTa tdX8_mostAlike_0 2 rfl
theorem dX8_mostAlike_3 : decode cX8_mostAlike 3 = .ok (.istore_n 2, 1) := dTa tdX8_mostAlike_0 3 rfl
theorem dX8_mostAlike_4 : decode cX8_mostAlike 4 = .ok (.aload_n 0, 1) := dTa tdX8_mostAlike_0 4 rfl
theorem dX8_mostAlike_5 : decode cX8_mostAlike 5 = .ok (.getfield 61, 3) := dTa tdX8_mostAlike_0 5 rfl
theorem dX8_mostAlike_8 : decode cX8_mostAlike 8 = .ok (.iload_n 2, 1) := dTa tdX8_mostAlike_0 6 rfl
theorem dX8_mostAlike_9 : decode cX8_mostAlike 9 = .ok (.iaload, 1) := dTa tdX8_mostAlike_0 7 rfl
theorem dX8_mostAlike_10 : decode cX8_mostAlike 10 = .ok (.aload_n 0, 1) := dTa tdX8_mostAlike_0 8 rfl
theorem dX8_mostAlike_11 : decode cX8_mostAlike 11 = .ok (.getfield 61, 3) := dTa tdX8_mostAlike_0 9 rfl
theorem dX8_mostAlike_14 : decode cX8_mostAlike 14 = .ok (.iload_n 2, 1) := dTa tdX8_mostAlike_0 10 rfl
theorem dX8_mostAlike_15 : decode cX8_mostAlike 15 = .ok (.iconst 1, 1) := dTa tdX8_mostAlike_0 11 rfl
theorem dX8_mostAlike_16 : decode cX8_mostAlike 16 = .ok (.iadd, 1) := dTa tdX8_mostAlike_0 12 rfl
theorem dX8_mostAlike_17 : decode cX8_mostAlike 17 = .ok (.iaload, 1) := dTa tdX8_mostAlike_0 13 rfl
theorem dX8_mostAlike_18 : decode cX8_mostAlike 18 = .ok (.aload_n 0, 1) := dTa tdX8_mostAlike_0 14 rfl
theorem dX8_mostAlike_19 : decode cX8_mostAlike 19 = .ok (.getfield 61, 3) := dTa tdX8_mostAlike_0 15 rfl
theorem dX8_mostAlike_22 : decode cX8_mostAlike 22 = .ok (.iload_n 2, 1) := dTa tdX8_mostAlike_0 16 rfl
theorem dX8_mostAlike_23 : decode cX8_mostAlike 23 = .ok (.iconst 2, 1) := dTa tdX8_mostAlike_0 17 rfl
theorem dX8_mostAlike_24 : decode cX8_mostAlike 24 = .ok (.iadd, 1) := dTa tdX8_mostAlike_0 18 rfl
theorem dX8_mostAlike_25 : decode cX8_mostAlike 25 = .ok (.iaload, 1) := dTa tdX8_mostAlike_0 19 rfl
theorem dX8_mostAlike_26 : decode cX8_mostAlike 26 = .ok (.invokestatic 273, 3) := dTa tdX8_mostAlike_0 20 rfl
theorem dX8_mostAlike_29 : decode cX8_mostAlike 29 = .ok (.invokestatic 273, 3) := dTa tdX8_mostAlike_0 21 rfl
theorem dX8_mostAlike_32 : decode cX8_mostAlike 32 = .ok (.ireturn, 1) := dTa tdX8_mostAlike_0 22 rfl
set_option maxRecDepth 100000 in
theorem tdX8_note_0 : dTb cX8_note [(0, .iload_n 1, 1), (1, .iconst (-1), 1), (2, .if_icmp .ne 15, 3), (5, .aload_n 0, 1), (6, .getfield 29, 3), (9, .getfield 97, 3), (12, .invokevirtual 101, 3), (15, .iconst 0, 1), (16, .ireturn, 1), (17, .iload_n 1, 1), (18, .ifCond .lt 32, 3), (21, .iload_n 1, 1), (22, .bipush 60, 2), (24, .if_icmp .gt 26, 3), (27, .aload_n 0, 1), (28, .getfield 29, 3), (31, .getfield 81, 3), (34, .iload_n 2, 1), (35, .invokevirtual 138, 3), (38, .ifCond .eq 12, 3), (41, .iload_n 3, 1), (42, .ifCond .lt 8, 3), (45, .iload_n 3, 1), (46, .iconst 3, 1), (47, .if_icmp .lt 6, 3), (50, .bipush (-2), 2), (52, .ireturn, 1), (53, .aload_n 0, 1), (54, .getfield 29, 3), (57, .getfield 97, 3), (60, .iload_n 1, 1), (61, .iload_n 2, 1), (62, .iload_n 3, 1), (63, .invokevirtual 240, 3), (66, .ifCond .eq 16, 3), (69, .aload_n 0, 1), (70, .getfield 29, 3), (73, .getfield 97, 3), (76, .getfield 244, 3), (79, .goto 5, 3)] = true := by decide +kernel
theorem dX8_note_0 : decode cX8_note 0 = .ok (.iload_n 1, 1) := dTa tdX8_note_0 0 rfl
theorem dX8_note_1 : decode cX8_note 1 = .ok (.iconst (-1), 1) := dTa tdX8_note_0 1 rfl
theorem dX8_note_2 : decode cX8_note 2 = .ok (.if_icmp .ne 15, 3) := dTa tdX8_note_0 2 rfl
theorem dX8_note_5 : decode cX8_note 5 = .ok (.aload_n 0, 1) := dTa tdX8_note_0 3 rfl
theorem dX8_note_6 : decode cX8_note 6 = .ok (.getfield 29, 3) := dTa tdX8_note_0 4 rfl
theorem dX8_note_9 : decode cX8_note 9 = .ok (.getfield 97, 3) := dTa tdX8_note_0 5 rfl
theorem dX8_note_12 : decode cX8_note 12 = .ok (.invokevirtual 101, 3) := dTa tdX8_note_0 6 rfl
theorem dX8_note_15 : decode cX8_note 15 = .ok (.iconst 0, 1) := dTa tdX8_note_0 7 rfl
theorem dX8_note_16 : decode cX8_note 16 = .ok (.ireturn, 1) := dTa tdX8_note_0 8 rfl
theorem dX8_note_17 : decode cX8_note 17 = .ok (.iload_n 1, 1) := dTa tdX8_note_0 9 rfl
theorem dX8_note_18 : decode cX8_note 18 = .ok (.ifCond .lt 32, 3) := dTa tdX8_note_0 10 rfl
theorem dX8_note_21 : decode cX8_note 21 = .ok (.iload_n 1, 1) := dTa tdX8_note_0 11 rfl
theorem dX8_note_22 : decode cX8_note 22 = .ok (.bipush 60, 2) := dTa tdX8_note_0 12 rfl
theorem dX8_note_24 : decode cX8_note 24 = .ok (.if_icmp .gt 26, 3) := dTa tdX8_note_0 13 rfl
theorem dX8_note_27 : decode cX8_note 27 = .ok (.aload_n 0, 1) := dTa tdX8_note_0 14 rfl
theorem dX8_note_28 : decode cX8_note 28 = .ok (.getfield 29, 3) := dTa tdX8_note_0 15 rfl
theorem dX8_note_31 : decode cX8_note 31 = .ok (.getfield 81, 3) := dTa tdX8_note_0 16 rfl
theorem dX8_note_34 : decode cX8_note 34 = .ok (.iload_n 2, 1) := dTa tdX8_note_0 17 rfl
theorem dX8_note_35 : decode cX8_note 35 = .ok (.invokevirtual 138, 3) := dTa tdX8_note_0 18 rfl
theorem dX8_note_38 : decode cX8_note 38 = .ok (.ifCond .eq 12, 3) := dTa tdX8_note_0 19 rfl
theorem dX8_note_41 : decode cX8_note 41 = .ok (.iload_n 3, 1) := dTa tdX8_note_0 20 rfl
theorem dX8_note_42 : decode cX8_note 42 = .ok (.ifCond .lt 8, 3) := dTa tdX8_note_0 21 rfl
theorem dX8_note_45 : decode cX8_note 45 = .ok (.iload_n 3, 1) := dTa tdX8_note_0 22 rfl
theorem dX8_note_46 : decode cX8_note 46 = .ok (.iconst 3, 1) := dTa tdX8_note_0 23 rfl
theorem dX8_note_47 : decode cX8_note 47 = .ok (.if_icmp .lt 6, 3) := dTa tdX8_note_0 24 rfl
theorem dX8_note_50 : decode cX8_note 50 = .ok (.bipush (-2), 2) := dTa tdX8_note_0 25 rfl
theorem dX8_note_52 : decode cX8_note 52 = .ok (.ireturn, 1) := dTa tdX8_note_0 26 rfl
theorem dX8_note_53 : decode cX8_note 53 = .ok (.aload_n 0, 1) := dTa tdX8_note_0 27 rfl
theorem dX8_note_54 : decode cX8_note 54 = .ok (.getfield 29, 3) := dTa tdX8_note_0 28 rfl
theorem dX8_note_57 : decode cX8_note 57 = .ok (.getfield 97, 3) := dTa tdX8_note_0 29 rfl
theorem dX8_note_60 : decode cX8_note 60 = .ok (.iload_n 1, 1) := dTa tdX8_note_0 30 rfl
theorem dX8_note_61 : decode cX8_note 61 = .ok (.iload_n 2, 1) := dTa tdX8_note_0 31 rfl
theorem dX8_note_62 : decode cX8_note 62 = .ok (.iload_n 3, 1) := dTa tdX8_note_0 32 rfl
theorem dX8_note_63 : decode cX8_note 63 = .ok (.invokevirtual 240, 3) := dTa tdX8_note_0 33 rfl
theorem dX8_note_66 : decode cX8_note 66 = .ok (.ifCond .eq 16, 3) := dTa tdX8_note_0 34 rfl
theorem dX8_note_69 : decode cX8_note 69 = .ok (.aload_n 0, 1) := dTa tdX8_note_0 35 rfl
theorem dX8_note_70 : decode cX8_note 70 = .ok (.getfield 29, 3) := dTa tdX8_note_0 36 rfl
theorem dX8_note_73 : decode cX8_note 73 = .ok (.getfield 97, 3) := dTa tdX8_note_0 37 rfl
theorem dX8_note_76 : decode cX8_note 76 = .ok (.getfield 244, 3) := dTa tdX8_note_0 38 rfl
theorem dX8_note_79 : decode cX8_note 79 = .ok (.goto 5, 3) := dTa tdX8_note_0 39 rfl
set_option maxRecDepth 100000 in
theorem tdX8_note_82 : dTb cX8_note [(82, .bipush (-2), 2), (84, .ireturn, 1)] = true := by decide +kernel
theorem dX8_note_82 : decode cX8_note 82 = .ok (.bipush (-2), 2) := dTa tdX8_note_82 0 rfl
theorem dX8_note_84 : decode cX8_note 84 = .ok (.ireturn, 1) := dTa tdX8_note_82 1 rfl
set_option maxRecDepth 100000 in
theorem tdX8_notesHold_0 : dTb cX8_notesHold [(0, .aload_n 0, 1), (1, .getfield 29, 3), (4, .getfield 97, 3), (7, .astore 4, 2), (9, .aload 4, 2), (11, .invokevirtual 282, 3), (14, .bipush 60, 2), (16, .invokestatic 285, 3), (19, .istore 5, 2), (21, .aload_n 0, 1), (22, .invokevirtual 270, 3), (25, .aload_n 0, 1), (26, .getfield 44, 3), (29, .iload_n 2, 1), (30, .invokevirtual 122, 3), (33, .ifCond .eq 24, 3), (36, .aload_n 0, 1), (37, .getfield 44, 3), (40, .iload_n 3, 1), (41, .invokevirtual 115, 3), (44, .ifCond .eq 13, 3), (47, .aload_n 0, 1), (48, .getfield 44, 3), (51, .getfield 128, 3), (54, .iload_n 2, 1), (55, .iload_n 3, 1), (56, .iastore, 1), (57, .iconst 0, 1), (58, .istore 6, 2), (60, .iload 6, 2), (62, .iload 5, 2), (64, .if_icmp .gt 34, 3), (67, .aload 4, 2), (69, .iload 6, 2), (71, .aload_n 0, 1), (72, .getfield 44, 3), (75, .invokevirtual 288, 3), (78, .ifCond .ne 5, 3), (81, .iconst 0, 1), (82, .ireturn, 1)] = true := by decide +kernel
theorem dX8_notesHold_0 : decode cX8_notesHold 0 = .ok (.aload_n 0, 1) := dTa tdX8_notesHold_0 0 rfl
theorem dX8_notesHold_1 : decode cX8_notesHold 1 = .ok (.getfield 29, 3) := dTa tdX8_notesHold_0 1 rfl
theorem dX8_notesHold_4 : decode cX8_notesHold 4 = .ok (.getfield 97, 3) := dTa tdX8_notesHold_0 2 rfl
theorem dX8_notesHold_7 : decode cX8_notesHold 7 = .ok (.astore 4, 2) := dTa tdX8_notesHold_0 3 rfl
theorem dX8_notesHold_9 : decode cX8_notesHold 9 = .ok (.aload 4, 2) := dTa tdX8_notesHold_0 4 rfl
theorem dX8_notesHold_11 : decode cX8_notesHold 11 = .ok (.invokevirtual 282, 3) := dTa tdX8_notesHold_0 5 rfl
theorem dX8_notesHold_14 : decode cX8_notesHold 14 = .ok (.bipush 60, 2) := dTa tdX8_notesHold_0 6 rfl
theorem dX8_notesHold_16 : decode cX8_notesHold 16 = .ok (.invokestatic 285, 3) := dTa tdX8_notesHold_0 7 rfl
theorem dX8_notesHold_19 : decode cX8_notesHold 19 = .ok (.istore 5, 2) := dTa tdX8_notesHold_0 8 rfl
theorem dX8_notesHold_21 : decode cX8_notesHold 21 = .ok (.aload_n 0, 1) := dTa tdX8_notesHold_0 9 rfl
theorem dX8_notesHold_22 : decode cX8_notesHold 22 = .ok (.invokevirtual 270, 3) := dTa tdX8_notesHold_0 10 rfl
theorem dX8_notesHold_25 : decode cX8_notesHold 25 = .ok (.aload_n 0, 1) := dTa tdX8_notesHold_0 11 rfl
theorem dX8_notesHold_26 : decode cX8_notesHold 26 = .ok (.getfield 44, 3) := dTa tdX8_notesHold_0 12 rfl
theorem dX8_notesHold_29 : decode cX8_notesHold 29 = .ok (.iload_n 2, 1) := dTa tdX8_notesHold_0 13 rfl
theorem dX8_notesHold_30 : decode cX8_notesHold 30 = .ok (.invokevirtual 122, 3) := dTa tdX8_notesHold_0 14 rfl
theorem dX8_notesHold_33 : decode cX8_notesHold 33 = .ok (.ifCond .eq 24, 3) := dTa tdX8_notesHold_0 15 rfl
theorem dX8_notesHold_36 : decode cX8_notesHold 36 = .ok (.aload_n 0, 1) := dTa tdX8_notesHold_0 16 rfl
theorem dX8_notesHold_37 : decode cX8_notesHold 37 = .ok (.getfield 44, 3) := dTa tdX8_notesHold_0 17 rfl
theorem dX8_notesHold_40 : decode cX8_notesHold 40 = .ok (.iload_n 3, 1) := dTa tdX8_notesHold_0 18 rfl
theorem dX8_notesHold_41 : decode cX8_notesHold 41 = .ok (.invokevirtual 115, 3) := dTa tdX8_notesHold_0 19 rfl
theorem dX8_notesHold_44 : decode cX8_notesHold 44 = .ok (.ifCond .eq 13, 3) := dTa tdX8_notesHold_0 20 rfl
theorem dX8_notesHold_47 : decode cX8_notesHold 47 = .ok (.aload_n 0, 1) := dTa tdX8_notesHold_0 21 rfl
theorem dX8_notesHold_48 : decode cX8_notesHold 48 = .ok (.getfield 44, 3) := dTa tdX8_notesHold_0 22 rfl
theorem dX8_notesHold_51 : decode cX8_notesHold 51 = .ok (.getfield 128, 3) := dTa tdX8_notesHold_0 23 rfl
theorem dX8_notesHold_54 : decode cX8_notesHold 54 = .ok (.iload_n 2, 1) := dTa tdX8_notesHold_0 24 rfl
theorem dX8_notesHold_55 : decode cX8_notesHold 55 = .ok (.iload_n 3, 1) := dTa tdX8_notesHold_0 25 rfl
theorem dX8_notesHold_56 : decode cX8_notesHold 56 = .ok (.iastore, 1) := dTa tdX8_notesHold_0 26 rfl
theorem dX8_notesHold_57 : decode cX8_notesHold 57 = .ok (.iconst 0, 1) := dTa tdX8_notesHold_0 27 rfl
theorem dX8_notesHold_58 : decode cX8_notesHold 58 = .ok (.istore 6, 2) := dTa tdX8_notesHold_0 28 rfl
theorem dX8_notesHold_60 : decode cX8_notesHold 60 = .ok (.iload 6, 2) := dTa tdX8_notesHold_0 29 rfl
theorem dX8_notesHold_62 : decode cX8_notesHold 62 = .ok (.iload 5, 2) := dTa tdX8_notesHold_0 30 rfl
theorem dX8_notesHold_64 : decode cX8_notesHold 64 = .ok (.if_icmp .gt 34, 3) := dTa tdX8_notesHold_0 31 rfl
theorem dX8_notesHold_67 : decode cX8_notesHold 67 = .ok (.aload 4, 2) := dTa tdX8_notesHold_0 32 rfl
theorem dX8_notesHold_69 : decode cX8_notesHold 69 = .ok (.iload 6, 2) := dTa tdX8_notesHold_0 33 rfl
theorem dX8_notesHold_71 : decode cX8_notesHold 71 = .ok (.aload_n 0, 1) := dTa tdX8_notesHold_0 34 rfl
theorem dX8_notesHold_72 : decode cX8_notesHold 72 = .ok (.getfield 44, 3) := dTa tdX8_notesHold_0 35 rfl
theorem dX8_notesHold_75 : decode cX8_notesHold 75 = .ok (.invokevirtual 288, 3) := dTa tdX8_notesHold_0 36 rfl
theorem dX8_notesHold_78 : decode cX8_notesHold 78 = .ok (.ifCond .ne 5, 3) := dTa tdX8_notesHold_0 37 rfl
theorem dX8_notesHold_81 : decode cX8_notesHold 81 = .ok (.iconst 0, 1) := dTa tdX8_notesHold_0 38 rfl
theorem dX8_notesHold_82 : decode cX8_notesHold 82 = .ok (.ireturn, 1) := dTa tdX8_notesHold_0 39 rfl
set_option maxRecDepth 100000 in
theorem tdX8_notesHold_83 : dTb cX8_notesHold [(83, .aload_n 0, 1), (84, .getfield 44, 3), (87, .aload_n 1, 1), (88, .invokevirtual 164, 3), (91, .pop, 1), (92, .iinc 6 1, 3), (95, .goto (-35), 3), (98, .iconst 1, 1), (99, .ireturn, 1)] = true := by decide +kernel
theorem dX8_notesHold_83 : decode cX8_notesHold 83 = .ok (.aload_n 0, 1) := dTa tdX8_notesHold_83 0 rfl
theorem dX8_notesHold_84 : decode cX8_notesHold 84 = .ok (.getfield 44, 3) := dTa tdX8_notesHold_83 1 rfl
theorem dX8_notesHold_87 : decode cX8_notesHold 87 = .ok (.aload_n 1, 1) := dTa tdX8_notesHold_83 2 rfl
theorem dX8_notesHold_88 : decode cX8_notesHold 88 = .ok (.invokevirtual 164, 3) := dTa tdX8_notesHold_83 3 rfl
theorem dX8_notesHold_91 : decode cX8_notesHold 91 = .ok (.pop, 1) := dTa tdX8_notesHold_83 4 rfl
theorem dX8_notesHold_92 : decode cX8_notesHold 92 = .ok (.iinc 6 1, 3) := dTa tdX8_notesHold_83 5 rfl
theorem dX8_notesHold_95 : decode cX8_notesHold 95 = .ok (.goto (-35), 3) := dTa tdX8_notesHold_83 6 rfl
theorem dX8_notesHold_98 : decode cX8_notesHold 98 = .ok (.iconst 1, 1) := dTa tdX8_notesHold_83 7 rfl
theorem dX8_notesHold_99 : decode cX8_notesHold 99 = .ok (.ireturn, 1) := dTa tdX8_notesHold_83 8 rfl
set_option maxRecDepth 100000 in
theorem tdX8_playToasts_0 : dTb cX8_playToasts [(0, .aload_n 0, 1), (1, .invokevirtual 160, 3), (4, .astore 4, 2), (6, .iload_n 3, 1), (7, .istore 5, 2), (9, .aload_n 0, 1), (10, .getfield 44, 3), (13, .aload_n 0, 1), (14, .getfield 29, 3), (17, .getfield 81, 3), (20, .invokevirtual 84, 3), (23, .iconst 0, 1), (24, .istore 6, 2), (26, .iload 6, 2), (28, .iload_n 1, 1), (29, .if_icmp .ge 75, 3), (32, .iload 5, 2), (34, .invokestatic 299, 3), (37, .istore 5, 2), (39, .iload 5, 2), (41, .invokestatic 302, 3), (44, .bipush 100, 2), (46, .irem, 1), (47, .iload_n 2, 1), (48, .if_icmp .ge 40, 3), (51, .aload_n 0, 1), (52, .getfield 44, 3), (55, .getfield 104, 3), (58, .ifCond .le 30, 3), (61, .iload 5, 2), (63, .invokestatic 299, 3), (66, .istore 5, 2), (68, .aload_n 0, 1), (69, .getfield 44, 3), (72, .iload 5, 2), (74, .invokestatic 302, 3), (77, .aload_n 0, 1), (78, .getfield 44, 3), (81, .getfield 104, 3), (84, .irem, 1)] = true := by decide +kernel
theorem dX8_playToasts_0 : decode cX8_playToasts 0 = .ok (.aload_n 0, 1) := dTa tdX8_playToasts_0 0 rfl
theorem dX8_playToasts_1 : decode cX8_playToasts 1 = .ok (.invokevirtual 160, 3) := dTa tdX8_playToasts_0 1 rfl
theorem dX8_playToasts_4 : decode cX8_playToasts 4 = .ok (.astore 4, 2) := dTa tdX8_playToasts_0 2 rfl
theorem dX8_playToasts_6 : decode cX8_playToasts 6 = .ok (.iload_n 3, 1) := dTa tdX8_playToasts_0 3 rfl
theorem dX8_playToasts_7 : decode cX8_playToasts 7 = .ok (.istore 5, 2) := dTa tdX8_playToasts_0 4 rfl
theorem dX8_playToasts_9 : decode cX8_playToasts 9 = .ok (.aload_n 0, 1) := dTa tdX8_playToasts_0 5 rfl
theorem dX8_playToasts_10 : decode cX8_playToasts 10 = .ok (.getfield 44, 3) := dTa tdX8_playToasts_0 6 rfl
theorem dX8_playToasts_13 : decode cX8_playToasts 13 = .ok (.aload_n 0, 1) := dTa tdX8_playToasts_0 7 rfl
theorem dX8_playToasts_14 : decode cX8_playToasts 14 = .ok (.getfield 29, 3) := dTa tdX8_playToasts_0 8 rfl
theorem dX8_playToasts_17 : decode cX8_playToasts 17 = .ok (.getfield 81, 3) := dTa tdX8_playToasts_0 9 rfl
theorem dX8_playToasts_20 : decode cX8_playToasts 20 = .ok (.invokevirtual 84, 3) := dTa tdX8_playToasts_0 10 rfl
theorem dX8_playToasts_23 : decode cX8_playToasts 23 = .ok (.iconst 0, 1) := dTa tdX8_playToasts_0 11 rfl
theorem dX8_playToasts_24 : decode cX8_playToasts 24 = .ok (.istore 6, 2) := dTa tdX8_playToasts_0 12 rfl
theorem dX8_playToasts_26 : decode cX8_playToasts 26 = .ok (.iload 6, 2) := dTa tdX8_playToasts_0 13 rfl
theorem dX8_playToasts_28 : decode cX8_playToasts 28 = .ok (.iload_n 1, 1) := dTa tdX8_playToasts_0 14 rfl
theorem dX8_playToasts_29 : decode cX8_playToasts 29 = .ok (.if_icmp .ge 75, 3) := dTa tdX8_playToasts_0 15 rfl
theorem dX8_playToasts_32 : decode cX8_playToasts 32 = .ok (.iload 5, 2) := dTa tdX8_playToasts_0 16 rfl
theorem dX8_playToasts_34 : decode cX8_playToasts 34 = .ok (.invokestatic 299, 3) := dTa tdX8_playToasts_0 17 rfl
theorem dX8_playToasts_37 : decode cX8_playToasts 37 = .ok (.istore 5, 2) := dTa tdX8_playToasts_0 18 rfl
theorem dX8_playToasts_39 : decode cX8_playToasts 39 = .ok (.iload 5, 2) := dTa tdX8_playToasts_0 19 rfl
theorem dX8_playToasts_41 : decode cX8_playToasts 41 = .ok (.invokestatic 302, 3) := dTa tdX8_playToasts_0 20 rfl
theorem dX8_playToasts_44 : decode cX8_playToasts 44 = .ok (.bipush 100, 2) := dTa tdX8_playToasts_0 21 rfl
theorem dX8_playToasts_46 : decode cX8_playToasts 46 = .ok (.irem, 1) := dTa tdX8_playToasts_0 22 rfl
theorem dX8_playToasts_47 : decode cX8_playToasts 47 = .ok (.iload_n 2, 1) := dTa tdX8_playToasts_0 23 rfl
theorem dX8_playToasts_48 : decode cX8_playToasts 48 = .ok (.if_icmp .ge 40, 3) := dTa tdX8_playToasts_0 24 rfl
theorem dX8_playToasts_51 : decode cX8_playToasts 51 = .ok (.aload_n 0, 1) := dTa tdX8_playToasts_0 25 rfl
theorem dX8_playToasts_52 : decode cX8_playToasts 52 = .ok (.getfield 44, 3) := dTa tdX8_playToasts_0 26 rfl
theorem dX8_playToasts_55 : decode cX8_playToasts 55 = .ok (.getfield 104, 3) := dTa tdX8_playToasts_0 27 rfl
theorem dX8_playToasts_58 : decode cX8_playToasts 58 = .ok (.ifCond .le 30, 3) := dTa tdX8_playToasts_0 28 rfl
theorem dX8_playToasts_61 : decode cX8_playToasts 61 = .ok (.iload 5, 2) := dTa tdX8_playToasts_0 29 rfl
theorem dX8_playToasts_63 : decode cX8_playToasts 63 = .ok (.invokestatic 299, 3) := dTa tdX8_playToasts_0 30 rfl
theorem dX8_playToasts_66 : decode cX8_playToasts 66 = .ok (.istore 5, 2) := dTa tdX8_playToasts_0 31 rfl
theorem dX8_playToasts_68 : decode cX8_playToasts 68 = .ok (.aload_n 0, 1) := dTa tdX8_playToasts_0 32 rfl
theorem dX8_playToasts_69 : decode cX8_playToasts 69 = .ok (.getfield 44, 3) := dTa tdX8_playToasts_0 33 rfl
theorem dX8_playToasts_72 : decode cX8_playToasts 72 = .ok (.iload 5, 2) := dTa tdX8_playToasts_0 34 rfl
theorem dX8_playToasts_74 : decode cX8_playToasts 74 = .ok (.invokestatic 302, 3) := dTa tdX8_playToasts_0 35 rfl
theorem dX8_playToasts_77 : decode cX8_playToasts 77 = .ok (.aload_n 0, 1) := dTa tdX8_playToasts_0 36 rfl
theorem dX8_playToasts_78 : decode cX8_playToasts 78 = .ok (.getfield 44, 3) := dTa tdX8_playToasts_0 37 rfl
theorem dX8_playToasts_81 : decode cX8_playToasts 81 = .ok (.getfield 104, 3) := dTa tdX8_playToasts_0 38 rfl
theorem dX8_playToasts_84 : decode cX8_playToasts 84 = .ok (.irem, 1) := dTa tdX8_playToasts_0 39 rfl
set_option maxRecDepth 100000 in
theorem tdX8_playToasts_85 : dTb cX8_playToasts [(85, .invokevirtual 305, 3), (88, .aload_n 0, 1), (89, .getfield 44, 3), (92, .aload 4, 2), (94, .invokevirtual 164, 3), (97, .pop, 1), (98, .iinc 6 1, 3), (101, .goto (-75), 3), (104, .iload 5, 2), (106, .ireturn, 1)] = true := by decide +kernel
theorem dX8_playToasts_85 : decode cX8_playToasts 85 = .ok (.invokevirtual 305, 3) := dTa tdX8_playToasts_85 0 rfl
theorem dX8_playToasts_88 : decode cX8_playToasts 88 = .ok (.aload_n 0, 1) := dTa tdX8_playToasts_85 1 rfl
theorem dX8_playToasts_89 : decode cX8_playToasts 89 = .ok (.getfield 44, 3) := dTa tdX8_playToasts_85 2 rfl
theorem dX8_playToasts_92 : decode cX8_playToasts 92 = .ok (.aload 4, 2) := dTa tdX8_playToasts_85 3 rfl
theorem dX8_playToasts_94 : decode cX8_playToasts 94 = .ok (.invokevirtual 164, 3) := dTa tdX8_playToasts_85 4 rfl
theorem dX8_playToasts_97 : decode cX8_playToasts 97 = .ok (.pop, 1) := dTa tdX8_playToasts_85 5 rfl
theorem dX8_playToasts_98 : decode cX8_playToasts 98 = .ok (.iinc 6 1, 3) := dTa tdX8_playToasts_85 6 rfl
theorem dX8_playToasts_101 : decode cX8_playToasts 101 = .ok (.goto (-75), 3) := dTa tdX8_playToasts_85 7 rfl
theorem dX8_playToasts_104 : decode cX8_playToasts 104 = .ok (.iload 5, 2) := dTa tdX8_playToasts_85 8 rfl
theorem dX8_playToasts_106 : decode cX8_playToasts 106 = .ok (.ireturn, 1) := dTa tdX8_playToasts_85 9 rfl
set_option maxRecDepth 100000 in
theorem tdX8_playTwo_0 : dTb cX8_playTwo [(0, .aload_n 0, 1), (1, .invokevirtual 160, 3), (4, .astore 5, 2), (6, .iconst 0, 1), (7, .istore 6, 2), (9, .iconst 0, 1), (10, .istore 7, 2), (12, .aload_n 0, 1), (13, .getfield 44, 3), (16, .aload_n 0, 1), (17, .getfield 29, 3), (20, .getfield 81, 3), (23, .invokevirtual 84, 3), (26, .aload_n 0, 1), (27, .getfield 44, 3), (30, .iconst 1, 1), (31, .iload_n 1, 1), (32, .ishl, 1), (33, .iconst 1, 1), (34, .iload_n 2, 1), (35, .ishl, 1), (36, .ior, 1), (37, .putfield 231, 3), (40, .aload_n 0, 1), (41, .getfield 44, 3), (44, .iload 4, 2), (46, .iconst 1, 1), (47, .ishr, 1), (48, .iload_n 1, 1), (49, .ishl, 1), (50, .iload 4, 2), (52, .iconst 1, 1), (53, .iand, 1), (54, .iload_n 2, 1), (55, .ishl, 1), (56, .ior, 1), (57, .putfield 234, 3), (60, .iconst 0, 1), (61, .istore 8, 2), (63, .iload 8, 2)] = true := by decide +kernel
theorem dX8_playTwo_0 : decode cX8_playTwo 0 = .ok (.aload_n 0, 1) := dTa tdX8_playTwo_0 0 rfl
theorem dX8_playTwo_1 : decode cX8_playTwo 1 = .ok (.invokevirtual 160, 3) := dTa tdX8_playTwo_0 1 rfl
theorem dX8_playTwo_4 : decode cX8_playTwo 4 = .ok (.astore 5, 2) := dTa tdX8_playTwo_0 2 rfl
theorem dX8_playTwo_6 : decode cX8_playTwo 6 = .ok (.iconst 0, 1) := dTa tdX8_playTwo_0 3 rfl
theorem dX8_playTwo_7 : decode cX8_playTwo 7 = .ok (.istore 6, 2) := dTa tdX8_playTwo_0 4 rfl
theorem dX8_playTwo_9 : decode cX8_playTwo 9 = .ok (.iconst 0, 1) := dTa tdX8_playTwo_0 5 rfl
theorem dX8_playTwo_10 : decode cX8_playTwo 10 = .ok (.istore 7, 2) := dTa tdX8_playTwo_0 6 rfl
theorem dX8_playTwo_12 : decode cX8_playTwo 12 = .ok (.aload_n 0, 1) := dTa tdX8_playTwo_0 7 rfl
theorem dX8_playTwo_13 : decode cX8_playTwo 13 = .ok (.getfield 44, 3) := dTa tdX8_playTwo_0 8 rfl
theorem dX8_playTwo_16 : decode cX8_playTwo 16 = .ok (.aload_n 0, 1) := dTa tdX8_playTwo_0 9 rfl
theorem dX8_playTwo_17 : decode cX8_playTwo 17 = .ok (.getfield 29, 3) := dTa tdX8_playTwo_0 10 rfl
theorem dX8_playTwo_20 : decode cX8_playTwo 20 = .ok (.getfield 81, 3) := dTa tdX8_playTwo_0 11 rfl
theorem dX8_playTwo_23 : decode cX8_playTwo 23 = .ok (.invokevirtual 84, 3) := dTa tdX8_playTwo_0 12 rfl
theorem dX8_playTwo_26 : decode cX8_playTwo 26 = .ok (.aload_n 0, 1) := dTa tdX8_playTwo_0 13 rfl
theorem dX8_playTwo_27 : decode cX8_playTwo 27 = .ok (.getfield 44, 3) := dTa tdX8_playTwo_0 14 rfl
theorem dX8_playTwo_30 : decode cX8_playTwo 30 = .ok (.iconst 1, 1) := dTa tdX8_playTwo_0 15 rfl
theorem dX8_playTwo_31 : decode cX8_playTwo 31 = .ok (.iload_n 1, 1) := dTa tdX8_playTwo_0 16 rfl
theorem dX8_playTwo_32 : decode cX8_playTwo 32 = .ok (.ishl, 1) := dTa tdX8_playTwo_0 17 rfl
theorem dX8_playTwo_33 : decode cX8_playTwo 33 = .ok (.iconst 1, 1) := dTa tdX8_playTwo_0 18 rfl
theorem dX8_playTwo_34 : decode cX8_playTwo 34 = .ok (.iload_n 2, 1) := dTa tdX8_playTwo_0 19 rfl
theorem dX8_playTwo_35 : decode cX8_playTwo 35 = .ok (.ishl, 1) := dTa tdX8_playTwo_0 20 rfl
theorem dX8_playTwo_36 : decode cX8_playTwo 36 = .ok (.ior, 1) := dTa tdX8_playTwo_0 21 rfl
theorem dX8_playTwo_37 : decode cX8_playTwo 37 = .ok (.putfield 231, 3) := dTa tdX8_playTwo_0 22 rfl
theorem dX8_playTwo_40 : decode cX8_playTwo 40 = .ok (.aload_n 0, 1) := dTa tdX8_playTwo_0 23 rfl
theorem dX8_playTwo_41 : decode cX8_playTwo 41 = .ok (.getfield 44, 3) := dTa tdX8_playTwo_0 24 rfl
theorem dX8_playTwo_44 : decode cX8_playTwo 44 = .ok (.iload 4, 2) := dTa tdX8_playTwo_0 25 rfl
theorem dX8_playTwo_46 : decode cX8_playTwo 46 = .ok (.iconst 1, 1) := dTa tdX8_playTwo_0 26 rfl
theorem dX8_playTwo_47 : decode cX8_playTwo 47 = .ok (.ishr, 1) := dTa tdX8_playTwo_0 27 rfl
theorem dX8_playTwo_48 : decode cX8_playTwo 48 = .ok (.iload_n 1, 1) := dTa tdX8_playTwo_0 28 rfl
theorem dX8_playTwo_49 : decode cX8_playTwo 49 = .ok (.ishl, 1) := dTa tdX8_playTwo_0 29 rfl
theorem dX8_playTwo_50 : decode cX8_playTwo 50 = .ok (.iload 4, 2) := dTa tdX8_playTwo_0 30 rfl
theorem dX8_playTwo_52 : decode cX8_playTwo 52 = .ok (.iconst 1, 1) := dTa tdX8_playTwo_0 31 rfl
theorem dX8_playTwo_53 : decode cX8_playTwo 53 = .ok (.iand, 1) := dTa tdX8_playTwo_0 32 rfl
theorem dX8_playTwo_54 : decode cX8_playTwo 54 = .ok (.iload_n 2, 1) := dTa tdX8_playTwo_0 33 rfl
theorem dX8_playTwo_55 : decode cX8_playTwo 55 = .ok (.ishl, 1) := dTa tdX8_playTwo_0 34 rfl
theorem dX8_playTwo_56 : decode cX8_playTwo 56 = .ok (.ior, 1) := dTa tdX8_playTwo_0 35 rfl
theorem dX8_playTwo_57 : decode cX8_playTwo 57 = .ok (.putfield 234, 3) := dTa tdX8_playTwo_0 36 rfl
theorem dX8_playTwo_60 : decode cX8_playTwo 60 = .ok (.iconst 0, 1) := dTa tdX8_playTwo_0 37 rfl
theorem dX8_playTwo_61 : decode cX8_playTwo 61 = .ok (.istore 8, 2) := dTa tdX8_playTwo_0 38 rfl
theorem dX8_playTwo_63 : decode cX8_playTwo 63 = .ok (.iload 8, 2) := dTa tdX8_playTwo_0 39 rfl
set_option maxRecDepth 100000 in
theorem tdX8_playTwo_65 : dTb cX8_playTwo [(65, .iload_n 3, 1), (66, .if_icmp .ge 45, 3), (69, .aload_n 0, 1), (70, .getfield 44, 3), (73, .aload 5, 2), (75, .invokevirtual 164, 3), (78, .pop, 1), (79, .iload 6, 2), (81, .aload_n 0, 1), (82, .getfield 44, 3), (85, .iload_n 1, 1), (86, .invokevirtual 237, 3), (89, .iadd, 1), (90, .istore 6, 2), (92, .iload 7, 2), (94, .aload_n 0, 1), (95, .getfield 44, 3), (98, .iload_n 2, 1), (99, .invokevirtual 237, 3), (102, .iadd, 1), (103, .istore 7, 2), (105, .iinc 8 1, 3), (108, .goto (-45), 3), (111, .aload_n 0, 1), (112, .getfield 51, 3), (115, .iload 4, 2), (117, .aload_n 0, 1), (118, .getfield 44, 3), (121, .iload_n 1, 1), (122, .invokevirtual 147, 3), (125, .iconst 2, 1), (126, .if_icmp .ne 11, 3), (129, .iload 6, 2), (131, .bipush 10, 2), (133, .isub, 1), (134, .goto 5, 3), (137, .iload 6, 2), (139, .iastore, 1), (140, .aload_n 0, 1), (141, .getfield 55, 3)] = true := by decide +kernel
theorem dX8_playTwo_65 : decode cX8_playTwo 65 = .ok (.iload_n 3, 1) := dTa tdX8_playTwo_65 0 rfl
theorem dX8_playTwo_66 : decode cX8_playTwo 66 = .ok (.if_icmp .ge 45, 3) := dTa tdX8_playTwo_65 1 rfl
theorem dX8_playTwo_69 : decode cX8_playTwo 69 = .ok (.aload_n 0, 1) := dTa tdX8_playTwo_65 2 rfl
theorem dX8_playTwo_70 : decode cX8_playTwo 70 = .ok (.getfield 44, 3) := dTa tdX8_playTwo_65 3 rfl
theorem dX8_playTwo_73 : decode cX8_playTwo 73 = .ok (.aload 5, 2) := dTa tdX8_playTwo_65 4 rfl
theorem dX8_playTwo_75 : decode cX8_playTwo 75 = .ok (.invokevirtual 164, 3) := dTa tdX8_playTwo_65 5 rfl
theorem dX8_playTwo_78 : decode cX8_playTwo 78 = .ok (.pop, 1) := dTa tdX8_playTwo_65 6 rfl
theorem dX8_playTwo_79 : decode cX8_playTwo 79 = .ok (.iload 6, 2) := dTa tdX8_playTwo_65 7 rfl
theorem dX8_playTwo_81 : decode cX8_playTwo 81 = .ok (.aload_n 0, 1) := dTa tdX8_playTwo_65 8 rfl
theorem dX8_playTwo_82 : decode cX8_playTwo 82 = .ok (.getfield 44, 3) := dTa tdX8_playTwo_65 9 rfl
theorem dX8_playTwo_85 : decode cX8_playTwo 85 = .ok (.iload_n 1, 1) := dTa tdX8_playTwo_65 10 rfl
theorem dX8_playTwo_86 : decode cX8_playTwo 86 = .ok (.invokevirtual 237, 3) := dTa tdX8_playTwo_65 11 rfl
theorem dX8_playTwo_89 : decode cX8_playTwo 89 = .ok (.iadd, 1) := dTa tdX8_playTwo_65 12 rfl
theorem dX8_playTwo_90 : decode cX8_playTwo 90 = .ok (.istore 6, 2) := dTa tdX8_playTwo_65 13 rfl
theorem dX8_playTwo_92 : decode cX8_playTwo 92 = .ok (.iload 7, 2) := dTa tdX8_playTwo_65 14 rfl
theorem dX8_playTwo_94 : decode cX8_playTwo 94 = .ok (.aload_n 0, 1) := dTa tdX8_playTwo_65 15 rfl
theorem dX8_playTwo_95 : decode cX8_playTwo 95 = .ok (.getfield 44, 3) := dTa tdX8_playTwo_65 16 rfl
theorem dX8_playTwo_98 : decode cX8_playTwo 98 = .ok (.iload_n 2, 1) := dTa tdX8_playTwo_65 17 rfl
theorem dX8_playTwo_99 : decode cX8_playTwo 99 = .ok (.invokevirtual 237, 3) := dTa tdX8_playTwo_65 18 rfl
theorem dX8_playTwo_102 : decode cX8_playTwo 102 = .ok (.iadd, 1) := dTa tdX8_playTwo_65 19 rfl
theorem dX8_playTwo_103 : decode cX8_playTwo 103 = .ok (.istore 7, 2) := dTa tdX8_playTwo_65 20 rfl
theorem dX8_playTwo_105 : decode cX8_playTwo 105 = .ok (.iinc 8 1, 3) := dTa tdX8_playTwo_65 21 rfl
theorem dX8_playTwo_108 : decode cX8_playTwo 108 = .ok (.goto (-45), 3) := dTa tdX8_playTwo_65 22 rfl
theorem dX8_playTwo_111 : decode cX8_playTwo 111 = .ok (.aload_n 0, 1) := dTa tdX8_playTwo_65 23 rfl
theorem dX8_playTwo_112 : decode cX8_playTwo 112 = .ok (.getfield 51, 3) := dTa tdX8_playTwo_65 24 rfl
theorem dX8_playTwo_115 : decode cX8_playTwo 115 = .ok (.iload 4, 2) := dTa tdX8_playTwo_65 25 rfl
theorem dX8_playTwo_117 : decode cX8_playTwo 117 = .ok (.aload_n 0, 1) := dTa tdX8_playTwo_65 26 rfl
theorem dX8_playTwo_118 : decode cX8_playTwo 118 = .ok (.getfield 44, 3) := dTa tdX8_playTwo_65 27 rfl
theorem dX8_playTwo_121 : decode cX8_playTwo 121 = .ok (.iload_n 1, 1) := dTa tdX8_playTwo_65 28 rfl
theorem dX8_playTwo_122 : decode cX8_playTwo 122 = .ok (.invokevirtual 147, 3) := dTa tdX8_playTwo_65 29 rfl
theorem dX8_playTwo_125 : decode cX8_playTwo 125 = .ok (.iconst 2, 1) := dTa tdX8_playTwo_65 30 rfl
theorem dX8_playTwo_126 : decode cX8_playTwo 126 = .ok (.if_icmp .ne 11, 3) := dTa tdX8_playTwo_65 31 rfl
theorem dX8_playTwo_129 : decode cX8_playTwo 129 = .ok (.iload 6, 2) := dTa tdX8_playTwo_65 32 rfl
theorem dX8_playTwo_131 : decode cX8_playTwo 131 = .ok (.bipush 10, 2) := dTa tdX8_playTwo_65 33 rfl
theorem dX8_playTwo_133 : decode cX8_playTwo 133 = .ok (.isub, 1) := dTa tdX8_playTwo_65 34 rfl
theorem dX8_playTwo_134 : decode cX8_playTwo 134 = .ok (.goto 5, 3) := dTa tdX8_playTwo_65 35 rfl
theorem dX8_playTwo_137 : decode cX8_playTwo 137 = .ok (.iload 6, 2) := dTa tdX8_playTwo_65 36 rfl
theorem dX8_playTwo_139 : decode cX8_playTwo 139 = .ok (.iastore, 1) := dTa tdX8_playTwo_65 37 rfl
theorem dX8_playTwo_140 : decode cX8_playTwo 140 = .ok (.aload_n 0, 1) := dTa tdX8_playTwo_65 38 rfl
theorem dX8_playTwo_141 : decode cX8_playTwo 141 = .ok (.getfield 55, 3) := dTa tdX8_playTwo_65 39 rfl
set_option maxRecDepth 100000 in
theorem tdX8_playTwo_144 : dTb cX8_playTwo [(144, .iload 4, 2), (146, .aload_n 0, 1), (147, .getfield 44, 3), (150, .iload_n 2, 1), (151, .invokevirtual 147, 3), (154, .iconst 2, 1), (155, .if_icmp .ne 11, 3), (158, .iload 7, 2), (160, .bipush 10, 2), (162, .isub, 1), (163, .goto 5, 3), (166, .iload 7, 2), (168, .iastore, 1), (169, .return_, 1)] = true := by decide +kernel
theorem dX8_playTwo_144 : decode cX8_playTwo 144 = .ok (.iload 4, 2) := dTa tdX8_playTwo_144 0 rfl
theorem dX8_playTwo_146 : decode cX8_playTwo 146 = .ok (.aload_n 0, 1) := dTa tdX8_playTwo_144 1 rfl
theorem dX8_playTwo_147 : decode cX8_playTwo 147 = .ok (.getfield 44, 3) := dTa tdX8_playTwo_144 2 rfl
theorem dX8_playTwo_150 : decode cX8_playTwo 150 = .ok (.iload_n 2, 1) := dTa tdX8_playTwo_144 3 rfl
theorem dX8_playTwo_151 : decode cX8_playTwo 151 = .ok (.invokevirtual 147, 3) := dTa tdX8_playTwo_144 4 rfl
theorem dX8_playTwo_154 : decode cX8_playTwo 154 = .ok (.iconst 2, 1) := dTa tdX8_playTwo_144 5 rfl
theorem dX8_playTwo_155 : decode cX8_playTwo 155 = .ok (.if_icmp .ne 11, 3) := dTa tdX8_playTwo_144 6 rfl
theorem dX8_playTwo_158 : decode cX8_playTwo 158 = .ok (.iload 7, 2) := dTa tdX8_playTwo_144 7 rfl
theorem dX8_playTwo_160 : decode cX8_playTwo 160 = .ok (.bipush 10, 2) := dTa tdX8_playTwo_144 8 rfl
theorem dX8_playTwo_162 : decode cX8_playTwo 162 = .ok (.isub, 1) := dTa tdX8_playTwo_144 9 rfl
theorem dX8_playTwo_163 : decode cX8_playTwo 163 = .ok (.goto 5, 3) := dTa tdX8_playTwo_144 10 rfl
theorem dX8_playTwo_166 : decode cX8_playTwo 166 = .ok (.iload 7, 2) := dTa tdX8_playTwo_144 11 rfl
theorem dX8_playTwo_168 : decode cX8_playTwo 168 = .ok (.iastore, 1) := dTa tdX8_playTwo_144 12 rfl
theorem dX8_playTwo_169 : decode cX8_playTwo 169 = .ok (.return_, 1) := dTa tdX8_playTwo_144 13 rfl
set_option maxRecDepth 100000 in
theorem tdX8_rests_0 : dTb cX8_rests [(0, .aload_n 0, 1), (1, .getfield 29, 3), (4, .getfield 81, 3), (7, .astore 5, 2), (9, .aload 5, 2), (11, .iload_n 1, 1), (12, .invokevirtual 221, 3), (15, .ifCond .eq 17, 3), (18, .aload 5, 2), (20, .iload_n 2, 1), (21, .invokevirtual 221, 3), (24, .ifCond .eq 8, 3), (27, .iload_n 1, 1), (28, .iload_n 2, 1), (29, .if_icmp .ne 5, 3), (32, .iconst (-1), 1), (33, .ireturn, 1), (34, .iload_n 3, 1), (35, .iconst 1, 1), (36, .if_icmp .lt 20, 3), (39, .iload_n 3, 1), (40, .bipush 20, 2), (42, .if_icmp .gt 14, 3), (45, .iload 4, 2), (47, .ifCond .lt 9, 3), (50, .iload 4, 2), (52, .iconst 2, 1), (53, .if_icmp .le 5, 3), (56, .iconst (-1), 1), (57, .ireturn, 1), (58, .iconst 0, 1), (59, .istore 6, 2), (61, .iload 6, 2), (63, .iconst 4, 1), (64, .if_icmp .ge 18, 3), (67, .aload_n 0, 1), (68, .iload_n 1, 1), (69, .iload_n 2, 1), (70, .iload_n 3, 1), (71, .iload 6, 2)] = true := by decide +kernel
theorem dX8_rests_0 : decode cX8_rests 0 = .ok (.aload_n 0, 1) := dTa tdX8_rests_0 0 rfl
theorem dX8_rests_1 : decode cX8_rests 1 = .ok (.getfield 29, 3) := dTa tdX8_rests_0 1 rfl
theorem dX8_rests_4 : decode cX8_rests 4 = .ok (.getfield 81, 3) := dTa tdX8_rests_0 2 rfl
theorem dX8_rests_7 : decode cX8_rests 7 = .ok (.astore 5, 2) := dTa tdX8_rests_0 3 rfl
theorem dX8_rests_9 : decode cX8_rests 9 = .ok (.aload 5, 2) := dTa tdX8_rests_0 4 rfl
theorem dX8_rests_11 : decode cX8_rests 11 = .ok (.iload_n 1, 1) := dTa tdX8_rests_0 5 rfl
theorem dX8_rests_12 : decode cX8_rests 12 = .ok (.invokevirtual 221, 3) := dTa tdX8_rests_0 6 rfl
theorem dX8_rests_15 : decode cX8_rests 15 = .ok (.ifCond .eq 17, 3) := dTa tdX8_rests_0 7 rfl
theorem dX8_rests_18 : decode cX8_rests 18 = .ok (.aload 5, 2) := dTa tdX8_rests_0 8 rfl
theorem dX8_rests_20 : decode cX8_rests 20 = .ok (.iload_n 2, 1) := dTa tdX8_rests_0 9 rfl
theorem dX8_rests_21 : decode cX8_rests 21 = .ok (.invokevirtual 221, 3) := dTa tdX8_rests_0 10 rfl
theorem dX8_rests_24 : decode cX8_rests 24 = .ok (.ifCond .eq 8, 3) := dTa tdX8_rests_0 11 rfl
theorem dX8_rests_27 : decode cX8_rests 27 = .ok (.iload_n 1, 1) := dTa tdX8_rests_0 12 rfl
theorem dX8_rests_28 : decode cX8_rests 28 = .ok (.iload_n 2, 1) := dTa tdX8_rests_0 13 rfl
theorem dX8_rests_29 : decode cX8_rests 29 = .ok (.if_icmp .ne 5, 3) := dTa tdX8_rests_0 14 rfl
theorem dX8_rests_32 : decode cX8_rests 32 = .ok (.iconst (-1), 1) := dTa tdX8_rests_0 15 rfl
theorem dX8_rests_33 : decode cX8_rests 33 = .ok (.ireturn, 1) := dTa tdX8_rests_0 16 rfl
theorem dX8_rests_34 : decode cX8_rests 34 = .ok (.iload_n 3, 1) := dTa tdX8_rests_0 17 rfl
theorem dX8_rests_35 : decode cX8_rests 35 = .ok (.iconst 1, 1) := dTa tdX8_rests_0 18 rfl
theorem dX8_rests_36 : decode cX8_rests 36 = .ok (.if_icmp .lt 20, 3) := dTa tdX8_rests_0 19 rfl
theorem dX8_rests_39 : decode cX8_rests 39 = .ok (.iload_n 3, 1) := dTa tdX8_rests_0 20 rfl
theorem dX8_rests_40 : decode cX8_rests 40 = .ok (.bipush 20, 2) := dTa tdX8_rests_0 21 rfl
theorem dX8_rests_42 : decode cX8_rests 42 = .ok (.if_icmp .gt 14, 3) := dTa tdX8_rests_0 22 rfl
theorem dX8_rests_45 : decode cX8_rests 45 = .ok (.iload 4, 2) := dTa tdX8_rests_0 23 rfl
theorem dX8_rests_47 : decode cX8_rests 47 = .ok (.ifCond .lt 9, 3) := dTa tdX8_rests_0 24 rfl
theorem dX8_rests_50 : decode cX8_rests 50 = .ok (.iload 4, 2) := dTa tdX8_rests_0 25 rfl
theorem dX8_rests_52 : decode cX8_rests 52 = .ok (.iconst 2, 1) := dTa tdX8_rests_0 26 rfl
theorem dX8_rests_53 : decode cX8_rests 53 = .ok (.if_icmp .le 5, 3) := dTa tdX8_rests_0 27 rfl
theorem dX8_rests_56 : decode cX8_rests 56 = .ok (.iconst (-1), 1) := dTa tdX8_rests_0 28 rfl
theorem dX8_rests_57 : decode cX8_rests 57 = .ok (.ireturn, 1) := dTa tdX8_rests_0 29 rfl
theorem dX8_rests_58 : decode cX8_rests 58 = .ok (.iconst 0, 1) := dTa tdX8_rests_0 30 rfl
theorem dX8_rests_59 : decode cX8_rests 59 = .ok (.istore 6, 2) := dTa tdX8_rests_0 31 rfl
theorem dX8_rests_61 : decode cX8_rests 61 = .ok (.iload 6, 2) := dTa tdX8_rests_0 32 rfl
theorem dX8_rests_63 : decode cX8_rests 63 = .ok (.iconst 4, 1) := dTa tdX8_rests_0 33 rfl
theorem dX8_rests_64 : decode cX8_rests 64 = .ok (.if_icmp .ge 18, 3) := dTa tdX8_rests_0 34 rfl
theorem dX8_rests_67 : decode cX8_rests 67 = .ok (.aload_n 0, 1) := dTa tdX8_rests_0 35 rfl
theorem dX8_rests_68 : decode cX8_rests 68 = .ok (.iload_n 1, 1) := dTa tdX8_rests_0 36 rfl
theorem dX8_rests_69 : decode cX8_rests 69 = .ok (.iload_n 2, 1) := dTa tdX8_rests_0 37 rfl
theorem dX8_rests_70 : decode cX8_rests 70 = .ok (.iload_n 3, 1) := dTa tdX8_rests_0 38 rfl
theorem dX8_rests_71 : decode cX8_rests 71 = .ok (.iload 6, 2) := dTa tdX8_rests_0 39 rfl
set_option maxRecDepth 100000 in
theorem tdX8_rests_73 : dTb cX8_rests [(73, .invokevirtual 227, 3), (76, .iinc 6 1, 3), (79, .goto (-18), 3), (82, .iconst 0, 1), (83, .istore 6, 2), (85, .iconst (-1), 1), (86, .istore 7, 2), (88, .iconst 3, 1), (89, .istore 8, 2), (91, .iload 8, 2), (93, .ifCond .lt 54, 3), (96, .aload_n 0, 1), (97, .getfield 51, 3), (100, .iload 8, 2), (102, .iaload, 1), (103, .aload_n 0, 1), (104, .getfield 51, 3), (107, .iload 8, 2), (109, .iconst 2, 1), (110, .ixor, 1), (111, .iaload, 1), (112, .if_icmp .lt 29, 3), (115, .aload_n 0, 1), (116, .getfield 55, 3), (119, .iload 8, 2), (121, .iaload, 1), (122, .aload_n 0, 1), (123, .getfield 55, 3), (126, .iload 8, 2), (128, .iconst 1, 1), (129, .ixor, 1), (130, .iaload, 1), (131, .if_icmp .lt 10, 3), (134, .iinc 6 1, 3), (137, .iload 8, 2), (139, .istore 7, 2), (141, .iinc 8 (-1), 3), (144, .goto (-53), 3), (147, .iload 4, 2), (149, .ifCond .ne 6, 3)] = true := by decide +kernel
theorem dX8_rests_73 : decode cX8_rests 73 = .ok (.invokevirtual 227, 3) := dTa tdX8_rests_73 0 rfl
theorem dX8_rests_76 : decode cX8_rests 76 = .ok (.iinc 6 1, 3) := dTa tdX8_rests_73 1 rfl
theorem dX8_rests_79 : decode cX8_rests 79 = .ok (.goto (-18), 3) := dTa tdX8_rests_73 2 rfl
theorem dX8_rests_82 : decode cX8_rests 82 = .ok (.iconst 0, 1) := dTa tdX8_rests_73 3 rfl
theorem dX8_rests_83 : decode cX8_rests 83 = .ok (.istore 6, 2) := dTa tdX8_rests_73 4 rfl
theorem dX8_rests_85 : decode cX8_rests 85 = .ok (.iconst (-1), 1) := dTa tdX8_rests_73 5 rfl
theorem dX8_rests_86 : decode cX8_rests 86 = .ok (.istore 7, 2) := dTa tdX8_rests_73 6 rfl
theorem dX8_rests_88 : decode cX8_rests 88 = .ok (.iconst 3, 1) := dTa tdX8_rests_73 7 rfl
theorem dX8_rests_89 : decode cX8_rests 89 = .ok (.istore 8, 2) := dTa tdX8_rests_73 8 rfl
theorem dX8_rests_91 : decode cX8_rests 91 = .ok (.iload 8, 2) := dTa tdX8_rests_73 9 rfl
theorem dX8_rests_93 : decode cX8_rests 93 = .ok (.ifCond .lt 54, 3) := dTa tdX8_rests_73 10 rfl
theorem dX8_rests_96 : decode cX8_rests 96 = .ok (.aload_n 0, 1) := dTa tdX8_rests_73 11 rfl
theorem dX8_rests_97 : decode cX8_rests 97 = .ok (.getfield 51, 3) := dTa tdX8_rests_73 12 rfl
theorem dX8_rests_100 : decode cX8_rests 100 = .ok (.iload 8, 2) := dTa tdX8_rests_73 13 rfl
theorem dX8_rests_102 : decode cX8_rests 102 = .ok (.iaload, 1) := dTa tdX8_rests_73 14 rfl
theorem dX8_rests_103 : decode cX8_rests 103 = .ok (.aload_n 0, 1) := dTa tdX8_rests_73 15 rfl
theorem dX8_rests_104 : decode cX8_rests 104 = .ok (.getfield 51, 3) := dTa tdX8_rests_73 16 rfl
theorem dX8_rests_107 : decode cX8_rests 107 = .ok (.iload 8, 2) := dTa tdX8_rests_73 17 rfl
theorem dX8_rests_109 : decode cX8_rests 109 = .ok (.iconst 2, 1) := dTa tdX8_rests_73 18 rfl
theorem dX8_rests_110 : decode cX8_rests 110 = .ok (.ixor, 1) := dTa tdX8_rests_73 19 rfl
theorem dX8_rests_111 : decode cX8_rests 111 = .ok (.iaload, 1) := dTa tdX8_rests_73 20 rfl
theorem dX8_rests_112 : decode cX8_rests 112 = .ok (.if_icmp .lt 29, 3) := dTa tdX8_rests_73 21 rfl
theorem dX8_rests_115 : decode cX8_rests 115 = .ok (.aload_n 0, 1) := dTa tdX8_rests_73 22 rfl
theorem dX8_rests_116 : decode cX8_rests 116 = .ok (.getfield 55, 3) := dTa tdX8_rests_73 23 rfl
theorem dX8_rests_119 : decode cX8_rests 119 = .ok (.iload 8, 2) := dTa tdX8_rests_73 24 rfl
theorem dX8_rests_121 : decode cX8_rests 121 = .ok (.iaload, 1) := dTa tdX8_rests_73 25 rfl
theorem dX8_rests_122 : decode cX8_rests 122 = .ok (.aload_n 0, 1) := dTa tdX8_rests_73 26 rfl
theorem dX8_rests_123 : decode cX8_rests 123 = .ok (.getfield 55, 3) := dTa tdX8_rests_73 27 rfl
theorem dX8_rests_126 : decode cX8_rests 126 = .ok (.iload 8, 2) := dTa tdX8_rests_73 28 rfl
theorem dX8_rests_128 : decode cX8_rests 128 = .ok (.iconst 1, 1) := dTa tdX8_rests_73 29 rfl
theorem dX8_rests_129 : decode cX8_rests 129 = .ok (.ixor, 1) := dTa tdX8_rests_73 30 rfl
theorem dX8_rests_130 : decode cX8_rests 130 = .ok (.iaload, 1) := dTa tdX8_rests_73 31 rfl
theorem dX8_rests_131 : decode cX8_rests 131 = .ok (.if_icmp .lt 10, 3) := dTa tdX8_rests_73 32 rfl
theorem dX8_rests_134 : decode cX8_rests 134 = .ok (.iinc 6 1, 3) := dTa tdX8_rests_73 33 rfl
theorem dX8_rests_137 : decode cX8_rests 137 = .ok (.iload 8, 2) := dTa tdX8_rests_73 34 rfl
theorem dX8_rests_139 : decode cX8_rests 139 = .ok (.istore 7, 2) := dTa tdX8_rests_73 35 rfl
theorem dX8_rests_141 : decode cX8_rests 141 = .ok (.iinc 8 (-1), 3) := dTa tdX8_rests_73 36 rfl
theorem dX8_rests_144 : decode cX8_rests 144 = .ok (.goto (-53), 3) := dTa tdX8_rests_73 37 rfl
theorem dX8_rests_147 : decode cX8_rests 147 = .ok (.iload 4, 2) := dTa tdX8_rests_73 38 rfl
theorem dX8_rests_149 : decode cX8_rests 149 = .ok (.ifCond .ne 6, 3) := dTa tdX8_rests_73 39 rfl
set_option maxRecDepth 100000 in
theorem tdX8_rests_152 : dTb cX8_rests [(152, .iload 6, 2), (154, .ireturn, 1), (155, .iload 7, 2), (157, .iconst (-1), 1), (158, .if_icmp .ne 6, 3), (161, .bipush (-2), 2), (163, .ireturn, 1), (164, .iload 4, 2), (166, .iconst 1, 1), (167, .if_icmp .ne 10, 3), (170, .iload 7, 2), (172, .iconst 1, 1), (173, .ishr, 1), (174, .goto 7, 3), (177, .iload 7, 2), (179, .iconst 1, 1), (180, .iand, 1), (181, .ireturn, 1)] = true := by decide +kernel
theorem dX8_rests_152 : decode cX8_rests 152 = .ok (.iload 6, 2) := dTa tdX8_rests_152 0 rfl
theorem dX8_rests_154 : decode cX8_rests 154 = .ok (.ireturn, 1) := dTa tdX8_rests_152 1 rfl
theorem dX8_rests_155 : decode cX8_rests 155 = .ok (.iload 7, 2) := dTa tdX8_rests_152 2 rfl
theorem dX8_rests_157 : decode cX8_rests 157 = .ok (.iconst (-1), 1) := dTa tdX8_rests_152 3 rfl
theorem dX8_rests_158 : decode cX8_rests 158 = .ok (.if_icmp .ne 6, 3) := dTa tdX8_rests_152 4 rfl
theorem dX8_rests_161 : decode cX8_rests 161 = .ok (.bipush (-2), 2) := dTa tdX8_rests_152 5 rfl
theorem dX8_rests_163 : decode cX8_rests 163 = .ok (.ireturn, 1) := dTa tdX8_rests_152 6 rfl
theorem dX8_rests_164 : decode cX8_rests 164 = .ok (.iload 4, 2) := dTa tdX8_rests_152 7 rfl
theorem dX8_rests_166 : decode cX8_rests 166 = .ok (.iconst 1, 1) := dTa tdX8_rests_152 8 rfl
theorem dX8_rests_167 : decode cX8_rests 167 = .ok (.if_icmp .ne 10, 3) := dTa tdX8_rests_152 9 rfl
theorem dX8_rests_170 : decode cX8_rests 170 = .ok (.iload 7, 2) := dTa tdX8_rests_152 10 rfl
theorem dX8_rests_172 : decode cX8_rests 172 = .ok (.iconst 1, 1) := dTa tdX8_rests_152 11 rfl
theorem dX8_rests_173 : decode cX8_rests 173 = .ok (.ishr, 1) := dTa tdX8_rests_152 12 rfl
theorem dX8_rests_174 : decode cX8_rests 174 = .ok (.goto 7, 3) := dTa tdX8_rests_152 13 rfl
theorem dX8_rests_177 : decode cX8_rests 177 = .ok (.iload 7, 2) := dTa tdX8_rests_152 14 rfl
theorem dX8_rests_179 : decode cX8_rests 179 = .ok (.iconst 1, 1) := dTa tdX8_rests_152 15 rfl
theorem dX8_rests_180 : decode cX8_rests 180 = .ok (.iand, 1) := dTa tdX8_rests_152 16 rfl
theorem dX8_rests_181 : decode cX8_rests 181 = .ok (.ireturn, 1) := dTa tdX8_rests_152 17 rfl
set_option maxRecDepth 100000 in
theorem tdX8_ruled_0 : dTb cX8_ruled [(0, .aload_n 0, 1), (1, .getfield 29, 3), (4, .getfield 81, 3), (7, .getfield 150, 3), (10, .ifCond .eq 12, 3), (13, .iload_n 1, 1), (14, .ifCond .lt 8, 3), (17, .iload_n 1, 1), (18, .iconst 1, 1), (19, .if_icmp .le 6, 3), (22, .bipush (-3), 2), (24, .ireturn, 1), (25, .iconst 0, 1), (26, .istore_n 2, 1), (27, .bipush (-2), 2), (29, .istore_n 3, 1), (30, .aload_n 0, 1), (31, .getfield 22, 3), (34, .iconst 1, 1), (35, .isub, 1), (36, .istore 4, 2), (38, .iload 4, 2), (40, .iconst (-1), 1), (41, .if_icmp .lt 30, 3), (44, .aload_n 0, 1), (45, .aload_n 0, 1), (46, .iload 4, 2), (48, .invokevirtual 254, 3), (51, .iconst (-1), 1), (52, .iconst (-1), 1), (53, .invokevirtual 250, 3), (56, .ifCond .eq 9, 3), (59, .iinc 2 1, 3), (62, .iload 4, 2), (64, .istore_n 3, 1), (65, .iinc 4 (-1), 3), (68, .goto (-30), 3), (71, .iload_n 1, 1), (72, .ifCond .ne 7, 3), (75, .iload_n 2, 1)] = true := by decide +kernel
theorem dX8_ruled_0 : decode cX8_ruled 0 = .ok (.aload_n 0, 1) := dTa tdX8_ruled_0 0 rfl
theorem dX8_ruled_1 : decode cX8_ruled 1 = .ok (.getfield 29, 3) := dTa tdX8_ruled_0 1 rfl
theorem dX8_ruled_4 : decode cX8_ruled 4 = .ok (.getfield 81, 3) := dTa tdX8_ruled_0 2 rfl
theorem dX8_ruled_7 : decode cX8_ruled 7 = .ok (.getfield 150, 3) := dTa tdX8_ruled_0 3 rfl
theorem dX8_ruled_10 : decode cX8_ruled 10 = .ok (.ifCond .eq 12, 3) := dTa tdX8_ruled_0 4 rfl
theorem dX8_ruled_13 : decode cX8_ruled 13 = .ok (.iload_n 1, 1) := dTa tdX8_ruled_0 5 rfl
theorem dX8_ruled_14 : decode cX8_ruled 14 = .ok (.ifCond .lt 8, 3) := dTa tdX8_ruled_0 6 rfl
theorem dX8_ruled_17 : decode cX8_ruled 17 = .ok (.iload_n 1, 1) := dTa tdX8_ruled_0 7 rfl
theorem dX8_ruled_18 : decode cX8_ruled 18 = .ok (.iconst 1, 1) := dTa tdX8_ruled_0 8 rfl
theorem dX8_ruled_19 : decode cX8_ruled 19 = .ok (.if_icmp .le 6, 3) := dTa tdX8_ruled_0 9 rfl
theorem dX8_ruled_22 : decode cX8_ruled 22 = .ok (.bipush (-3), 2) := dTa tdX8_ruled_0 10 rfl
theorem dX8_ruled_24 : decode cX8_ruled 24 = .ok (.ireturn, 1) := dTa tdX8_ruled_0 11 rfl
theorem dX8_ruled_25 : decode cX8_ruled 25 = .ok (.iconst 0, 1) := dTa tdX8_ruled_0 12 rfl
theorem dX8_ruled_26 : decode cX8_ruled 26 = .ok (.istore_n 2, 1) := dTa tdX8_ruled_0 13 rfl
theorem dX8_ruled_27 : decode cX8_ruled 27 = .ok (.bipush (-2), 2) := dTa tdX8_ruled_0 14 rfl
theorem dX8_ruled_29 : decode cX8_ruled 29 = .ok (.istore_n 3, 1) := dTa tdX8_ruled_0 15 rfl
theorem dX8_ruled_30 : decode cX8_ruled 30 = .ok (.aload_n 0, 1) := dTa tdX8_ruled_0 16 rfl
theorem dX8_ruled_31 : decode cX8_ruled 31 = .ok (.getfield 22, 3) := dTa tdX8_ruled_0 17 rfl
theorem dX8_ruled_34 : decode cX8_ruled 34 = .ok (.iconst 1, 1) := dTa tdX8_ruled_0 18 rfl
theorem dX8_ruled_35 : decode cX8_ruled 35 = .ok (.isub, 1) := dTa tdX8_ruled_0 19 rfl
theorem dX8_ruled_36 : decode cX8_ruled 36 = .ok (.istore 4, 2) := dTa tdX8_ruled_0 20 rfl
theorem dX8_ruled_38 : decode cX8_ruled 38 = .ok (.iload 4, 2) := dTa tdX8_ruled_0 21 rfl
theorem dX8_ruled_40 : decode cX8_ruled 40 = .ok (.iconst (-1), 1) := dTa tdX8_ruled_0 22 rfl
theorem dX8_ruled_41 : decode cX8_ruled 41 = .ok (.if_icmp .lt 30, 3) := dTa tdX8_ruled_0 23 rfl
theorem dX8_ruled_44 : decode cX8_ruled 44 = .ok (.aload_n 0, 1) := dTa tdX8_ruled_0 24 rfl
theorem dX8_ruled_45 : decode cX8_ruled 45 = .ok (.aload_n 0, 1) := dTa tdX8_ruled_0 25 rfl
theorem dX8_ruled_46 : decode cX8_ruled 46 = .ok (.iload 4, 2) := dTa tdX8_ruled_0 26 rfl
theorem dX8_ruled_48 : decode cX8_ruled 48 = .ok (.invokevirtual 254, 3) := dTa tdX8_ruled_0 27 rfl
theorem dX8_ruled_51 : decode cX8_ruled 51 = .ok (.iconst (-1), 1) := dTa tdX8_ruled_0 28 rfl
theorem dX8_ruled_52 : decode cX8_ruled 52 = .ok (.iconst (-1), 1) := dTa tdX8_ruled_0 29 rfl
theorem dX8_ruled_53 : decode cX8_ruled 53 = .ok (.invokevirtual 250, 3) := dTa tdX8_ruled_0 30 rfl
theorem dX8_ruled_56 : decode cX8_ruled 56 = .ok (.ifCond .eq 9, 3) := dTa tdX8_ruled_0 31 rfl
theorem dX8_ruled_59 : decode cX8_ruled 59 = .ok (.iinc 2 1, 3) := dTa tdX8_ruled_0 32 rfl
theorem dX8_ruled_62 : decode cX8_ruled 62 = .ok (.iload 4, 2) := dTa tdX8_ruled_0 33 rfl
theorem dX8_ruled_64 : decode cX8_ruled 64 = .ok (.istore_n 3, 1) := dTa tdX8_ruled_0 34 rfl
theorem dX8_ruled_65 : decode cX8_ruled 65 = .ok (.iinc 4 (-1), 3) := dTa tdX8_ruled_0 35 rfl
theorem dX8_ruled_68 : decode cX8_ruled 68 = .ok (.goto (-30), 3) := dTa tdX8_ruled_0 36 rfl
theorem dX8_ruled_71 : decode cX8_ruled 71 = .ok (.iload_n 1, 1) := dTa tdX8_ruled_0 37 rfl
theorem dX8_ruled_72 : decode cX8_ruled 72 = .ok (.ifCond .ne 7, 3) := dTa tdX8_ruled_0 38 rfl
theorem dX8_ruled_75 : decode cX8_ruled 75 = .ok (.iload_n 2, 1) := dTa tdX8_ruled_0 39 rfl
set_option maxRecDepth 100000 in
theorem tdX8_ruled_76 : dTb cX8_ruled [(76, .goto 4, 3), (79, .iload_n 3, 1), (80, .ireturn, 1)] = true := by decide +kernel
theorem dX8_ruled_76 : decode cX8_ruled 76 = .ok (.goto 4, 3) := dTa tdX8_ruled_76 0 rfl
theorem dX8_ruled_79 : decode cX8_ruled 79 = .ok (.iload_n 3, 1) := dTa tdX8_ruled_76 1 rfl
theorem dX8_ruled_80 : decode cX8_ruled 80 = .ok (.ireturn, 1) := dTa tdX8_ruled_76 2 rfl
set_option maxRecDepth 100000 in
theorem tdX8_seed_0 : dTb cX8_seed [(0, .iload_n 1, 1), (1, .ifCond .ge 5, 3), (4, .iconst (-1), 1), (5, .ireturn, 1), (6, .aload_n 0, 1), (7, .getfield 29, 3), (10, .getfield 292, 3), (13, .istore_n 2, 1), (14, .aload_n 0, 1), (15, .getfield 29, 3), (18, .iload_n 1, 1), (19, .putfield 292, 3), (22, .iload_n 2, 1), (23, .ireturn, 1)] = true := by decide +kernel
theorem dX8_seed_0 : decode cX8_seed 0 = .ok (.iload_n 1, 1) := dTa tdX8_seed_0 0 rfl
theorem dX8_seed_1 : decode cX8_seed 1 = .ok (.ifCond .ge 5, 3) := dTa tdX8_seed_0 1 rfl
theorem dX8_seed_4 : decode cX8_seed 4 = .ok (.iconst (-1), 1) := dTa tdX8_seed_0 2 rfl
theorem dX8_seed_5 : decode cX8_seed 5 = .ok (.ireturn, 1) := dTa tdX8_seed_0 3 rfl
theorem dX8_seed_6 : decode cX8_seed 6 = .ok (.aload_n 0, 1) := dTa tdX8_seed_0 4 rfl
theorem dX8_seed_7 : decode cX8_seed 7 = .ok (.getfield 29, 3) := dTa tdX8_seed_0 5 rfl
theorem dX8_seed_10 : decode cX8_seed 10 = .ok (.getfield 292, 3) := dTa tdX8_seed_0 6 rfl
theorem dX8_seed_13 : decode cX8_seed 13 = .ok (.istore_n 2, 1) := dTa tdX8_seed_0 7 rfl
theorem dX8_seed_14 : decode cX8_seed 14 = .ok (.aload_n 0, 1) := dTa tdX8_seed_0 8 rfl
theorem dX8_seed_15 : decode cX8_seed 15 = .ok (.getfield 29, 3) := dTa tdX8_seed_0 9 rfl
theorem dX8_seed_18 : decode cX8_seed 18 = .ok (.iload_n 1, 1) := dTa tdX8_seed_0 10 rfl
theorem dX8_seed_19 : decode cX8_seed 19 = .ok (.putfield 292, 3) := dTa tdX8_seed_0 11 rfl
theorem dX8_seed_22 : decode cX8_seed 22 = .ok (.iload_n 2, 1) := dTa tdX8_seed_0 12 rfl
theorem dX8_seed_23 : decode cX8_seed 23 = .ok (.ireturn, 1) := dTa tdX8_seed_0 13 rfl
set_option maxRecDepth 100000 in
theorem tdX8_strung_0 : dTb cX8_strung [(0, .aload_n 0, 1), (1, .getfield 29, 3), (4, .getfield 81, 3), (7, .astore_n 2, 1), (8, .aload_n 2, 1), (9, .iload_n 1, 1), (10, .invokevirtual 122, 3), (13, .ifCond .ne 5, 3), (16, .iconst (-1), 1), (17, .ireturn, 1), (18, .iconst 0, 1), (19, .istore_n 3, 1), (20, .iconst 0, 1), (21, .istore 4, 2), (23, .iload 4, 2), (25, .aload_n 2, 1), (26, .getfield 247, 3), (29, .if_icmp .ge 30, 3), (32, .aload_n 0, 1), (33, .aload_n 0, 1), (34, .invokevirtual 160, 3), (37, .iload_n 1, 1), (38, .iload 4, 2), (40, .invokevirtual 250, 3), (43, .ifCond .eq 10, 3), (46, .iload_n 3, 1), (47, .iconst 1, 1), (48, .iload 4, 2), (50, .ishl, 1), (51, .ior, 1), (52, .istore_n 3, 1), (53, .iinc 4 1, 3), (56, .goto (-33), 3), (59, .iload_n 3, 1), (60, .ireturn, 1)] = true := by decide +kernel
theorem dX8_strung_0 : decode cX8_strung 0 = .ok (.aload_n 0, 1) := dTa tdX8_strung_0 0 rfl
theorem dX8_strung_1 : decode cX8_strung 1 = .ok (.getfield 29, 3) := dTa tdX8_strung_0 1 rfl
theorem dX8_strung_4 : decode cX8_strung 4 = .ok (.getfield 81, 3) := dTa tdX8_strung_0 2 rfl
theorem dX8_strung_7 : decode cX8_strung 7 = .ok (.astore_n 2, 1) := dTa tdX8_strung_0 3 rfl
theorem dX8_strung_8 : decode cX8_strung 8 = .ok (.aload_n 2, 1) := dTa tdX8_strung_0 4 rfl
theorem dX8_strung_9 : decode cX8_strung 9 = .ok (.iload_n 1, 1) := dTa tdX8_strung_0 5 rfl
theorem dX8_strung_10 : decode cX8_strung 10 = .ok (.invokevirtual 122, 3) := dTa tdX8_strung_0 6 rfl
theorem dX8_strung_13 : decode cX8_strung 13 = .ok (.ifCond .ne 5, 3) := dTa tdX8_strung_0 7 rfl
theorem dX8_strung_16 : decode cX8_strung 16 = .ok (.iconst (-1), 1) := dTa tdX8_strung_0 8 rfl
theorem dX8_strung_17 : decode cX8_strung 17 = .ok (.ireturn, 1) := dTa tdX8_strung_0 9 rfl
theorem dX8_strung_18 : decode cX8_strung 18 = .ok (.iconst 0, 1) := dTa tdX8_strung_0 10 rfl
theorem dX8_strung_19 : decode cX8_strung 19 = .ok (.istore_n 3, 1) := dTa tdX8_strung_0 11 rfl
theorem dX8_strung_20 : decode cX8_strung 20 = .ok (.iconst 0, 1) := dTa tdX8_strung_0 12 rfl
theorem dX8_strung_21 : decode cX8_strung 21 = .ok (.istore 4, 2) := dTa tdX8_strung_0 13 rfl
theorem dX8_strung_23 : decode cX8_strung 23 = .ok (.iload 4, 2) := dTa tdX8_strung_0 14 rfl
theorem dX8_strung_25 : decode cX8_strung 25 = .ok (.aload_n 2, 1) := dTa tdX8_strung_0 15 rfl
theorem dX8_strung_26 : decode cX8_strung 26 = .ok (.getfield 247, 3) := dTa tdX8_strung_0 16 rfl
theorem dX8_strung_29 : decode cX8_strung 29 = .ok (.if_icmp .ge 30, 3) := dTa tdX8_strung_0 17 rfl
theorem dX8_strung_32 : decode cX8_strung 32 = .ok (.aload_n 0, 1) := dTa tdX8_strung_0 18 rfl
theorem dX8_strung_33 : decode cX8_strung 33 = .ok (.aload_n 0, 1) := dTa tdX8_strung_0 19 rfl
theorem dX8_strung_34 : decode cX8_strung 34 = .ok (.invokevirtual 160, 3) := dTa tdX8_strung_0 20 rfl
theorem dX8_strung_37 : decode cX8_strung 37 = .ok (.iload_n 1, 1) := dTa tdX8_strung_0 21 rfl
theorem dX8_strung_38 : decode cX8_strung 38 = .ok (.iload 4, 2) := dTa tdX8_strung_0 22 rfl
theorem dX8_strung_40 : decode cX8_strung 40 = .ok (.invokevirtual 250, 3) := dTa tdX8_strung_0 23 rfl
theorem dX8_strung_43 : decode cX8_strung 43 = .ok (.ifCond .eq 10, 3) := dTa tdX8_strung_0 24 rfl
theorem dX8_strung_46 : decode cX8_strung 46 = .ok (.iload_n 3, 1) := dTa tdX8_strung_0 25 rfl
theorem dX8_strung_47 : decode cX8_strung 47 = .ok (.iconst 1, 1) := dTa tdX8_strung_0 26 rfl
theorem dX8_strung_48 : decode cX8_strung 48 = .ok (.iload 4, 2) := dTa tdX8_strung_0 27 rfl
theorem dX8_strung_50 : decode cX8_strung 50 = .ok (.ishl, 1) := dTa tdX8_strung_0 28 rfl
theorem dX8_strung_51 : decode cX8_strung 51 = .ok (.ior, 1) := dTa tdX8_strung_0 29 rfl
theorem dX8_strung_52 : decode cX8_strung 52 = .ok (.istore_n 3, 1) := dTa tdX8_strung_0 30 rfl
theorem dX8_strung_53 : decode cX8_strung 53 = .ok (.iinc 4 1, 3) := dTa tdX8_strung_0 31 rfl
theorem dX8_strung_56 : decode cX8_strung 56 = .ok (.goto (-33), 3) := dTa tdX8_strung_0 32 rfl
theorem dX8_strung_59 : decode cX8_strung 59 = .ok (.iload_n 3, 1) := dTa tdX8_strung_0 33 rfl
theorem dX8_strung_60 : decode cX8_strung 60 = .ok (.ireturn, 1) := dTa tdX8_strung_0 34 rfl
set_option maxRecDepth 100000 in
theorem tdX8_tallyStates_0 : dTb cX8_tallyStates [(0, .iconst 0, 1), (1, .istore_n 2, 1), (2, .aload_n 0, 1), (3, .getfield 61, 3), (6, .iconst 0, 1), (7, .invokestatic 264, 3), (10, .iconst (-1), 1), (11, .istore_n 3, 1), (12, .iload_n 3, 1), (13, .aload_n 0, 1), (14, .getfield 22, 3), (17, .if_icmp .ge 88, 3), (20, .aload_n 0, 1), (21, .iload_n 3, 1), (22, .invokevirtual 254, 3), (25, .astore 4, 2), (27, .aload_n 0, 1), (28, .aload 4, 2), (30, .iconst (-1), 1), (31, .iconst (-1), 1), (32, .invokevirtual 250, 3), (35, .ifCond .eq 64, 3), (38, .iinc 2 1, 3), (41, .aload_n 0, 1), (42, .invokevirtual 270, 3), (45, .aload_n 0, 1), (46, .getfield 44, 3), (49, .iload_n 1, 1), (50, .aload 4, 2), (52, .invokevirtual 193, 3), (55, .iconst 0, 1), (56, .istore 5, 2), (58, .iload 5, 2), (60, .aload_n 0, 1), (61, .getfield 44, 3), (64, .getfield 104, 3), (67, .if_icmp .ge 32, 3), (70, .aload_n 0, 1), (71, .getfield 61, 3), (74, .iload 5, 2)] = true := by decide +kernel
theorem dX8_tallyStates_0 : decode cX8_tallyStates 0 = .ok (.iconst 0, 1) := dTa tdX8_tallyStates_0 0 rfl
theorem dX8_tallyStates_1 : decode cX8_tallyStates 1 = .ok (.istore_n 2, 1) := dTa tdX8_tallyStates_0 1 rfl
theorem dX8_tallyStates_2 : decode cX8_tallyStates 2 = .ok (.aload_n 0, 1) := dTa tdX8_tallyStates_0 2 rfl
theorem dX8_tallyStates_3 : decode cX8_tallyStates 3 = .ok (.getfield 61, 3) := dTa tdX8_tallyStates_0 3 rfl
theorem dX8_tallyStates_6 : decode cX8_tallyStates 6 = .ok (.iconst 0, 1) := dTa tdX8_tallyStates_0 4 rfl
theorem dX8_tallyStates_7 : decode cX8_tallyStates 7 = .ok (.invokestatic 264, 3) := dTa tdX8_tallyStates_0 5 rfl
theorem dX8_tallyStates_10 : decode cX8_tallyStates 10 = .ok (.iconst (-1), 1) := dTa tdX8_tallyStates_0 6 rfl
theorem dX8_tallyStates_11 : decode cX8_tallyStates 11 = .ok (.istore_n 3, 1) := dTa tdX8_tallyStates_0 7 rfl
theorem dX8_tallyStates_12 : decode cX8_tallyStates 12 = .ok (.iload_n 3, 1) := dTa tdX8_tallyStates_0 8 rfl
theorem dX8_tallyStates_13 : decode cX8_tallyStates 13 = .ok (.aload_n 0, 1) := dTa tdX8_tallyStates_0 9 rfl
theorem dX8_tallyStates_14 : decode cX8_tallyStates 14 = .ok (.getfield 22, 3) := dTa tdX8_tallyStates_0 10 rfl
theorem dX8_tallyStates_17 : decode cX8_tallyStates 17 = .ok (.if_icmp .ge 88, 3) := dTa tdX8_tallyStates_0 11 rfl
theorem dX8_tallyStates_20 : decode cX8_tallyStates 20 = .ok (.aload_n 0, 1) := dTa tdX8_tallyStates_0 12 rfl
theorem dX8_tallyStates_21 : decode cX8_tallyStates 21 = .ok (.iload_n 3, 1) := dTa tdX8_tallyStates_0 13 rfl
theorem dX8_tallyStates_22 : decode cX8_tallyStates 22 = .ok (.invokevirtual 254, 3) := dTa tdX8_tallyStates_0 14 rfl
theorem dX8_tallyStates_25 : decode cX8_tallyStates 25 = .ok (.astore 4, 2) := dTa tdX8_tallyStates_0 15 rfl
theorem dX8_tallyStates_27 : decode cX8_tallyStates 27 = .ok (.aload_n 0, 1) := dTa tdX8_tallyStates_0 16 rfl
theorem dX8_tallyStates_28 : decode cX8_tallyStates 28 = .ok (.aload 4, 2) := dTa tdX8_tallyStates_0 17 rfl
theorem dX8_tallyStates_30 : decode cX8_tallyStates 30 = .ok (.iconst (-1), 1) := dTa tdX8_tallyStates_0 18 rfl
theorem dX8_tallyStates_31 : decode cX8_tallyStates 31 = .ok (.iconst (-1), 1) := dTa tdX8_tallyStates_0 19 rfl
theorem dX8_tallyStates_32 : decode cX8_tallyStates 32 = .ok (.invokevirtual 250, 3) := dTa tdX8_tallyStates_0 20 rfl
theorem dX8_tallyStates_35 : decode cX8_tallyStates 35 = .ok (.ifCond .eq 64, 3) := dTa tdX8_tallyStates_0 21 rfl
theorem dX8_tallyStates_38 : decode cX8_tallyStates 38 = .ok (.iinc 2 1, 3) := dTa tdX8_tallyStates_0 22 rfl
theorem dX8_tallyStates_41 : decode cX8_tallyStates 41 = .ok (.aload_n 0, 1) := dTa tdX8_tallyStates_0 23 rfl
theorem dX8_tallyStates_42 : decode cX8_tallyStates 42 = .ok (.invokevirtual 270, 3) := dTa tdX8_tallyStates_0 24 rfl
theorem dX8_tallyStates_45 : decode cX8_tallyStates 45 = .ok (.aload_n 0, 1) := dTa tdX8_tallyStates_0 25 rfl
theorem dX8_tallyStates_46 : decode cX8_tallyStates 46 = .ok (.getfield 44, 3) := dTa tdX8_tallyStates_0 26 rfl
theorem dX8_tallyStates_49 : decode cX8_tallyStates 49 = .ok (.iload_n 1, 1) := dTa tdX8_tallyStates_0 27 rfl
theorem dX8_tallyStates_50 : decode cX8_tallyStates 50 = .ok (.aload 4, 2) := dTa tdX8_tallyStates_0 28 rfl
theorem dX8_tallyStates_52 : decode cX8_tallyStates 52 = .ok (.invokevirtual 193, 3) := dTa tdX8_tallyStates_0 29 rfl
theorem dX8_tallyStates_55 : decode cX8_tallyStates 55 = .ok (.iconst 0, 1) := dTa tdX8_tallyStates_0 30 rfl
theorem dX8_tallyStates_56 : decode cX8_tallyStates 56 = .ok (.istore 5, 2) := dTa tdX8_tallyStates_0 31 rfl
theorem dX8_tallyStates_58 : decode cX8_tallyStates 58 = .ok (.iload 5, 2) := dTa tdX8_tallyStates_0 32 rfl
theorem dX8_tallyStates_60 : decode cX8_tallyStates 60 = .ok (.aload_n 0, 1) := dTa tdX8_tallyStates_0 33 rfl
theorem dX8_tallyStates_61 : decode cX8_tallyStates 61 = .ok (.getfield 44, 3) := dTa tdX8_tallyStates_0 34 rfl
theorem dX8_tallyStates_64 : decode cX8_tallyStates 64 = .ok (.getfield 104, 3) := dTa tdX8_tallyStates_0 35 rfl
theorem dX8_tallyStates_67 : decode cX8_tallyStates 67 = .ok (.if_icmp .ge 32, 3) := dTa tdX8_tallyStates_0 36 rfl
theorem dX8_tallyStates_70 : decode cX8_tallyStates 70 = .ok (.aload_n 0, 1) := dTa tdX8_tallyStates_0 37 rfl
theorem dX8_tallyStates_71 : decode cX8_tallyStates 71 = .ok (.getfield 61, 3) := dTa tdX8_tallyStates_0 38 rfl
theorem dX8_tallyStates_74 : decode cX8_tallyStates 74 = .ok (.iload 5, 2) := dTa tdX8_tallyStates_0 39 rfl
set_option maxRecDepth 100000 in
theorem tdX8_tallyStates_76 : dTb cX8_tallyStates [(76, .iconst 3, 1), (77, .imul, 1), (78, .aload_n 0, 1), (79, .getfield 44, 3), (82, .iload 5, 2), (84, .invokevirtual 147, 3), (87, .iadd, 1), (88, .dup2, 1), (89, .iaload, 1), (90, .iconst 1, 1), (91, .iadd, 1), (92, .iastore, 1), (93, .iinc 5 1, 3), (96, .goto (-38), 3), (99, .iinc 3 1, 3), (102, .goto (-90), 3), (105, .iload_n 2, 1), (106, .ireturn, 1)] = true := by decide +kernel
theorem dX8_tallyStates_76 : decode cX8_tallyStates 76 = .ok (.iconst 3, 1) := dTa tdX8_tallyStates_76 0 rfl
theorem dX8_tallyStates_77 : decode cX8_tallyStates 77 = .ok (.imul, 1) := dTa tdX8_tallyStates_76 1 rfl
theorem dX8_tallyStates_78 : decode cX8_tallyStates 78 = .ok (.aload_n 0, 1) := dTa tdX8_tallyStates_76 2 rfl
theorem dX8_tallyStates_79 : decode cX8_tallyStates 79 = .ok (.getfield 44, 3) := dTa tdX8_tallyStates_76 3 rfl
theorem dX8_tallyStates_82 : decode cX8_tallyStates 82 = .ok (.iload 5, 2) := dTa tdX8_tallyStates_76 4 rfl
theorem dX8_tallyStates_84 : decode cX8_tallyStates 84 = .ok (.invokevirtual 147, 3) := dTa tdX8_tallyStates_76 5 rfl
theorem dX8_tallyStates_87 : decode cX8_tallyStates 87 = .ok (.iadd, 1) := dTa tdX8_tallyStates_76 6 rfl
theorem dX8_tallyStates_88 : decode cX8_tallyStates 88 = .ok (.dup2, 1) := dTa tdX8_tallyStates_76 7 rfl
theorem dX8_tallyStates_89 : decode cX8_tallyStates 89 = .ok (.iaload, 1) := dTa tdX8_tallyStates_76 8 rfl
theorem dX8_tallyStates_90 : decode cX8_tallyStates 90 = .ok (.iconst 1, 1) := dTa tdX8_tallyStates_76 9 rfl
theorem dX8_tallyStates_91 : decode cX8_tallyStates 91 = .ok (.iadd, 1) := dTa tdX8_tallyStates_76 10 rfl
theorem dX8_tallyStates_92 : decode cX8_tallyStates 92 = .ok (.iastore, 1) := dTa tdX8_tallyStates_76 11 rfl
theorem dX8_tallyStates_93 : decode cX8_tallyStates 93 = .ok (.iinc 5 1, 3) := dTa tdX8_tallyStates_76 12 rfl
theorem dX8_tallyStates_96 : decode cX8_tallyStates 96 = .ok (.goto (-38), 3) := dTa tdX8_tallyStates_76 13 rfl
theorem dX8_tallyStates_99 : decode cX8_tallyStates 99 = .ok (.iinc 3 1, 3) := dTa tdX8_tallyStates_76 14 rfl
theorem dX8_tallyStates_102 : decode cX8_tallyStates 102 = .ok (.goto (-90), 3) := dTa tdX8_tallyStates_76 15 rfl
theorem dX8_tallyStates_105 : decode cX8_tallyStates 105 = .ok (.iload_n 2, 1) := dTa tdX8_tallyStates_76 16 rfl
theorem dX8_tallyStates_106 : decode cX8_tallyStates 106 = .ok (.ireturn, 1) := dTa tdX8_tallyStates_76 17 rfl
set_option maxRecDepth 100000 in
theorem tdX8_toasts_0 : dTb cX8_toasts [(0, .aload_n 0, 1), (1, .getfield 29, 3), (4, .getfield 81, 3), (7, .getfield 150, 3), (10, .ifCond .eq 25, 3), (13, .iload_n 1, 1), (14, .iconst 1, 1), (15, .if_icmp .lt 20, 3), (18, .iload_n 1, 1), (19, .bipush 10, 2), (21, .if_icmp .gt 14, 3), (24, .iload_n 2, 1), (25, .iconst 1, 1), (26, .if_icmp .lt 9, 3), (29, .iload_n 2, 1), (30, .bipush 60, 2), (32, .if_icmp .le 5, 3), (35, .iconst (-1), 1), (36, .ireturn, 1), (37, .iload_n 3, 1), (38, .ifCond .lt 20, 3), (41, .iload_n 3, 1), (42, .bipush 100, 2), (44, .if_icmp .gt 14, 3), (47, .iload 4, 2), (49, .ifCond .lt 9, 3), (52, .iload 4, 2), (54, .iconst 1, 1), (55, .if_icmp .le 5, 3), (58, .iconst (-1), 1), (59, .ireturn, 1), (60, .aload_n 0, 1), (61, .getfield 29, 3), (64, .getfield 292, 3), (67, .istore 5, 2), (69, .iconst 0, 1), (70, .istore 6, 2), (72, .iconst 0, 1), (73, .istore 7, 2), (75, .iload 7, 2)] = true := by decide +kernel
theorem dX8_toasts_0 : decode cX8_toasts 0 = .ok (.aload_n 0, 1) := dTa tdX8_toasts_0 0 rfl
theorem dX8_toasts_1 : decode cX8_toasts 1 = .ok (.getfield 29, 3) := dTa tdX8_toasts_0 1 rfl
theorem dX8_toasts_4 : decode cX8_toasts 4 = .ok (.getfield 81, 3) := dTa tdX8_toasts_0 2 rfl
theorem dX8_toasts_7 : decode cX8_toasts 7 = .ok (.getfield 150, 3) := dTa tdX8_toasts_0 3 rfl
theorem dX8_toasts_10 : decode cX8_toasts 10 = .ok (.ifCond .eq 25, 3) := dTa tdX8_toasts_0 4 rfl
theorem dX8_toasts_13 : decode cX8_toasts 13 = .ok (.iload_n 1, 1) := dTa tdX8_toasts_0 5 rfl
theorem dX8_toasts_14 : decode cX8_toasts 14 = .ok (.iconst 1, 1) := dTa tdX8_toasts_0 6 rfl
theorem dX8_toasts_15 : decode cX8_toasts 15 = .ok (.if_icmp .lt 20, 3) := dTa tdX8_toasts_0 7 rfl
theorem dX8_toasts_18 : decode cX8_toasts 18 = .ok (.iload_n 1, 1) := dTa tdX8_toasts_0 8 rfl
theorem dX8_toasts_19 : decode cX8_toasts 19 = .ok (.bipush 10, 2) := dTa tdX8_toasts_0 9 rfl
