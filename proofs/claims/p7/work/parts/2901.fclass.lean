/-! 29, 1 -/
theorem dX8_pence_104 : decode cX8_pence 104 = .ok (.iload 4, 2) := dTa tdX8_pence_71 18 rfl
theorem dX8_pence_106 : decode cX8_pence 106 = .ok (.irem, 1) := dTa tdX8_pence_71 19 rfl
theorem dX8_pence_107 : decode cX8_pence 107 = .ok (.iload 5, 2) := dTa tdX8_pence_71 20 rfl
theorem dX8_pence_109 : decode cX8_pence 109 = .ok (.iload 4, 2) := dTa tdX8_pence_71 21 rfl
theorem dX8_pence_111 : decode cX8_pence 111 = .ok (.irem, 1) := dTa tdX8_pence_71 22 rfl
theorem dX8_pence_112 : decode cX8_pence 112 = .ok (.if_icmp .ne 12, 3) := dTa tdX8_pence_71 23 rfl
theorem dX8_pence_115 : decode cX8_pence 115 = .ok (.iload 8, 2) := dTa tdX8_pence_71 24 rfl
theorem dX8_pence_117 : decode cX8_pence 117 = .ok (.iload_n 2, 1) := dTa tdX8_pence_71 25 rfl
theorem dX8_pence_118 : decode cX8_pence 118 = .ok (.if_icmp .ge 6, 3) := dTa tdX8_pence_71 26 rfl
theorem dX8_pence_121 : decode cX8_pence 121 = .ok (.iinc 7 1, 3) := dTa tdX8_pence_71 27 rfl
theorem dX8_pence_124 : decode cX8_pence 124 = .ok (.iinc 8 1, 3) := dTa tdX8_pence_71 28 rfl
theorem dX8_pence_127 : decode cX8_pence 127 = .ok (.goto (-67), 3) := dTa tdX8_pence_71 29 rfl
theorem dX8_pence_130 : decode cX8_pence 130 = .ok (.iload 5, 2) := dTa tdX8_pence_71 30 rfl
theorem dX8_pence_132 : decode cX8_pence 132 = .ok (.iload 4, 2) := dTa tdX8_pence_71 31 rfl
theorem dX8_pence_134 : decode cX8_pence 134 = .ok (.idiv, 1) := dTa tdX8_pence_71 32 rfl
theorem dX8_pence_135 : decode cX8_pence 135 = .ok (.iload 7, 2) := dTa tdX8_pence_71 33 rfl
theorem dX8_pence_137 : decode cX8_pence 137 = .ok (.iload 6, 2) := dTa tdX8_pence_71 34 rfl
theorem dX8_pence_139 : decode cX8_pence 139 = .ok (.if_icmp .ge 7, 3) := dTa tdX8_pence_71 35 rfl
theorem dX8_pence_142 : decode cX8_pence 142 = .ok (.iconst 1, 1) := dTa tdX8_pence_71 36 rfl
theorem dX8_pence_143 : decode cX8_pence 143 = .ok (.goto 4, 3) := dTa tdX8_pence_71 37 rfl
theorem dX8_pence_146 : decode cX8_pence 146 = .ok (.iconst 0, 1) := dTa tdX8_pence_71 38 rfl
theorem dX8_pence_147 : decode cX8_pence 147 = .ok (.iadd, 1) := dTa tdX8_pence_71 39 rfl
set_option maxRecDepth 100000 in
theorem tdX8_pence_148 : dTb cX8_pence [(148, .ireturn, 1)] = true := by decide +kernel
theorem dX8_pence_148 : decode cX8_pence 148 = .ok (.ireturn, 1) := dTa tdX8_pence_148 0 rfl
set_option maxRecDepth 100000 in
theorem tdX8_ring_0 : dTb cX8_ring [(0, .aload_n 0, 1), (1, .getfield 29, 3), (4, .getfield 81, 3), (7, .getfield 150, 3), (10, .ifCond .eq 12, 3), (13, .iload_n 1, 1), (14, .ifCond .lt 8, 3), (17, .iload_n 1, 1), (18, .iconst 1, 1), (19, .if_icmp .le 5, 3), (22, .iconst (-1), 1), (23, .ireturn, 1), (24, .aload_n 0, 1), (25, .invokevirtual 197, 3), (28, .iconst 0, 1), (29, .istore_n 2, 1), (30, .iload_n 2, 1), (31, .bipush 60, 2), (33, .if_icmp .ge 63, 3), (36, .iload_n 2, 1), (37, .iconst 1, 1), (38, .iadd, 1), (39, .istore_n 3, 1), (40, .iload_n 3, 1), (41, .bipush 60, 2), (43, .if_icmp .gt 47, 3), (46, .aload_n 0, 1), (47, .getfield 58, 3), (50, .iload_n 2, 1), (51, .iaload, 1), (52, .aload_n 0, 1), (53, .getfield 58, 3), (56, .iload_n 3, 1), (57, .iaload, 1), (58, .if_icmp .ne 26, 3), (61, .iload_n 1, 1), (62, .ifCond .ne 18, 3), (65, .aload_n 0, 1), (66, .getfield 29, 3), (69, .getfield 81, 3)] = true := by decide +kernel
theorem dX8_ring_0 : decode cX8_ring 0 = .ok (.aload_n 0, 1) := dTa tdX8_ring_0 0 rfl
theorem dX8_ring_1 : decode cX8_ring 1 = .ok (.getfield 29, 3) := dTa tdX8_ring_0 1 rfl
theorem dX8_ring_4 : decode cX8_ring 4 = .ok (.getfield 81, 3) := dTa tdX8_ring_0 2 rfl
theorem dX8_ring_7 : decode cX8_ring 7 = .ok (.getfield 150, 3) := dTa tdX8_ring_0 3 rfl
theorem dX8_ring_10 : decode cX8_ring 10 = .ok (.ifCond .eq 12, 3) := dTa tdX8_ring_0 4 rfl
theorem dX8_ring_13 : decode cX8_ring 13 = .ok (.iload_n 1, 1) := dTa tdX8_ring_0 5 rfl
theorem dX8_ring_14 : decode cX8_ring 14 = .ok (.ifCond .lt 8, 3) := dTa tdX8_ring_0 6 rfl
theorem dX8_ring_17 : decode cX8_ring 17 = .ok (.iload_n 1, 1) := dTa tdX8_ring_0 7 rfl
theorem dX8_ring_18 : decode cX8_ring 18 = .ok (.iconst 1, 1) := dTa tdX8_ring_0 8 rfl
theorem dX8_ring_19 : decode cX8_ring 19 = .ok (.if_icmp .le 5, 3) := dTa tdX8_ring_0 9 rfl
theorem dX8_ring_22 : decode cX8_ring 22 = .ok (.iconst (-1), 1) := dTa tdX8_ring_0 10 rfl
theorem dX8_ring_23 : decode cX8_ring 23 = .ok (.ireturn, 1) := dTa tdX8_ring_0 11 rfl
theorem dX8_ring_24 : decode cX8_ring 24 = .ok (.aload_n 0, 1) := dTa tdX8_ring_0 12 rfl
theorem dX8_ring_25 : decode cX8_ring 25 = .ok (.invokevirtual 197, 3) := dTa tdX8_ring_0 13 rfl
theorem dX8_ring_28 : decode cX8_ring 28 = .ok (.iconst 0, 1) := dTa tdX8_ring_0 14 rfl
theorem dX8_ring_29 : decode cX8_ring 29 = .ok (.istore_n 2, 1) := dTa tdX8_ring_0 15 rfl
theorem dX8_ring_30 : decode cX8_ring 30 = .ok (.iload_n 2, 1) := dTa tdX8_ring_0 16 rfl
theorem dX8_ring_31 : decode cX8_ring 31 = .ok (.bipush 60, 2) := dTa tdX8_ring_0 17 rfl
theorem dX8_ring_33 : decode cX8_ring 33 = .ok (.if_icmp .ge 63, 3) := dTa tdX8_ring_0 18 rfl
theorem dX8_ring_36 : decode cX8_ring 36 = .ok (.iload_n 2, 1) := dTa tdX8_ring_0 19 rfl
theorem dX8_ring_37 : decode cX8_ring 37 = .ok (.iconst 1, 1) := dTa tdX8_ring_0 20 rfl
theorem dX8_ring_38 : decode cX8_ring 38 = .ok (.iadd, 1) := dTa tdX8_ring_0 21 rfl
theorem dX8_ring_39 : decode cX8_ring 39 = .ok (.istore_n 3, 1) := dTa tdX8_ring_0 22 rfl
theorem dX8_ring_40 : decode cX8_ring 40 = .ok (.iload_n 3, 1) := dTa tdX8_ring_0 23 rfl
theorem dX8_ring_41 : decode cX8_ring 41 = .ok (.bipush 60, 2) := dTa tdX8_ring_0 24 rfl
theorem dX8_ring_43 : decode cX8_ring 43 = .ok (.if_icmp .gt 47, 3) := dTa tdX8_ring_0 25 rfl
theorem dX8_ring_46 : decode cX8_ring 46 = .ok (.aload_n 0, 1) := dTa tdX8_ring_0 26 rfl
theorem dX8_ring_47 : decode cX8_ring 47 = .ok (.getfield 58, 3) := dTa tdX8_ring_0 27 rfl
theorem dX8_ring_50 : decode cX8_ring 50 = .ok (.iload_n 2, 1) := dTa tdX8_ring_0 28 rfl
theorem dX8_ring_51 : decode cX8_ring 51 = .ok (.iaload, 1) := dTa tdX8_ring_0 29 rfl
theorem dX8_ring_52 : decode cX8_ring 52 = .ok (.aload_n 0, 1) := dTa tdX8_ring_0 30 rfl
theorem dX8_ring_53 : decode cX8_ring 53 = .ok (.getfield 58, 3) := dTa tdX8_ring_0 31 rfl
theorem dX8_ring_56 : decode cX8_ring 56 = .ok (.iload_n 3, 1) := dTa tdX8_ring_0 32 rfl
theorem dX8_ring_57 : decode cX8_ring 57 = .ok (.iaload, 1) := dTa tdX8_ring_0 33 rfl
theorem dX8_ring_58 : decode cX8_ring 58 = .ok (.if_icmp .ne 26, 3) := dTa tdX8_ring_0 34 rfl
theorem dX8_ring_61 : decode cX8_ring 61 = .ok (.iload_n 1, 1) := dTa tdX8_ring_0 35 rfl
theorem dX8_ring_62 : decode cX8_ring 62 = .ok (.ifCond .ne 18, 3) := dTa tdX8_ring_0 36 rfl
theorem dX8_ring_65 : decode cX8_ring 65 = .ok (.aload_n 0, 1) := dTa tdX8_ring_0 37 rfl
theorem dX8_ring_66 : decode cX8_ring 66 = .ok (.getfield 29, 3) := dTa tdX8_ring_0 38 rfl
theorem dX8_ring_69 : decode cX8_ring 69 = .ok (.getfield 81, 3) := dTa tdX8_ring_0 39 rfl
set_option maxRecDepth 100000 in
theorem tdX8_ring_72 : dTb cX8_ring [(72, .getfield 154, 3), (75, .iload_n 2, 1), (76, .iadd, 1), (77, .goto 6, 3), (80, .iload_n 3, 1), (81, .iload_n 2, 1), (82, .isub, 1), (83, .ireturn, 1), (84, .iinc 3 1, 3), (87, .goto (-47), 3), (90, .iinc 2 1, 3), (93, .goto (-63), 3), (96, .bipush (-2), 2), (98, .ireturn, 1)] = true := by decide +kernel
theorem dX8_ring_72 : decode cX8_ring 72 = .ok (.getfield 154, 3) := dTa tdX8_ring_72 0 rfl
theorem dX8_ring_75 : decode cX8_ring 75 = .ok (.iload_n 2, 1) := dTa tdX8_ring_72 1 rfl
theorem dX8_ring_76 : decode cX8_ring 76 = .ok (.iadd, 1) := dTa tdX8_ring_72 2 rfl
theorem dX8_ring_77 : decode cX8_ring 77 = .ok (.goto 6, 3) := dTa tdX8_ring_72 3 rfl
theorem dX8_ring_80 : decode cX8_ring 80 = .ok (.iload_n 3, 1) := dTa tdX8_ring_72 4 rfl
theorem dX8_ring_81 : decode cX8_ring 81 = .ok (.iload_n 2, 1) := dTa tdX8_ring_72 5 rfl
theorem dX8_ring_82 : decode cX8_ring 82 = .ok (.isub, 1) := dTa tdX8_ring_72 6 rfl
theorem dX8_ring_83 : decode cX8_ring 83 = .ok (.ireturn, 1) := dTa tdX8_ring_72 7 rfl
theorem dX8_ring_84 : decode cX8_ring 84 = .ok (.iinc 3 1, 3) := dTa tdX8_ring_72 8 rfl
theorem dX8_ring_87 : decode cX8_ring 87 = .ok (.goto (-47), 3) := dTa tdX8_ring_72 9 rfl
theorem dX8_ring_90 : decode cX8_ring 90 = .ok (.iinc 2 1, 3) := dTa tdX8_ring_72 10 rfl
theorem dX8_ring_93 : decode cX8_ring 93 = .ok (.goto (-63), 3) := dTa tdX8_ring_72 11 rfl
theorem dX8_ring_96 : decode cX8_ring 96 = .ok (.bipush (-2), 2) := dTa tdX8_ring_72 12 rfl
theorem dX8_ring_98 : decode cX8_ring 98 = .ok (.ireturn, 1) := dTa tdX8_ring_72 13 rfl
set_option maxRecDepth 100000 in
theorem tdX8_rise_0 : dTb cX8_rise [(0, .aload_n 0, 1), (1, .getfield 29, 3), (4, .getfield 81, 3), (7, .iload_n 1, 1), (8, .invokevirtual 176, 3), (11, .ifCond .ne 5, 3), (14, .iconst (-1), 1), (15, .ireturn, 1), (16, .aload_n 0, 1), (17, .getfield 29, 3), (20, .getfield 88, 3), (23, .aload_n 0, 1), (24, .getfield 29, 3), (27, .getfield 81, 3), (30, .invokevirtual 157, 3), (33, .aload_n 0, 1), (34, .getfield 29, 3), (37, .getfield 81, 3), (40, .iload_n 1, 1), (41, .iconst 0, 1), (42, .invokevirtual 168, 3), (45, .aload_n 0, 1), (46, .getfield 29, 3), (49, .getfield 81, 3), (52, .invokevirtual 172, 3), (55, .ireturn, 1)] = true := by decide +kernel
theorem dX8_rise_0 : decode cX8_rise 0 = .ok (.aload_n 0, 1) := dTa tdX8_rise_0 0 rfl
theorem dX8_rise_1 : decode cX8_rise 1 = .ok (.getfield 29, 3) := dTa tdX8_rise_0 1 rfl
theorem dX8_rise_4 : decode cX8_rise 4 = .ok (.getfield 81, 3) := dTa tdX8_rise_0 2 rfl
theorem dX8_rise_7 : decode cX8_rise 7 = .ok (.iload_n 1, 1) := dTa tdX8_rise_0 3 rfl
theorem dX8_rise_8 : decode cX8_rise 8 = .ok (.invokevirtual 176, 3) := dTa tdX8_rise_0 4 rfl
theorem dX8_rise_11 : decode cX8_rise 11 = .ok (.ifCond .ne 5, 3) := dTa tdX8_rise_0 5 rfl
theorem dX8_rise_14 : decode cX8_rise 14 = .ok (.iconst (-1), 1) := dTa tdX8_rise_0 6 rfl
theorem dX8_rise_15 : decode cX8_rise 15 = .ok (.ireturn, 1) := dTa tdX8_rise_0 7 rfl
theorem dX8_rise_16 : decode cX8_rise 16 = .ok (.aload_n 0, 1) := dTa tdX8_rise_0 8 rfl
theorem dX8_rise_17 : decode cX8_rise 17 = .ok (.getfield 29, 3) := dTa tdX8_rise_0 9 rfl
theorem dX8_rise_20 : decode cX8_rise 20 = .ok (.getfield 88, 3) := dTa tdX8_rise_0 10 rfl
theorem dX8_rise_23 : decode cX8_rise 23 = .ok (.aload_n 0, 1) := dTa tdX8_rise_0 11 rfl
theorem dX8_rise_24 : decode cX8_rise 24 = .ok (.getfield 29, 3) := dTa tdX8_rise_0 12 rfl
theorem dX8_rise_27 : decode cX8_rise 27 = .ok (.getfield 81, 3) := dTa tdX8_rise_0 13 rfl
theorem dX8_rise_30 : decode cX8_rise 30 = .ok (.invokevirtual 157, 3) := dTa tdX8_rise_0 14 rfl
theorem dX8_rise_33 : decode cX8_rise 33 = .ok (.aload_n 0, 1) := dTa tdX8_rise_0 15 rfl
theorem dX8_rise_34 : decode cX8_rise 34 = .ok (.getfield 29, 3) := dTa tdX8_rise_0 16 rfl
theorem dX8_rise_37 : decode cX8_rise 37 = .ok (.getfield 81, 3) := dTa tdX8_rise_0 17 rfl
theorem dX8_rise_40 : decode cX8_rise 40 = .ok (.iload_n 1, 1) := dTa tdX8_rise_0 18 rfl
theorem dX8_rise_41 : decode cX8_rise 41 = .ok (.iconst 0, 1) := dTa tdX8_rise_0 19 rfl
theorem dX8_rise_42 : decode cX8_rise 42 = .ok (.invokevirtual 168, 3) := dTa tdX8_rise_0 20 rfl
theorem dX8_rise_45 : decode cX8_rise 45 = .ok (.aload_n 0, 1) := dTa tdX8_rise_0 21 rfl
theorem dX8_rise_46 : decode cX8_rise 46 = .ok (.getfield 29, 3) := dTa tdX8_rise_0 22 rfl
theorem dX8_rise_49 : decode cX8_rise 49 = .ok (.getfield 81, 3) := dTa tdX8_rise_0 23 rfl
theorem dX8_rise_52 : decode cX8_rise 52 = .ok (.invokevirtual 172, 3) := dTa tdX8_rise_0 24 rfl
theorem dX8_rise_55 : decode cX8_rise 55 = .ok (.ireturn, 1) := dTa tdX8_rise_0 25 rfl
set_option maxRecDepth 100000 in
theorem tdX8_rule_0 : dTb cX8_rule [(0, .aload_n 0, 1), (1, .getfield 22, 3), (4, .bipush 6, 2), (6, .if_icmp .lt 5, 3), (9, .iconst (-1), 1), (10, .ireturn, 1), (11, .aload_n 0, 1), (12, .getfield 10, 3), (15, .aload_n 0, 1), (16, .getfield 18, 3), (19, .aload_n 0, 1), (20, .getfield 22, 3), (23, .aaload, 1), (24, .invokestatic 107, 3), (27, .istore_n 1, 1), (28, .aload_n 0, 1), (29, .getfield 10, 3), (32, .getfield 78, 3), (35, .istore_n 2, 1), (36, .aload_n 0, 1), (37, .getfield 10, 3), (40, .iconst 0, 1), (41, .putfield 65, 3), (44, .iload_n 1, 1), (45, .ifCond .ne 8, 3), (48, .bipush (-2), 2), (50, .iload_n 2, 1), (51, .isub, 1), (52, .ireturn, 1), (53, .aload_n 0, 1), (54, .dup, 1), (55, .getfield 22, 3), (58, .iconst 1, 1), (59, .iadd, 1), (60, .putfield 22, 3), (63, .aload_n 0, 1), (64, .getfield 22, 3), (67, .iconst 1, 1), (68, .isub, 1), (69, .ireturn, 1)] = true := by decide +kernel
theorem dX8_rule_0 : decode cX8_rule 0 = .ok (.aload_n 0, 1) := dTa tdX8_rule_0 0 rfl
theorem dX8_rule_1 : decode cX8_rule 1 = .ok (.getfield 22, 3) := dTa tdX8_rule_0 1 rfl
theorem dX8_rule_4 : decode cX8_rule 4 = .ok (.bipush 6, 2) := dTa tdX8_rule_0 2 rfl
theorem dX8_rule_6 : decode cX8_rule 6 = .ok (.if_icmp .lt 5, 3) := dTa tdX8_rule_0 3 rfl
theorem dX8_rule_9 : decode cX8_rule 9 = .ok (.iconst (-1), 1) := dTa tdX8_rule_0 4 rfl
theorem dX8_rule_10 : decode cX8_rule 10 = .ok (.ireturn, 1) := dTa tdX8_rule_0 5 rfl
theorem dX8_rule_11 : decode cX8_rule 11 = .ok (.aload_n 0, 1) := dTa tdX8_rule_0 6 rfl
theorem dX8_rule_12 : decode cX8_rule 12 = .ok (.getfield 10, 3) := dTa tdX8_rule_0 7 rfl
theorem dX8_rule_15 : decode cX8_rule 15 = .ok (.aload_n 0, 1) := dTa tdX8_rule_0 8 rfl
theorem dX8_rule_16 : decode cX8_rule 16 = .ok (.getfield 18, 3) := dTa tdX8_rule_0 9 rfl
theorem dX8_rule_19 : decode cX8_rule 19 = .ok (.aload_n 0, 1) := dTa tdX8_rule_0 10 rfl
theorem dX8_rule_20 : decode cX8_rule 20 = .ok (.getfield 22, 3) := dTa tdX8_rule_0 11 rfl
theorem dX8_rule_23 : decode cX8_rule 23 = .ok (.aaload, 1) := dTa tdX8_rule_0 12 rfl
theorem dX8_rule_24 : decode cX8_rule 24 = .ok (.invokestatic 107, 3) := dTa tdX8_rule_0 13 rfl
theorem dX8_rule_27 : decode cX8_rule 27 = .ok (.istore_n 1, 1) := dTa tdX8_rule_0 14 rfl
theorem dX8_rule_28 : decode cX8_rule 28 = .ok (.aload_n 0, 1) := dTa tdX8_rule_0 15 rfl
theorem dX8_rule_29 : decode cX8_rule 29 = .ok (.getfield 10, 3) := dTa tdX8_rule_0 16 rfl
theorem dX8_rule_32 : decode cX8_rule 32 = .ok (.getfield 78, 3) := dTa tdX8_rule_0 17 rfl
theorem dX8_rule_35 : decode cX8_rule 35 = .ok (.istore_n 2, 1) := dTa tdX8_rule_0 18 rfl
theorem dX8_rule_36 : decode cX8_rule 36 = .ok (.aload_n 0, 1) := dTa tdX8_rule_0 19 rfl
theorem dX8_rule_37 : decode cX8_rule 37 = .ok (.getfield 10, 3) := dTa tdX8_rule_0 20 rfl
theorem dX8_rule_40 : decode cX8_rule 40 = .ok (.iconst 0, 1) := dTa tdX8_rule_0 21 rfl
theorem dX8_rule_41 : decode cX8_rule 41 = .ok (.putfield 65, 3) := dTa tdX8_rule_0 22 rfl
theorem dX8_rule_44 : decode cX8_rule 44 = .ok (.iload_n 1, 1) := dTa tdX8_rule_0 23 rfl
theorem dX8_rule_45 : decode cX8_rule 45 = .ok (.ifCond .ne 8, 3) := dTa tdX8_rule_0 24 rfl
theorem dX8_rule_48 : decode cX8_rule 48 = .ok (.bipush (-2), 2) := dTa tdX8_rule_0 25 rfl
theorem dX8_rule_50 : decode cX8_rule 50 = .ok (.iload_n 2, 1) := dTa tdX8_rule_0 26 rfl
theorem dX8_rule_51 : decode cX8_rule 51 = .ok (.isub, 1) := dTa tdX8_rule_0 27 rfl
theorem dX8_rule_52 : decode cX8_rule 52 = .ok (.ireturn, 1) := dTa tdX8_rule_0 28 rfl
theorem dX8_rule_53 : decode cX8_rule 53 = .ok (.aload_n 0, 1) := dTa tdX8_rule_0 29 rfl
theorem dX8_rule_54 : decode cX8_rule 54 = .ok (.dup, 1) := dTa tdX8_rule_0 30 rfl
theorem dX8_rule_55 : decode cX8_rule 55 = .ok (.getfield 22, 3) := dTa tdX8_rule_0 31 rfl
theorem dX8_rule_58 : decode cX8_rule 58 = .ok (.iconst 1, 1) := dTa tdX8_rule_0 32 rfl
theorem dX8_rule_59 : decode cX8_rule 59 = .ok (.iadd, 1) := dTa tdX8_rule_0 33 rfl
theorem dX8_rule_60 : decode cX8_rule 60 = .ok (.putfield 22, 3) := dTa tdX8_rule_0 34 rfl
theorem dX8_rule_63 : decode cX8_rule 63 = .ok (.aload_n 0, 1) := dTa tdX8_rule_0 35 rfl
theorem dX8_rule_64 : decode cX8_rule 64 = .ok (.getfield 22, 3) := dTa tdX8_rule_0 36 rfl
theorem dX8_rule_67 : decode cX8_rule 67 = .ok (.iconst 1, 1) := dTa tdX8_rule_0 37 rfl
theorem dX8_rule_68 : decode cX8_rule 68 = .ok (.isub, 1) := dTa tdX8_rule_0 38 rfl
theorem dX8_rule_69 : decode cX8_rule 69 = .ok (.ireturn, 1) := dTa tdX8_rule_0 39 rfl
set_option maxRecDepth 100000 in
theorem tdX8_ruleAt_0 : dTb cX8_ruleAt [(0, .iload_n 1, 1), (1, .ifCond .lt 20, 3), (4, .iload_n 1, 1), (5, .aload_n 0, 1), (6, .getfield 22, 3), (9, .if_icmp .ge 12, 3), (12, .aload_n 0, 1), (13, .getfield 18, 3), (16, .iload_n 1, 1), (17, .aaload, 1), (18, .goto 4, 3), (21, .aconst_null, 1), (22, .areturn, 1)] = true := by decide +kernel
theorem dX8_ruleAt_0 : decode cX8_ruleAt 0 = .ok (.iload_n 1, 1) := dTa tdX8_ruleAt_0 0 rfl
theorem dX8_ruleAt_1 : decode cX8_ruleAt 1 = .ok (.ifCond .lt 20, 3) := dTa tdX8_ruleAt_0 1 rfl
theorem dX8_ruleAt_4 : decode cX8_ruleAt 4 = .ok (.iload_n 1, 1) := dTa tdX8_ruleAt_0 2 rfl
theorem dX8_ruleAt_5 : decode cX8_ruleAt 5 = .ok (.aload_n 0, 1) := dTa tdX8_ruleAt_0 3 rfl
theorem dX8_ruleAt_6 : decode cX8_ruleAt 6 = .ok (.getfield 22, 3) := dTa tdX8_ruleAt_0 4 rfl
theorem dX8_ruleAt_9 : decode cX8_ruleAt 9 = .ok (.if_icmp .ge 12, 3) := dTa tdX8_ruleAt_0 5 rfl
theorem dX8_ruleAt_12 : decode cX8_ruleAt 12 = .ok (.aload_n 0, 1) := dTa tdX8_ruleAt_0 6 rfl
theorem dX8_ruleAt_13 : decode cX8_ruleAt 13 = .ok (.getfield 18, 3) := dTa tdX8_ruleAt_0 7 rfl
theorem dX8_ruleAt_16 : decode cX8_ruleAt 16 = .ok (.iload_n 1, 1) := dTa tdX8_ruleAt_0 8 rfl
theorem dX8_ruleAt_17 : decode cX8_ruleAt 17 = .ok (.aaload, 1) := dTa tdX8_ruleAt_0 9 rfl
theorem dX8_ruleAt_18 : decode cX8_ruleAt 18 = .ok (.goto 4, 3) := dTa tdX8_ruleAt_0 10 rfl
theorem dX8_ruleAt_21 : decode cX8_ruleAt 21 = .ok (.aconst_null, 1) := dTa tdX8_ruleAt_0 11 rfl
theorem dX8_ruleAt_22 : decode cX8_ruleAt 22 = .ok (.areturn, 1) := dTa tdX8_ruleAt_0 12 rfl
set_option maxRecDepth 100000 in
theorem tdX8_ruleInForce_0 : dTb cX8_ruleInForce [(0, .aload_n 0, 1), (1, .aload_n 0, 1), (2, .getfield 29, 3), (5, .getfield 112, 3), (8, .invokevirtual 254, 3), (11, .areturn, 1)] = true := by decide +kernel
theorem dX8_ruleInForce_0 : decode cX8_ruleInForce 0 = .ok (.aload_n 0, 1) := dTa tdX8_ruleInForce_0 0 rfl
theorem dX8_ruleInForce_1 : decode cX8_ruleInForce 1 = .ok (.aload_n 0, 1) := dTa tdX8_ruleInForce_0 1 rfl
theorem dX8_ruleInForce_2 : decode cX8_ruleInForce 2 = .ok (.getfield 29, 3) := dTa tdX8_ruleInForce_0 2 rfl
theorem dX8_ruleInForce_5 : decode cX8_ruleInForce 5 = .ok (.getfield 112, 3) := dTa tdX8_ruleInForce_0 3 rfl
theorem dX8_ruleInForce_8 : decode cX8_ruleInForce 8 = .ok (.invokevirtual 254, 3) := dTa tdX8_ruleInForce_0 4 rfl
theorem dX8_ruleInForce_11 : decode cX8_ruleInForce 11 = .ok (.areturn, 1) := dTa tdX8_ruleInForce_0 5 rfl
set_option maxRecDepth 100000 in
theorem tdX8_sit_0 : dTb cX8_sit [(0, .aload_n 0, 1), (1, .getfield 29, 3), (4, .getfield 81, 3), (7, .iload_n 1, 1), (8, .invokevirtual 147, 3), (11, .ifCond .eq 5, 3), (14, .iconst (-1), 1), (15, .ireturn, 1), (16, .aload_n 0, 1), (17, .getfield 29, 3), (20, .getfield 88, 3), (23, .aload_n 0, 1), (24, .getfield 29, 3), (27, .getfield 81, 3), (30, .invokevirtual 157, 3), (33, .aload_n 0, 1), (34, .getfield 29, 3), (37, .getfield 81, 3), (40, .iload_n 1, 1), (41, .iconst 1, 1), (42, .invokevirtual 168, 3), (45, .aload_n 0, 1), (46, .getfield 29, 3), (49, .getfield 81, 3), (52, .invokevirtual 172, 3), (55, .ireturn, 1)] = true := by decide +kernel
theorem dX8_sit_0 : decode cX8_sit 0 = .ok (.aload_n 0, 1) := dTa tdX8_sit_0 0 rfl
theorem dX8_sit_1 : decode cX8_sit 1 = .ok (.getfield 29, 3) := dTa tdX8_sit_0 1 rfl
theorem dX8_sit_4 : decode cX8_sit 4 = .ok (.getfield 81, 3) := dTa tdX8_sit_0 2 rfl
theorem dX8_sit_7 : decode cX8_sit 7 = .ok (.iload_n 1, 1) := dTa tdX8_sit_0 3 rfl
theorem dX8_sit_8 : decode cX8_sit 8 = .ok (.invokevirtual 147, 3) := dTa tdX8_sit_0 4 rfl
theorem dX8_sit_11 : decode cX8_sit 11 = .ok (.ifCond .eq 5, 3) := dTa tdX8_sit_0 5 rfl
theorem dX8_sit_14 : decode cX8_sit 14 = .ok (.iconst (-1), 1) := dTa tdX8_sit_0 6 rfl
theorem dX8_sit_15 : decode cX8_sit 15 = .ok (.ireturn, 1) := dTa tdX8_sit_0 7 rfl
theorem dX8_sit_16 : decode cX8_sit 16 = .ok (.aload_n 0, 1) := dTa tdX8_sit_0 8 rfl
theorem dX8_sit_17 : decode cX8_sit 17 = .ok (.getfield 29, 3) := dTa tdX8_sit_0 9 rfl
theorem dX8_sit_20 : decode cX8_sit 20 = .ok (.getfield 88, 3) := dTa tdX8_sit_0 10 rfl
theorem dX8_sit_23 : decode cX8_sit 23 = .ok (.aload_n 0, 1) := dTa tdX8_sit_0 11 rfl
theorem dX8_sit_24 : decode cX8_sit 24 = .ok (.getfield 29, 3) := dTa tdX8_sit_0 12 rfl
theorem dX8_sit_27 : decode cX8_sit 27 = .ok (.getfield 81, 3) := dTa tdX8_sit_0 13 rfl
theorem dX8_sit_30 : decode cX8_sit 30 = .ok (.invokevirtual 157, 3) := dTa tdX8_sit_0 14 rfl
theorem dX8_sit_33 : decode cX8_sit 33 = .ok (.aload_n 0, 1) := dTa tdX8_sit_0 15 rfl
theorem dX8_sit_34 : decode cX8_sit 34 = .ok (.getfield 29, 3) := dTa tdX8_sit_0 16 rfl
theorem dX8_sit_37 : decode cX8_sit 37 = .ok (.getfield 81, 3) := dTa tdX8_sit_0 17 rfl
theorem dX8_sit_40 : decode cX8_sit 40 = .ok (.iload_n 1, 1) := dTa tdX8_sit_0 18 rfl
theorem dX8_sit_41 : decode cX8_sit 41 = .ok (.iconst 1, 1) := dTa tdX8_sit_0 19 rfl
theorem dX8_sit_42 : decode cX8_sit 42 = .ok (.invokevirtual 168, 3) := dTa tdX8_sit_0 20 rfl
theorem dX8_sit_45 : decode cX8_sit 45 = .ok (.aload_n 0, 1) := dTa tdX8_sit_0 21 rfl
theorem dX8_sit_46 : decode cX8_sit 46 = .ok (.getfield 29, 3) := dTa tdX8_sit_0 22 rfl
theorem dX8_sit_49 : decode cX8_sit 49 = .ok (.getfield 81, 3) := dTa tdX8_sit_0 23 rfl
theorem dX8_sit_52 : decode cX8_sit 52 = .ok (.invokevirtual 172, 3) := dTa tdX8_sit_0 24 rfl
theorem dX8_sit_55 : decode cX8_sit 55 = .ok (.ireturn, 1) := dTa tdX8_sit_0 25 rfl
set_option maxRecDepth 100000 in
theorem tdX8_sitter_0 : dTb cX8_sitter [(0, .aload_n 0, 1), (1, .getfield 29, 3), (4, .getfield 81, 3), (7, .astore_n 3, 1), (8, .aload_n 3, 1), (9, .iload_n 1, 1), (10, .invokevirtual 138, 3), (13, .ifCond .ne 5, 3), (16, .iconst (-1), 1), (17, .ireturn, 1), (18, .iload_n 2, 1), (19, .tableswitch 45 0 2 #[25, 32, 39], 25), (44, .aload_n 3, 1), (45, .getfield 141, 3), (48, .iload_n 1, 1), (49, .iaload, 1), (50, .ireturn, 1), (51, .aload_n 3, 1), (52, .getfield 144, 3), (55, .iload_n 1, 1), (56, .iaload, 1), (57, .ireturn, 1), (58, .aload_n 3, 1), (59, .iload_n 1, 1), (60, .invokevirtual 147, 3), (63, .ireturn, 1), (64, .iconst (-1), 1), (65, .ireturn, 1)] = true := by decide +kernel
theorem dX8_sitter_0 : decode cX8_sitter 0 = .ok (.aload_n 0, 1) := dTa tdX8_sitter_0 0 rfl
theorem dX8_sitter_1 : decode cX8_sitter 1 = .ok (.getfield 29, 3) := dTa tdX8_sitter_0 1 rfl
theorem dX8_sitter_4 : decode cX8_sitter 4 = .ok (.getfield 81, 3) := dTa tdX8_sitter_0 2 rfl
theorem dX8_sitter_7 : decode cX8_sitter 7 = .ok (.astore_n 3, 1) := dTa tdX8_sitter_0 3 rfl
theorem dX8_sitter_8 : decode cX8_sitter 8 = .ok (.aload_n 3, 1) := dTa tdX8_sitter_0 4 rfl
theorem dX8_sitter_9 : decode cX8_sitter 9 = .ok (.iload_n 1, 1) := dTa tdX8_sitter_0 5 rfl
theorem dX8_sitter_10 : decode cX8_sitter 10 = .ok (.invokevirtual 138, 3) := dTa tdX8_sitter_0 6 rfl
theorem dX8_sitter_13 : decode cX8_sitter 13 = .ok (.ifCond .ne 5, 3) := dTa tdX8_sitter_0 7 rfl
theorem dX8_sitter_16 : decode cX8_sitter 16 = .ok (.iconst (-1), 1) := dTa tdX8_sitter_0 8 rfl
theorem dX8_sitter_17 : decode cX8_sitter 17 = .ok (.ireturn, 1) := dTa tdX8_sitter_0 9 rfl
theorem dX8_sitter_18 : decode cX8_sitter 18 = .ok (.iload_n 2, 1) := dTa tdX8_sitter_0 10 rfl
theorem dX8_sitter_19 : decode cX8_sitter 19 = .ok (.tableswitch 45 0 2 #[25, 32, 39], 25) := dTa tdX8_sitter_0 11 rfl
theorem dX8_sitter_44 : decode cX8_sitter 44 = .ok (.aload_n 3, 1) := dTa tdX8_sitter_0 12 rfl
theorem dX8_sitter_45 : decode cX8_sitter 45 = .ok (.getfield 141, 3) := dTa tdX8_sitter_0 13 rfl
theorem dX8_sitter_48 : decode cX8_sitter 48 = .ok (.iload_n 1, 1) := dTa tdX8_sitter_0 14 rfl
theorem dX8_sitter_49 : decode cX8_sitter 49 = .ok (.iaload, 1) := dTa tdX8_sitter_0 15 rfl
theorem dX8_sitter_50 : decode cX8_sitter 50 = .ok (.ireturn, 1) := dTa tdX8_sitter_0 16 rfl
theorem dX8_sitter_51 : decode cX8_sitter 51 = .ok (.aload_n 3, 1) := dTa tdX8_sitter_0 17 rfl
theorem dX8_sitter_52 : decode cX8_sitter 52 = .ok (.getfield 144, 3) := dTa tdX8_sitter_0 18 rfl
theorem dX8_sitter_55 : decode cX8_sitter 55 = .ok (.iload_n 1, 1) := dTa tdX8_sitter_0 19 rfl
theorem dX8_sitter_56 : decode cX8_sitter 56 = .ok (.iaload, 1) := dTa tdX8_sitter_0 20 rfl
theorem dX8_sitter_57 : decode cX8_sitter 57 = .ok (.ireturn, 1) := dTa tdX8_sitter_0 21 rfl
theorem dX8_sitter_58 : decode cX8_sitter 58 = .ok (.aload_n 3, 1) := dTa tdX8_sitter_0 22 rfl
theorem dX8_sitter_59 : decode cX8_sitter 59 = .ok (.iload_n 1, 1) := dTa tdX8_sitter_0 23 rfl
theorem dX8_sitter_60 : decode cX8_sitter 60 = .ok (.invokevirtual 147, 3) := dTa tdX8_sitter_0 24 rfl
theorem dX8_sitter_63 : decode cX8_sitter 63 = .ok (.ireturn, 1) := dTa tdX8_sitter_0 25 rfl
theorem dX8_sitter_64 : decode cX8_sitter 64 = .ok (.iconst (-1), 1) := dTa tdX8_sitter_0 26 rfl
theorem dX8_sitter_65 : decode cX8_sitter 65 = .ok (.ireturn, 1) := dTa tdX8_sitter_0 27 rfl
set_option maxRecDepth 100000 in
theorem tdX8_strand_0 : dTb cX8_strand [(0, .aload_n 0, 1), (1, .getfield 29, 3), (4, .getfield 81, 3), (7, .iload_n 1, 1), (8, .invokevirtual 115, 3), (11, .ifCond .eq 18, 3), (14, .aload_n 0, 1), (15, .getfield 29, 3), (18, .getfield 81, 3), (21, .getfield 119, 3), (24, .iload_n 1, 1), (25, .iaload, 1), (26, .goto 4, 3), (29, .iconst (-1), 1), (30, .ireturn, 1)] = true := by decide +kernel
theorem dX8_strand_0 : decode cX8_strand 0 = .ok (.aload_n 0, 1) := dTa tdX8_strand_0 0 rfl
theorem dX8_strand_1 : decode cX8_strand 1 = .ok (.getfield 29, 3) := dTa tdX8_strand_0 1 rfl
theorem dX8_strand_4 : decode cX8_strand 4 = .ok (.getfield 81, 3) := dTa tdX8_strand_0 2 rfl
theorem dX8_strand_7 : decode cX8_strand 7 = .ok (.iload_n 1, 1) := dTa tdX8_strand_0 3 rfl
theorem dX8_strand_8 : decode cX8_strand 8 = .ok (.invokevirtual 115, 3) := dTa tdX8_strand_0 4 rfl
theorem dX8_strand_11 : decode cX8_strand 11 = .ok (.ifCond .eq 18, 3) := dTa tdX8_strand_0 5 rfl
theorem dX8_strand_14 : decode cX8_strand 14 = .ok (.aload_n 0, 1) := dTa tdX8_strand_0 6 rfl
theorem dX8_strand_15 : decode cX8_strand 15 = .ok (.getfield 29, 3) := dTa tdX8_strand_0 7 rfl
theorem dX8_strand_18 : decode cX8_strand 18 = .ok (.getfield 81, 3) := dTa tdX8_strand_0 8 rfl
theorem dX8_strand_21 : decode cX8_strand 21 = .ok (.getfield 119, 3) := dTa tdX8_strand_0 9 rfl
theorem dX8_strand_24 : decode cX8_strand 24 = .ok (.iload_n 1, 1) := dTa tdX8_strand_0 10 rfl
theorem dX8_strand_25 : decode cX8_strand 25 = .ok (.iaload, 1) := dTa tdX8_strand_0 11 rfl
theorem dX8_strand_26 : decode cX8_strand 26 = .ok (.goto 4, 3) := dTa tdX8_strand_0 12 rfl
theorem dX8_strand_29 : decode cX8_strand 29 = .ok (.iconst (-1), 1) := dTa tdX8_strand_0 13 rfl
theorem dX8_strand_30 : decode cX8_strand 30 = .ok (.ireturn, 1) := dTa tdX8_strand_0 14 rfl
set_option maxRecDepth 100000 in
theorem tdX8_tall_0 : dTb cX8_tall [(0, .aload_n 0, 1), (1, .getfield 29, 3), (4, .getfield 81, 3), (7, .astore_n 2, 1), (8, .aload_n 2, 1), (9, .getfield 150, 3), (12, .ifCond .eq 12, 3), (15, .iload_n 1, 1), (16, .ifCond .lt 8, 3), (19, .iload_n 1, 1), (20, .iconst 1, 1), (21, .if_icmp .le 5, 3), (24, .iconst (-1), 1), (25, .ireturn, 1), (26, .iconst (-1), 1), (27, .istore_n 3, 1), (28, .iconst (-1), 1), (29, .istore 4, 2), (31, .iconst 0, 1), (32, .istore 5, 2), (34, .iload 5, 2), (36, .aload_n 2, 1), (37, .getfield 104, 3), (40, .if_icmp .ge 47, 3), (43, .aload_n 2, 1), (44, .iload 5, 2), (46, .invokevirtual 176, 3), (49, .ifCond .eq 15, 3), (52, .aload_n 0, 1), (53, .iload 5, 2), (55, .invokevirtual 203, 3), (58, .invokestatic 182, 3), (61, .goto 4, 3), (64, .iconst (-1), 1), (65, .istore 6, 2), (67, .iload 6, 2), (69, .iload 4, 2), (71, .if_icmp .le 10, 3), (74, .iload 5, 2), (76, .istore_n 3, 1)] = true := by decide +kernel
theorem dX8_tall_0 : decode cX8_tall 0 = .ok (.aload_n 0, 1) := dTa tdX8_tall_0 0 rfl
theorem dX8_tall_1 : decode cX8_tall 1 = .ok (.getfield 29, 3) := dTa tdX8_tall_0 1 rfl
theorem dX8_tall_4 : decode cX8_tall 4 = .ok (.getfield 81, 3) := dTa tdX8_tall_0 2 rfl
theorem dX8_tall_7 : decode cX8_tall 7 = .ok (.astore_n 2, 1) := dTa tdX8_tall_0 3 rfl
theorem dX8_tall_8 : decode cX8_tall 8 = .ok (.aload_n 2, 1) := dTa tdX8_tall_0 4 rfl
theorem dX8_tall_9 : decode cX8_tall 9 = .ok (.getfield 150, 3) := dTa tdX8_tall_0 5 rfl
theorem dX8_tall_12 : decode cX8_tall 12 = .ok (.ifCond .eq 12, 3) := dTa tdX8_tall_0 6 rfl
theorem dX8_tall_15 : decode cX8_tall 15 = .ok (.iload_n 1, 1) := dTa tdX8_tall_0 7 rfl
theorem dX8_tall_16 : decode cX8_tall 16 = .ok (.ifCond .lt 8, 3) := dTa tdX8_tall_0 8 rfl
theorem dX8_tall_19 : decode cX8_tall 19 = .ok (.iload_n 1, 1) := dTa tdX8_tall_0 9 rfl
theorem dX8_tall_20 : decode cX8_tall 20 = .ok (.iconst 1, 1) := dTa tdX8_tall_0 10 rfl
theorem dX8_tall_21 : decode cX8_tall 21 = .ok (.if_icmp .le 5, 3) := dTa tdX8_tall_0 11 rfl
theorem dX8_tall_24 : decode cX8_tall 24 = .ok (.iconst (-1), 1) := dTa tdX8_tall_0 12 rfl
theorem dX8_tall_25 : decode cX8_tall 25 = .ok (.ireturn, 1) := dTa tdX8_tall_0 13 rfl
theorem dX8_tall_26 : decode cX8_tall 26 = .ok (.iconst (-1), 1) := dTa tdX8_tall_0 14 rfl
theorem dX8_tall_27 : decode cX8_tall 27 = .ok (.istore_n 3, 1) := dTa tdX8_tall_0 15 rfl
theorem dX8_tall_28 : decode cX8_tall 28 = .ok (.iconst (-1), 1) := dTa tdX8_tall_0 16 rfl
theorem dX8_tall_29 : decode cX8_tall 29 = .ok (.istore 4, 2) := dTa tdX8_tall_0 17 rfl
theorem dX8_tall_31 : decode cX8_tall 31 = .ok (.iconst 0, 1) := dTa tdX8_tall_0 18 rfl
theorem dX8_tall_32 : decode cX8_tall 32 = .ok (.istore 5, 2) := dTa tdX8_tall_0 19 rfl
theorem dX8_tall_34 : decode cX8_tall 34 = .ok (.iload 5, 2) := dTa tdX8_tall_0 20 rfl
theorem dX8_tall_36 : decode cX8_tall 36 = .ok (.aload_n 2, 1) := dTa tdX8_tall_0 21 rfl
theorem dX8_tall_37 : decode cX8_tall 37 = .ok (.getfield 104, 3) := dTa tdX8_tall_0 22 rfl
theorem dX8_tall_40 : decode cX8_tall 40 = .ok (.if_icmp .ge 47, 3) := dTa tdX8_tall_0 23 rfl
theorem dX8_tall_43 : decode cX8_tall 43 = .ok (.aload_n 2, 1) := dTa tdX8_tall_0 24 rfl
theorem dX8_tall_44 : decode cX8_tall 44 = .ok (.iload 5, 2) := dTa tdX8_tall_0 25 rfl
theorem dX8_tall_46 : decode cX8_tall 46 = .ok (.invokevirtual 176, 3) := dTa tdX8_tall_0 26 rfl
theorem dX8_tall_49 : decode cX8_tall 49 = .ok (.ifCond .eq 15, 3) := dTa tdX8_tall_0 27 rfl
theorem dX8_tall_52 : decode cX8_tall 52 = .ok (.aload_n 0, 1) := dTa tdX8_tall_0 28 rfl
theorem dX8_tall_53 : decode cX8_tall 53 = .ok (.iload 5, 2) := dTa tdX8_tall_0 29 rfl
theorem dX8_tall_55 : decode cX8_tall 55 = .ok (.invokevirtual 203, 3) := dTa tdX8_tall_0 30 rfl
theorem dX8_tall_58 : decode cX8_tall 58 = .ok (.invokestatic 182, 3) := dTa tdX8_tall_0 31 rfl
theorem dX8_tall_61 : decode cX8_tall 61 = .ok (.goto 4, 3) := dTa tdX8_tall_0 32 rfl
theorem dX8_tall_64 : decode cX8_tall 64 = .ok (.iconst (-1), 1) := dTa tdX8_tall_0 33 rfl
theorem dX8_tall_65 : decode cX8_tall 65 = .ok (.istore 6, 2) := dTa tdX8_tall_0 34 rfl
theorem dX8_tall_67 : decode cX8_tall 67 = .ok (.iload 6, 2) := dTa tdX8_tall_0 35 rfl
theorem dX8_tall_69 : decode cX8_tall 69 = .ok (.iload 4, 2) := dTa tdX8_tall_0 36 rfl
theorem dX8_tall_71 : decode cX8_tall 71 = .ok (.if_icmp .le 10, 3) := dTa tdX8_tall_0 37 rfl
theorem dX8_tall_74 : decode cX8_tall 74 = .ok (.iload 5, 2) := dTa tdX8_tall_0 38 rfl
theorem dX8_tall_76 : decode cX8_tall 76 = .ok (.istore_n 3, 1) := dTa tdX8_tall_0 39 rfl
set_option maxRecDepth 100000 in
theorem tdX8_tall_77 : dTb cX8_tall [(77, .iload 6, 2), (79, .istore 4, 2), (81, .iinc 5 1, 3), (84, .goto (-50), 3), (87, .iload_n 3, 1), (88, .iconst (-1), 1), (89, .if_icmp .ne 6, 3), (92, .bipush (-2), 2), (94, .ireturn, 1), (95, .iload_n 1, 1), (96, .ifCond .ne 7, 3), (99, .iload_n 3, 1), (100, .goto 5, 3), (103, .iload 4, 2), (105, .ireturn, 1)] = true := by decide +kernel
theorem dX8_tall_77 : decode cX8_tall 77 = .ok (.iload 6, 2) := dTa tdX8_tall_77 0 rfl
theorem dX8_tall_79 : decode cX8_tall 79 = .ok (.istore 4, 2) := dTa tdX8_tall_77 1 rfl
theorem dX8_tall_81 : decode cX8_tall 81 = .ok (.iinc 5 1, 3) := dTa tdX8_tall_77 2 rfl
theorem dX8_tall_84 : decode cX8_tall 84 = .ok (.goto (-50), 3) := dTa tdX8_tall_77 3 rfl
theorem dX8_tall_87 : decode cX8_tall 87 = .ok (.iload_n 3, 1) := dTa tdX8_tall_77 4 rfl
theorem dX8_tall_88 : decode cX8_tall 88 = .ok (.iconst (-1), 1) := dTa tdX8_tall_77 5 rfl
theorem dX8_tall_89 : decode cX8_tall 89 = .ok (.if_icmp .ne 6, 3) := dTa tdX8_tall_77 6 rfl
theorem dX8_tall_92 : decode cX8_tall 92 = .ok (.bipush (-2), 2) := dTa tdX8_tall_77 7 rfl
theorem dX8_tall_94 : decode cX8_tall 94 = .ok (.ireturn, 1) := dTa tdX8_tall_77 8 rfl
theorem dX8_tall_95 : decode cX8_tall 95 = .ok (.iload_n 1, 1) := dTa tdX8_tall_77 9 rfl
theorem dX8_tall_96 : decode cX8_tall 96 = .ok (.ifCond .ne 7, 3) := dTa tdX8_tall_77 10 rfl
theorem dX8_tall_99 : decode cX8_tall 99 = .ok (.iload_n 3, 1) := dTa tdX8_tall_77 11 rfl
theorem dX8_tall_100 : decode cX8_tall 100 = .ok (.goto 5, 3) := dTa tdX8_tall_77 12 rfl
theorem dX8_tall_103 : decode cX8_tall 103 = .ok (.iload 4, 2) := dTa tdX8_tall_77 13 rfl
theorem dX8_tall_105 : decode cX8_tall 105 = .ok (.ireturn, 1) := dTa tdX8_tall_77 14 rfl
set_option maxRecDepth 100000 in
theorem tdX8_undo_0 : dTb cX8_undo [(0, .aload_n 0, 1), (1, .getfield 29, 3), (4, .getfield 88, 3), (7, .getfield 187, 3), (10, .ifCond .gt 6, 3), (13, .bipush (-2), 2), (15, .ireturn, 1), (16, .aload_n 0, 1), (17, .getfield 29, 3), (20, .getfield 88, 3), (23, .aload_n 0, 1), (24, .getfield 29, 3), (27, .getfield 81, 3), (30, .invokevirtual 190, 3), (33, .aload_n 0, 1), (34, .getfield 29, 3), (37, .getfield 88, 3), (40, .getfield 187, 3), (43, .ireturn, 1)] = true := by decide +kernel
theorem dX8_undo_0 : decode cX8_undo 0 = .ok (.aload_n 0, 1) := dTa tdX8_undo_0 0 rfl
theorem dX8_undo_1 : decode cX8_undo 1 = .ok (.getfield 29, 3) := dTa tdX8_undo_0 1 rfl
theorem dX8_undo_4 : decode cX8_undo 4 = .ok (.getfield 88, 3) := dTa tdX8_undo_0 2 rfl
theorem dX8_undo_7 : decode cX8_undo 7 = .ok (.getfield 187, 3) := dTa tdX8_undo_0 3 rfl
theorem dX8_undo_10 : decode cX8_undo 10 = .ok (.ifCond .gt 6, 3) := dTa tdX8_undo_0 4 rfl
theorem dX8_undo_13 : decode cX8_undo 13 = .ok (.bipush (-2), 2) := dTa tdX8_undo_0 5 rfl
theorem dX8_undo_15 : decode cX8_undo 15 = .ok (.ireturn, 1) := dTa tdX8_undo_0 6 rfl
theorem dX8_undo_16 : decode cX8_undo 16 = .ok (.aload_n 0, 1) := dTa tdX8_undo_0 7 rfl
theorem dX8_undo_17 : decode cX8_undo 17 = .ok (.getfield 29, 3) := dTa tdX8_undo_0 8 rfl
theorem dX8_undo_20 : decode cX8_undo 20 = .ok (.getfield 88, 3) := dTa tdX8_undo_0 9 rfl
theorem dX8_undo_23 : decode cX8_undo 23 = .ok (.aload_n 0, 1) := dTa tdX8_undo_0 10 rfl
theorem dX8_undo_24 : decode cX8_undo 24 = .ok (.getfield 29, 3) := dTa tdX8_undo_0 11 rfl
theorem dX8_undo_27 : decode cX8_undo 27 = .ok (.getfield 81, 3) := dTa tdX8_undo_0 12 rfl
theorem dX8_undo_30 : decode cX8_undo 30 = .ok (.invokevirtual 190, 3) := dTa tdX8_undo_0 13 rfl
theorem dX8_undo_33 : decode cX8_undo 33 = .ok (.aload_n 0, 1) := dTa tdX8_undo_0 14 rfl
theorem dX8_undo_34 : decode cX8_undo 34 = .ok (.getfield 29, 3) := dTa tdX8_undo_0 15 rfl
theorem dX8_undo_37 : decode cX8_undo 37 = .ok (.getfield 88, 3) := dTa tdX8_undo_0 16 rfl
theorem dX8_undo_40 : decode cX8_undo 40 = .ok (.getfield 187, 3) := dTa tdX8_undo_0 17 rfl
theorem dX8_undo_43 : decode cX8_undo 43 = .ok (.ireturn, 1) := dTa tdX8_undo_0 18 rfl
set_option maxRecDepth 100000 in
theorem tdX8_watchSixty_0 : dTb cX8_watchSixty [(0, .aload_n 0, 1), (1, .invokevirtual 160, 3), (4, .astore_n 1, 1), (5, .aload_n 0, 1), (6, .getfield 44, 3), (9, .aload_n 0, 1), (10, .getfield 29, 3), (13, .getfield 81, 3), (16, .invokevirtual 84, 3), (19, .iconst 0, 1), (20, .istore_n 2, 1), (21, .iload_n 2, 1), (22, .bipush 60, 2), (24, .if_icmp .gt 42, 3), (27, .aload_n 0, 1), (28, .getfield 58, 3), (31, .iload_n 2, 1), (32, .aload_n 0, 1), (33, .getfield 44, 3), (36, .getfield 200, 3), (39, .aload_n 0, 1), (40, .getfield 44, 3), (43, .getfield 179, 3), (46, .bipush 8, 2), (48, .ishl, 1), (49, .ior, 1), (50, .iastore, 1), (51, .aload_n 0, 1), (52, .getfield 44, 3), (55, .aload_n 1, 1), (56, .invokevirtual 164, 3), (59, .pop, 1), (60, .iinc 2 1, 3), (63, .goto (-42), 3), (66, .return_, 1)] = true := by decide +kernel
theorem dX8_watchSixty_0 : decode cX8_watchSixty 0 = .ok (.aload_n 0, 1) := dTa tdX8_watchSixty_0 0 rfl
theorem dX8_watchSixty_1 : decode cX8_watchSixty 1 = .ok (.invokevirtual 160, 3) := dTa tdX8_watchSixty_0 1 rfl
theorem dX8_watchSixty_4 : decode cX8_watchSixty 4 = .ok (.astore_n 1, 1) := dTa tdX8_watchSixty_0 2 rfl
theorem dX8_watchSixty_5 : decode cX8_watchSixty 5 = .ok (.aload_n 0, 1) := dTa tdX8_watchSixty_0 3 rfl
theorem dX8_watchSixty_6 : decode cX8_watchSixty 6 = .ok (.getfield 44, 3) := dTa tdX8_watchSixty_0 4 rfl
theorem dX8_watchSixty_9 : decode cX8_watchSixty 9 = .ok (.aload_n 0, 1) := dTa tdX8_watchSixty_0 5 rfl
theorem dX8_watchSixty_10 : decode cX8_watchSixty 10 = .ok (.getfield 29, 3) := dTa tdX8_watchSixty_0 6 rfl
theorem dX8_watchSixty_13 : decode cX8_watchSixty 13 = .ok (.getfield 81, 3) := dTa tdX8_watchSixty_0 7 rfl
theorem dX8_watchSixty_16 : decode cX8_watchSixty 16 = .ok (.invokevirtual 84, 3) := dTa tdX8_watchSixty_0 8 rfl
theorem dX8_watchSixty_19 : decode cX8_watchSixty 19 = .ok (.iconst 0, 1) := dTa tdX8_watchSixty_0 9 rfl
theorem dX8_watchSixty_20 : decode cX8_watchSixty 20 = .ok (.istore_n 2, 1) := dTa tdX8_watchSixty_0 10 rfl
theorem dX8_watchSixty_21 : decode cX8_watchSixty 21 = .ok (.iload_n 2, 1) := dTa tdX8_watchSixty_0 11 rfl
theorem dX8_watchSixty_22 : decode cX8_watchSixty 22 = .ok (.bipush 60, 2) := dTa tdX8_watchSixty_0 12 rfl
theorem dX8_watchSixty_24 : decode cX8_watchSixty 24 = .ok (.if_icmp .gt 42, 3) := dTa tdX8_watchSixty_0 13 rfl
theorem dX8_watchSixty_27 : decode cX8_watchSixty 27 = .ok (.aload_n 0, 1) := dTa tdX8_watchSixty_0 14 rfl
theorem dX8_watchSixty_28 : decode cX8_watchSixty 28 = .ok (.getfield 58, 3) := dTa tdX8_watchSixty_0 15 rfl
theorem dX8_watchSixty_31 : decode cX8_watchSixty 31 = .ok (.iload_n 2, 1) := dTa tdX8_watchSixty_0 16 rfl
theorem dX8_watchSixty_32 : decode cX8_watchSixty 32 = .ok (.aload_n 0, 1) := dTa tdX8_watchSixty_0 17 rfl
theorem dX8_watchSixty_33 : decode cX8_watchSixty 33 = .ok (.getfield 44, 3) := dTa tdX8_watchSixty_0 18 rfl
theorem dX8_watchSixty_36 : decode cX8_watchSixty 36 = .ok (.getfield 200, 3) := dTa tdX8_watchSixty_0 19 rfl
theorem dX8_watchSixty_39 : decode cX8_watchSixty 39 = .ok (.aload_n 0, 1) := dTa tdX8_watchSixty_0 20 rfl
theorem dX8_watchSixty_40 : decode cX8_watchSixty 40 = .ok (.getfield 44, 3) := dTa tdX8_watchSixty_0 21 rfl
theorem dX8_watchSixty_43 : decode cX8_watchSixty 43 = .ok (.getfield 179, 3) := dTa tdX8_watchSixty_0 22 rfl
theorem dX8_watchSixty_46 : decode cX8_watchSixty 46 = .ok (.bipush 8, 2) := dTa tdX8_watchSixty_0 23 rfl
theorem dX8_watchSixty_48 : decode cX8_watchSixty 48 = .ok (.ishl, 1) := dTa tdX8_watchSixty_0 24 rfl
theorem dX8_watchSixty_49 : decode cX8_watchSixty 49 = .ok (.ior, 1) := dTa tdX8_watchSixty_0 25 rfl
theorem dX8_watchSixty_50 : decode cX8_watchSixty 50 = .ok (.iastore, 1) := dTa tdX8_watchSixty_0 26 rfl
theorem dX8_watchSixty_51 : decode cX8_watchSixty 51 = .ok (.aload_n 0, 1) := dTa tdX8_watchSixty_0 27 rfl
theorem dX8_watchSixty_52 : decode cX8_watchSixty 52 = .ok (.getfield 44, 3) := dTa tdX8_watchSixty_0 28 rfl
theorem dX8_watchSixty_55 : decode cX8_watchSixty 55 = .ok (.aload_n 1, 1) := dTa tdX8_watchSixty_0 29 rfl
theorem dX8_watchSixty_56 : decode cX8_watchSixty 56 = .ok (.invokevirtual 164, 3) := dTa tdX8_watchSixty_0 30 rfl
theorem dX8_watchSixty_59 : decode cX8_watchSixty 59 = .ok (.pop, 1) := dTa tdX8_watchSixty_0 31 rfl
theorem dX8_watchSixty_60 : decode cX8_watchSixty 60 = .ok (.iinc 2 1, 3) := dTa tdX8_watchSixty_0 32 rfl
theorem dX8_watchSixty_63 : decode cX8_watchSixty 63 = .ok (.goto (-42), 3) := dTa tdX8_watchSixty_0 33 rfl
theorem dX8_watchSixty_66 : decode cX8_watchSixty 66 = .ok (.return_, 1) := dTa tdX8_watchSixty_0 34 rfl
set_option maxRecDepth 100000 in
theorem tdX8_way_0 : dTb cX8_way [(0, .aload_n 0, 1), (1, .getfield 29, 3), (4, .getfield 81, 3), (7, .astore_n 2, 1), (8, .aload_n 2, 1), (9, .getfield 150, 3), (12, .ifCond .eq 13, 3), (15, .iload_n 1, 1), (16, .ifCond .lt 9, 3), (19, .iload_n 1, 1), (20, .bipush 8, 2), (22, .if_icmp .lt 6, 3), (25, .bipush (-3), 2), (27, .ireturn, 1), (28, .iload_n 1, 1), (29, .aload_n 2, 1), (30, .getfield 200, 3), (33, .invokestatic 182, 3), (36, .if_icmp .lt 5, 3), (39, .iconst (-1), 1), (40, .ireturn, 1), (41, .aload_n 0, 1), (42, .invokevirtual 212, 3), (45, .aload_n 2, 1), (46, .getfield 200, 3), (49, .istore_n 3, 1), (50, .aload_n 0, 1), (51, .iload_n 3, 1), (52, .invokevirtual 215, 3), (55, .istore 4, 2), (57, .iconst 0, 1), (58, .istore 5, 2), (60, .iload 5, 2), (62, .iload_n 1, 1), (63, .if_icmp .ge 31, 3), (66, .iload 4, 2), (68, .iconst (-1), 1), (69, .if_icmp .eq 25, 3), (72, .iload_n 3, 1), (73, .iconst 1, 1)] = true := by decide +kernel
theorem dX8_way_0 : decode cX8_way 0 = .ok (.aload_n 0, 1) := dTa tdX8_way_0 0 rfl
theorem dX8_way_1 : decode cX8_way 1 = .ok (.getfield 29, 3) := dTa tdX8_way_0 1 rfl
theorem dX8_way_4 : decode cX8_way 4 = .ok (.getfield 81, 3) := dTa tdX8_way_0 2 rfl
theorem dX8_way_7 : decode cX8_way 7 = .ok (.astore_n 2, 1) := dTa tdX8_way_0 3 rfl
theorem dX8_way_8 : decode cX8_way 8 = .ok (.aload_n 2, 1) := dTa tdX8_way_0 4 rfl
theorem dX8_way_9 : decode cX8_way 9 = .ok (.getfield 150, 3) := dTa tdX8_way_0 5 rfl
theorem dX8_way_12 : decode cX8_way 12 = .ok (.ifCond .eq 13, 3) := dTa tdX8_way_0 6 rfl
theorem dX8_way_15 : decode cX8_way 15 = .ok (.iload_n 1, 1) := dTa tdX8_way_0 7 rfl
theorem dX8_way_16 : decode cX8_way 16 = .ok (.ifCond .lt 9, 3) := dTa tdX8_way_0 8 rfl
theorem dX8_way_19 : decode cX8_way 19 = .ok (.iload_n 1, 1) := dTa tdX8_way_0 9 rfl
theorem dX8_way_20 : decode cX8_way 20 = .ok (.bipush 8, 2) := dTa tdX8_way_0 10 rfl
theorem dX8_way_22 : decode cX8_way 22 = .ok (.if_icmp .lt 6, 3) := dTa tdX8_way_0 11 rfl
theorem dX8_way_25 : decode cX8_way 25 = .ok (.bipush (-3), 2) := dTa tdX8_way_0 12 rfl
theorem dX8_way_27 : decode cX8_way 27 = .ok (.ireturn, 1) := dTa tdX8_way_0 13 rfl
theorem dX8_way_28 : decode cX8_way 28 = .ok (.iload_n 1, 1) := dTa tdX8_way_0 14 rfl
theorem dX8_way_29 : decode cX8_way 29 = .ok (.aload_n 2, 1) := dTa tdX8_way_0 15 rfl
theorem dX8_way_30 : decode cX8_way 30 = .ok (.getfield 200, 3) := dTa tdX8_way_0 16 rfl
theorem dX8_way_33 : decode cX8_way 33 = .ok (.invokestatic 182, 3) := dTa tdX8_way_0 17 rfl
theorem dX8_way_36 : decode cX8_way 36 = .ok (.if_icmp .lt 5, 3) := dTa tdX8_way_0 18 rfl
theorem dX8_way_39 : decode cX8_way 39 = .ok (.iconst (-1), 1) := dTa tdX8_way_0 19 rfl
theorem dX8_way_40 : decode cX8_way 40 = .ok (.ireturn, 1) := dTa tdX8_way_0 20 rfl
theorem dX8_way_41 : decode cX8_way 41 = .ok (.aload_n 0, 1) := dTa tdX8_way_0 21 rfl
theorem dX8_way_42 : decode cX8_way 42 = .ok (.invokevirtual 212, 3) := dTa tdX8_way_0 22 rfl
theorem dX8_way_45 : decode cX8_way 45 = .ok (.aload_n 2, 1) := dTa tdX8_way_0 23 rfl
theorem dX8_way_46 : decode cX8_way 46 = .ok (.getfield 200, 3) := dTa tdX8_way_0 24 rfl
theorem dX8_way_49 : decode cX8_way 49 = .ok (.istore_n 3, 1) := dTa tdX8_way_0 25 rfl
theorem dX8_way_50 : decode cX8_way 50 = .ok (.aload_n 0, 1) := dTa tdX8_way_0 26 rfl
theorem dX8_way_51 : decode cX8_way 51 = .ok (.iload_n 3, 1) := dTa tdX8_way_0 27 rfl
theorem dX8_way_52 : decode cX8_way 52 = .ok (.invokevirtual 215, 3) := dTa tdX8_way_0 28 rfl
theorem dX8_way_55 : decode cX8_way 55 = .ok (.istore 4, 2) := dTa tdX8_way_0 29 rfl
theorem dX8_way_57 : decode cX8_way 57 = .ok (.iconst 0, 1) := dTa tdX8_way_0 30 rfl
theorem dX8_way_58 : decode cX8_way 58 = .ok (.istore 5, 2) := dTa tdX8_way_0 31 rfl
theorem dX8_way_60 : decode cX8_way 60 = .ok (.iload 5, 2) := dTa tdX8_way_0 32 rfl
theorem dX8_way_62 : decode cX8_way 62 = .ok (.iload_n 1, 1) := dTa tdX8_way_0 33 rfl
theorem dX8_way_63 : decode cX8_way 63 = .ok (.if_icmp .ge 31, 3) := dTa tdX8_way_0 34 rfl
theorem dX8_way_66 : decode cX8_way 66 = .ok (.iload 4, 2) := dTa tdX8_way_0 35 rfl
theorem dX8_way_68 : decode cX8_way 68 = .ok (.iconst (-1), 1) := dTa tdX8_way_0 36 rfl
theorem dX8_way_69 : decode cX8_way 69 = .ok (.if_icmp .eq 25, 3) := dTa tdX8_way_0 37 rfl
theorem dX8_way_72 : decode cX8_way 72 = .ok (.iload_n 3, 1) := dTa tdX8_way_0 38 rfl
theorem dX8_way_73 : decode cX8_way 73 = .ok (.iconst 1, 1) := dTa tdX8_way_0 39 rfl
set_option maxRecDepth 100000 in
theorem tdX8_way_74 : dTb cX8_way [(74, .iload 4, 2), (76, .ishl, 1), (77, .iconst (-1), 1), (78, .ixor, 1), (79, .iand, 1), (80, .istore_n 3, 1), (81, .aload_n 0, 1), (82, .iload_n 3, 1), (83, .invokevirtual 215, 3), (86, .istore 4, 2), (88, .iinc 5 1, 3), (91, .goto (-31), 3), (94, .iload 4, 2), (96, .iconst (-1), 1), (97, .if_icmp .ne 8, 3), (100, .bipush (-2), 2), (102, .goto 5, 3), (105, .iload 4, 2), (107, .ireturn, 1)] = true := by decide +kernel
theorem dX8_way_74 : decode cX8_way 74 = .ok (.iload 4, 2) := dTa tdX8_way_74 0 rfl
theorem dX8_way_76 : decode cX8_way 76 = .ok (.ishl, 1) := dTa tdX8_way_74 1 rfl
theorem dX8_way_77 : decode cX8_way 77 = .ok (.iconst (-1), 1) := dTa tdX8_way_74 2 rfl
theorem dX8_way_78 : decode cX8_way 78 = .ok (.ixor, 1) := dTa tdX8_way_74 3 rfl
theorem dX8_way_79 : decode cX8_way 79 = .ok (.iand, 1) := dTa tdX8_way_74 4 rfl
theorem dX8_way_80 : decode cX8_way 80 = .ok (.istore_n 3, 1) := dTa tdX8_way_74 5 rfl
theorem dX8_way_81 : decode cX8_way 81 = .ok (.aload_n 0, 1) := dTa tdX8_way_74 6 rfl
theorem dX8_way_82 : decode cX8_way 82 = .ok (.iload_n 3, 1) := dTa tdX8_way_74 7 rfl
theorem dX8_way_83 : decode cX8_way 83 = .ok (.invokevirtual 215, 3) := dTa tdX8_way_74 8 rfl
theorem dX8_way_86 : decode cX8_way 86 = .ok (.istore 4, 2) := dTa tdX8_way_74 9 rfl
theorem dX8_way_88 : decode cX8_way 88 = .ok (.iinc 5 1, 3) := dTa tdX8_way_74 10 rfl
theorem dX8_way_91 : decode cX8_way 91 = .ok (.goto (-31), 3) := dTa tdX8_way_74 11 rfl
theorem dX8_way_94 : decode cX8_way 94 = .ok (.iload 4, 2) := dTa tdX8_way_74 12 rfl
theorem dX8_way_96 : decode cX8_way 96 = .ok (.iconst (-1), 1) := dTa tdX8_way_74 13 rfl
theorem dX8_way_97 : decode cX8_way 97 = .ok (.if_icmp .ne 8, 3) := dTa tdX8_way_74 14 rfl
theorem dX8_way_100 : decode cX8_way 100 = .ok (.bipush (-2), 2) := dTa tdX8_way_74 15 rfl
theorem dX8_way_102 : decode cX8_way 102 = .ok (.goto 5, 3) := dTa tdX8_way_74 16 rfl
theorem dX8_way_105 : decode cX8_way 105 = .ok (.iload 4, 2) := dTa tdX8_way_74 17 rfl
theorem dX8_way_107 : decode cX8_way 107 = .ok (.ireturn, 1) := dTa tdX8_way_74 18 rfl
set_option maxRecDepth 20000 in
theorem bq_wsX8_ahead : subq wsX8_ahead [wsX8_ahead_r1, wsX8_ahead_r2, wsX8_ahead_r3, wsX8_ahead_r4, wsX8_ahead_r5, wsX8_ahead_r6] := ⟨(fun _ h => (List.mem_cons_of_mem _ (List.mem_append_left _ (List.mem_append_left _ (List.mem_append_left _ (List.mem_append_left _ (List.mem_append_left _ h))))))), (fun _ h => (List.mem_cons_of_mem _ (List.mem_append_left _ (List.mem_append_left _ (List.mem_append_left _ (List.mem_append_left _ (List.mem_append_right _ (List.mem_append_left _ h)))))))), (fun _ h => (List.mem_cons_of_mem _ (List.mem_append_left _ (List.mem_append_left _ (List.mem_append_left _ (List.mem_append_left _ (List.mem_append_right _ (List.mem_append_right _ (List.mem_append_left _ h))))))))), (fun _ h => (List.mem_cons_of_mem _ (List.mem_append_left _ (List.mem_append_left _ (List.mem_append_left _ (List.mem_append_left _ (List.mem_append_right _ (List.mem_append_right _ (List.mem_append_right _ (List.mem_append_left _ h)))))))))), (fun _ h => (List.mem_cons_of_mem _ (List.mem_append_left _ (List.mem_append_left _ (List.mem_append_left _ (List.mem_append_left _ (List.mem_append_right _ (List.mem_append_right _ (List.mem_append_right _ (List.mem_append_right _ (List.mem_append_left _ h))))))))))), (fun _ h => (List.mem_cons_of_mem _ (List.mem_append_left _ (List.mem_append_left _ (List.mem_append_left _ (List.mem_append_left _ (List.mem_append_right _ (List.mem_append_right _ (List.mem_append_right _ (List.mem_append_right _ (List.mem_append_right _ h))))))))))), trivial⟩
set_option maxRecDepth 20000 in
theorem ggX8_ahead_J6_bitCount_0f7a4 : GoodIn wsX8_ahead wsJ6_bitCount_0f7a4 := (goodIn_cons (good_rb bq_wsX8_ahead ([(3, 23)] : List (Nat × Nat)) rfl (by decide +kernel)) (good_rb bq_wsX8_ahead ([(4, 0), (4, 1), (4, 2)] : List (Nat × Nat)) rfl (by decide +kernel)))
set_option maxRecDepth 20000 in
theorem gX8_ahead_J6_bitCount_0f7a4 : GoodIn wsX8_ahead (va_wsS RX8 182 yJ6_bitCount_0f7a4 wsJ6_bitCount_0f7a4) := goodIn_app (good_rp ([119, 94, 95] : List Nat) rfl (by decide +kernel)) ggX8_ahead_J6_bitCount_0f7a4
set_option maxRecDepth 20000 in
theorem ggX8_ahead_X3_copyFrom : GoodIn wsX8_ahead wsX3_copyFrom := (goodIn_cons (good_rb bq_wsX8_ahead ([(0, 14)] : List (Nat × Nat)) rfl (by decide +kernel)) (goodIn_app (good_rb bq_wsX8_ahead ([(0, 15), (0, 16), (0, 17), (0, 10), (0, 18), (0, 19), (0, 20), (0, 21), (0, 22), (0, 23), (1, 0), (1, 1), (1, 2), (1, 3), (1, 4), (1, 5), (1, 6), (1, 7), (1, 8), (1, 9)] : List (Nat × Nat)) rfl (by decide +kernel)) (goodIn_sb (fun _ h => (List.mem_cons_of_mem _ (List.mem_append_left _ (List.mem_append_right _ h)))) (by decide +kernel))))
set_option maxRecDepth 20000 in
theorem gX8_ahead_X3_copyFrom : GoodIn wsX8_ahead (wsV RX8 84 RX3 yX3_copyFrom wsX3_copyFrom) := goodIn_app (good_rp ([12, 13, 14, 9] : List Nat) rfl (by decide +kernel)) ggX8_ahead_X3_copyFrom
set_option maxRecDepth 20000 in
theorem ggX8_ahead_X3_givesUnder : GoodIn wsX8_ahead wsX3_givesUnder := (goodIn_cons (good_rb bq_wsX8_ahead ([(3, 19)] : List (Nat × Nat)) rfl (by decide +kernel)) (goodIn_app (good_rb bq_wsX8_ahead ([(0, 10), (1, 6), (1, 0), (1, 1), (1, 4), (1, 3), (1, 2)] : List (Nat × Nat)) rfl (by decide +kernel)) (goodIn_sb (fun _ h => (List.mem_cons_of_mem _ (List.mem_append_left _ (List.mem_append_right _ h)))) (by decide +kernel))))
set_option maxRecDepth 20000 in
theorem gX8_ahead_X3_givesUnder : GoodIn wsX8_ahead (wsV RX8 135 RX3 yX3_givesUnder wsX3_givesUnder) := goodIn_app (good_rp ([124, 90, 91, 9] : List Nat) rfl (by decide +kernel)) ggX8_ahead_X3_givesUnder
set_option maxRecDepth 20000 in
theorem ggX8_ahead_X3_hasSitter : GoodIn wsX8_ahead wsX3_hasSitter := (goodIn_cons (good_rb bq_wsX8_ahead ([(0, 9)] : List (Nat × Nat)) rfl (by decide +kernel)) (goodIn_app (good_rb bq_wsX8_ahead ([(0, 10)] : List (Nat × Nat)) rfl (by decide +kernel)) (goodIn_sb (fun _ h => (List.mem_cons_of_mem _ (List.mem_append_left _ (List.mem_append_right _ h)))) (by decide +kernel))))
set_option maxRecDepth 20000 in
theorem gX8_ahead_X3_hasSitter : GoodIn wsX8_ahead (wsV RX8 138 RX3 yX3_hasSitter wsX3_hasSitter) := goodIn_app (good_rp ([6, 7, 8, 9] : List Nat) rfl (by decide +kernel)) ggX8_ahead_X3_hasSitter
set_option maxRecDepth 20000 in
theorem ggX8_ahead_X3_passMinutes : GoodIn wsX8_ahead wsX3_passMinutes := (goodIn_cons (good_rb bq_wsX8_ahead ([(2, 1)] : List (Nat × Nat)) rfl (by decide +kernel)) (goodIn_app (goodIn_app (goodIn_app (good_rb bq_wsX8_ahead ([(2, 2), (2, 3), (2, 4), (0, 8), (2, 5), (0, 10), (1, 9), (2, 6), (1, 8), (2, 7), (2, 8), (2, 9), (2, 10), (1, 0), (1, 1), (1, 6), (1, 4), (1, 2), (1, 5), (2, 11), (2, 12), (2, 13), (2, 14), (1, 7)] : List (Nat × Nat)) rfl (by decide +kernel)) (goodIn_app (good_rb bq_wsX8_ahead ([(2, 15), (2, 16), (2, 17), (2, 18), (2, 19), (2, 20), (2, 21), (2, 22), (2, 23), (3, 0), (3, 1), (3, 2), (3, 3), (3, 4), (3, 5), (3, 6), (3, 7), (3, 8), (3, 9), (3, 10), (3, 11), (3, 12), (3, 13), (3, 14)] : List (Nat × Nat)) rfl (by decide +kernel)) (goodIn_app (good_rb bq_wsX8_ahead ([(0, 23), (1, 3), (3, 15), (0, 6), (0, 7), (0, 9), (3, 16), (3, 17), (3, 18), (3, 19), (3, 20), (3, 21), (3, 22), (3, 23), (4, 0), (4, 1), (4, 2), (4, 3), (4, 4), (4, 5), (4, 6), (4, 7), (4, 8), (4, 9)] : List (Nat × Nat)) rfl (by decide +kernel)) (good_rb bq_wsX8_ahead ([(4, 10), (4, 11), (4, 12), (4, 13), (4, 14), (4, 15), (4, 16), (4, 17), (4, 18), (4, 19), (4, 20), (4, 21)] : List (Nat × Nat)) rfl (by decide +kernel))))) (goodIn_sb (fun _ h => (List.mem_cons_of_mem _ (List.mem_append_left _ (List.mem_append_right _ h)))) (by decide +kernel))) (goodIn_sb (fun _ h => (List.mem_cons_of_mem _ (List.mem_append_right _ h))) (by decide +kernel))))
set_option maxRecDepth 20000 in
theorem gX8_ahead_X3_passMinutes : GoodIn wsX8_ahead (wsV RX8 193 RX3 yX3_passMinutes wsX3_passMinutes) := goodIn_app (good_rp ([47, 48, 49, 9] : List Nat) rfl (by decide +kernel)) ggX8_ahead_X3_passMinutes
set_option maxRecDepth 20000 in
theorem ggX8_ahead_X3_stateOf : GoodIn wsX8_ahead wsX3_stateOf := (goodIn_cons (good_rb bq_wsX8_ahead ([(5, 2)] : List (Nat × Nat)) rfl (by decide +kernel)) (goodIn_app (good_rb bq_wsX8_ahead ([(1, 7), (1, 6), (3, 15), (0, 6), (0, 7), (0, 8), (0, 9), (0, 10)] : List (Nat × Nat)) rfl (by decide +kernel)) (goodIn_sb (fun _ h => (List.mem_cons_of_mem _ (List.mem_append_left _ (List.mem_append_right _ h)))) (by decide +kernel))))
set_option maxRecDepth 20000 in
theorem gX8_ahead_X3_stateOf : GoodIn wsX8_ahead (wsV RX8 147 RX3 yX3_stateOf wsX3_stateOf) := goodIn_app (good_rp ([120, 121, 122, 9] : List Nat) rfl (by decide +kernel)) ggX8_ahead_X3_stateOf
set_option maxRecDepth 20000 in
theorem ggX8_ahead_X8_ruleInForce : GoodIn wsX8_ahead wsX8_ruleInForce := (goodIn_cons (good_rb bq_wsX8_ahead ([(1, 14)] : List (Nat × Nat)) rfl (by decide +kernel)) (goodIn_app (goodIn_app (good_rb bq_wsX8_ahead ([(0, 0), (1, 15), (1, 16), (1, 17), (1, 18), (1, 13), (1, 19), (1, 20), (1, 21)] : List (Nat × Nat)) rfl (by decide +kernel)) (goodIn_sb (fun _ h => (List.mem_cons_of_mem _ (List.mem_append_left _ (List.mem_append_left _ (List.mem_append_left _ (List.mem_append_right _ h)))))) (by decide +kernel))) (goodIn_sb (fun _ h => (List.mem_cons_of_mem _ (List.mem_append_left _ (List.mem_append_left _ (List.mem_append_right _ h))))) (by decide +kernel))))
set_option maxRecDepth 20000 in
theorem gX8_ahead_X8_ruleInForce : GoodIn wsX8_ahead (wsV RX8 160 RX8 yX8_ruleInForce wsX8_ruleInForce) := goodIn_app (good_rp ([35, 36, 37, 38] : List Nat) rfl (by decide +kernel)) ggX8_ahead_X8_ruleInForce
set_option maxRecDepth 20000 in
theorem bq_wsX8_chair : subq wsX8_chair [wsX8_chair_r1, wsX8_chair_r2] := ⟨(fun _ h => (List.mem_cons_of_mem _ (List.mem_append_left _ (List.mem_append_left _ (List.mem_append_left _ (List.mem_append_left _ h)))))), (fun _ h => (List.mem_cons_of_mem _ (List.mem_append_left _ (List.mem_append_left _ (List.mem_append_left _ (List.mem_append_right _ h)))))), trivial⟩
set_option maxRecDepth 20000 in
theorem ggX8_chair_X3_givesUnder : GoodIn wsX8_chair wsX3_givesUnder := (goodIn_cons (good_rb bq_wsX8_chair ([(0, 19)] : List (Nat × Nat)) rfl (by decide +kernel)) (goodIn_app (good_rb bq_wsX8_chair ([(0, 14), (0, 20), (0, 21), (0, 15), (0, 22), (0, 23), (1, 0)] : List (Nat × Nat)) rfl (by decide +kernel)) (goodIn_sb (fun _ h => (List.mem_cons_of_mem _ (List.mem_append_right _ h))) (by decide +kernel))))
set_option maxRecDepth 20000 in
theorem gX8_chair_X3_givesUnder : GoodIn wsX8_chair (wsV RX8 135 RX3 yX3_givesUnder wsX3_givesUnder) := goodIn_app (good_rp ([17, 18, 19, 8] : List Nat) rfl (by decide +kernel)) ggX8_chair_X3_givesUnder
set_option maxRecDepth 20000 in
theorem ggX8_chair_X3_hasChair : GoodIn wsX8_chair wsX3_hasChair := (goodIn_cons (good_rb bq_wsX8_chair ([(0, 8)] : List (Nat × Nat)) rfl (by decide +kernel)) (goodIn_app (good_rb bq_wsX8_chair ([(0, 9)] : List (Nat × Nat)) rfl (by decide +kernel)) (goodIn_sb (fun _ h => (List.mem_cons_of_mem _ (List.mem_append_right _ h))) (by decide +kernel))))
set_option maxRecDepth 20000 in
theorem gX8_chair_X3_hasChair : GoodIn wsX8_chair (wsV RX8 122 RX3 yX3_hasChair wsX3_hasChair) := goodIn_app (good_rp ([5, 6, 7, 8] : List Nat) rfl (by decide +kernel)) ggX8_chair_X3_hasChair
set_option maxRecDepth 20000 in
theorem ggX8_chair_X3_sitterOn : GoodIn wsX8_chair wsX3_sitterOn := (goodIn_cons (good_rb bq_wsX8_chair ([(0, 13)] : List (Nat × Nat)) rfl (by decide +kernel)) (goodIn_app (good_rb bq_wsX8_chair ([(0, 14), (0, 15)] : List (Nat × Nat)) rfl (by decide +kernel)) (goodIn_sb (fun _ h => (List.mem_cons_of_mem _ (List.mem_append_right _ h))) (by decide +kernel))))
set_option maxRecDepth 20000 in
theorem gX8_chair_X3_sitterOn : GoodIn wsX8_chair (wsV RX8 131 RX3 yX3_sitterOn wsX3_sitterOn) := goodIn_app (good_rp ([11, 12, 13, 8] : List Nat) rfl (by decide +kernel)) ggX8_chair_X3_sitterOn
set_option maxRecDepth 20000 in
theorem bq_wsX8_ease : subq wsX8_ease [wsX8_ease_r1, wsX8_ease_r2, wsX8_ease_r3] := ⟨(fun _ h => (List.mem_cons_of_mem _ (List.mem_append_left _ (List.mem_append_left _ (List.mem_append_left _ (List.mem_append_left _ h)))))), (fun _ h => (List.mem_cons_of_mem _ (List.mem_append_left _ (List.mem_append_left _ (List.mem_append_left _ (List.mem_append_right _ (List.mem_append_left _ h))))))), (fun _ h => (List.mem_cons_of_mem _ (List.mem_append_left _ (List.mem_append_left _ (List.mem_append_left _ (List.mem_append_right _ (List.mem_append_right _ h))))))), trivial⟩
set_option maxRecDepth 20000 in
theorem ggX8_ease_J6_bitCount_0f7a4 : GoodIn wsX8_ease wsJ6_bitCount_0f7a4 := (goodIn_cons (good_rb bq_wsX8_ease ([(1, 13)] : List (Nat × Nat)) rfl (by decide +kernel)) (good_rb bq_wsX8_ease ([(1, 14), (1, 15), (1, 16)] : List (Nat × Nat)) rfl (by decide +kernel)))
set_option maxRecDepth 20000 in
theorem gX8_ease_J6_bitCount_0f7a4 : GoodIn wsX8_ease (va_wsS RX8 182 yJ6_bitCount_0f7a4 wsJ6_bitCount_0f7a4) := goodIn_app (good_rp ([35, 36, 37] : List Nat) rfl (by decide +kernel)) ggX8_ease_J6_bitCount_0f7a4
set_option maxRecDepth 20000 in
theorem ggX8_ease_X3_bears : GoodIn wsX8_ease wsX3_bears := (goodIn_cons (good_rb bq_wsX8_ease ([(1, 20)] : List (Nat × Nat)) rfl (by decide +kernel)) (goodIn_app (goodIn_app (good_rb bq_wsX8_ease ([(0, 11), (1, 21), (1, 22), (1, 23), (0, 8), (2, 0), (1, 6), (1, 7), (0, 10), (1, 2), (1, 3), (1, 4), (2, 1), (2, 2), (2, 3), (2, 4), (2, 5), (2, 6), (2, 7), (2, 8), (2, 9), (2, 10), (2, 11), (2, 12)] : List (Nat × Nat)) rfl (by decide +kernel)) (good_rb bq_wsX8_ease ([(1, 1), (2, 13), (2, 14), (2, 15), (2, 16), (1, 5)] : List (Nat × Nat)) rfl (by decide +kernel))) (goodIn_sb (fun _ h => (List.mem_cons_of_mem _ (List.mem_append_right _ h))) (by decide +kernel))))
set_option maxRecDepth 20000 in
theorem gX8_ease_X3_bears : GoodIn wsX8_ease (wsV RX8 209 RX3 yX3_bears wsX3_bears) := goodIn_app (good_rp ([42, 43, 44, 9] : List Nat) rfl (by decide +kernel)) ggX8_ease_X3_bears
set_option maxRecDepth 20000 in
theorem ggX8_ease_X3_copyFrom : GoodIn wsX8_ease wsX3_copyFrom := (goodIn_cons (good_rb bq_wsX8_ease ([(0, 16)] : List (Nat × Nat)) rfl (by decide +kernel)) (goodIn_app (good_rb bq_wsX8_ease ([(0, 17), (0, 18), (0, 19), (0, 10), (0, 20), (0, 21), (0, 22), (0, 23), (1, 0), (1, 1), (1, 2), (1, 3), (1, 4), (1, 5), (1, 6), (1, 7), (0, 11), (0, 12), (1, 8), (1, 9)] : List (Nat × Nat)) rfl (by decide +kernel)) (goodIn_sb (fun _ h => (List.mem_cons_of_mem _ (List.mem_append_right _ h))) (by decide +kernel))))
set_option maxRecDepth 20000 in
theorem gX8_ease_X3_copyFrom : GoodIn wsX8_ease (wsV RX8 84 RX3 yX3_copyFrom wsX3_copyFrom) := goodIn_app (good_rp ([14, 15, 16, 9] : List Nat) rfl (by decide +kernel)) ggX8_ease_X3_copyFrom
set_option maxRecDepth 20000 in
theorem ggX8_ease_X3_standing : GoodIn wsX8_ease wsX3_standing := (goodIn_cons (good_rb bq_wsX8_ease ([(0, 9)] : List (Nat × Nat)) rfl (by decide +kernel)) (goodIn_app (good_rb bq_wsX8_ease ([(0, 10), (0, 11), (0, 12)] : List (Nat × Nat)) rfl (by decide +kernel)) (goodIn_sb (fun _ h => (List.mem_cons_of_mem _ (List.mem_append_right _ h))) (by decide +kernel))))
set_option maxRecDepth 20000 in
theorem gX8_ease_X3_standing : GoodIn wsX8_ease (wsV RX8 206 RX3 yX3_standing wsX3_standing) := goodIn_app (good_rp ([6, 7, 8, 9] : List Nat) rfl (by decide +kernel)) ggX8_ease_X3_standing
set_option maxRecDepth 20000 in
theorem bq_wsX8_falls : subq wsX8_falls [wsX8_falls_r1, wsX8_falls_r2, wsX8_falls_r3, wsX8_falls_r4, wsX8_falls_r5] := ⟨(fun _ h => (List.mem_cons_of_mem _ (List.mem_append_left _ (List.mem_append_left _ (List.mem_append_left _ (List.mem_append_left _ (List.mem_append_left _ h))))))), (fun _ h => (List.mem_cons_of_mem _ (List.mem_append_left _ (List.mem_append_left _ (List.mem_append_left _ (List.mem_append_left _ (List.mem_append_right _ (List.mem_append_left _ h)))))))), (fun _ h => (List.mem_cons_of_mem _ (List.mem_append_left _ (List.mem_append_left _ (List.mem_append_left _ (List.mem_append_left _ (List.mem_append_right _ (List.mem_append_right _ (List.mem_append_left _ h))))))))), (fun _ h => (List.mem_cons_of_mem _ (List.mem_append_left _ (List.mem_append_left _ (List.mem_append_left _ (List.mem_append_left _ (List.mem_append_right _ (List.mem_append_right _ (List.mem_append_right _ (List.mem_append_left _ h)))))))))), (fun _ h => (List.mem_cons_of_mem _ (List.mem_append_left _ (List.mem_append_left _ (List.mem_append_left _ (List.mem_append_left _ (List.mem_append_right _ (List.mem_append_right _ (List.mem_append_right _ (List.mem_append_right _ h)))))))))), trivial⟩
set_option maxRecDepth 20000 in
theorem ggX8_falls_X3_copyFrom : GoodIn wsX8_falls wsX3_copyFrom := (goodIn_cons (good_rb bq_wsX8_falls ([(0, 21)] : List (Nat × Nat)) rfl (by decide +kernel)) (goodIn_app (good_rb bq_wsX8_falls ([(0, 22), (0, 23), (1, 0), (1, 1), (1, 2), (1, 3), (1, 4), (1, 5), (1, 6), (1, 7), (1, 8), (1, 9), (1, 10), (1, 11), (1, 12), (1, 13), (1, 14), (1, 15), (1, 16), (1, 17)] : List (Nat × Nat)) rfl (by decide +kernel)) (goodIn_sb (fun _ h => (List.mem_cons_of_mem _ (List.mem_append_left _ (List.mem_append_right _ h)))) (by decide +kernel))))
set_option maxRecDepth 20000 in
theorem gX8_falls_X3_copyFrom : GoodIn wsX8_falls (wsV RX8 84 RX3 yX3_copyFrom wsX3_copyFrom) := goodIn_app (good_rp ([18, 19, 20, 21] : List Nat) rfl (by decide +kernel)) ggX8_falls_X3_copyFrom
set_option maxRecDepth 20000 in
theorem ggX8_falls_X3_passMinute : GoodIn wsX8_falls wsX3_passMinute := (goodIn_cons (good_rb bq_wsX8_falls ([(1, 21)] : List (Nat × Nat)) rfl (by decide +kernel)) (goodIn_app (goodIn_app (goodIn_app (good_rb bq_wsX8_falls ([(1, 1), (1, 17), (1, 22), (1, 16), (1, 23), (2, 0), (2, 1), (0, 20), (2, 2), (1, 8), (1, 9), (1, 14), (1, 12), (1, 10), (1, 13), (2, 3), (2, 4), (2, 5), (2, 6), (1, 15), (2, 7), (2, 8), (2, 9), (2, 10)] : List (Nat × Nat)) rfl (by decide +kernel)) (goodIn_app (good_rb bq_wsX8_falls ([(2, 11), (2, 12), (2, 13), (2, 14), (2, 15), (2, 16), (2, 17), (2, 18), (2, 19), (2, 20), (2, 21), (2, 22), (2, 23), (3, 0), (3, 1), (3, 2), (3, 3), (3, 4), (3, 5), (3, 6), (1, 7), (1, 11), (3, 7), (3, 8)] : List (Nat × Nat)) rfl (by decide +kernel)) (goodIn_app (good_rb bq_wsX8_falls ([(3, 9), (3, 10), (3, 11), (3, 12), (3, 13), (3, 14), (3, 15), (3, 16), (3, 17), (3, 18), (3, 19), (3, 20), (3, 21), (3, 22), (3, 23), (4, 0), (4, 1), (4, 2), (4, 3), (4, 4), (4, 5), (4, 6), (4, 7), (4, 8)] : List (Nat × Nat)) rfl (by decide +kernel)) (good_rb bq_wsX8_falls ([(4, 9), (4, 10), (4, 11), (4, 12), (4, 13), (4, 14), (4, 15), (4, 16)] : List (Nat × Nat)) rfl (by decide +kernel))))) (goodIn_sb (fun _ h => (List.mem_cons_of_mem _ (List.mem_append_left _ (List.mem_append_right _ h)))) (by decide +kernel))) (goodIn_sb (fun _ h => (List.mem_cons_of_mem _ (List.mem_append_right _ h))) (by decide +kernel))))
set_option maxRecDepth 20000 in
theorem gX8_falls_X3_passMinute : GoodIn wsX8_falls (wsV RX8 164 RX3 yX3_passMinute wsX3_passMinute) := goodIn_app (good_rp ([43, 44, 45, 21] : List Nat) rfl (by decide +kernel)) ggX8_falls_X3_passMinute
set_option maxRecDepth 20000 in
theorem ggX8_falls_X8_ruleInForce : GoodIn wsX8_falls wsX8_ruleInForce := (goodIn_cons (good_rb bq_wsX8_falls ([(0, 9)] : List (Nat × Nat)) rfl (by decide +kernel)) (goodIn_app (goodIn_app (good_rb bq_wsX8_falls ([(0, 0), (0, 10), (0, 11), (0, 12), (0, 13), (0, 8), (0, 14), (0, 15), (0, 16)] : List (Nat × Nat)) rfl (by decide +kernel)) (goodIn_sb (fun _ h => (List.mem_cons_of_mem _ (List.mem_append_left _ (List.mem_append_left _ (List.mem_append_left _ (List.mem_append_right _ h)))))) (by decide +kernel))) (goodIn_sb (fun _ h => (List.mem_cons_of_mem _ (List.mem_append_left _ (List.mem_append_left _ (List.mem_append_right _ h))))) (by decide +kernel))))
set_option maxRecDepth 20000 in
theorem gX8_falls_X8_ruleInForce : GoodIn wsX8_falls (wsV RX8 160 RX8 yX8_ruleInForce wsX8_ruleInForce) := goodIn_app (good_rp ([6, 7, 8, 9] : List Nat) rfl (by decide +kernel)) ggX8_falls_X8_ruleInForce
set_option maxRecDepth 20000 in
theorem bq_wsX8_feed : subq wsX8_feed [[.fieldLink RX8 10 "ChairCane" "tape" "LChairCane$Tape;", .fieldLink RX8 65 "ChairCane$Tape" "length" "I", .methodLink RX8 68 yX7_append, .instanceMethod yX7_append, .selects RX7 yX7_append yX7_append, .initialized RX7, .code yX7_append cX7_append 3 none, .fieldLink RX7 15 "ChairCane$Tape" "length" "I", .fieldLink RX7 9 "ChairCane$Tape" "bytes" "[B"]] := ⟨(fun _ h => (List.mem_cons_of_mem _ (List.mem_append_left _ (List.mem_append_left _ h)))), trivial⟩
set_option maxRecDepth 20000 in
theorem ggX8_feed_X7_append : GoodIn wsX8_feed wsX7_append := (goodIn_cons (good_rb bq_wsX8_feed ([(0, 6)] : List (Nat × Nat)) rfl (by decide +kernel)) (goodIn_app (good_rb bq_wsX8_feed ([(0, 7), (0, 8)] : List (Nat × Nat)) rfl (by decide +kernel)) (goodIn_sb (fun _ h => (List.mem_cons_of_mem _ (List.mem_append_right _ h))) (by decide +kernel))))
set_option maxRecDepth 20000 in
theorem gX8_feed_X7_append : GoodIn wsX8_feed (wsV RX8 68 RX7 yX7_append wsX7_append) := goodIn_app (good_rp ([3, 4, 5, 6] : List Nat) rfl (by decide +kernel)) ggX8_feed_X7_append
set_option maxRecDepth 20000 in
theorem bq_wsX8_felledBy : subq wsX8_felledBy [wsX8_felledBy_r1, wsX8_felledBy_r2, wsX8_felledBy_r3] := ⟨(fun _ h => (List.mem_cons_of_mem _ (List.mem_append_left _ (List.mem_append_left _ (List.mem_append_left _ (List.mem_append_left _ h)))))), (fun _ h => (List.mem_cons_of_mem _ (List.mem_append_left _ (List.mem_append_left _ (List.mem_append_left _ (List.mem_append_right _ (List.mem_append_left _ h))))))), (fun _ h => (List.mem_cons_of_mem _ (List.mem_append_left _ (List.mem_append_left _ (List.mem_append_left _ (List.mem_append_right _ (List.mem_append_right _ h))))))), trivial⟩
set_option maxRecDepth 20000 in
theorem ggX8_felledBy_X3_copyFrom : GoodIn wsX8_felledBy wsX3_copyFrom := (goodIn_cons (good_rb bq_wsX8_felledBy ([(0, 7)] : List (Nat × Nat)) rfl (by decide +kernel)) (goodIn_app (good_rb bq_wsX8_felledBy ([(0, 8), (0, 9), (0, 10), (0, 11), (0, 12), (0, 13), (0, 14), (0, 15), (0, 16), (0, 17), (0, 18), (0, 19), (0, 20), (0, 21), (0, 22), (0, 23), (1, 0), (1, 1), (1, 2), (1, 3)] : List (Nat × Nat)) rfl (by decide +kernel)) (goodIn_sb (fun _ h => (List.mem_cons_of_mem _ (List.mem_append_right _ h))) (by decide +kernel))))
set_option maxRecDepth 20000 in
theorem gX8_felledBy_X3_copyFrom : GoodIn wsX8_felledBy (wsV RX8 84 RX3 yX3_copyFrom wsX3_copyFrom) := goodIn_app (good_rp ([4, 5, 6, 7] : List Nat) rfl (by decide +kernel)) ggX8_felledBy_X3_copyFrom
set_option maxRecDepth 20000 in
theorem ggX8_felledBy_X3_seat : GoodIn wsX8_felledBy wsX3_seat := (goodIn_cons (good_rb bq_wsX8_felledBy ([(1, 7)] : List (Nat × Nat)) rfl (by decide +kernel)) (goodIn_app (good_rb bq_wsX8_felledBy ([(0, 18), (0, 19), (1, 0), (0, 22), (0, 20), (0, 23), (1, 8), (1, 9), (1, 10), (0, 6), (1, 11), (0, 11), (1, 1), (1, 12), (1, 13), (1, 14), (1, 15)] : List (Nat × Nat)) rfl (by decide +kernel)) (goodIn_sb (fun _ h => (List.mem_cons_of_mem _ (List.mem_append_right _ h))) (by decide +kernel))))
set_option maxRecDepth 20000 in
theorem gX8_felledBy_X3_seat : GoodIn wsX8_felledBy (wsV RX8 168 RX3 yX3_seat wsX3_seat) := goodIn_app (good_rp ([29, 30, 31, 7] : List Nat) rfl (by decide +kernel)) ggX8_felledBy_X3_seat
set_option maxRecDepth 20000 in
theorem ggX8_felledBy_X3_settle : GoodIn wsX8_felledBy wsX3_settle := (goodIn_cons (good_rb bq_wsX8_felledBy ([(1, 19)] : List (Nat × Nat)) rfl (by decide +kernel)) (goodIn_app (goodIn_app (good_rb bq_wsX8_felledBy ([(1, 0), (1, 1), (1, 20), (1, 21), (1, 22), (0, 6), (1, 23), (0, 11), (0, 17), (0, 19), (2, 0), (2, 1), (2, 2), (2, 3), (0, 18), (0, 22), (0, 21), (0, 20), (2, 4), (2, 5), (2, 6), (2, 7), (0, 23), (2, 8)] : List (Nat × Nat)) rfl (by decide +kernel)) (good_rb bq_wsX8_felledBy ([(2, 9), (2, 10), (2, 11), (1, 12), (1, 13), (1, 14), (1, 15)] : List (Nat × Nat)) rfl (by decide +kernel))) (goodIn_sb (fun _ h => (List.mem_cons_of_mem _ (List.mem_append_right _ h))) (by decide +kernel))))
set_option maxRecDepth 20000 in
theorem gX8_felledBy_X3_settle : GoodIn wsX8_felledBy (wsV RX8 172 RX3 yX3_settle wsX3_settle) := goodIn_app (good_rp ([41, 42, 43, 7] : List Nat) rfl (by decide +kernel)) ggX8_felledBy_X3_settle
set_option maxRecDepth 20000 in
theorem bq_wsX8_felled : subq wsX8_felled [wsX8_felled_r1, wsX8_felled_r2, wsX8_felled_r3] := ⟨(fun _ h => (List.mem_cons_of_mem _ (List.mem_append_left _ (List.mem_append_left _ (List.mem_append_left _ (List.mem_append_left _ h)))))), (fun _ h => (List.mem_cons_of_mem _ (List.mem_append_left _ (List.mem_append_left _ (List.mem_append_left _ (List.mem_append_right _ (List.mem_append_left _ h))))))), (fun _ h => (List.mem_cons_of_mem _ (List.mem_append_left _ (List.mem_append_left _ (List.mem_append_left _ (List.mem_append_right _ (List.mem_append_right _ h))))))), trivial⟩
set_option maxRecDepth 20000 in
theorem ggX8_felled_X3_isDown : GoodIn wsX8_felled wsX3_isDown := (goodIn_cons (good_rb bq_wsX8_felled ([(0, 6)] : List (Nat × Nat)) rfl (by decide +kernel)) (goodIn_app (good_rb bq_wsX8_felled ([(0, 7), (0, 8)] : List (Nat × Nat)) rfl (by decide +kernel)) (goodIn_sb (fun _ h => (List.mem_cons_of_mem _ (List.mem_append_right _ h))) (by decide +kernel))))
set_option maxRecDepth 20000 in
theorem gX8_felled_X3_isDown : GoodIn wsX8_felled (wsV RX8 176 RX3 yX3_isDown wsX3_isDown) := goodIn_app (good_rp ([3, 4, 5, 6] : List Nat) rfl (by decide +kernel)) ggX8_felled_X3_isDown
set_option maxRecDepth 20000 in
theorem ggX8_felled_X8_felledBy : GoodIn wsX8_felled wsX8_felledBy := (goodIn_cons (good_rb bq_wsX8_felled ([(0, 13)] : List (Nat × Nat)) rfl (by decide +kernel)) (goodIn_app (goodIn_app (goodIn_app (goodIn_app (good_rb bq_wsX8_felled ([(0, 14), (0, 0), (0, 1), (0, 15), (0, 16), (0, 17), (0, 5), (0, 18), (0, 19), (0, 20), (0, 21), (0, 7), (0, 22), (0, 23), (1, 0), (1, 1), (1, 2), (1, 3), (1, 4), (1, 5), (1, 6), (1, 7), (1, 8), (1, 9)] : List (Nat × Nat)) rfl (by decide +kernel)) (goodIn_app (good_rb bq_wsX8_felled ([(0, 8), (1, 10), (1, 11), (1, 12), (1, 13), (1, 14), (1, 15), (1, 16), (1, 17), (1, 18), (1, 19), (1, 20), (1, 21), (0, 3), (0, 4), (0, 6), (1, 22), (1, 23), (2, 0), (2, 1), (2, 2), (2, 3), (2, 4), (2, 5)] : List (Nat × Nat)) rfl (by decide +kernel)) (good_rb bq_wsX8_felled ([(2, 6), (2, 7), (2, 8), (2, 9), (2, 10), (2, 11), (2, 12), (2, 13), (2, 14), (2, 15), (2, 16), (2, 17)] : List (Nat × Nat)) rfl (by decide +kernel)))) (goodIn_sb (fun _ h => (List.mem_cons_of_mem _ (List.mem_append_left _ (List.mem_append_left _ (List.mem_append_right _ h))))) (by decide +kernel))) (goodIn_sb (fun _ h => (List.mem_cons_of_mem _ (List.mem_append_left _ (List.mem_append_right _ h)))) (by decide +kernel))) (goodIn_sb (fun _ h => (List.mem_cons_of_mem _ (List.mem_append_right _ h))) (by decide +kernel))))
set_option maxRecDepth 20000 in
theorem gX8_felled_X8_felledBy : GoodIn wsX8_felled (wsV RX8 203 RX8 yX8_felledBy wsX8_felledBy) := goodIn_app (good_rp ([10, 11, 12, 13] : List Nat) rfl (by decide +kernel)) ggX8_felled_X8_felledBy
set_option maxRecDepth 20000 in
theorem bq_wsX8_findSafeSets : subq wsX8_findSafeSets [wsX8_findSafeSets_r1, wsX8_findSafeSets_r2, wsX8_findSafeSets_r3] := ⟨(fun _ h => (List.mem_cons_of_mem _ (List.mem_append_left _ (List.mem_append_left _ (List.mem_append_left _ (List.mem_append_left _ h)))))), (fun _ h => (List.mem_cons_of_mem _ (List.mem_append_left _ (List.mem_append_left _ (List.mem_append_left _ (List.mem_append_right _ (List.mem_append_left _ h))))))), (fun _ h => (List.mem_cons_of_mem _ (List.mem_append_left _ (List.mem_append_left _ (List.mem_append_left _ (List.mem_append_right _ (List.mem_append_right _ h))))))), trivial⟩
set_option maxRecDepth 20000 in
theorem ggX8_findSafeSets_X3_bears : GoodIn wsX8_findSafeSets wsX3_bears := (goodIn_cons (good_rb bq_wsX8_findSafeSets ([(1, 14)] : List (Nat × Nat)) rfl (by decide +kernel)) (goodIn_app (goodIn_app (good_rb bq_wsX8_findSafeSets ([(1, 2), (1, 15), (1, 16), (1, 17), (0, 8), (1, 18), (1, 0), (1, 1), (0, 13), (0, 20), (0, 21), (0, 22), (1, 19), (1, 20), (1, 21), (1, 22), (1, 23), (2, 0), (2, 1), (2, 2), (2, 3), (2, 4), (2, 5), (2, 6)] : List (Nat × Nat)) rfl (by decide +kernel)) (good_rb bq_wsX8_findSafeSets ([(0, 19), (2, 7), (2, 8), (2, 9), (2, 10), (0, 23)] : List (Nat × Nat)) rfl (by decide +kernel))) (goodIn_sb (fun _ h => (List.mem_cons_of_mem _ (List.mem_append_right _ h))) (by decide +kernel))))
set_option maxRecDepth 20000 in
theorem gX8_findSafeSets_X3_bears : GoodIn wsX8_findSafeSets (wsV RX8 209 RX3 yX3_bears wsX3_bears) := goodIn_app (good_rp ([36, 37, 38, 9] : List Nat) rfl (by decide +kernel)) ggX8_findSafeSets_X3_bears
set_option maxRecDepth 20000 in
theorem ggX8_findSafeSets_X3_copyFrom : GoodIn wsX8_findSafeSets wsX3_copyFrom := (goodIn_cons (good_rb bq_wsX8_findSafeSets ([(0, 9)] : List (Nat × Nat)) rfl (by decide +kernel)) (goodIn_app (good_rb bq_wsX8_findSafeSets ([(0, 10), (0, 11), (0, 12), (0, 13), (0, 14), (0, 15), (0, 16), (0, 17), (0, 18), (0, 19), (0, 20), (0, 21), (0, 22), (0, 23), (1, 0), (1, 1), (1, 2), (1, 3), (1, 4), (1, 5)] : List (Nat × Nat)) rfl (by decide +kernel)) (goodIn_sb (fun _ h => (List.mem_cons_of_mem _ (List.mem_append_right _ h))) (by decide +kernel))))
set_option maxRecDepth 20000 in
theorem gX8_findSafeSets_X3_copyFrom : GoodIn wsX8_findSafeSets (wsV RX8 84 RX3 yX3_copyFrom wsX3_copyFrom) := goodIn_app (good_rp ([6, 7, 8, 9] : List Nat) rfl (by decide +kernel)) ggX8_findSafeSets_X3_copyFrom
set_option maxRecDepth 20000 in
theorem ggX8_findSafeSets_X8_firstToRise : GoodIn wsX8_findSafeSets wsX8_firstToRise := (goodIn_cons (good_rb bq_wsX8_findSafeSets ([(1, 10)] : List (Nat × Nat)) rfl (by decide +kernel)) (goodIn_app (good_rb bq_wsX8_findSafeSets ([(0, 4)] : List (Nat × Nat)) rfl (by decide +kernel)) (goodIn_sb (fun _ h => (List.mem_cons_of_mem _ (List.mem_append_left _ (List.mem_append_left _ (List.mem_append_right _ h))))) (by decide +kernel))))
set_option maxRecDepth 20000 in
theorem gX8_findSafeSets_X8_firstToRise : GoodIn wsX8_findSafeSets (wsV RX8 215 RX8 yX8_firstToRise wsX8_firstToRise) := goodIn_app (good_rp ([31, 32, 33, 34] : List Nat) rfl (by decide +kernel)) ggX8_findSafeSets_X8_firstToRise
set_option maxRecDepth 20000 in
theorem bq_wsX8_hall : subq wsX8_hall [wsX8_hall_r1, wsX8_hall_r2, wsX8_hall_r3, wsX8_hall_r4, wsX8_hall_r5, wsX8_hall_r6, wsX8_hall_r7, wsX8_hall_r8, wsX8_hall_r9, wsX8_hall_r10] := ⟨(fun _ h => (List.mem_cons_of_mem _ (List.mem_append_left _ (List.mem_append_left _ (List.mem_append_left _ (List.mem_append_left _ (List.mem_append_left _ (List.mem_append_left _ (List.mem_append_left _ h))))))))), (fun _ h => (List.mem_cons_of_mem _ (List.mem_append_left _ (List.mem_append_left _ (List.mem_append_left _ (List.mem_append_left _ (List.mem_append_left _ (List.mem_append_left _ (List.mem_append_right _ (List.mem_append_left _ h)))))))))), (fun _ h => (List.mem_cons_of_mem _ (List.mem_append_left _ (List.mem_append_left _ (List.mem_append_left _ (List.mem_append_left _ (List.mem_append_left _ (List.mem_append_left _ (List.mem_append_right _ (List.mem_append_right _ (List.mem_append_left _ h))))))))))), (fun _ h => (List.mem_cons_of_mem _ (List.mem_append_left _ (List.mem_append_left _ (List.mem_append_left _ (List.mem_append_left _ (List.mem_append_left _ (List.mem_append_left _ (List.mem_append_right _ (List.mem_append_right _ (List.mem_append_right _ (List.mem_append_left _ h)))))))))))), (fun _ h => (List.mem_cons_of_mem _ (List.mem_append_left _ (List.mem_append_left _ (List.mem_append_left _ (List.mem_append_left _ (List.mem_append_left _ (List.mem_append_left _ (List.mem_append_right _ (List.mem_append_right _ (List.mem_append_right _ (List.mem_append_right _ (List.mem_append_left _ h))))))))))))), (fun _ h => (List.mem_cons_of_mem _ (List.mem_append_left _ (List.mem_append_left _ (List.mem_append_left _ (List.mem_append_left _ (List.mem_append_left _ (List.mem_append_left _ (List.mem_append_right _ (List.mem_append_right _ (List.mem_append_right _ (List.mem_append_right _ (List.mem_append_right _ (List.mem_append_left _ h)))))))))))))), (fun _ h => (List.mem_cons_of_mem _ (List.mem_append_left _ (List.mem_append_left _ (List.mem_append_left _ (List.mem_append_left _ (List.mem_append_left _ (List.mem_append_left _ (List.mem_append_right _ (List.mem_append_right _ (List.mem_append_right _ (List.mem_append_right _ (List.mem_append_right _ (List.mem_append_right _ (List.mem_append_left _ h))))))))))))))), (fun _ h => (List.mem_cons_of_mem _ (List.mem_append_left _ (List.mem_append_left _ (List.mem_append_left _ (List.mem_append_left _ (List.mem_append_left _ (List.mem_append_left _ (List.mem_append_right _ (List.mem_append_right _ (List.mem_append_right _ (List.mem_append_right _ (List.mem_append_right _ (List.mem_append_right _ (List.mem_append_right _ (List.mem_append_left _ h)))))))))))))))), (fun _ h => (List.mem_cons_of_mem _ (List.mem_append_left _ (List.mem_append_left _ (List.mem_append_left _ (List.mem_append_left _ (List.mem_append_left _ (List.mem_append_left _ (List.mem_append_right _ (List.mem_append_right _ (List.mem_append_right _ (List.mem_append_right _ (List.mem_append_right _ (List.mem_append_right _ (List.mem_append_right _ (List.mem_append_right _ (List.mem_append_left _ h))))))))))))))))), (fun _ h => (List.mem_cons_of_mem _ (List.mem_append_left _ (List.mem_append_left _ (List.mem_append_left _ (List.mem_append_left _ (List.mem_append_left _ (List.mem_append_left _ (List.mem_append_right _ (List.mem_append_right _ (List.mem_append_right _ (List.mem_append_right _ (List.mem_append_right _ (List.mem_append_right _ (List.mem_append_right _ (List.mem_append_right _ (List.mem_append_right _ h))))))))))))))))), trivial⟩
set_option maxRecDepth 20000 in
theorem ggX8_hall_X0_forget : GoodIn wsX8_hall wsX0_forget := (goodIn_cons (good_rb bq_wsX8_hall ([(8, 22)] : List (Nat × Nat)) rfl (by decide +kernel)) (goodIn_app (good_rb bq_wsX8_hall ([(8, 23)] : List (Nat × Nat)) rfl (by decide +kernel)) (goodIn_sb (fun _ h => (List.mem_cons_of_mem _ (List.mem_append_left _ (List.mem_append_right _ h)))) (by decide +kernel))))
set_option maxRecDepth 20000 in
theorem gX8_hall_X0_forget : GoodIn wsX8_hall (wsV RX8 92 RX0 yX0_forget wsX0_forget) := goodIn_app (good_rp ([211, 212, 213, 214] : List Nat) rfl (by decide +kernel)) ggX8_hall_X0_forget
set_option maxRecDepth 20000 in
theorem ggX8_hall_X1_read : GoodIn wsX8_hall wsX1_read := (goodIn_cons (good_rb bq_wsX8_hall ([(0, 12)] : List (Nat × Nat)) rfl (by decide +kernel)) (goodIn_app (goodIn_app (goodIn_app (good_rb bq_wsX8_hall ([(0, 13), (0, 14), (0, 15), (0, 16), (0, 17), (0, 18), (0, 19), (0, 20), (0, 21), (0, 22), (0, 23), (1, 0), (1, 1), (1, 2), (1, 3), (1, 4), (1, 5), (1, 6), (1, 7), (1, 8), (1, 9), (1, 10), (1, 11), (1, 12)] : List (Nat × Nat)) rfl (by decide +kernel)) (goodIn_app (good_rb bq_wsX8_hall ([(1, 13), (1, 14), (1, 15), (1, 16), (1, 17), (1, 18), (1, 19), (1, 20), (1, 21), (1, 22), (1, 23), (2, 0), (2, 1), (2, 2), (2, 3), (2, 4), (2, 5), (2, 6), (2, 7), (2, 8), (2, 9), (2, 10), (2, 11), (2, 12)] : List (Nat × Nat)) rfl (by decide +kernel)) (goodIn_app (good_rb bq_wsX8_hall ([(2, 13), (2, 14), (2, 15), (2, 16), (2, 17), (2, 18), (2, 19), (2, 20), (2, 21), (2, 22), (2, 23), (3, 0), (3, 1), (3, 2), (3, 3), (3, 4), (3, 5), (3, 6), (3, 7), (3, 8), (3, 9), (3, 10), (3, 11), (3, 12)] : List (Nat × Nat)) rfl (by decide +kernel)) (goodIn_app (good_rb bq_wsX8_hall ([(3, 13), (3, 14), (3, 15), (3, 16), (3, 17), (3, 18), (3, 19), (3, 20), (3, 21), (3, 22), (3, 23), (4, 0), (4, 1), (4, 2), (4, 3), (4, 4), (4, 5), (4, 6), (4, 7), (4, 8), (4, 9), (4, 10), (4, 11), (4, 12)] : List (Nat × Nat)) rfl (by decide +kernel)) (goodIn_app (good_rb bq_wsX8_hall ([(4, 13), (4, 14), (4, 15), (4, 16), (4, 17), (4, 18), (4, 19), (4, 20), (4, 21), (4, 22), (4, 23), (5, 0), (5, 1), (5, 2), (0, 11), (5, 3), (5, 4), (5, 5), (5, 6), (5, 7), (5, 8), (5, 9), (5, 10), (5, 11)] : List (Nat × Nat)) rfl (by decide +kernel)) (goodIn_app (good_rb bq_wsX8_hall ([(5, 12), (5, 13), (5, 14), (5, 15), (5, 16), (5, 17), (5, 18), (5, 19), (5, 20), (5, 21), (5, 22), (5, 23), (6, 0), (6, 1), (6, 2), (6, 3), (6, 4), (6, 5), (6, 6), (6, 7), (6, 8), (6, 9), (6, 10), (6, 11)] : List (Nat × Nat)) rfl (by decide +kernel)) (goodIn_app (good_rb bq_wsX8_hall ([(6, 12), (6, 13), (6, 14), (6, 15), (6, 16), (6, 17), (6, 18), (6, 19), (6, 20), (6, 21), (6, 22), (6, 23), (7, 0), (7, 1), (7, 2), (7, 3), (7, 4), (7, 5), (7, 6), (7, 7), (7, 8), (7, 9), (7, 10), (7, 11)] : List (Nat × Nat)) rfl (by decide +kernel)) (goodIn_app (good_rb bq_wsX8_hall ([(7, 12), (7, 13), (7, 14), (7, 15), (7, 16), (7, 17), (7, 18), (7, 19), (7, 20), (7, 21), (7, 22), (7, 23), (8, 0), (8, 1), (8, 2), (8, 3), (8, 4), (8, 5), (8, 6), (8, 7), (8, 8), (8, 9), (8, 10), (8, 11)] : List (Nat × Nat)) rfl (by decide +kernel)) (good_rb bq_wsX8_hall ([(8, 12)] : List (Nat × Nat)) rfl (by decide +kernel)))))))))) (goodIn_sb (fun _ h => (List.mem_cons_of_mem _ (List.mem_append_left _ (List.mem_append_left _ (List.mem_append_left _ (List.mem_append_left _ (List.mem_append_right _ h))))))) (by decide +kernel))) (goodIn_sb (fun _ h => (List.mem_cons_of_mem _ (List.mem_append_left _ (List.mem_append_left _ (List.mem_append_right _ h))))) (by decide +kernel))))
