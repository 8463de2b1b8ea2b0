/-! the class: the first calls that do something -/
theorem dX0_copyFrom_0 : decode cX0_copyFrom 0 = .ok (.aload_n 1, 1) := by decide +kernel
theorem dX0_copyFrom_1 : decode cX0_copyFrom 1 = .ok (.getfield 9, 3) := by decide +kernel
theorem dX0_copyFrom_4 : decode cX0_copyFrom 4 = .ok (.iconst 0, 1) := by decide +kernel
theorem dX0_copyFrom_5 : decode cX0_copyFrom 5 = .ok (.aload_n 0, 1) := by decide +kernel
theorem dX0_copyFrom_6 : decode cX0_copyFrom 6 = .ok (.getfield 9, 3) := by decide +kernel
theorem dX0_copyFrom_9 : decode cX0_copyFrom 9 = .ok (.iconst 0, 1) := by decide +kernel
theorem dX0_copyFrom_10 : decode cX0_copyFrom 10 = .ok (.bipush 20, 2) := by decide +kernel
theorem dX0_copyFrom_12 : decode cX0_copyFrom 12 = .ok (.invokestatic 28, 3) := by decide +kernel
theorem dX0_copyFrom_15 : decode cX0_copyFrom 15 = .ok (.aload_n 1, 1) := by decide +kernel
theorem dX0_copyFrom_16 : decode cX0_copyFrom 16 = .ok (.getfield 15, 3) := by decide +kernel
theorem dX0_copyFrom_19 : decode cX0_copyFrom 19 = .ok (.iconst 0, 1) := by decide +kernel
theorem dX0_copyFrom_20 : decode cX0_copyFrom 20 = .ok (.aload_n 0, 1) := by decide +kernel
theorem dX0_copyFrom_21 : decode cX0_copyFrom 21 = .ok (.getfield 15, 3) := by decide +kernel
theorem dX0_copyFrom_24 : decode cX0_copyFrom 24 = .ok (.iconst 0, 1) := by decide +kernel
theorem dX0_copyFrom_25 : decode cX0_copyFrom 25 = .ok (.bipush 20, 2) := by decide +kernel
theorem dX0_copyFrom_27 : decode cX0_copyFrom 27 = .ok (.invokestatic 28, 3) := by decide +kernel
theorem dX0_copyFrom_30 : decode cX0_copyFrom 30 = .ok (.aload_n 1, 1) := by decide +kernel
theorem dX0_copyFrom_31 : decode cX0_copyFrom 31 = .ok (.getfield 18, 3) := by decide +kernel
theorem dX0_copyFrom_34 : decode cX0_copyFrom 34 = .ok (.iconst 0, 1) := by decide +kernel
theorem dX0_copyFrom_35 : decode cX0_copyFrom 35 = .ok (.aload_n 0, 1) := by decide +kernel
theorem dX0_copyFrom_36 : decode cX0_copyFrom 36 = .ok (.getfield 18, 3) := by decide +kernel
theorem dX0_copyFrom_39 : decode cX0_copyFrom 39 = .ok (.iconst 0, 1) := by decide +kernel
theorem dX0_copyFrom_40 : decode cX0_copyFrom 40 = .ok (.bipush 20, 2) := by decide +kernel
theorem dX0_copyFrom_42 : decode cX0_copyFrom 42 = .ok (.invokestatic 28, 3) := by decide +kernel
theorem dX0_copyFrom_45 : decode cX0_copyFrom 45 = .ok (.aload_n 0, 1) := by decide +kernel
theorem dX0_copyFrom_46 : decode cX0_copyFrom 46 = .ok (.aload_n 1, 1) := by decide +kernel
theorem dX0_copyFrom_47 : decode cX0_copyFrom 47 = .ok (.getfield 21, 3) := by decide +kernel
theorem dX0_copyFrom_50 : decode cX0_copyFrom 50 = .ok (.putfield 21, 3) := by decide +kernel
theorem dX0_copyFrom_53 : decode cX0_copyFrom 53 = .ok (.aload_n 0, 1) := by decide +kernel
theorem dX0_copyFrom_54 : decode cX0_copyFrom 54 = .ok (.aload_n 1, 1) := by decide +kernel
theorem dX0_copyFrom_55 : decode cX0_copyFrom 55 = .ok (.getfield 25, 3) := by decide +kernel
theorem dX0_copyFrom_58 : decode cX0_copyFrom 58 = .ok (.putfield 25, 3) := by decide +kernel
theorem dX0_copyFrom_61 : decode cX0_copyFrom 61 = .ok (.return_, 1) := by decide +kernel
theorem dX1_read_0 : decode cX1_read 0 = .ok (.aload_n 0, 1) := by decide +kernel
theorem dX1_read_1 : decode cX1_read 1 = .ok (.invokevirtual 9, 3) := by decide +kernel
theorem dX1_read_4 : decode cX1_read 4 = .ok (.aload_n 1, 1) := by decide +kernel
theorem dX1_read_5 : decode cX1_read 5 = .ok (.invokevirtual 14, 3) := by decide +kernel
theorem dX1_read_8 : decode cX1_read 8 = .ok (.iconst 0, 1) := by decide +kernel
theorem dX1_read_9 : decode cX1_read 9 = .ok (.istore_n 2, 1) := by decide +kernel
theorem dX1_read_10 : decode cX1_read 10 = .ok (.iload_n 2, 1) := by decide +kernel
theorem dX1_read_11 : decode cX1_read 11 = .ok (.bipush 40, 2) := by decide +kernel
theorem dX1_read_13 : decode cX1_read 13 = .ok (.if_icmp .gt 49, 3) := by decide +kernel
theorem dX1_read_16 : decode cX1_read 16 = .ok (.aload_n 0, 1) := by decide +kernel
theorem dX1_read_17 : decode cX1_read 17 = .ok (.aload_n 1, 1) := by decide +kernel
theorem dX1_read_18 : decode cX1_read 18 = .ok (.iload_n 2, 1) := by decide +kernel
theorem dX1_read_19 : decode cX1_read 19 = .ok (.invokestatic 19, 3) := by decide +kernel
theorem dX1_read_22 : decode cX1_read 22 = .ok (.ifCond .ne 5, 3) := by decide +kernel
theorem dX1_read_25 : decode cX1_read 25 = .ok (.iconst 0, 1) := by decide +kernel
theorem dX1_read_26 : decode cX1_read 26 = .ok (.ireturn, 1) := by decide +kernel
theorem dX1_readClause_0 : decode cX1_readClause 0 = .ok (.aload_n 0, 1) := by decide +kernel
theorem dX1_readClause_1 : decode cX1_readClause 1 = .ok (.invokevirtual 25, 3) := by decide +kernel
theorem dX1_readClause_4 : decode cX1_readClause 4 = .ok (.istore_n 3, 1) := by decide +kernel
theorem dX1_readClause_5 : decode cX1_readClause 5 = .ok (.iload_n 3, 1) := by decide +kernel
theorem dX1_readClause_6 : decode cX1_readClause 6 = .ok (.sipush 271, 3) := by decide +kernel
theorem dX1_readClause_9 : decode cX1_readClause 9 = .ok (.if_icmp .eq 30, 3) := by decide +kernel
theorem dX1_readClause_12 : decode cX1_readClause 12 = .ok (.iload_n 3, 1) := by decide +kernel
theorem dX1_readClause_13 : decode cX1_readClause 13 = .ok (.sipush 272, 3) := by decide +kernel
theorem dX1_readClause_16 : decode cX1_readClause 16 = .ok (.if_icmp .eq 23, 3) := by decide +kernel
theorem dX1_readClause_19 : decode cX1_readClause 19 = .ok (.iload_n 3, 1) := by decide +kernel
theorem dX1_readClause_20 : decode cX1_readClause 20 = .ok (.sipush 261, 3) := by decide +kernel
theorem dX1_readClause_23 : decode cX1_readClause 23 = .ok (.if_icmp .eq 16, 3) := by decide +kernel
theorem dX1_readClause_26 : decode cX1_readClause 26 = .ok (.iload_n 3, 1) := by decide +kernel
theorem dX1_readClause_27 : decode cX1_readClause 27 = .ok (.sipush 260, 3) := by decide +kernel
theorem dX1_readClause_30 : decode cX1_readClause 30 = .ok (.if_icmp .eq 9, 3) := by decide +kernel
theorem dX1_readClause_33 : decode cX1_readClause 33 = .ok (.aload_n 0, 1) := by decide +kernel
theorem dX1_readClause_34 : decode cX1_readClause 34 = .ok (.iconst 0, 1) := by decide +kernel
theorem dX1_readClause_35 : decode cX1_readClause 35 = .ok (.invokevirtual 36, 3) := by decide +kernel
theorem dX1_readClause_38 : decode cX1_readClause 38 = .ok (.ireturn, 1) := by decide +kernel
theorem dX2_copyFrom_0 : decode cX2_copyFrom 0 = .ok (.aload_n 1, 1) := by decide +kernel
theorem dX2_copyFrom_1 : decode cX2_copyFrom 1 = .ok (.getfield 9, 3) := by decide +kernel
theorem dX2_copyFrom_4 : decode cX2_copyFrom 4 = .ok (.iconst 0, 1) := by decide +kernel
theorem dX2_copyFrom_5 : decode cX2_copyFrom 5 = .ok (.aload_n 0, 1) := by decide +kernel
theorem dX2_copyFrom_6 : decode cX2_copyFrom 6 = .ok (.getfield 9, 3) := by decide +kernel
theorem dX2_copyFrom_9 : decode cX2_copyFrom 9 = .ok (.iconst 0, 1) := by decide +kernel
theorem dX2_copyFrom_10 : decode cX2_copyFrom 10 = .ok (.bipush 10, 2) := by decide +kernel
theorem dX2_copyFrom_12 : decode cX2_copyFrom 12 = .ok (.invokestatic 25, 3) := by decide +kernel
theorem dX2_copyFrom_15 : decode cX2_copyFrom 15 = .ok (.aload_n 1, 1) := by decide +kernel
theorem dX2_copyFrom_16 : decode cX2_copyFrom 16 = .ok (.getfield 15, 3) := by decide +kernel
theorem dX2_copyFrom_19 : decode cX2_copyFrom 19 = .ok (.iconst 0, 1) := by decide +kernel
theorem dX2_copyFrom_20 : decode cX2_copyFrom 20 = .ok (.aload_n 0, 1) := by decide +kernel
theorem dX2_copyFrom_21 : decode cX2_copyFrom 21 = .ok (.getfield 15, 3) := by decide +kernel
theorem dX2_copyFrom_24 : decode cX2_copyFrom 24 = .ok (.iconst 0, 1) := by decide +kernel
theorem dX2_copyFrom_25 : decode cX2_copyFrom 25 = .ok (.bipush 10, 2) := by decide +kernel
theorem dX2_copyFrom_27 : decode cX2_copyFrom 27 = .ok (.invokestatic 25, 3) := by decide +kernel
theorem dX2_copyFrom_30 : decode cX2_copyFrom 30 = .ok (.aload_n 1, 1) := by decide +kernel
theorem dX2_copyFrom_31 : decode cX2_copyFrom 31 = .ok (.getfield 18, 3) := by decide +kernel
theorem dX2_copyFrom_34 : decode cX2_copyFrom 34 = .ok (.iconst 0, 1) := by decide +kernel
theorem dX2_copyFrom_35 : decode cX2_copyFrom 35 = .ok (.aload_n 0, 1) := by decide +kernel
theorem dX2_copyFrom_36 : decode cX2_copyFrom 36 = .ok (.getfield 18, 3) := by decide +kernel
theorem dX2_copyFrom_39 : decode cX2_copyFrom 39 = .ok (.iconst 0, 1) := by decide +kernel
theorem dX2_copyFrom_40 : decode cX2_copyFrom 40 = .ok (.bipush 10, 2) := by decide +kernel
theorem dX2_copyFrom_42 : decode cX2_copyFrom 42 = .ok (.invokestatic 25, 3) := by decide +kernel
theorem dX2_copyFrom_45 : decode cX2_copyFrom 45 = .ok (.aload_n 0, 1) := by decide +kernel
theorem dX2_copyFrom_46 : decode cX2_copyFrom 46 = .ok (.aload_n 1, 1) := by decide +kernel
theorem dX2_copyFrom_47 : decode cX2_copyFrom 47 = .ok (.getfield 21, 3) := by decide +kernel
theorem dX2_copyFrom_50 : decode cX2_copyFrom 50 = .ok (.putfield 21, 3) := by decide +kernel
theorem dX2_copyFrom_53 : decode cX2_copyFrom 53 = .ok (.return_, 1) := by decide +kernel
theorem dX3_clear_0 : decode cX3_clear 0 = .ok (.aload_n 0, 1) := by decide +kernel
theorem dX3_clear_1 : decode cX3_clear 1 = .ok (.iconst 0, 1) := by decide +kernel
theorem dX3_clear_2 : decode cX3_clear 2 = .ok (.putfield 9, 3) := by decide +kernel
theorem dX3_clear_5 : decode cX3_clear 5 = .ok (.aload_n 0, 1) := by decide +kernel
theorem dX3_clear_6 : decode cX3_clear 6 = .ok (.iconst 0, 1) := by decide +kernel
theorem dX3_clear_7 : decode cX3_clear 7 = .ok (.putfield 15, 3) := by decide +kernel
theorem dX3_clear_10 : decode cX3_clear 10 = .ok (.aload_n 0, 1) := by decide +kernel
theorem dX3_clear_11 : decode cX3_clear 11 = .ok (.iconst 0, 1) := by decide +kernel
theorem dX3_clear_12 : decode cX3_clear 12 = .ok (.putfield 19, 3) := by decide +kernel
theorem dX3_clear_15 : decode cX3_clear 15 = .ok (.aload_n 0, 1) := by decide +kernel
theorem dX3_clear_16 : decode cX3_clear 16 = .ok (.iconst 0, 1) := by decide +kernel
theorem dX3_clear_17 : decode cX3_clear 17 = .ok (.putfield 22, 3) := by decide +kernel
theorem dX3_clear_20 : decode cX3_clear 20 = .ok (.return_, 1) := by decide +kernel
theorem dX3_copyFrom_0 : decode cX3_copyFrom 0 = .ok (.aload_n 0, 1) := by decide +kernel
theorem dX3_copyFrom_1 : decode cX3_copyFrom 1 = .ok (.aload_n 1, 1) := by decide +kernel
theorem dX3_copyFrom_2 : decode cX3_copyFrom 2 = .ok (.getfield 9, 3) := by decide +kernel
theorem dX3_copyFrom_5 : decode cX3_copyFrom 5 = .ok (.putfield 9, 3) := by decide +kernel
theorem dX3_copyFrom_8 : decode cX3_copyFrom 8 = .ok (.aload_n 0, 1) := by decide +kernel
theorem dX3_copyFrom_9 : decode cX3_copyFrom 9 = .ok (.aload_n 1, 1) := by decide +kernel
theorem dX3_copyFrom_10 : decode cX3_copyFrom 10 = .ok (.getfield 15, 3) := by decide +kernel
theorem dX3_copyFrom_13 : decode cX3_copyFrom 13 = .ok (.putfield 15, 3) := by decide +kernel
theorem dX3_copyFrom_16 : decode cX3_copyFrom 16 = .ok (.aload_n 0, 1) := by decide +kernel
theorem dX3_copyFrom_17 : decode cX3_copyFrom 17 = .ok (.aload_n 1, 1) := by decide +kernel
theorem dX3_copyFrom_18 : decode cX3_copyFrom 18 = .ok (.getfield 19, 3) := by decide +kernel
theorem dX3_copyFrom_21 : decode cX3_copyFrom 21 = .ok (.putfield 19, 3) := by decide +kernel
theorem dX3_copyFrom_24 : decode cX3_copyFrom 24 = .ok (.aload_n 0, 1) := by decide +kernel
theorem dX3_copyFrom_25 : decode cX3_copyFrom 25 = .ok (.aload_n 1, 1) := by decide +kernel
theorem dX3_copyFrom_26 : decode cX3_copyFrom 26 = .ok (.getfield 22, 3) := by decide +kernel
theorem dX3_copyFrom_29 : decode cX3_copyFrom 29 = .ok (.putfield 22, 3) := by decide +kernel
theorem dX3_copyFrom_32 : decode cX3_copyFrom 32 = .ok (.aload_n 1, 1) := by decide +kernel
theorem dX3_copyFrom_33 : decode cX3_copyFrom 33 = .ok (.getfield 25, 3) := by decide +kernel
theorem dX3_copyFrom_36 : decode cX3_copyFrom 36 = .ok (.iconst 0, 1) := by decide +kernel
theorem dX3_copyFrom_37 : decode cX3_copyFrom 37 = .ok (.aload_n 0, 1) := by decide +kernel
theorem dX3_copyFrom_38 : decode cX3_copyFrom 38 = .ok (.getfield 25, 3) := by decide +kernel
theorem dX3_copyFrom_41 : decode cX3_copyFrom 41 = .ok (.iconst 0, 1) := by decide +kernel
theorem dX3_copyFrom_42 : decode cX3_copyFrom 42 = .ok (.iconst 4, 1) := by decide +kernel
theorem dX3_copyFrom_43 : decode cX3_copyFrom 43 = .ok (.invokestatic 65, 3) := by decide +kernel
theorem dX3_copyFrom_46 : decode cX3_copyFrom 46 = .ok (.aload_n 1, 1) := by decide +kernel
theorem dX3_copyFrom_47 : decode cX3_copyFrom 47 = .ok (.getfield 29, 3) := by decide +kernel
theorem dX3_copyFrom_50 : decode cX3_copyFrom 50 = .ok (.iconst 0, 1) := by decide +kernel
theorem dX3_copyFrom_51 : decode cX3_copyFrom 51 = .ok (.aload_n 0, 1) := by decide +kernel
theorem dX3_copyFrom_52 : decode cX3_copyFrom 52 = .ok (.getfield 29, 3) := by decide +kernel
theorem dX3_copyFrom_55 : decode cX3_copyFrom 55 = .ok (.iconst 0, 1) := by decide +kernel
theorem dX3_copyFrom_56 : decode cX3_copyFrom 56 = .ok (.bipush 8, 2) := by decide +kernel
theorem dX3_copyFrom_58 : decode cX3_copyFrom 58 = .ok (.invokestatic 65, 3) := by decide +kernel
theorem dX3_copyFrom_61 : decode cX3_copyFrom 61 = .ok (.aload_n 1, 1) := by decide +kernel
theorem dX3_copyFrom_62 : decode cX3_copyFrom 62 = .ok (.getfield 32, 3) := by decide +kernel
theorem dX3_copyFrom_65 : decode cX3_copyFrom 65 = .ok (.iconst 0, 1) := by decide +kernel
theorem dX3_copyFrom_66 : decode cX3_copyFrom 66 = .ok (.aload_n 0, 1) := by decide +kernel
theorem dX3_copyFrom_67 : decode cX3_copyFrom 67 = .ok (.getfield 32, 3) := by decide +kernel
theorem dX3_copyFrom_70 : decode cX3_copyFrom 70 = .ok (.iconst 0, 1) := by decide +kernel
theorem dX3_copyFrom_71 : decode cX3_copyFrom 71 = .ok (.bipush 8, 2) := by decide +kernel
theorem dX3_copyFrom_73 : decode cX3_copyFrom 73 = .ok (.invokestatic 65, 3) := by decide +kernel
theorem dX3_copyFrom_76 : decode cX3_copyFrom 76 = .ok (.aload_n 1, 1) := by decide +kernel
theorem dX3_copyFrom_77 : decode cX3_copyFrom 77 = .ok (.getfield 35, 3) := by decide +kernel
theorem dX3_copyFrom_80 : decode cX3_copyFrom 80 = .ok (.iconst 0, 1) := by decide +kernel
theorem dX3_copyFrom_81 : decode cX3_copyFrom 81 = .ok (.aload_n 0, 1) := by decide +kernel
theorem dX3_copyFrom_82 : decode cX3_copyFrom 82 = .ok (.getfield 35, 3) := by decide +kernel
theorem dX3_copyFrom_85 : decode cX3_copyFrom 85 = .ok (.iconst 0, 1) := by decide +kernel
theorem dX3_copyFrom_86 : decode cX3_copyFrom 86 = .ok (.bipush 8, 2) := by decide +kernel
theorem dX3_copyFrom_88 : decode cX3_copyFrom 88 = .ok (.invokestatic 65, 3) := by decide +kernel
theorem dX3_copyFrom_91 : decode cX3_copyFrom 91 = .ok (.aload_n 1, 1) := by decide +kernel
theorem dX3_copyFrom_92 : decode cX3_copyFrom 92 = .ok (.getfield 38, 3) := by decide +kernel
theorem dX3_copyFrom_95 : decode cX3_copyFrom 95 = .ok (.iconst 0, 1) := by decide +kernel
theorem dX3_copyFrom_96 : decode cX3_copyFrom 96 = .ok (.aload_n 0, 1) := by decide +kernel
theorem dX3_copyFrom_97 : decode cX3_copyFrom 97 = .ok (.getfield 38, 3) := by decide +kernel
theorem dX3_copyFrom_100 : decode cX3_copyFrom 100 = .ok (.iconst 0, 1) := by decide +kernel
theorem dX3_copyFrom_101 : decode cX3_copyFrom 101 = .ok (.bipush 8, 2) := by decide +kernel
theorem dX3_copyFrom_103 : decode cX3_copyFrom 103 = .ok (.invokestatic 65, 3) := by decide +kernel
theorem dX3_copyFrom_106 : decode cX3_copyFrom 106 = .ok (.aload_n 1, 1) := by decide +kernel
theorem dX3_copyFrom_107 : decode cX3_copyFrom 107 = .ok (.getfield 41, 3) := by decide +kernel
theorem dX3_copyFrom_110 : decode cX3_copyFrom 110 = .ok (.iconst 0, 1) := by decide +kernel
theorem dX3_copyFrom_111 : decode cX3_copyFrom 111 = .ok (.aload_n 0, 1) := by decide +kernel
theorem dX3_copyFrom_112 : decode cX3_copyFrom 112 = .ok (.getfield 41, 3) := by decide +kernel
theorem dX3_copyFrom_115 : decode cX3_copyFrom 115 = .ok (.iconst 0, 1) := by decide +kernel
theorem dX3_copyFrom_116 : decode cX3_copyFrom 116 = .ok (.iconst 4, 1) := by decide +kernel
theorem dX3_copyFrom_117 : decode cX3_copyFrom 117 = .ok (.invokestatic 65, 3) := by decide +kernel
theorem dX3_copyFrom_120 : decode cX3_copyFrom 120 = .ok (.aload_n 1, 1) := by decide +kernel
theorem dX3_copyFrom_121 : decode cX3_copyFrom 121 = .ok (.getfield 53, 3) := by decide +kernel
theorem dX3_copyFrom_124 : decode cX3_copyFrom 124 = .ok (.iconst 0, 1) := by decide +kernel
theorem dX3_copyFrom_125 : decode cX3_copyFrom 125 = .ok (.aload_n 0, 1) := by decide +kernel
theorem dX3_copyFrom_126 : decode cX3_copyFrom 126 = .ok (.getfield 53, 3) := by decide +kernel
theorem dX3_copyFrom_129 : decode cX3_copyFrom 129 = .ok (.iconst 0, 1) := by decide +kernel
theorem dX3_copyFrom_130 : decode cX3_copyFrom 130 = .ok (.iconst 4, 1) := by decide +kernel
theorem dX3_copyFrom_131 : decode cX3_copyFrom 131 = .ok (.invokestatic 65, 3) := by decide +kernel
theorem dX3_copyFrom_134 : decode cX3_copyFrom 134 = .ok (.aload_n 1, 1) := by decide +kernel
theorem dX3_copyFrom_135 : decode cX3_copyFrom 135 = .ok (.getfield 56, 3) := by decide +kernel
theorem dX3_copyFrom_138 : decode cX3_copyFrom 138 = .ok (.iconst 0, 1) := by decide +kernel
theorem dX3_copyFrom_139 : decode cX3_copyFrom 139 = .ok (.aload_n 0, 1) := by decide +kernel
theorem dX3_copyFrom_140 : decode cX3_copyFrom 140 = .ok (.getfield 56, 3) := by decide +kernel
theorem dX3_copyFrom_143 : decode cX3_copyFrom 143 = .ok (.iconst 0, 1) := by decide +kernel
theorem dX3_copyFrom_144 : decode cX3_copyFrom 144 = .ok (.iconst 4, 1) := by decide +kernel
theorem dX3_copyFrom_145 : decode cX3_copyFrom 145 = .ok (.invokestatic 65, 3) := by decide +kernel
theorem dX3_copyFrom_148 : decode cX3_copyFrom 148 = .ok (.aload_n 0, 1) := by decide +kernel
theorem dX3_copyFrom_149 : decode cX3_copyFrom 149 = .ok (.aload_n 1, 1) := by decide +kernel
theorem dX3_copyFrom_150 : decode cX3_copyFrom 150 = .ok (.getfield 44, 3) := by decide +kernel
theorem dX3_copyFrom_153 : decode cX3_copyFrom 153 = .ok (.putfield 44, 3) := by decide +kernel
theorem dX3_copyFrom_156 : decode cX3_copyFrom 156 = .ok (.aload_n 0, 1) := by decide +kernel
theorem dX3_copyFrom_157 : decode cX3_copyFrom 157 = .ok (.aload_n 1, 1) := by decide +kernel
theorem dX3_copyFrom_158 : decode cX3_copyFrom 158 = .ok (.getfield 47, 3) := by decide +kernel
theorem dX3_copyFrom_161 : decode cX3_copyFrom 161 = .ok (.putfield 47, 3) := by decide +kernel
theorem dX3_copyFrom_164 : decode cX3_copyFrom 164 = .ok (.aload_n 0, 1) := by decide +kernel
theorem dX3_copyFrom_165 : decode cX3_copyFrom 165 = .ok (.aload_n 1, 1) := by decide +kernel
theorem dX3_copyFrom_166 : decode cX3_copyFrom 166 = .ok (.getfield 50, 3) := by decide +kernel
theorem dX3_copyFrom_169 : decode cX3_copyFrom 169 = .ok (.putfield 50, 3) := by decide +kernel
theorem dX3_copyFrom_172 : decode cX3_copyFrom 172 = .ok (.aload_n 0, 1) := by decide +kernel
theorem dX3_copyFrom_173 : decode cX3_copyFrom 173 = .ok (.iconst 0, 1) := by decide +kernel
theorem dX3_copyFrom_174 : decode cX3_copyFrom 174 = .ok (.putfield 59, 3) := by decide +kernel
theorem dX3_copyFrom_177 : decode cX3_copyFrom 177 = .ok (.return_, 1) := by decide +kernel
theorem dX4_clear_0 : decode cX4_clear 0 = .ok (.aload_n 0, 1) := by decide +kernel
theorem dX4_clear_1 : decode cX4_clear 1 = .ok (.iconst 0, 1) := by decide +kernel
theorem dX4_clear_2 : decode cX4_clear 2 = .ok (.putfield 28, 3) := by decide +kernel
theorem dX4_clear_5 : decode cX4_clear 5 = .ok (.aload_n 0, 1) := by decide +kernel
theorem dX4_clear_6 : decode cX4_clear 6 = .ok (.iconst 0, 1) := by decide +kernel
theorem dX4_clear_7 : decode cX4_clear 7 = .ok (.putfield 32, 3) := by decide +kernel
theorem dX4_clear_10 : decode cX4_clear 10 = .ok (.aload_n 0, 1) := by decide +kernel
theorem dX4_clear_11 : decode cX4_clear 11 = .ok (.iconst 0, 1) := by decide +kernel
theorem dX4_clear_12 : decode cX4_clear 12 = .ok (.putfield 35, 3) := by decide +kernel
theorem dX4_clear_15 : decode cX4_clear 15 = .ok (.return_, 1) := by decide +kernel
theorem dX5_openClause_0 : decode cX5_openClause 0 = .ok (.aload_n 0, 1) := by decide +kernel
theorem dX5_openClause_1 : decode cX5_openClause 1 = .ok (.invokevirtual 45, 3) := by decide +kernel
theorem dX5_openClause_4 : decode cX5_openClause 4 = .ok (.sipush 273, 3) := by decide +kernel
theorem dX5_openClause_7 : decode cX5_openClause 7 = .ok (.if_icmp .eq 9, 3) := by decide +kernel
theorem dX5_openClause_10 : decode cX5_openClause 10 = .ok (.aload_n 0, 1) := by decide +kernel
theorem dX5_openClause_11 : decode cX5_openClause 11 = .ok (.iconst 0, 1) := by decide +kernel
theorem dX5_openClause_12 : decode cX5_openClause 12 = .ok (.invokevirtual 49, 3) := by decide +kernel
theorem dX5_openClause_15 : decode cX5_openClause 15 = .ok (.ireturn, 1) := by decide +kernel
theorem dX5_read_0 : decode cX5_read 0 = .ok (.aload_n 0, 1) := by decide +kernel
theorem dX5_read_1 : decode cX5_read 1 = .ok (.invokevirtual 9, 3) := by decide +kernel
theorem dX5_read_4 : decode cX5_read 4 = .ok (.aload_n 1, 1) := by decide +kernel
theorem dX5_read_5 : decode cX5_read 5 = .ok (.invokevirtual 14, 3) := by decide +kernel
theorem dX5_read_8 : decode cX5_read 8 = .ok (.iconst 0, 1) := by decide +kernel
theorem dX5_read_9 : decode cX5_read 9 = .ok (.istore_n 2, 1) := by decide +kernel
theorem dX5_read_10 : decode cX5_read 10 = .ok (.iload_n 2, 1) := by decide +kernel
theorem dX5_read_11 : decode cX5_read 11 = .ok (.bipush 12, 2) := by decide +kernel
theorem dX5_read_13 : decode cX5_read 13 = .ok (.if_icmp .gt 91, 3) := by decide +kernel
theorem dX5_read_16 : decode cX5_read 16 = .ok (.aload_n 1, 1) := by decide +kernel
theorem dX5_read_17 : decode cX5_read 17 = .ok (.getfield 19, 3) := by decide +kernel
theorem dX5_read_20 : decode cX5_read 20 = .ok (.istore_n 3, 1) := by decide +kernel
theorem dX5_read_21 : decode cX5_read 21 = .ok (.aload_n 0, 1) := by decide +kernel
theorem dX5_read_22 : decode cX5_read 22 = .ok (.iload_n 2, 1) := by decide +kernel
theorem dX5_read_23 : decode cX5_read 23 = .ok (.invokestatic 23, 3) := by decide +kernel
theorem dX5_read_26 : decode cX5_read 26 = .ok (.ifCond .eq 11, 3) := by decide +kernel
theorem dX5_read_37 : decode cX5_read 37 = .ok (.iconst 0, 1) := by decide +kernel
theorem dX5_read_38 : decode cX5_read 38 = .ok (.ireturn, 1) := by decide +kernel
theorem dX6_copyFrom_0 : decode cX6_copyFrom 0 = .ok (.aload_n 0, 1) := by decide +kernel
theorem dX6_copyFrom_1 : decode cX6_copyFrom 1 = .ok (.getfield 12, 3) := by decide +kernel
theorem dX6_copyFrom_4 : decode cX6_copyFrom 4 = .ok (.aload_n 1, 1) := by decide +kernel
theorem dX6_copyFrom_5 : decode cX6_copyFrom 5 = .ok (.getfield 12, 3) := by decide +kernel
theorem dX6_copyFrom_8 : decode cX6_copyFrom 8 = .ok (.invokevirtual 39, 3) := by decide +kernel
theorem dX6_copyFrom_11 : decode cX6_copyFrom 11 = .ok (.aload_n 0, 1) := by decide +kernel
theorem dX6_copyFrom_12 : decode cX6_copyFrom 12 = .ok (.getfield 21, 3) := by decide +kernel
theorem dX6_copyFrom_15 : decode cX6_copyFrom 15 = .ok (.aload_n 1, 1) := by decide +kernel
theorem dX6_copyFrom_16 : decode cX6_copyFrom 16 = .ok (.getfield 21, 3) := by decide +kernel
theorem dX6_copyFrom_19 : decode cX6_copyFrom 19 = .ok (.invokevirtual 43, 3) := by decide +kernel
theorem dX6_copyFrom_22 : decode cX6_copyFrom 22 = .ok (.aload_n 0, 1) := by decide +kernel
theorem dX6_copyFrom_23 : decode cX6_copyFrom 23 = .ok (.getfield 28, 3) := by decide +kernel
theorem dX6_copyFrom_26 : decode cX6_copyFrom 26 = .ok (.aload_n 1, 1) := by decide +kernel
theorem dX6_copyFrom_27 : decode cX6_copyFrom 27 = .ok (.getfield 28, 3) := by decide +kernel
theorem dX6_copyFrom_30 : decode cX6_copyFrom 30 = .ok (.invokevirtual 46, 3) := by decide +kernel
theorem dX6_copyFrom_33 : decode cX6_copyFrom 33 = .ok (.aload_n 0, 1) := by decide +kernel
theorem dX6_copyFrom_34 : decode cX6_copyFrom 34 = .ok (.aload_n 1, 1) := by decide +kernel
theorem dX6_copyFrom_35 : decode cX6_copyFrom 35 = .ok (.getfield 32, 3) := by decide +kernel
theorem dX6_copyFrom_38 : decode cX6_copyFrom 38 = .ok (.putfield 32, 3) := by decide +kernel
theorem dX6_copyFrom_41 : decode cX6_copyFrom 41 = .ok (.aload_n 0, 1) := by decide +kernel
theorem dX6_copyFrom_42 : decode cX6_copyFrom 42 = .ok (.aload_n 1, 1) := by decide +kernel
theorem dX6_copyFrom_43 : decode cX6_copyFrom 43 = .ok (.getfield 36, 3) := by decide +kernel
theorem dX6_copyFrom_46 : decode cX6_copyFrom 46 = .ok (.putfield 36, 3) := by decide +kernel
theorem dX6_copyFrom_49 : decode cX6_copyFrom 49 = .ok (.return_, 1) := by decide +kernel
theorem dX7_append_0 : decode cX7_append 0 = .ok (.bipush 24, 2) := by decide +kernel
theorem dX7_append_2 : decode cX7_append 2 = .ok (.istore_n 2, 1) := by decide +kernel
theorem dX7_append_3 : decode cX7_append 3 = .ok (.iload_n 2, 1) := by decide +kernel
theorem dX7_append_4 : decode cX7_append 4 = .ok (.ifCond .lt 42, 3) := by decide +kernel
theorem dX7_append_7 : decode cX7_append 7 = .ok (.aload_n 0, 1) := by decide +kernel
theorem dX7_append_8 : decode cX7_append 8 = .ok (.getfield 15, 3) := by decide +kernel
theorem dX7_append_11 : decode cX7_append 11 = .ok (.sipush 400, 3) := by decide +kernel
theorem dX7_append_14 : decode cX7_append 14 = .ok (.if_icmp .ge 26, 3) := by decide +kernel
theorem dX7_append_17 : decode cX7_append 17 = .ok (.aload_n 0, 1) := by decide +kernel
theorem dX7_append_18 : decode cX7_append 18 = .ok (.getfield 9, 3) := by decide +kernel
theorem dX7_append_21 : decode cX7_append 21 = .ok (.aload_n 0, 1) := by decide +kernel
theorem dX7_append_22 : decode cX7_append 22 = .ok (.getfield 15, 3) := by decide +kernel
theorem dX7_append_25 : decode cX7_append 25 = .ok (.iload_n 1, 1) := by decide +kernel
theorem dX7_append_26 : decode cX7_append 26 = .ok (.iload_n 2, 1) := by decide +kernel
theorem dX7_append_27 : decode cX7_append 27 = .ok (.ishr, 1) := by decide +kernel
theorem dX7_append_28 : decode cX7_append 28 = .ok (.i2b, 1) := by decide +kernel
theorem dX7_append_29 : decode cX7_append 29 = .ok (.bastore, 1) := by decide +kernel
theorem dX7_append_30 : decode cX7_append 30 = .ok (.aload_n 0, 1) := by decide +kernel
theorem dX7_append_31 : decode cX7_append 31 = .ok (.dup, 1) := by decide +kernel
theorem dX7_append_32 : decode cX7_append 32 = .ok (.getfield 15, 3) := by decide +kernel
theorem dX7_append_35 : decode cX7_append 35 = .ok (.iconst 1, 1) := by decide +kernel
theorem dX7_append_36 : decode cX7_append 36 = .ok (.iadd, 1) := by decide +kernel
theorem dX7_append_37 : decode cX7_append 37 = .ok (.putfield 15, 3) := by decide +kernel
theorem dX7_append_40 : decode cX7_append 40 = .ok (.iinc 2 (-8), 3) := by decide +kernel
theorem dX7_append_43 : decode cX7_append 43 = .ok (.goto (-40), 3) := by decide +kernel
theorem dX7_append_46 : decode cX7_append 46 = .ok (.return_, 1) := by decide +kernel
theorem dX7_cutUp_0 : decode cX7_cutUp 0 = .ok (.aload_n 0, 1) := by decide +kernel
theorem dX7_cutUp_1 : decode cX7_cutUp 1 = .ok (.iconst 0, 1) := by decide +kernel
theorem dX7_cutUp_2 : decode cX7_cutUp 2 = .ok (.putfield 29, 3) := by decide +kernel
theorem dX7_cutUp_5 : decode cX7_cutUp 5 = .ok (.aload_n 0, 1) := by decide +kernel
theorem dX7_cutUp_6 : decode cX7_cutUp 6 = .ok (.iconst 0, 1) := by decide +kernel
theorem dX7_cutUp_7 : decode cX7_cutUp 7 = .ok (.putfield 32, 3) := by decide +kernel
theorem dX7_cutUp_10 : decode cX7_cutUp 10 = .ok (.aload_n 0, 1) := by decide +kernel
theorem dX7_cutUp_11 : decode cX7_cutUp 11 = .ok (.iconst 0, 1) := by decide +kernel
theorem dX7_cutUp_12 : decode cX7_cutUp 12 = .ok (.putfield 35, 3) := by decide +kernel
theorem dX7_cutUp_15 : decode cX7_cutUp 15 = .ok (.iconst 0, 1) := by decide +kernel
theorem dX7_cutUp_16 : decode cX7_cutUp 16 = .ok (.istore_n 1, 1) := by decide +kernel
theorem dX7_cutUp_17 : decode cX7_cutUp 17 = .ok (.iload_n 1, 1) := by decide +kernel
theorem dX7_cutUp_18 : decode cX7_cutUp 18 = .ok (.aload_n 0, 1) := by decide +kernel
theorem dX7_cutUp_19 : decode cX7_cutUp 19 = .ok (.getfield 15, 3) := by decide +kernel
theorem dX7_cutUp_22 : decode cX7_cutUp 22 = .ok (.if_icmp .ge 29, 3) := by decide +kernel
theorem dX7_cutUp_51 : decode cX7_cutUp 51 = .ok (.aload_n 0, 1) := by decide +kernel
theorem dX7_cutUp_52 : decode cX7_cutUp 52 = .ok (.iconst (-1), 1) := by decide +kernel
theorem dX7_cutUp_53 : decode cX7_cutUp 53 = .ok (.aload_n 0, 1) := by decide +kernel
theorem dX7_cutUp_54 : decode cX7_cutUp 54 = .ok (.getfield 15, 3) := by decide +kernel
theorem dX7_cutUp_57 : decode cX7_cutUp 57 = .ok (.iconst 0, 1) := by decide +kernel
theorem dX7_cutUp_58 : decode cX7_cutUp 58 = .ok (.invokevirtual 51, 3) := by decide +kernel
theorem dX7_cutUp_61 : decode cX7_cutUp 61 = .ok (.return_, 1) := by decide +kernel
theorem dX7_fail_0 : decode cX7_fail 0 = .ok (.aload_n 0, 1) := by decide +kernel
theorem dX7_fail_1 : decode cX7_fail 1 = .ok (.iconst 1, 1) := by decide +kernel
theorem dX7_fail_2 : decode cX7_fail 2 = .ok (.bipush 8, 2) := by decide +kernel
theorem dX7_fail_4 : decode cX7_fail 4 = .ok (.aload_n 0, 1) := by decide +kernel
theorem dX7_fail_5 : decode cX7_fail 5 = .ok (.getfield 32, 3) := by decide +kernel
theorem dX7_fail_8 : decode cX7_fail 8 = .ok (.aload_n 0, 1) := by decide +kernel
theorem dX7_fail_9 : decode cX7_fail 9 = .ok (.getfield 29, 3) := by decide +kernel
theorem dX7_fail_12 : decode cX7_fail 12 = .ok (.if_icmp .ge 15, 3) := by decide +kernel
theorem dX7_fail_15 : decode cX7_fail 15 = .ok (.aload_n 0, 1) := by decide +kernel
theorem dX7_fail_16 : decode cX7_fail 16 = .ok (.getfield 23, 3) := by decide +kernel
theorem dX7_fail_19 : decode cX7_fail 19 = .ok (.aload_n 0, 1) := by decide +kernel
theorem dX7_fail_20 : decode cX7_fail 20 = .ok (.getfield 32, 3) := by decide +kernel
theorem dX7_fail_23 : decode cX7_fail 23 = .ok (.iaload, 1) := by decide +kernel
theorem dX7_fail_24 : decode cX7_fail 24 = .ok (.goto 7, 3) := by decide +kernel
theorem dX7_fail_31 : decode cX7_fail 31 = .ok (.imul, 1) := by decide +kernel
theorem dX7_fail_32 : decode cX7_fail 32 = .ok (.iadd, 1) := by decide +kernel
theorem dX7_fail_33 : decode cX7_fail 33 = .ok (.iload_n 1, 1) := by decide +kernel
theorem dX7_fail_34 : decode cX7_fail 34 = .ok (.iadd, 1) := by decide +kernel
theorem dX7_fail_35 : decode cX7_fail 35 = .ok (.putfield 35, 3) := by decide +kernel
theorem dX7_fail_38 : decode cX7_fail 38 = .ok (.iconst 0, 1) := by decide +kernel
theorem dX7_fail_39 : decode cX7_fail 39 = .ok (.ireturn, 1) := by decide +kernel
theorem dX7_kind_0 : decode cX7_kind 0 = .ok (.aload_n 0, 1) := by decide +kernel
theorem dX7_kind_1 : decode cX7_kind 1 = .ok (.getfield 32, 3) := by decide +kernel
theorem dX7_kind_4 : decode cX7_kind 4 = .ok (.aload_n 0, 1) := by decide +kernel
theorem dX7_kind_5 : decode cX7_kind 5 = .ok (.getfield 29, 3) := by decide +kernel
theorem dX7_kind_8 : decode cX7_kind 8 = .ok (.if_icmp .ge 15, 3) := by decide +kernel
theorem dX7_kind_11 : decode cX7_kind 11 = .ok (.aload_n 0, 1) := by decide +kernel
theorem dX7_kind_12 : decode cX7_kind 12 = .ok (.getfield 19, 3) := by decide +kernel
theorem dX7_kind_15 : decode cX7_kind 15 = .ok (.aload_n 0, 1) := by decide +kernel
theorem dX7_kind_16 : decode cX7_kind 16 = .ok (.getfield 32, 3) := by decide +kernel
theorem dX7_kind_19 : decode cX7_kind 19 = .ok (.iaload, 1) := by decide +kernel
theorem dX7_kind_20 : decode cX7_kind 20 = .ok (.goto 4, 3) := by decide +kernel
theorem dX7_kind_24 : decode cX7_kind 24 = .ok (.ireturn, 1) := by decide +kernel
theorem dX7_put_0 : decode cX7_put 0 = .ok (.aload_n 0, 1) := by decide +kernel
theorem dX7_put_1 : decode cX7_put 1 = .ok (.getfield 29, 3) := by decide +kernel
theorem dX7_put_4 : decode cX7_put 4 = .ok (.sipush 400, 3) := by decide +kernel
theorem dX7_put_7 : decode cX7_put 7 = .ok (.if_icmp .gt 43, 3) := by decide +kernel
theorem dX7_put_10 : decode cX7_put 10 = .ok (.aload_n 0, 1) := by decide +kernel
theorem dX7_put_11 : decode cX7_put 11 = .ok (.getfield 19, 3) := by decide +kernel
theorem dX7_put_14 : decode cX7_put 14 = .ok (.aload_n 0, 1) := by decide +kernel
theorem dX7_put_15 : decode cX7_put 15 = .ok (.getfield 29, 3) := by decide +kernel
theorem dX7_put_18 : decode cX7_put 18 = .ok (.iload_n 1, 1) := by decide +kernel
theorem dX7_put_19 : decode cX7_put 19 = .ok (.iastore, 1) := by decide +kernel
theorem dX7_put_20 : decode cX7_put 20 = .ok (.aload_n 0, 1) := by decide +kernel
theorem dX7_put_21 : decode cX7_put 21 = .ok (.getfield 23, 3) := by decide +kernel
theorem dX7_put_24 : decode cX7_put 24 = .ok (.aload_n 0, 1) := by decide +kernel
theorem dX7_put_25 : decode cX7_put 25 = .ok (.getfield 29, 3) := by decide +kernel
theorem dX7_put_28 : decode cX7_put 28 = .ok (.iload_n 2, 1) := by decide +kernel
theorem dX7_put_29 : decode cX7_put 29 = .ok (.iastore, 1) := by decide +kernel
theorem dX7_put_30 : decode cX7_put 30 = .ok (.aload_n 0, 1) := by decide +kernel
theorem dX7_put_31 : decode cX7_put 31 = .ok (.getfield 26, 3) := by decide +kernel
theorem dX7_put_34 : decode cX7_put 34 = .ok (.aload_n 0, 1) := by decide +kernel
theorem dX7_put_35 : decode cX7_put 35 = .ok (.getfield 29, 3) := by decide +kernel
theorem dX7_put_38 : decode cX7_put 38 = .ok (.iload_n 3, 1) := by decide +kernel
theorem dX7_put_39 : decode cX7_put 39 = .ok (.iastore, 1) := by decide +kernel
theorem dX7_put_40 : decode cX7_put 40 = .ok (.aload_n 0, 1) := by decide +kernel
theorem dX7_put_41 : decode cX7_put 41 = .ok (.dup, 1) := by decide +kernel
theorem dX7_put_42 : decode cX7_put 42 = .ok (.getfield 29, 3) := by decide +kernel
theorem dX7_put_45 : decode cX7_put 45 = .ok (.iconst 1, 1) := by decide +kernel
theorem dX7_put_46 : decode cX7_put 46 = .ok (.iadd, 1) := by decide +kernel
theorem dX7_put_47 : decode cX7_put 47 = .ok (.putfield 29, 3) := by decide +kernel
theorem dX7_put_50 : decode cX7_put 50 = .ok (.return_, 1) := by decide +kernel
theorem dX8_back_0 : decode cX8_back 0 = .ok (.iload_n 1, 1) := by decide +kernel
theorem dX8_back_1 : decode cX8_back 1 = .ok (.ifCond .lt 17, 3) := by decide +kernel
theorem dX8_back_4 : decode cX8_back 4 = .ok (.iload_n 1, 1) := by decide +kernel
theorem dX8_back_5 : decode cX8_back 5 = .ok (.iconst 4, 1) := by decide +kernel
theorem dX8_back_6 : decode cX8_back 6 = .ok (.if_icmp .ge 12, 3) := by decide +kernel
theorem dX8_back_9 : decode cX8_back 9 = .ok (.aload_n 0, 1) := by decide +kernel
theorem dX8_back_10 : decode cX8_back 10 = .ok (.getfield 37, 3) := by decide +kernel
theorem dX8_back_13 : decode cX8_back 13 = .ok (.iload_n 1, 1) := by decide +kernel
theorem dX8_back_14 : decode cX8_back 14 = .ok (.baload, 1) := by decide +kernel
theorem dX8_back_15 : decode cX8_back 15 = .ok (.ifCond .ne 5, 3) := by decide +kernel
theorem dX8_back_18 : decode cX8_back 18 = .ok (.iconst (-1), 1) := by decide +kernel
theorem dX8_back_19 : decode cX8_back 19 = .ok (.ireturn, 1) := by decide +kernel
theorem dX8_count_0 : decode cX8_count 0 = .ok (.aload_n 0, 1) := by decide +kernel
theorem dX8_count_1 : decode cX8_count 1 = .ok (.getfield 29, 3) := by decide +kernel
theorem dX8_count_4 : decode cX8_count 4 = .ok (.getfield 81, 3) := by decide +kernel
theorem dX8_count_7 : decode cX8_count 7 = .ok (.astore_n 2, 1) := by decide +kernel
theorem dX8_count_8 : decode cX8_count 8 = .ok (.iload_n 1, 1) := by decide +kernel
theorem dX8_count_9 : decode cX8_count 9 = .ok (.tableswitch 153 0 12 #[67, 72, 77, 82, 87, 95, 100, 105, 110, 115, 126, 137, 145], 67) := by decide +kernel
theorem dX8_count_76 : decode cX8_count 76 = .ok (.aload_n 2, 1) := by decide +kernel
theorem dX8_count_77 : decode cX8_count 77 = .ok (.getfield 247, 3) := by decide +kernel
theorem dX8_count_80 : decode cX8_count 80 = .ok (.ireturn, 1) := by decide +kernel
theorem dX8_count_81 : decode cX8_count 81 = .ok (.aload_n 2, 1) := by decide +kernel
theorem dX8_count_82 : decode cX8_count 82 = .ok (.getfield 315, 3) := by decide +kernel
theorem dX8_count_85 : decode cX8_count 85 = .ok (.ireturn, 1) := by decide +kernel
theorem dX8_count_86 : decode cX8_count 86 = .ok (.aload_n 2, 1) := by decide +kernel
theorem dX8_count_87 : decode cX8_count 87 = .ok (.getfield 104, 3) := by decide +kernel
theorem dX8_count_90 : decode cX8_count 90 = .ok (.ireturn, 1) := by decide +kernel
theorem dX8_count_91 : decode cX8_count 91 = .ok (.aload_n 0, 1) := by decide +kernel
theorem dX8_count_92 : decode cX8_count 92 = .ok (.getfield 22, 3) := by decide +kernel
theorem dX8_count_95 : decode cX8_count 95 = .ok (.ireturn, 1) := by decide +kernel
theorem dX8_count_96 : decode cX8_count 96 = .ok (.aload_n 0, 1) := by decide +kernel
theorem dX8_count_97 : decode cX8_count 97 = .ok (.getfield 29, 3) := by decide +kernel
theorem dX8_count_100 : decode cX8_count 100 = .ok (.getfield 112, 3) := by decide +kernel
theorem dX8_count_103 : decode cX8_count 103 = .ok (.ireturn, 1) := by decide +kernel
theorem dX8_count_104 : decode cX8_count 104 = .ok (.aload_n 2, 1) := by decide +kernel
theorem dX8_count_105 : decode cX8_count 105 = .ok (.getfield 154, 3) := by decide +kernel
theorem dX8_count_108 : decode cX8_count 108 = .ok (.ireturn, 1) := by decide +kernel
theorem dX8_count_109 : decode cX8_count 109 = .ok (.aload_n 2, 1) := by decide +kernel
theorem dX8_count_110 : decode cX8_count 110 = .ok (.getfield 200, 3) := by decide +kernel
theorem dX8_count_113 : decode cX8_count 113 = .ok (.ireturn, 1) := by decide +kernel
theorem dX8_count_114 : decode cX8_count 114 = .ok (.aload_n 2, 1) := by decide +kernel
theorem dX8_count_115 : decode cX8_count 115 = .ok (.getfield 179, 3) := by decide +kernel
theorem dX8_count_118 : decode cX8_count 118 = .ok (.ireturn, 1) := by decide +kernel
theorem dX8_count_119 : decode cX8_count 119 = .ok (.aload_n 2, 1) := by decide +kernel
theorem dX8_count_120 : decode cX8_count 120 = .ok (.invokevirtual 224, 3) := by decide +kernel
theorem dX8_count_123 : decode cX8_count 123 = .ok (.ireturn, 1) := by decide +kernel
theorem dX8_count_124 : decode cX8_count 124 = .ok (.aload_n 0, 1) := by decide +kernel
theorem dX8_count_125 : decode cX8_count 125 = .ok (.getfield 29, 3) := by decide +kernel
theorem dX8_count_128 : decode cX8_count 128 = .ok (.getfield 97, 3) := by decide +kernel
theorem dX8_count_131 : decode cX8_count 131 = .ok (.getfield 244, 3) := by decide +kernel
theorem dX8_count_134 : decode cX8_count 134 = .ok (.ireturn, 1) := by decide +kernel
theorem dX8_count_135 : decode cX8_count 135 = .ok (.aload_n 0, 1) := by decide +kernel
theorem dX8_count_136 : decode cX8_count 136 = .ok (.getfield 29, 3) := by decide +kernel
theorem dX8_count_139 : decode cX8_count 139 = .ok (.getfield 88, 3) := by decide +kernel
theorem dX8_count_142 : decode cX8_count 142 = .ok (.getfield 187, 3) := by decide +kernel
theorem dX8_count_145 : decode cX8_count 145 = .ok (.ireturn, 1) := by decide +kernel
theorem dX8_count_146 : decode cX8_count 146 = .ok (.aload_n 0, 1) := by decide +kernel
theorem dX8_count_147 : decode cX8_count 147 = .ok (.getfield 29, 3) := by decide +kernel
theorem dX8_count_150 : decode cX8_count 150 = .ok (.getfield 292, 3) := by decide +kernel
theorem dX8_count_153 : decode cX8_count 153 = .ok (.ireturn, 1) := by decide +kernel
theorem dX8_count_154 : decode cX8_count 154 = .ok (.aload_n 0, 1) := by decide +kernel
theorem dX8_count_155 : decode cX8_count 155 = .ok (.getfield 10, 3) := by decide +kernel
theorem dX8_count_158 : decode cX8_count 158 = .ok (.getfield 65, 3) := by decide +kernel
theorem dX8_count_161 : decode cX8_count 161 = .ok (.ireturn, 1) := by decide +kernel
theorem dX8_count_162 : decode cX8_count 162 = .ok (.iconst (-1), 1) := by decide +kernel
theorem dX8_count_163 : decode cX8_count 163 = .ok (.ireturn, 1) := by decide +kernel
theorem dX8_feed_0 : decode cX8_feed 0 = .ok (.aload_n 0, 1) := by decide +kernel
theorem dX8_feed_1 : decode cX8_feed 1 = .ok (.getfield 10, 3) := by decide +kernel
theorem dX8_feed_4 : decode cX8_feed 4 = .ok (.getfield 65, 3) := by decide +kernel
theorem dX8_feed_7 : decode cX8_feed 7 = .ok (.bipush 20, 2) := by decide +kernel
theorem dX8_feed_9 : decode cX8_feed 9 = .ok (.iadd, 1) := by decide +kernel
theorem dX8_feed_10 : decode cX8_feed 10 = .ok (.sipush 400, 3) := by decide +kernel
theorem dX8_feed_13 : decode cX8_feed 13 = .ok (.if_icmp .le 5, 3) := by decide +kernel
theorem dX8_feed_18 : decode cX8_feed 18 = .ok (.aload_n 0, 1) := by decide +kernel
theorem dX8_feed_19 : decode cX8_feed 19 = .ok (.getfield 10, 3) := by decide +kernel
theorem dX8_feed_22 : decode cX8_feed 22 = .ok (.iload_n 1, 1) := by decide +kernel
theorem dX8_feed_23 : decode cX8_feed 23 = .ok (.invokevirtual 68, 3) := by decide +kernel
theorem dX8_feed_26 : decode cX8_feed 26 = .ok (.aload_n 0, 1) := by decide +kernel
theorem dX8_feed_27 : decode cX8_feed 27 = .ok (.getfield 10, 3) := by decide +kernel
theorem dX8_feed_30 : decode cX8_feed 30 = .ok (.iload_n 2, 1) := by decide +kernel
theorem dX8_feed_31 : decode cX8_feed 31 = .ok (.invokevirtual 68, 3) := by decide +kernel
theorem dX8_feed_34 : decode cX8_feed 34 = .ok (.aload_n 0, 1) := by decide +kernel
theorem dX8_feed_35 : decode cX8_feed 35 = .ok (.getfield 10, 3) := by decide +kernel
theorem dX8_feed_38 : decode cX8_feed 38 = .ok (.iload_n 3, 1) := by decide +kernel
theorem dX8_feed_39 : decode cX8_feed 39 = .ok (.invokevirtual 68, 3) := by decide +kernel
theorem dX8_feed_42 : decode cX8_feed 42 = .ok (.aload_n 0, 1) := by decide +kernel
theorem dX8_feed_43 : decode cX8_feed 43 = .ok (.getfield 10, 3) := by decide +kernel
theorem dX8_feed_46 : decode cX8_feed 46 = .ok (.iload 4, 2) := by decide +kernel
theorem dX8_feed_48 : decode cX8_feed 48 = .ok (.invokevirtual 68, 3) := by decide +kernel
theorem dX8_feed_51 : decode cX8_feed 51 = .ok (.aload_n 0, 1) := by decide +kernel
theorem dX8_feed_52 : decode cX8_feed 52 = .ok (.getfield 10, 3) := by decide +kernel
theorem dX8_feed_55 : decode cX8_feed 55 = .ok (.iload 5, 2) := by decide +kernel
theorem dX8_feed_57 : decode cX8_feed 57 = .ok (.invokevirtual 68, 3) := by decide +kernel
theorem dX8_feed_60 : decode cX8_feed 60 = .ok (.aload_n 0, 1) := by decide +kernel
theorem dX8_feed_61 : decode cX8_feed 61 = .ok (.getfield 10, 3) := by decide +kernel
theorem dX8_feed_64 : decode cX8_feed 64 = .ok (.getfield 65, 3) := by decide +kernel
theorem dX8_feed_67 : decode cX8_feed 67 = .ok (.ireturn, 1) := by decide +kernel
theorem dX8_hall_0 : decode cX8_hall 0 = .ok (.aload_n 0, 1) := by decide +kernel
theorem dX8_hall_1 : decode cX8_hall 1 = .ok (.getfield 10, 3) := by decide +kernel
theorem dX8_hall_4 : decode cX8_hall 4 = .ok (.aload_n 0, 1) := by decide +kernel
theorem dX8_hall_5 : decode cX8_hall 5 = .ok (.getfield 44, 3) := by decide +kernel
theorem dX8_hall_8 : decode cX8_hall 8 = .ok (.invokestatic 72, 3) := by decide +kernel
theorem dX8_hall_11 : decode cX8_hall 11 = .ok (.istore_n 1, 1) := by decide +kernel
theorem dX8_hall_12 : decode cX8_hall 12 = .ok (.aload_n 0, 1) := by decide +kernel
theorem dX8_hall_13 : decode cX8_hall 13 = .ok (.getfield 10, 3) := by decide +kernel
theorem dX8_hall_16 : decode cX8_hall 16 = .ok (.getfield 78, 3) := by decide +kernel
theorem dX8_hall_19 : decode cX8_hall 19 = .ok (.istore_n 2, 1) := by decide +kernel
theorem dX8_hall_20 : decode cX8_hall 20 = .ok (.aload_n 0, 1) := by decide +kernel
theorem dX8_hall_21 : decode cX8_hall 21 = .ok (.getfield 10, 3) := by decide +kernel
theorem dX8_hall_24 : decode cX8_hall 24 = .ok (.iconst 0, 1) := by decide +kernel
theorem dX8_hall_25 : decode cX8_hall 25 = .ok (.putfield 65, 3) := by decide +kernel
theorem dX8_hall_28 : decode cX8_hall 28 = .ok (.iload_n 1, 1) := by decide +kernel
theorem dX8_hall_29 : decode cX8_hall 29 = .ok (.ifCond .ne 8, 3) := by decide +kernel
theorem dX8_hall_32 : decode cX8_hall 32 = .ok (.bipush (-2), 2) := by decide +kernel
theorem dX8_hall_34 : decode cX8_hall 34 = .ok (.iload_n 2, 1) := by decide +kernel
theorem dX8_hall_35 : decode cX8_hall 35 = .ok (.isub, 1) := by decide +kernel
theorem dX8_hall_36 : decode cX8_hall 36 = .ok (.ireturn, 1) := by decide +kernel
theorem dX8_image_0 : decode cX8_image 0 = .ok (.iload_n 1, 1) := by decide +kernel
theorem dX8_image_1 : decode cX8_image 1 = .ok (.ifCond .lt 8, 3) := by decide +kernel
theorem dX8_image_4 : decode cX8_image 4 = .ok (.iload_n 1, 1) := by decide +kernel
theorem dX8_image_5 : decode cX8_image 5 = .ok (.iconst 4, 1) := by decide +kernel
theorem dX8_image_6 : decode cX8_image 6 = .ok (.if_icmp .lt 5, 3) := by decide +kernel
theorem dX8_image_9 : decode cX8_image 9 = .ok (.iconst (-1), 1) := by decide +kernel
theorem dX8_image_10 : decode cX8_image 10 = .ok (.ireturn, 1) := by decide +kernel
theorem dX8_image_11 : decode cX8_image 11 = .ok (.aload_n 0, 1) := by decide +kernel
theorem dX8_image_12 : decode cX8_image 12 = .ok (.getfield 33, 3) := by decide +kernel
theorem dX8_image_15 : decode cX8_image 15 = .ok (.iload_n 1, 1) := by decide +kernel
theorem dX8_image_16 : decode cX8_image 16 = .ok (.aaload, 1) := by decide +kernel
theorem dX8_image_17 : decode cX8_image 17 = .ok (.aload_n 0, 1) := by decide +kernel
theorem dX8_image_18 : decode cX8_image 18 = .ok (.getfield 29, 3) := by decide +kernel
theorem dX8_image_21 : decode cX8_image 21 = .ok (.invokevirtual 318, 3) := by decide +kernel
theorem dX8_image_24 : decode cX8_image 24 = .ok (.aload_n 0, 1) := by decide +kernel
theorem dX8_image_25 : decode cX8_image 25 = .ok (.getfield 37, 3) := by decide +kernel
theorem dX8_image_28 : decode cX8_image 28 = .ok (.iload_n 1, 1) := by decide +kernel
theorem dX8_image_29 : decode cX8_image 29 = .ok (.iconst 1, 1) := by decide +kernel
theorem dX8_image_30 : decode cX8_image 30 = .ok (.bastore, 1) := by decide +kernel
theorem dX8_image_31 : decode cX8_image 31 = .ok (.aload_n 0, 1) := by decide +kernel
theorem dX8_image_32 : decode cX8_image 32 = .ok (.getfield 29, 3) := by decide +kernel
theorem dX8_image_35 : decode cX8_image 35 = .ok (.getfield 81, 3) := by decide +kernel
theorem dX8_image_38 : decode cX8_image 38 = .ok (.getfield 154, 3) := by decide +kernel
theorem dX8_image_41 : decode cX8_image 41 = .ok (.ireturn, 1) := by decide +kernel
theorem dX8_rule_0 : decode cX8_rule 0 = .ok (.aload_n 0, 1) := by decide +kernel
theorem dX8_rule_1 : decode cX8_rule 1 = .ok (.getfield 22, 3) := by decide +kernel
theorem dX8_rule_4 : decode cX8_rule 4 = .ok (.bipush 6, 2) := by decide +kernel
theorem dX8_rule_6 : decode cX8_rule 6 = .ok (.if_icmp .lt 5, 3) := by decide +kernel
theorem dX8_rule_11 : decode cX8_rule 11 = .ok (.aload_n 0, 1) := by decide +kernel
theorem dX8_rule_12 : decode cX8_rule 12 = .ok (.getfield 10, 3) := by decide +kernel
theorem dX8_rule_15 : decode cX8_rule 15 = .ok (.aload_n 0, 1) := by decide +kernel
theorem dX8_rule_16 : decode cX8_rule 16 = .ok (.getfield 18, 3) := by decide +kernel
theorem dX8_rule_19 : decode cX8_rule 19 = .ok (.aload_n 0, 1) := by decide +kernel
theorem dX8_rule_20 : decode cX8_rule 20 = .ok (.getfield 22, 3) := by decide +kernel
theorem dX8_rule_23 : decode cX8_rule 23 = .ok (.aaload, 1) := by decide +kernel
theorem dX8_rule_24 : decode cX8_rule 24 = .ok (.invokestatic 107, 3) := by decide +kernel
theorem dX8_rule_27 : decode cX8_rule 27 = .ok (.istore_n 1, 1) := by decide +kernel
theorem dX8_rule_28 : decode cX8_rule 28 = .ok (.aload_n 0, 1) := by decide +kernel
theorem dX8_rule_29 : decode cX8_rule 29 = .ok (.getfield 10, 3) := by decide +kernel
theorem dX8_rule_32 : decode cX8_rule 32 = .ok (.getfield 78, 3) := by decide +kernel
theorem dX8_rule_35 : decode cX8_rule 35 = .ok (.istore_n 2, 1) := by decide +kernel
theorem dX8_rule_36 : decode cX8_rule 36 = .ok (.aload_n 0, 1) := by decide +kernel
theorem dX8_rule_37 : decode cX8_rule 37 = .ok (.getfield 10, 3) := by decide +kernel
theorem dX8_rule_40 : decode cX8_rule 40 = .ok (.iconst 0, 1) := by decide +kernel
theorem dX8_rule_41 : decode cX8_rule 41 = .ok (.putfield 65, 3) := by decide +kernel
theorem dX8_rule_44 : decode cX8_rule 44 = .ok (.iload_n 1, 1) := by decide +kernel
theorem dX8_rule_45 : decode cX8_rule 45 = .ok (.ifCond .ne 8, 3) := by decide +kernel
theorem dX8_rule_48 : decode cX8_rule 48 = .ok (.bipush (-2), 2) := by decide +kernel
theorem dX8_rule_50 : decode cX8_rule 50 = .ok (.iload_n 2, 1) := by decide +kernel
theorem dX8_rule_51 : decode cX8_rule 51 = .ok (.isub, 1) := by decide +kernel
theorem dX8_rule_52 : decode cX8_rule 52 = .ok (.ireturn, 1) := by decide +kernel
set_option maxRecDepth 20000 in
theorem ggX1_readClause_X7_fail : GoodIn wsX1_readClause wsX7_fail := goodIn_r _ [15, 9, 10, 16, 17, 18, 76, 77, 78, 79, 80, 81, 82, 83] (by decide +kernel) (by decide +kernel)
set_option maxRecDepth 20000 in
theorem gX1_readClause_X7_fail : GoodIn wsX1_readClause (wsV RX1 36 RX7 yX7_fail wsX7_fail) := goodIn_app (goodIn_of _ (by decide +kernel)) ggX1_readClause_X7_fail
set_option maxRecDepth 20000 in
theorem ggX1_readClause_X7_kind : GoodIn wsX1_readClause wsX7_kind := goodIn_r _ [8, 9, 10, 11, 76, 77, 78, 79, 80, 81, 82, 83] (by decide +kernel) (by decide +kernel)
set_option maxRecDepth 20000 in
theorem gX1_readClause_X7_kind : GoodIn wsX1_readClause (wsV RX1 25 RX7 yX7_kind wsX7_kind) := goodIn_app (goodIn_of _ (by decide +kernel)) ggX1_readClause_X7_kind
set_option maxRecDepth 20000 in
theorem ggX1_read_X1_readClause : GoodIn wsX1_read wsX1_readClause := goodIn_r _ [112, 113, 114, 115, 116, 117, 118, 4, 119, 7, 6, 90, 120, 121, 122, 123, 91, 9, 8, 124, 125, 126, 127, 128, 129, 111, 130, 131, 132, 133, 134, 135, 136, 137, 138, 139, 140, 141, 92, 142, 143, 144, 145, 146, 147, 148, 149, 150, 151, 152, 153, 154, 155, 156, 157, 103, 158, 108, 159, 202, 203, 204, 205, 206, 207, 208, 209, 210, 211, 212, 213, 214, 215, 216, 217, 218, 194, 195, 196, 197, 198, 199, 200, 201] (by decide +kernel) (by decide +kernel)
set_option maxRecDepth 20000 in
theorem gX1_read_X1_readClause : GoodIn wsX1_read (va_wsS RX1 19 yX1_readClause wsX1_readClause) := goodIn_app (goodIn_of _ (by decide +kernel)) ggX1_read_X1_readClause
set_option maxRecDepth 20000 in
theorem ggX1_read_X3_clear : GoodIn wsX1_read wsX3_clear := goodIn_r _ [104, 105, 106, 107, 108, 202, 203, 204, 205, 206, 207, 208, 209, 210, 211, 212, 213, 214, 215, 216, 217, 218] (by decide +kernel) (by decide +kernel)
set_option maxRecDepth 20000 in
theorem gX1_read_X3_clear : GoodIn wsX1_read (wsV RX1 14 RX3 yX3_clear wsX3_clear) := goodIn_app (goodIn_of _ (by decide +kernel)) ggX1_read_X3_clear
set_option maxRecDepth 20000 in
theorem ggX1_read_X7_cutUp : GoodIn wsX1_read wsX7_cutUp := goodIn_r _ [5, 6, 7, 8, 9, 10, 11, 12, 13, 14, 15, 16, 4, 17, 18, 19, 20, 21, 22, 23, 24, 25, 26, 27, 28, 29, 30, 31, 32, 33, 34, 35, 36, 37, 38, 39, 40, 41, 42, 43, 44, 45, 46, 47, 48, 49, 50, 51, 52, 53, 54, 55, 56, 57, 58, 59, 60, 61, 62, 63, 64, 65, 66, 67, 68, 69, 70, 71, 72, 73, 74, 75, 76, 77, 78, 79, 80, 81, 82, 83, 84, 85, 86, 87, 88, 89, 90, 91, 92, 93, 94, 95, 96, 97, 98, 99, 194, 195, 196, 197, 198, 199, 200, 201] (by decide +kernel) (by decide +kernel)
set_option maxRecDepth 20000 in
theorem gX1_read_X7_cutUp : GoodIn wsX1_read (wsV RX1 9 RX7 yX7_cutUp wsX7_cutUp) := goodIn_app (goodIn_of _ (by decide +kernel)) ggX1_read_X7_cutUp
set_option maxRecDepth 20000 in
theorem ggX5_openClause_X7_fail : GoodIn wsX5_openClause wsX7_fail := goodIn_r _ [12, 6, 7, 13, 14, 15, 20, 21, 22, 23, 24, 25, 26, 27] (by decide +kernel) (by decide +kernel)
set_option maxRecDepth 20000 in
theorem gX5_openClause_X7_fail : GoodIn wsX5_openClause (wsV RX5 49 RX7 yX7_fail wsX7_fail) := goodIn_app (goodIn_of _ (by decide +kernel)) ggX5_openClause_X7_fail
set_option maxRecDepth 20000 in
theorem ggX5_openClause_X7_kind : GoodIn wsX5_openClause wsX7_kind := goodIn_r _ [5, 6, 7, 8, 20, 21, 22, 23, 24, 25, 26, 27] (by decide +kernel) (by decide +kernel)
set_option maxRecDepth 20000 in
theorem gX5_openClause_X7_kind : GoodIn wsX5_openClause (wsV RX5 45 RX7 yX7_kind wsX7_kind) := goodIn_app (goodIn_of _ (by decide +kernel)) ggX5_openClause_X7_kind
set_option maxRecDepth 20000 in
theorem ggX5_read_X4_clear : GoodIn wsX5_read wsX4_clear := goodIn_r _ [105, 106, 107, 108, 166, 167, 168, 169, 170, 171, 172, 173] (by decide +kernel) (by decide +kernel)
set_option maxRecDepth 20000 in
theorem gX5_read_X4_clear : GoodIn wsX5_read (wsV RX5 14 RX4 yX4_clear wsX4_clear) := goodIn_app (goodIn_of _ (by decide +kernel)) ggX5_read_X4_clear
set_option maxRecDepth 20000 in
theorem ggX5_read_X5_openClause : GoodIn wsX5_read wsX5_openClause := goodIn_r _ [112, 113, 114, 115, 5, 116, 8, 7, 91, 117, 118, 119, 120, 92, 10, 9, 121, 122, 123, 124, 174, 175, 176, 177, 178, 179, 180, 181] (by decide +kernel) (by decide +kernel)
set_option maxRecDepth 20000 in
theorem gX5_read_X5_openClause : GoodIn wsX5_read (va_wsS RX5 23 yX5_openClause wsX5_openClause) := goodIn_app (goodIn_of _ (by decide +kernel)) ggX5_read_X5_openClause
set_option maxRecDepth 20000 in
theorem ggX5_read_X7_cutUp : GoodIn wsX5_read wsX7_cutUp := goodIn_r _ [6, 7, 8, 9, 10, 11, 12, 13, 14, 15, 16, 17, 5, 18, 19, 20, 21, 22, 23, 24, 25, 26, 27, 28, 29, 30, 31, 32, 33, 34, 35, 36, 37, 38, 39, 40, 41, 42, 43, 44, 45, 46, 47, 48, 49, 50, 51, 52, 53, 54, 55, 56, 57, 58, 59, 60, 61, 62, 63, 64, 65, 66, 67, 68, 69, 70, 71, 72, 73, 74, 75, 76, 77, 78, 79, 80, 81, 82, 83, 84, 85, 86, 87, 88, 89, 90, 91, 92, 93, 94, 95, 96, 97, 98, 99, 100, 174, 175, 176, 177, 178, 179, 180, 181] (by decide +kernel) (by decide +kernel)
set_option maxRecDepth 20000 in
theorem gX5_read_X7_cutUp : GoodIn wsX5_read (wsV RX5 9 RX7 yX7_cutUp wsX7_cutUp) := goodIn_app (goodIn_of _ (by decide +kernel)) ggX5_read_X7_cutUp
set_option maxRecDepth 20000 in
theorem ggX6_copyFrom_X0_copyFrom : GoodIn wsX6_copyFrom wsX0_copyFrom := goodIn_r _ [35, 36, 37, 17, 18, 19, 38, 39, 40, 41, 74, 75, 76, 77, 78] (by decide +kernel) (by decide +kernel)
set_option maxRecDepth 20000 in
theorem gX6_copyFrom_X0_copyFrom : GoodIn wsX6_copyFrom (wsV RX6 43 RX0 yX0_copyFrom wsX0_copyFrom) := goodIn_app (goodIn_of _ (by decide +kernel)) ggX6_copyFrom_X0_copyFrom
set_option maxRecDepth 20000 in
theorem ggX6_copyFrom_X2_copyFrom : GoodIn wsX6_copyFrom wsX2_copyFrom := goodIn_r _ [46, 47, 48, 17, 18, 19, 49, 50, 51, 79, 80, 81, 82] (by decide +kernel) (by decide +kernel)
set_option maxRecDepth 20000 in
theorem gX6_copyFrom_X2_copyFrom : GoodIn wsX6_copyFrom (wsV RX6 46 RX2 yX2_copyFrom wsX2_copyFrom) := goodIn_app (goodIn_of _ (by decide +kernel)) ggX6_copyFrom_X2_copyFrom
set_option maxRecDepth 20000 in
theorem ggX6_copyFrom_X3_copyFrom : GoodIn wsX6_copyFrom wsX3_copyFrom := goodIn_r _ [10, 11, 12, 13, 14, 15, 16, 17, 18, 19, 20, 21, 22, 23, 24, 25, 26, 27, 28, 29, 30, 57, 58, 59, 60, 61, 62, 63, 64, 65, 66, 67, 68, 69, 70, 71, 72, 73] (by decide +kernel) (by decide +kernel)
set_option maxRecDepth 20000 in
theorem gX6_copyFrom_X3_copyFrom : GoodIn wsX6_copyFrom (wsV RX6 39 RX3 yX3_copyFrom wsX3_copyFrom) := goodIn_app (goodIn_of _ (by decide +kernel)) ggX6_copyFrom_X3_copyFrom
set_option maxRecDepth 20000 in
theorem ggX7_cutUp_X7_put : GoodIn wsX7_cutUp wsX7_put := goodIn_r _ [85, 1, 86, 87, 88, 96, 97, 98, 99, 100, 101, 102, 103] (by decide +kernel) (by decide +kernel)
set_option maxRecDepth 20000 in
theorem gX7_cutUp_X7_put : GoodIn wsX7_cutUp (wsV RX7 51 RX7 yX7_put wsX7_put) := goodIn_app (goodIn_of _ (by decide +kernel)) ggX7_cutUp_X7_put
set_option maxRecDepth 20000 in
theorem ggX8_count_X3_givesInAll : GoodIn wsX8_count wsX3_givesInAll := goodIn_r _ [22, 23, 24, 25, 26, 21, 27, 28, 29, 30, 31, 32, 33, 51, 52, 53, 54, 55, 56, 57, 58, 59, 60, 61, 62, 63, 64, 65, 66, 67] (by decide +kernel) (by decide +kernel)
set_option maxRecDepth 20000 in
theorem gX8_count_X3_givesInAll : GoodIn wsX8_count (wsV RX8 224 RX3 yX3_givesInAll wsX3_givesInAll) := goodIn_app (goodIn_of _ (by decide +kernel)) ggX8_count_X3_givesInAll
set_option maxRecDepth 20000 in
theorem ggX8_feed_X7_append : GoodIn wsX8_feed wsX7_append := goodIn_r _ [7, 8, 9, 22, 23, 24, 25, 26, 27, 28, 29] (by decide +kernel) (by decide +kernel)
set_option maxRecDepth 20000 in
theorem gX8_feed_X7_append : GoodIn wsX8_feed (wsV RX8 68 RX7 yX7_append wsX7_append) := goodIn_app (goodIn_of _ (by decide +kernel)) ggX8_feed_X7_append
set_option maxRecDepth 20000 in
theorem ggX8_hall_X1_read : GoodIn wsX8_hall wsX1_read := goodIn_r _ [13, 14, 15, 16, 17, 18, 19, 20, 21, 22, 23, 24, 25, 26, 27, 28, 29, 30, 31, 32, 33, 34, 35, 36, 37, 38, 39, 40, 41, 42, 43, 44, 45, 46, 47, 48, 49, 50, 51, 52, 53, 54, 55, 56, 57, 58, 59, 60, 61, 62, 63, 64, 65, 66, 67, 68, 69, 70, 71, 72, 73, 74, 75, 76, 77, 78, 79, 80, 81, 82, 83, 84, 85, 86, 87, 88, 89, 90, 91, 92, 93, 94, 95, 96, 97, 98, 99, 100, 101, 102, 103, 104, 105, 106, 107, 108, 109, 110, 111, 112, 113, 114, 115, 116, 117, 118, 119, 120, 121, 122, 123, 12, 124, 125, 126, 127, 128, 129, 130, 131, 132, 133, 134, 135, 136, 137, 138, 139, 140, 141, 142, 143, 144, 145, 146, 147, 148, 149, 150, 151, 152, 153, 154, 155, 156, 157, 158, 159, 160, 161, 162, 163, 164, 165, 166, 167, 168, 169, 170, 171, 172, 173, 174, 175, 176, 177, 178, 179, 180, 181, 182, 183, 184, 185, 186, 187, 188, 189, 190, 191, 192, 193, 194, 195, 196, 197, 198, 199, 200, 201, 202, 203, 204, 205, 235, 236, 237, 238, 239, 240, 241, 242, 248, 249, 250, 251, 252, 253, 254, 255, 256, 257, 258, 259, 260, 261, 262, 263, 264] (by decide +kernel) (by decide +kernel)
set_option maxRecDepth 20000 in
theorem gX8_hall_X1_read : GoodIn wsX8_hall (va_wsS RX8 72 yX1_read wsX1_read) := goodIn_app (goodIn_of _ (by decide +kernel)) ggX8_hall_X1_read
set_option maxRecDepth 20000 in
theorem ggX8_image_X6_copyFrom : GoodIn wsX8_image wsX6_copyFrom := goodIn_r _ [10, 11, 12, 13, 14, 15, 16, 17, 18, 19, 20, 21, 22, 23, 24, 25, 26, 27, 28, 29, 30, 31, 32, 33, 34, 35, 36, 37, 38, 39, 40, 41, 42, 43, 44, 45, 46, 47, 48, 49, 50, 51, 52, 53, 54, 55, 56, 57, 58, 59, 60, 61, 74, 75, 76, 77, 78, 79, 80, 81, 82, 83, 84, 85, 86, 87, 88, 89, 90, 91, 92, 93, 94, 95, 96, 97, 98, 99, 100, 101, 102, 103, 104] (by decide +kernel) (by decide +kernel)
set_option maxRecDepth 20000 in
theorem gX8_image_X6_copyFrom : GoodIn wsX8_image (wsV RX8 318 RX6 yX6_copyFrom wsX6_copyFrom) := goodIn_app (goodIn_of _ (by decide +kernel)) ggX8_image_X6_copyFrom
set_option maxRecDepth 20000 in
theorem ggX8_rule_X5_read : GoodIn wsX8_rule wsX5_read := goodIn_r _ [9, 10, 11, 12, 13, 14, 15, 16, 17, 18, 19, 20, 21, 22, 23, 24, 25, 26, 27, 28, 29, 30, 31, 32, 33, 34, 35, 36, 37, 38, 39, 40, 41, 42, 43, 44, 45, 46, 47, 48, 49, 50, 51, 52, 53, 54, 55, 56, 57, 58, 59, 60, 61, 62, 63, 64, 65, 66, 67, 68, 69, 70, 71, 72, 73, 74, 75, 76, 77, 78, 79, 80, 81, 82, 83, 84, 85, 86, 87, 88, 89, 90, 91, 92, 93, 94, 95, 96, 97, 98, 99, 100, 101, 102, 103, 104, 105, 106, 107, 108, 109, 110, 111, 112, 113, 114, 115, 116, 117, 118, 119, 8, 120, 121, 122, 123, 124, 125, 126, 127, 128, 129, 130, 131, 132, 133, 134, 135, 136, 137, 138, 139, 140, 141, 142, 143, 144, 145, 146, 147, 148, 149, 150, 151, 152, 153, 154, 155, 156, 157, 158, 159, 160, 161, 162, 163, 164, 165, 166, 167, 168, 169, 170, 171, 172, 173, 194, 195, 196, 197, 198, 199, 200, 201, 186, 187, 188, 189, 190, 191, 192, 193] (by decide +kernel) (by decide +kernel)
set_option maxRecDepth 20000 in
theorem gX8_rule_X5_read : GoodIn wsX8_rule (va_wsS RX8 107 yX5_read wsX5_read) := goodIn_app (goodIn_of _ (by decide +kernel)) ggX8_rule_X5_read
set_option maxHeartbeats 4000000 in
set_option maxRecDepth 100000 in
theorem c_X7_append_0 (l : Launch) (D : va_G) (k : Nat → ClassId) (sz : Nat) (h0 : Nat) (a0 : Nat) (a1 : Nat) (a2 : Nat) (a3 : Nat) (f0 : Nat → Int32) (x1 : Int32) : CtV l yX7_append wsX7_append (rmK 1 0 0) [.ref h0, .int x1] D k sz ([(h0, .inr (5, [.ref a0, .int 0, .ref a1, .ref a2, .ref a3, .int 0, .int 0, .int 0])), (a0, hcY k 400 f0)]) (fun _ : Nat → Int32 => True) (fun fU : Nat → Int32 => [(h0, .inr (5, [.ref a0, .int 4, .ref a1, .ref a2, .ref a3, .int 0, .int 0, .int 0])), (a0, hcY k 400 fU)]) 0 0 := by
  refine CtV.mk (cc := cX7_append) (maxL := 3) (ret := none) (by decide) rfl (Nat.le_of_ble_eq_true rfl) ?_
  intro p e s m below meth c A ls E hP hD hS hl
  obtain ⟨hx, hb, hr, hml, hown, hts, hlocks, hin, hG, hA⟩ := E
  have hown : s.vm.findClass RX7 = some m.cls := hown
  have in7 : ∀ w ∈ u_ws RX7 TX7 8, w ∈ wsX7_append := fun _ h => List.mem_cons_of_mem _ (List.mem_append_right _ h)
  have hl : lv_has ls 3 [(0, .ref h0), (1, .int x1)] := hl
  refine lv_bipush (v := 24) hx hb dX7_append_0 (by decide) ?_
  refine lv_istore_n (lv' := [(2, .int 24), (0, .ref h0), (1, .int x1)]) hx hb dX7_append_2 rfl hl (by decide) rfl (fun ls hl => ?_)
  refine lv_iload_n hx hb dX7_append_3 rfl (lv_at hl 0 rfl) ?_
  refine lv_if_lt (tgt := 46) hx hb dX7_append_4 (by decide) (fun h => absurd h (by decide)) (fun _ => ?_)
  refine lv_aload_n hx hb dX7_append_7 rfl (lv_at hl 1 rfl) ?_
  refine va_get (D := D) (ci := 5) (v := .int 0) (C := RX7) (T := TX7) (N := 8) hx hb hts in7 hown hG.1 hP 0 rfl rfl 1 (by decide) (hts (.fieldLink RX7 15 "ChairCane$Tape" "length" "I") (by decide +kernel)) (fun _ h9 => h9) rfl dX7_append_8 ?_
  refine lv_sipush (v := 400) hx hb dX7_append_11 (by decide) ?_
  refine lv_icmp_ge (tgt := 40) hx hb dX7_append_14 (by decide) (fun h => absurd h (by decide)) (fun _ => ?_)
  refine lv_aload_n hx hb dX7_append_17 rfl (lv_at hl 1 rfl) ?_
  refine va_get (D := D) (ci := 5) (v := .ref a0) (C := RX7) (T := TX7) (N := 8) hx hb hts in7 hown hG.1 hP 0 rfl rfl 0 (by decide) (hts (.fieldLink RX7 9 "ChairCane$Tape" "bytes" "[B") (by decide +kernel)) (fun _ h9 => h9) rfl dX7_append_18 ?_
  refine lv_aload_n hx hb dX7_append_21 rfl (lv_at hl 1 rfl) ?_
  refine va_get (D := D) (ci := 5) (v := .int 0) (C := RX7) (T := TX7) (N := 8) hx hb hts in7 hown hG.1 hP 0 rfl rfl 1 (by decide) (hts (.fieldLink RX7 15 "ChairCane$Tape" "length" "I") (by decide +kernel)) (fun _ h9 => h9) rfl dX7_append_22 ?_
  refine lv_iload_n hx hb dX7_append_25 rfl (lv_at hl 2 rfl) ?_
  refine lv_iload_n hx hb dX7_append_26 rfl (lv_at hl 0 rfl) ?_
  refine lv_ishr hx hb dX7_append_27 ?_
  refine lv_topi (fun z_1 ez_1 => ?_)
  refine lv_i2b (v := (z_1).toInt8.toInt32) hx hb dX7_append_28 rfl ?_
  refine lv_topi (fun z_2 ez_2 => ?_)
  refine va_bast hx hb hG.1 hP hD hS 1 1 rfl rfl (by unfold vp_in; decide) dX7_append_29 (fun H locs hP hD hS => ?_)
  generalize upd f0 (Int32.toNatClampNeg (0)) (vp_nar .byte (z_2)) = f_3 at hP hD
  have hP : va_P D vwCl ([(h0, .inr (5, [.ref a0, .int 0, .ref a1, .ref a2, .ref a3, .int 0, .int 0, .int 0])), (a0, hcY k 400 f_3)]) H := hP
  have hD : va_D A ([(h0, .inr (5, [.ref a0, .int 0, .ref a1, .ref a2, .ref a3, .int 0, .int 0, .int 0])), (a0, hcY k 400 f_3)]) := hD
  refine lv_aload_n hx hb dX7_append_30 rfl (lv_at hl 1 rfl) ?_
  refine lv_dup hx hb dX7_append_31 rfl ?_
  refine va_get (D := D) (ci := 5) (v := .int 0) (C := RX7) (T := TX7) (N := 8) hx hb hts in7 hown hG.1 hP 0 rfl rfl 1 (by decide) (hts (.fieldLink RX7 15 "ChairCane$Tape" "length" "I") (by decide +kernel)) (fun _ h9 => h9) rfl dX7_append_32 ?_
  refine lv_iconst (v := 1) hx hb dX7_append_35 (by decide) ?_
  refine lv_iadd hx hb dX7_append_36 ?_
  refine hc_is (z := 1) (by decide) ?_
  refine va_put (D := D) (ci := 5) (v := .int 1) (C := RX7) (T := TX7) (N := 8) hx hb hts in7 tyX7 tyX7_ok nmX7 hown hG.1 hP hD hS 0 rfl rfl 1 (by decide) (hts (.fieldLink RX7 15 "ChairCane$Tape" "length" "I") (by decide +kernel)) (fun _ h9 => h9) rfl (tyX7_ok 1 (by decide)) rfl rfl (Nat.le_of_ble_eq_true rfl) dX7_append_37 (fun H locs hP hD hS => ?_)
  have hP : va_P D vwCl ([(h0, .inr (5, [.ref a0, .int 1, .ref a1, .ref a2, .ref a3, .int 0, .int 0, .int 0])), (a0, hcY k 400 f_3)]) H := hP
  have hD : va_D A ([(h0, .inr (5, [.ref a0, .int 1, .ref a1, .ref a2, .ref a3, .int 0, .int 0, .int 0])), (a0, hcY k 400 f_3)]) := hD
  refine lv_iinc (v := 16) (lv' := [(2, .int 16), (0, .ref h0), (1, .int x1)]) hx hb dX7_append_40 hl (k := 0) rfl (by decide) (by decide) rfl (fun ls hl => ?_)
  refine lv_goto (tgt := 3) hx hb dX7_append_43 (by decide) ?_
  refine lv_iload_n hx hb dX7_append_3 rfl (lv_at hl 0 rfl) ?_
  refine lv_if_lt (tgt := 46) hx hb dX7_append_4 (by decide) (fun h => absurd h (by decide)) (fun _ => ?_)
  refine lv_aload_n hx hb dX7_append_7 rfl (lv_at hl 1 rfl) ?_
  refine va_get (D := D) (ci := 5) (v := .int 1) (C := RX7) (T := TX7) (N := 8) hx hb hts in7 hown hG.1 hP 0 rfl rfl 1 (by decide) (hts (.fieldLink RX7 15 "ChairCane$Tape" "length" "I") (by decide +kernel)) (fun _ h9 => h9) rfl dX7_append_8 ?_
  refine lv_sipush (v := 400) hx hb dX7_append_11 (by decide) ?_
  refine lv_icmp_ge (tgt := 40) hx hb dX7_append_14 (by decide) (fun h => absurd h (by decide)) (fun _ => ?_)
  refine lv_aload_n hx hb dX7_append_17 rfl (lv_at hl 1 rfl) ?_
  refine va_get (D := D) (ci := 5) (v := .ref a0) (C := RX7) (T := TX7) (N := 8) hx hb hts in7 hown hG.1 hP 0 rfl rfl 0 (by decide) (hts (.fieldLink RX7 9 "ChairCane$Tape" "bytes" "[B") (by decide +kernel)) (fun _ h9 => h9) rfl dX7_append_18 ?_
  refine lv_aload_n hx hb dX7_append_21 rfl (lv_at hl 1 rfl) ?_
  refine va_get (D := D) (ci := 5) (v := .int 1) (C := RX7) (T := TX7) (N := 8) hx hb hts in7 hown hG.1 hP 0 rfl rfl 1 (by decide) (hts (.fieldLink RX7 15 "ChairCane$Tape" "length" "I") (by decide +kernel)) (fun _ h9 => h9) rfl dX7_append_22 ?_
  refine lv_iload_n hx hb dX7_append_25 rfl (lv_at hl 2 rfl) ?_
  refine lv_iload_n hx hb dX7_append_26 rfl (lv_at hl 0 rfl) ?_
  refine lv_ishr hx hb dX7_append_27 ?_
  refine lv_topi (fun z_4 ez_4 => ?_)
  refine lv_i2b (v := (z_4).toInt8.toInt32) hx hb dX7_append_28 rfl ?_
  refine lv_topi (fun z_5 ez_5 => ?_)
  refine va_bast hx hb hG.1 hP hD hS 1 1 rfl rfl (by unfold vp_in; decide) dX7_append_29 (fun H locs hP hD hS => ?_)
  generalize upd f_3 (Int32.toNatClampNeg (1)) (vp_nar .byte (z_5)) = f_6 at hP hD
  have hP : va_P D vwCl ([(h0, .inr (5, [.ref a0, .int 1, .ref a1, .ref a2, .ref a3, .int 0, .int 0, .int 0])), (a0, hcY k 400 f_6)]) H := hP
  have hD : va_D A ([(h0, .inr (5, [.ref a0, .int 1, .ref a1, .ref a2, .ref a3, .int 0, .int 0, .int 0])), (a0, hcY k 400 f_6)]) := hD
  refine lv_aload_n hx hb dX7_append_30 rfl (lv_at hl 1 rfl) ?_
  refine lv_dup hx hb dX7_append_31 rfl ?_
  refine va_get (D := D) (ci := 5) (v := .int 1) (C := RX7) (T := TX7) (N := 8) hx hb hts in7 hown hG.1 hP 0 rfl rfl 1 (by decide) (hts (.fieldLink RX7 15 "ChairCane$Tape" "length" "I") (by decide +kernel)) (fun _ h9 => h9) rfl dX7_append_32 ?_
  refine lv_iconst (v := 1) hx hb dX7_append_35 (by decide) ?_
  refine lv_iadd hx hb dX7_append_36 ?_
  refine hc_is (z := 2) (by decide) ?_
  refine va_put (D := D) (ci := 5) (v := .int 2) (C := RX7) (T := TX7) (N := 8) hx hb hts in7 tyX7 tyX7_ok nmX7 hown hG.1 hP hD hS 0 rfl rfl 1 (by decide) (hts (.fieldLink RX7 15 "ChairCane$Tape" "length" "I") (by decide +kernel)) (fun _ h9 => h9) rfl (tyX7_ok 1 (by decide)) rfl rfl (Nat.le_of_ble_eq_true rfl) dX7_append_37 (fun H locs hP hD hS => ?_)
  have hP : va_P D vwCl ([(h0, .inr (5, [.ref a0, .int 2, .ref a1, .ref a2, .ref a3, .int 0, .int 0, .int 0])), (a0, hcY k 400 f_6)]) H := hP
  have hD : va_D A ([(h0, .inr (5, [.ref a0, .int 2, .ref a1, .ref a2, .ref a3, .int 0, .int 0, .int 0])), (a0, hcY k 400 f_6)]) := hD
  refine lv_iinc (v := 8) (lv' := [(2, .int 8), (0, .ref h0), (1, .int x1)]) hx hb dX7_append_40 hl (k := 0) rfl (by decide) (by decide) rfl (fun ls hl => ?_)
  refine lv_goto (tgt := 3) hx hb dX7_append_43 (by decide) ?_
  refine lv_iload_n hx hb dX7_append_3 rfl (lv_at hl 0 rfl) ?_
  refine lv_if_lt (tgt := 46) hx hb dX7_append_4 (by decide) (fun h => absurd h (by decide)) (fun _ => ?_)
  refine lv_aload_n hx hb dX7_append_7 rfl (lv_at hl 1 rfl) ?_
  refine va_get (D := D) (ci := 5) (v := .int 2) (C := RX7) (T := TX7) (N := 8) hx hb hts in7 hown hG.1 hP 0 rfl rfl 1 (by decide) (hts (.fieldLink RX7 15 "ChairCane$Tape" "length" "I") (by decide +kernel)) (fun _ h9 => h9) rfl dX7_append_8 ?_
  refine lv_sipush (v := 400) hx hb dX7_append_11 (by decide) ?_
  refine lv_icmp_ge (tgt := 40) hx hb dX7_append_14 (by decide) (fun h => absurd h (by decide)) (fun _ => ?_)
  refine lv_aload_n hx hb dX7_append_17 rfl (lv_at hl 1 rfl) ?_
  refine va_get (D := D) (ci := 5) (v := .ref a0) (C := RX7) (T := TX7) (N := 8) hx hb hts in7 hown hG.1 hP 0 rfl rfl 0 (by decide) (hts (.fieldLink RX7 9 "ChairCane$Tape" "bytes" "[B") (by decide +kernel)) (fun _ h9 => h9) rfl dX7_append_18 ?_
  refine lv_aload_n hx hb dX7_append_21 rfl (lv_at hl 1 rfl) ?_
  refine va_get (D := D) (ci := 5) (v := .int 2) (C := RX7) (T := TX7) (N := 8) hx hb hts in7 hown hG.1 hP 0 rfl rfl 1 (by decide) (hts (.fieldLink RX7 15 "ChairCane$Tape" "length" "I") (by decide +kernel)) (fun _ h9 => h9) rfl dX7_append_22 ?_
  refine lv_iload_n hx hb dX7_append_25 rfl (lv_at hl 2 rfl) ?_
  refine lv_iload_n hx hb dX7_append_26 rfl (lv_at hl 0 rfl) ?_
  refine lv_ishr hx hb dX7_append_27 ?_
  refine lv_topi (fun z_7 ez_7 => ?_)
  refine lv_i2b (v := (z_7).toInt8.toInt32) hx hb dX7_append_28 rfl ?_
  refine lv_topi (fun z_8 ez_8 => ?_)
  refine va_bast hx hb hG.1 hP hD hS 1 1 rfl rfl (by unfold vp_in; decide) dX7_append_29 (fun H locs hP hD hS => ?_)
  generalize upd f_6 (Int32.toNatClampNeg (2)) (vp_nar .byte (z_8)) = f_9 at hP hD
  have hP : va_P D vwCl ([(h0, .inr (5, [.ref a0, .int 2, .ref a1, .ref a2, .ref a3, .int 0, .int 0, .int 0])), (a0, hcY k 400 f_9)]) H := hP
  have hD : va_D A ([(h0, .inr (5, [.ref a0, .int 2, .ref a1, .ref a2, .ref a3, .int 0, .int 0, .int 0])), (a0, hcY k 400 f_9)]) := hD
  refine lv_aload_n hx hb dX7_append_30 rfl (lv_at hl 1 rfl) ?_
  refine lv_dup hx hb dX7_append_31 rfl ?_
  refine va_get (D := D) (ci := 5) (v := .int 2) (C := RX7) (T := TX7) (N := 8) hx hb hts in7 hown hG.1 hP 0 rfl rfl 1 (by decide) (hts (.fieldLink RX7 15 "ChairCane$Tape" "length" "I") (by decide +kernel)) (fun _ h9 => h9) rfl dX7_append_32 ?_
  refine lv_iconst (v := 1) hx hb dX7_append_35 (by decide) ?_
  refine lv_iadd hx hb dX7_append_36 ?_
  refine hc_is (z := 3) (by decide) ?_
  refine va_put (D := D) (ci := 5) (v := .int 3) (C := RX7) (T := TX7) (N := 8) hx hb hts in7 tyX7 tyX7_ok nmX7 hown hG.1 hP hD hS 0 rfl rfl 1 (by decide) (hts (.fieldLink RX7 15 "ChairCane$Tape" "length" "I") (by decide +kernel)) (fun _ h9 => h9) rfl (tyX7_ok 1 (by decide)) rfl rfl (Nat.le_of_ble_eq_true rfl) dX7_append_37 (fun H locs hP hD hS => ?_)
  have hP : va_P D vwCl ([(h0, .inr (5, [.ref a0, .int 3, .ref a1, .ref a2, .ref a3, .int 0, .int 0, .int 0])), (a0, hcY k 400 f_9)]) H := hP
  have hD : va_D A ([(h0, .inr (5, [.ref a0, .int 3, .ref a1, .ref a2, .ref a3, .int 0, .int 0, .int 0])), (a0, hcY k 400 f_9)]) := hD
  refine lv_iinc (v := 0) (lv' := [(2, .int 0), (0, .ref h0), (1, .int x1)]) hx hb dX7_append_40 hl (k := 0) rfl (by decide) (by decide) rfl (fun ls hl => ?_)
  refine lv_goto (tgt := 3) hx hb dX7_append_43 (by decide) ?_
  refine lv_iload_n hx hb dX7_append_3 rfl (lv_at hl 0 rfl) ?_
  refine lv_if_lt (tgt := 46) hx hb dX7_append_4 (by decide) (fun h => absurd h (by decide)) (fun _ => ?_)
  refine lv_aload_n hx hb dX7_append_7 rfl (lv_at hl 1 rfl) ?_
  refine va_get (D := D) (ci := 5) (v := .int 3) (C := RX7) (T := TX7) (N := 8) hx hb hts in7 hown hG.1 hP 0 rfl rfl 1 (by decide) (hts (.fieldLink RX7 15 "ChairCane$Tape" "length" "I") (by decide +kernel)) (fun _ h9 => h9) rfl dX7_append_8 ?_
  refine lv_sipush (v := 400) hx hb dX7_append_11 (by decide) ?_
  refine lv_icmp_ge (tgt := 40) hx hb dX7_append_14 (by decide) (fun h => absurd h (by decide)) (fun _ => ?_)
  refine lv_aload_n hx hb dX7_append_17 rfl (lv_at hl 1 rfl) ?_
  refine va_get (D := D) (ci := 5) (v := .ref a0) (C := RX7) (T := TX7) (N := 8) hx hb hts in7 hown hG.1 hP 0 rfl rfl 0 (by decide) (hts (.fieldLink RX7 9 "ChairCane$Tape" "bytes" "[B") (by decide +kernel)) (fun _ h9 => h9) rfl dX7_append_18 ?_
  refine lv_aload_n hx hb dX7_append_21 rfl (lv_at hl 1 rfl) ?_
  refine va_get (D := D) (ci := 5) (v := .int 3) (C := RX7) (T := TX7) (N := 8) hx hb hts in7 hown hG.1 hP 0 rfl rfl 1 (by decide) (hts (.fieldLink RX7 15 "ChairCane$Tape" "length" "I") (by decide +kernel)) (fun _ h9 => h9) rfl dX7_append_22 ?_
  refine lv_iload_n hx hb dX7_append_25 rfl (lv_at hl 2 rfl) ?_
  refine lv_iload_n hx hb dX7_append_26 rfl (lv_at hl 0 rfl) ?_
  refine lv_ishr hx hb dX7_append_27 ?_
  refine lv_topi (fun z_10 ez_10 => ?_)
  refine lv_i2b (v := (z_10).toInt8.toInt32) hx hb dX7_append_28 rfl ?_
  refine lv_topi (fun z_11 ez_11 => ?_)
  refine va_bast hx hb hG.1 hP hD hS 1 1 rfl rfl (by unfold vp_in; decide) dX7_append_29 (fun H locs hP hD hS => ?_)
  generalize upd f_9 (Int32.toNatClampNeg (3)) (vp_nar .byte (z_11)) = f_12 at hP hD
  have hP : va_P D vwCl ([(h0, .inr (5, [.ref a0, .int 3, .ref a1, .ref a2, .ref a3, .int 0, .int 0, .int 0])), (a0, hcY k 400 f_12)]) H := hP
  have hD : va_D A ([(h0, .inr (5, [.ref a0, .int 3, .ref a1, .ref a2, .ref a3, .int 0, .int 0, .int 0])), (a0, hcY k 400 f_12)]) := hD
  refine lv_aload_n hx hb dX7_append_30 rfl (lv_at hl 1 rfl) ?_
  refine lv_dup hx hb dX7_append_31 rfl ?_
  refine va_get (D := D) (ci := 5) (v := .int 3) (C := RX7) (T := TX7) (N := 8) hx hb hts in7 hown hG.1 hP 0 rfl rfl 1 (by decide) (hts (.fieldLink RX7 15 "ChairCane$Tape" "length" "I") (by decide +kernel)) (fun _ h9 => h9) rfl dX7_append_32 ?_
  refine lv_iconst (v := 1) hx hb dX7_append_35 (by decide) ?_
  refine lv_iadd hx hb dX7_append_36 ?_
  refine hc_is (z := 4) (by decide) ?_
  refine va_put (D := D) (ci := 5) (v := .int 4) (C := RX7) (T := TX7) (N := 8) hx hb hts in7 tyX7 tyX7_ok nmX7 hown hG.1 hP hD hS 0 rfl rfl 1 (by decide) (hts (.fieldLink RX7 15 "ChairCane$Tape" "length" "I") (by decide +kernel)) (fun _ h9 => h9) rfl (tyX7_ok 1 (by decide)) rfl rfl (Nat.le_of_ble_eq_true rfl) dX7_append_37 (fun H locs hP hD hS => ?_)
  have hP : va_P D vwCl ([(h0, .inr (5, [.ref a0, .int 4, .ref a1, .ref a2, .ref a3, .int 0, .int 0, .int 0])), (a0, hcY k 400 f_12)]) H := hP
  have hD : va_D A ([(h0, .inr (5, [.ref a0, .int 4, .ref a1, .ref a2, .ref a3, .int 0, .int 0, .int 0])), (a0, hcY k 400 f_12)]) := hD
  refine lv_iinc (v := (-8)) (lv' := [(2, .int (-8)), (0, .ref h0), (1, .int x1)]) hx hb dX7_append_40 hl (k := 0) rfl (by decide) (by decide) rfl (fun ls hl => ?_)
  refine lv_goto (tgt := 3) hx hb dX7_append_43 (by decide) ?_
  refine lv_iload_n hx hb dX7_append_3 rfl (lv_at hl 0 rfl) ?_
  refine lv_if_lt (tgt := 46) hx hb dX7_append_4 (by decide) (fun _ => ?_) (fun h => absurd (by decide) h)
  exact hc_endV hx hb hr hlocks f_12 trivial hP hD hS dX7_append_46
set_option maxHeartbeats 4000000 in
set_option maxRecDepth 100000 in
theorem c_X7_append_4 (l : Launch) (D : va_G) (k : Nat → ClassId) (sz : Nat) (h0 : Nat) (a0 : Nat) (a1 : Nat) (a2 : Nat) (a3 : Nat) (f0 : Nat → Int32) (x1 : Int32) : CtV l yX7_append wsX7_append (rmK 1 0 0) [.ref h0, .int x1] D k sz ([(h0, .inr (5, [.ref a0, .int 4, .ref a1, .ref a2, .ref a3, .int 0, .int 0, .int 0])), (a0, hcY k 400 f0)]) (fun _ : Nat → Int32 => True) (fun fU : Nat → Int32 => [(h0, .inr (5, [.ref a0, .int 8, .ref a1, .ref a2, .ref a3, .int 0, .int 0, .int 0])), (a0, hcY k 400 fU)]) 0 0 := by
  refine CtV.mk (cc := cX7_append) (maxL := 3) (ret := none) (by decide) rfl (Nat.le_of_ble_eq_true rfl) ?_
  intro p e s m below meth c A ls E hP hD hS hl
  obtain ⟨hx, hb, hr, hml, hown, hts, hlocks, hin, hG, hA⟩ := E
  have hown : s.vm.findClass RX7 = some m.cls := hown
  have in7 : ∀ w ∈ u_ws RX7 TX7 8, w ∈ wsX7_append := fun _ h => List.mem_cons_of_mem _ (List.mem_append_right _ h)
  have hl : lv_has ls 3 [(0, .ref h0), (1, .int x1)] := hl
  refine lv_bipush (v := 24) hx hb dX7_append_0 (by decide) ?_
  refine lv_istore_n (lv' := [(2, .int 24), (0, .ref h0), (1, .int x1)]) hx hb dX7_append_2 rfl hl (by decide) rfl (fun ls hl => ?_)
  refine lv_iload_n hx hb dX7_append_3 rfl (lv_at hl 0 rfl) ?_
  refine lv_if_lt (tgt := 46) hx hb dX7_append_4 (by decide) (fun h => absurd h (by decide)) (fun _ => ?_)
  refine lv_aload_n hx hb dX7_append_7 rfl (lv_at hl 1 rfl) ?_
  refine va_get (D := D) (ci := 5) (v := .int 4) (C := RX7) (T := TX7) (N := 8) hx hb hts in7 hown hG.1 hP 0 rfl rfl 1 (by decide) (hts (.fieldLink RX7 15 "ChairCane$Tape" "length" "I") (by decide +kernel)) (fun _ h9 => h9) rfl dX7_append_8 ?_
  refine lv_sipush (v := 400) hx hb dX7_append_11 (by decide) ?_
  refine lv_icmp_ge (tgt := 40) hx hb dX7_append_14 (by decide) (fun h => absurd h (by decide)) (fun _ => ?_)
  refine lv_aload_n hx hb dX7_append_17 rfl (lv_at hl 1 rfl) ?_
  refine va_get (D := D) (ci := 5) (v := .ref a0) (C := RX7) (T := TX7) (N := 8) hx hb hts in7 hown hG.1 hP 0 rfl rfl 0 (by decide) (hts (.fieldLink RX7 9 "ChairCane$Tape" "bytes" "[B") (by decide +kernel)) (fun _ h9 => h9) rfl dX7_append_18 ?_
  refine lv_aload_n hx hb dX7_append_21 rfl (lv_at hl 1 rfl) ?_
  refine va_get (D := D) (ci := 5) (v := .int 4) (C := RX7) (T := TX7) (N := 8) hx hb hts in7 hown hG.1 hP 0 rfl rfl 1 (by decide) (hts (.fieldLink RX7 15 "ChairCane$Tape" "length" "I") (by decide +kernel)) (fun _ h9 => h9) rfl dX7_append_22 ?_
  refine lv_iload_n hx hb dX7_append_25 rfl (lv_at hl 2 rfl) ?_
  refine lv_iload_n hx hb dX7_append_26 rfl (lv_at hl 0 rfl) ?_
  refine lv_ishr hx hb dX7_append_27 ?_
  refine lv_topi (fun z_1 ez_1 => ?_)
  refine lv_i2b (v := (z_1).toInt8.toInt32) hx hb dX7_append_28 rfl ?_
  refine lv_topi (fun z_2 ez_2 => ?_)
  refine va_bast hx hb hG.1 hP hD hS 1 1 rfl rfl (by unfold vp_in; decide) dX7_append_29 (fun H locs hP hD hS => ?_)
  generalize upd f0 (Int32.toNatClampNeg (4)) (vp_nar .byte (z_2)) = f_3 at hP hD
  have hP : va_P D vwCl ([(h0, .inr (5, [.ref a0, .int 4, .ref a1, .ref a2, .ref a3, .int 0, .int 0, .int 0])), (a0, hcY k 400 f_3)]) H := hP
  have hD : va_D A ([(h0, .inr (5, [.ref a0, .int 4, .ref a1, .ref a2, .ref a3, .int 0, .int 0, .int 0])), (a0, hcY k 400 f_3)]) := hD
  refine lv_aload_n hx hb dX7_append_30 rfl (lv_at hl 1 rfl) ?_
  refine lv_dup hx hb dX7_append_31 rfl ?_
  refine va_get (D := D) (ci := 5) (v := .int 4) (C := RX7) (T := TX7) (N := 8) hx hb hts in7 hown hG.1 hP 0 rfl rfl 1 (by decide) (hts (.fieldLink RX7 15 "ChairCane$Tape" "length" "I") (by decide +kernel)) (fun _ h9 => h9) rfl dX7_append_32 ?_
  refine lv_iconst (v := 1) hx hb dX7_append_35 (by decide) ?_
  refine lv_iadd hx hb dX7_append_36 ?_
  refine hc_is (z := 5) (by decide) ?_
  refine va_put (D := D) (ci := 5) (v := .int 5) (C := RX7) (T := TX7) (N := 8) hx hb hts in7 tyX7 tyX7_ok nmX7 hown hG.1 hP hD hS 0 rfl rfl 1 (by decide) (hts (.fieldLink RX7 15 "ChairCane$Tape" "length" "I") (by decide +kernel)) (fun _ h9 => h9) rfl (tyX7_ok 1 (by decide)) rfl rfl (Nat.le_of_ble_eq_true rfl) dX7_append_37 (fun H locs hP hD hS => ?_)
  have hP : va_P D vwCl ([(h0, .inr (5, [.ref a0, .int 5, .ref a1, .ref a2, .ref a3, .int 0, .int 0, .int 0])), (a0, hcY k 400 f_3)]) H := hP
  have hD : va_D A ([(h0, .inr (5, [.ref a0, .int 5, .ref a1, .ref a2, .ref a3, .int 0, .int 0, .int 0])), (a0, hcY k 400 f_3)]) := hD
  refine lv_iinc (v := 16) (lv' := [(2, .int 16), (0, .ref h0), (1, .int x1)]) hx hb dX7_append_40 hl (k := 0) rfl (by decide) (by decide) rfl (fun ls hl => ?_)
  refine lv_goto (tgt := 3) hx hb dX7_append_43 (by decide) ?_
  refine lv_iload_n hx hb dX7_append_3 rfl (lv_at hl 0 rfl) ?_
  refine lv_if_lt (tgt := 46) hx hb dX7_append_4 (by decide) (fun h => absurd h (by decide)) (fun _ => ?_)
  refine lv_aload_n hx hb dX7_append_7 rfl (lv_at hl 1 rfl) ?_
  refine va_get (D := D) (ci := 5) (v := .int 5) (C := RX7) (T := TX7) (N := 8) hx hb hts in7 hown hG.1 hP 0 rfl rfl 1 (by decide) (hts (.fieldLink RX7 15 "ChairCane$Tape" "length" "I") (by decide +kernel)) (fun _ h9 => h9) rfl dX7_append_8 ?_
  refine lv_sipush (v := 400) hx hb dX7_append_11 (by decide) ?_
  refine lv_icmp_ge (tgt := 40) hx hb dX7_append_14 (by decide) (fun h => absurd h (by decide)) (fun _ => ?_)
  refine lv_aload_n hx hb dX7_append_17 rfl (lv_at hl 1 rfl) ?_
  refine va_get (D := D) (ci := 5) (v := .ref a0) (C := RX7) (T := TX7) (N := 8) hx hb hts in7 hown hG.1 hP 0 rfl rfl 0 (by decide) (hts (.fieldLink RX7 9 "ChairCane$Tape" "bytes" "[B") (by decide +kernel)) (fun _ h9 => h9) rfl dX7_append_18 ?_
  refine lv_aload_n hx hb dX7_append_21 rfl (lv_at hl 1 rfl) ?_
  refine va_get (D := D) (ci := 5) (v := .int 5) (C := RX7) (T := TX7) (N := 8) hx hb hts in7 hown hG.1 hP 0 rfl rfl 1 (by decide) (hts (.fieldLink RX7 15 "ChairCane$Tape" "length" "I") (by decide +kernel)) (fun _ h9 => h9) rfl dX7_append_22 ?_
  refine lv_iload_n hx hb dX7_append_25 rfl (lv_at hl 2 rfl) ?_
  refine lv_iload_n hx hb dX7_append_26 rfl (lv_at hl 0 rfl) ?_
  refine lv_ishr hx hb dX7_append_27 ?_
  refine lv_topi (fun z_4 ez_4 => ?_)
  refine lv_i2b (v := (z_4).toInt8.toInt32) hx hb dX7_append_28 rfl ?_
  refine lv_topi (fun z_5 ez_5 => ?_)
  refine va_bast hx hb hG.1 hP hD hS 1 1 rfl rfl (by unfold vp_in; decide) dX7_append_29 (fun H locs hP hD hS => ?_)
  generalize upd f_3 (Int32.toNatClampNeg (5)) (vp_nar .byte (z_5)) = f_6 at hP hD
  have hP : va_P D vwCl ([(h0, .inr (5, [.ref a0, .int 5, .ref a1, .ref a2, .ref a3, .int 0, .int 0, .int 0])), (a0, hcY k 400 f_6)]) H := hP
  have hD : va_D A ([(h0, .inr (5, [.ref a0, .int 5, .ref a1, .ref a2, .ref a3, .int 0, .int 0, .int 0])), (a0, hcY k 400 f_6)]) := hD
  refine lv_aload_n hx hb dX7_append_30 rfl (lv_at hl 1 rfl) ?_
  refine lv_dup hx hb dX7_append_31 rfl ?_
  refine va_get (D := D) (ci := 5) (v := .int 5) (C := RX7) (T := TX7) (N := 8) hx hb hts in7 hown hG.1 hP 0 rfl rfl 1 (by decide) (hts (.fieldLink RX7 15 "ChairCane$Tape" "length" "I") (by decide +kernel)) (fun _ h9 => h9) rfl dX7_append_32 ?_
  refine lv_iconst (v := 1) hx hb dX7_append_35 (by decide) ?_
  refine lv_iadd hx hb dX7_append_36 ?_
  refine hc_is (z := 6) (by decide) ?_
  refine va_put (D := D) (ci := 5) (v := .int 6) (C := RX7) (T := TX7) (N := 8) hx hb hts in7 tyX7 tyX7_ok nmX7 hown hG.1 hP hD hS 0 rfl rfl 1 (by decide) (hts (.fieldLink RX7 15 "ChairCane$Tape" "length" "I") (by decide +kernel)) (fun _ h9 => h9) rfl (tyX7_ok 1 (by decide)) rfl rfl (Nat.le_of_ble_eq_true rfl) dX7_append_37 (fun H locs hP hD hS => ?_)
  have hP : va_P D vwCl ([(h0, .inr (5, [.ref a0, .int 6, .ref a1, .ref a2, .ref a3, .int 0, .int 0, .int 0])), (a0, hcY k 400 f_6)]) H := hP
  have hD : va_D A ([(h0, .inr (5, [.ref a0, .int 6, .ref a1, .ref a2, .ref a3, .int 0, .int 0, .int 0])), (a0, hcY k 400 f_6)]) := hD
  refine lv_iinc (v := 8) (lv' := [(2, .int 8), (0, .ref h0), (1, .int x1)]) hx hb dX7_append_40 hl (k := 0) rfl (by decide) (by decide) rfl (fun ls hl => ?_)
  refine lv_goto (tgt := 3) hx hb dX7_append_43 (by decide) ?_
  refine lv_iload_n hx hb dX7_append_3 rfl (lv_at hl 0 rfl) ?_
  refine lv_if_lt (tgt := 46) hx hb dX7_append_4 (by decide) (fun h => absurd h (by decide)) (fun _ => ?_)
  refine lv_aload_n hx hb dX7_append_7 rfl (lv_at hl 1 rfl) ?_
  refine va_get (D := D) (ci := 5) (v := .int 6) (C := RX7) (T := TX7) (N := 8) hx hb hts in7 hown hG.1 hP 0 rfl rfl 1 (by decide) (hts (.fieldLink RX7 15 "ChairCane$Tape" "length" "I") (by decide +kernel)) (fun _ h9 => h9) rfl dX7_append_8 ?_
  refine lv_sipush (v := 400) hx hb dX7_append_11 (by decide) ?_
  refine lv_icmp_ge (tgt := 40) hx hb dX7_append_14 (by decide) (fun h => absurd h (by decide)) (fun _ => ?_)
  refine lv_aload_n hx hb dX7_append_17 rfl (lv_at hl 1 rfl) ?_
  refine va_get (D := D) (ci := 5) (v := .ref a0) (C := RX7) (T := TX7) (N := 8) hx hb hts in7 hown hG.1 hP 0 rfl rfl 0 (by decide) (hts (.fieldLink RX7 9 "ChairCane$Tape" "bytes" "[B") (by decide +kernel)) (fun _ h9 => h9) rfl dX7_append_18 ?_
  refine lv_aload_n hx hb dX7_append_21 rfl (lv_at hl 1 rfl) ?_
  refine va_get (D := D) (ci := 5) (v := .int 6) (C := RX7) (T := TX7) (N := 8) hx hb hts in7 hown hG.1 hP 0 rfl rfl 1 (by decide) (hts (.fieldLink RX7 15 "ChairCane$Tape" "length" "I") (by decide +kernel)) (fun _ h9 => h9) rfl dX7_append_22 ?_
  refine lv_iload_n hx hb dX7_append_25 rfl (lv_at hl 2 rfl) ?_
  refine lv_iload_n hx hb dX7_append_26 rfl (lv_at hl 0 rfl) ?_
  refine lv_ishr hx hb dX7_append_27 ?_
  refine lv_topi (fun z_7 ez_7 => ?_)
  refine lv_i2b (v := (z_7).toInt8.toInt32) hx hb dX7_append_28 rfl ?_
  refine lv_topi (fun z_8 ez_8 => ?_)
  refine va_bast hx hb hG.1 hP hD hS 1 1 rfl rfl (by unfold vp_in; decide) dX7_append_29 (fun H locs hP hD hS => ?_)
  generalize upd f_6 (Int32.toNatClampNeg (6)) (vp_nar .byte (z_8)) = f_9 at hP hD
  have hP : va_P D vwCl ([(h0, .inr (5, [.ref a0, .int 6, .ref a1, .ref a2, .ref a3, .int 0, .int 0, .int 0])), (a0, hcY k 400 f_9)]) H := hP
  have hD : va_D A ([(h0, .inr (5, [.ref a0, .int 6, .ref a1, .ref a2, .ref a3, .int 0, .int 0, .int 0])), (a0, hcY k 400 f_9)]) := hD
  refine lv_aload_n hx hb dX7_append_30 rfl (lv_at hl 1 rfl) ?_
  refine lv_dup hx hb dX7_append_31 rfl ?_
  refine va_get (D := D) (ci := 5) (v := .int 6) (C := RX7) (T := TX7) (N := 8) hx hb hts in7 hown hG.1 hP 0 rfl rfl 1 (by decide) (hts (.fieldLink RX7 15 "ChairCane$Tape" "length" "I") (by decide +kernel)) (fun _ h9 => h9) rfl dX7_append_32 ?_
  refine lv_iconst (v := 1) hx hb dX7_append_35 (by decide) ?_
  refine lv_iadd hx hb dX7_append_36 ?_
  refine hc_is (z := 7) (by decide) ?_
  refine va_put (D := D) (ci := 5) (v := .int 7) (C := RX7) (T := TX7) (N := 8) hx hb hts in7 tyX7 tyX7_ok nmX7 hown hG.1 hP hD hS 0 rfl rfl 1 (by decide) (hts (.fieldLink RX7 15 "ChairCane$Tape" "length" "I") (by decide +kernel)) (fun _ h9 => h9) rfl (tyX7_ok 1 (by decide)) rfl rfl (Nat.le_of_ble_eq_true rfl) dX7_append_37 (fun H locs hP hD hS => ?_)
  have hP : va_P D vwCl ([(h0, .inr (5, [.ref a0, .int 7, .ref a1, .ref a2, .ref a3, .int 0, .int 0, .int 0])), (a0, hcY k 400 f_9)]) H := hP
  have hD : va_D A ([(h0, .inr (5, [.ref a0, .int 7, .ref a1, .ref a2, .ref a3, .int 0, .int 0, .int 0])), (a0, hcY k 400 f_9)]) := hD
  refine lv_iinc (v := 0) (lv' := [(2, .int 0), (0, .ref h0), (1, .int x1)]) hx hb dX7_append_40 hl (k := 0) rfl (by decide) (by decide) rfl (fun ls hl => ?_)
  refine lv_goto (tgt := 3) hx hb dX7_append_43 (by decide) ?_
  refine lv_iload_n hx hb dX7_append_3 rfl (lv_at hl 0 rfl) ?_
  refine lv_if_lt (tgt := 46) hx hb dX7_append_4 (by decide) (fun h => absurd h (by decide)) (fun _ => ?_)
  refine lv_aload_n hx hb dX7_append_7 rfl (lv_at hl 1 rfl) ?_
  refine va_get (D := D) (ci := 5) (v := .int 7) (C := RX7) (T := TX7) (N := 8) hx hb hts in7 hown hG.1 hP 0 rfl rfl 1 (by decide) (hts (.fieldLink RX7 15 "ChairCane$Tape" "length" "I") (by decide +kernel)) (fun _ h9 => h9) rfl dX7_append_8 ?_
  refine lv_sipush (v := 400) hx hb dX7_append_11 (by decide) ?_
  refine lv_icmp_ge (tgt := 40) hx hb dX7_append_14 (by decide) (fun h => absurd h (by decide)) (fun _ => ?_)
  refine lv_aload_n hx hb dX7_append_17 rfl (lv_at hl 1 rfl) ?_
  refine va_get (D := D) (ci := 5) (v := .ref a0) (C := RX7) (T := TX7) (N := 8) hx hb hts in7 hown hG.1 hP 0 rfl rfl 0 (by decide) (hts (.fieldLink RX7 9 "ChairCane$Tape" "bytes" "[B") (by decide +kernel)) (fun _ h9 => h9) rfl dX7_append_18 ?_
  refine lv_aload_n hx hb dX7_append_21 rfl (lv_at hl 1 rfl) ?_
  refine va_get (D := D) (ci := 5) (v := .int 7) (C := RX7) (T := TX7) (N := 8) hx hb hts in7 hown hG.1 hP 0 rfl rfl 1 (by decide) (hts (.fieldLink RX7 15 "ChairCane$Tape" "length" "I") (by decide +kernel)) (fun _ h9 => h9) rfl dX7_append_22 ?_
  refine lv_iload_n hx hb dX7_append_25 rfl (lv_at hl 2 rfl) ?_
  refine lv_iload_n hx hb dX7_append_26 rfl (lv_at hl 0 rfl) ?_
  refine lv_ishr hx hb dX7_append_27 ?_
  refine lv_topi (fun z_10 ez_10 => ?_)
  refine lv_i2b (v := (z_10).toInt8.toInt32) hx hb dX7_append_28 rfl ?_
  refine lv_topi (fun z_11 ez_11 => ?_)
  refine va_bast hx hb hG.1 hP hD hS 1 1 rfl rfl (by unfold vp_in; decide) dX7_append_29 (fun H locs hP hD hS => ?_)
  generalize upd f_9 (Int32.toNatClampNeg (7)) (vp_nar .byte (z_11)) = f_12 at hP hD
  have hP : va_P D vwCl ([(h0, .inr (5, [.ref a0, .int 7, .ref a1, .ref a2, .ref a3, .int 0, .int 0, .int 0])), (a0, hcY k 400 f_12)]) H := hP
  have hD : va_D A ([(h0, .inr (5, [.ref a0, .int 7, .ref a1, .ref a2, .ref a3, .int 0, .int 0, .int 0])), (a0, hcY k 400 f_12)]) := hD
  refine lv_aload_n hx hb dX7_append_30 rfl (lv_at hl 1 rfl) ?_
  refine lv_dup hx hb dX7_append_31 rfl ?_
  refine va_get (D := D) (ci := 5) (v := .int 7) (C := RX7) (T := TX7) (N := 8) hx hb hts in7 hown hG.1 hP 0 rfl rfl 1 (by decide) (hts (.fieldLink RX7 15 "ChairCane$Tape" "length" "I") (by decide +kernel)) (fun _ h9 => h9) rfl dX7_append_32 ?_
  refine lv_iconst (v := 1) hx hb dX7_append_35 (by decide) ?_
  refine lv_iadd hx hb dX7_append_36 ?_
  refine hc_is (z := 8) (by decide) ?_
  refine va_put (D := D) (ci := 5) (v := .int 8) (C := RX7) (T := TX7) (N := 8) hx hb hts in7 tyX7 tyX7_ok nmX7 hown hG.1 hP hD hS 0 rfl rfl 1 (by decide) (hts (.fieldLink RX7 15 "ChairCane$Tape" "length" "I") (by decide +kernel)) (fun _ h9 => h9) rfl (tyX7_ok 1 (by decide)) rfl rfl (Nat.le_of_ble_eq_true rfl) dX7_append_37 (fun H locs hP hD hS => ?_)
  have hP : va_P D vwCl ([(h0, .inr (5, [.ref a0, .int 8, .ref a1, .ref a2, .ref a3, .int 0, .int 0, .int 0])), (a0, hcY k 400 f_12)]) H := hP
  have hD : va_D A ([(h0, .inr (5, [.ref a0, .int 8, .ref a1, .ref a2, .ref a3, .int 0, .int 0, .int 0])), (a0, hcY k 400 f_12)]) := hD
  refine lv_iinc (v := (-8)) (lv' := [(2, .int (-8)), (0, .ref h0), (1, .int x1)]) hx hb dX7_append_40 hl (k := 0) rfl (by decide) (by decide) rfl (fun ls hl => ?_)
  refine lv_goto (tgt := 3) hx hb dX7_append_43 (by decide) ?_
  refine lv_iload_n hx hb dX7_append_3 rfl (lv_at hl 0 rfl) ?_
  refine lv_if_lt (tgt := 46) hx hb dX7_append_4 (by decide) (fun _ => ?_) (fun h => absurd (by decide) h)
  exact hc_endV hx hb hr hlocks f_12 trivial hP hD hS dX7_append_46
set_option maxHeartbeats 4000000 in
set_option maxRecDepth 100000 in
theorem c_X7_append_8 (l : Launch) (D : va_G) (k : Nat → ClassId) (sz : Nat) (h0 : Nat) (a0 : Nat) (a1 : Nat) (a2 : Nat) (a3 : Nat) (f0 : Nat → Int32) (x1 : Int32) : CtV l yX7_append wsX7_append (rmK 1 0 0) [.ref h0, .int x1] D k sz ([(h0, .inr (5, [.ref a0, .int 8, .ref a1, .ref a2, .ref a3, .int 0, .int 0, .int 0])), (a0, hcY k 400 f0)]) (fun _ : Nat → Int32 => True) (fun fU : Nat → Int32 => [(h0, .inr (5, [.ref a0, .int 12, .ref a1, .ref a2, .ref a3, .int 0, .int 0, .int 0])), (a0, hcY k 400 fU)]) 0 0 := by
  refine CtV.mk (cc := cX7_append) (maxL := 3) (ret := none) (by decide) rfl (Nat.le_of_ble_eq_true rfl) ?_
  intro p e s m below meth c A ls E hP hD hS hl
  obtain ⟨hx, hb, hr, hml, hown, hts, hlocks, hin, hG, hA⟩ := E
  have hown : s.vm.findClass RX7 = some m.cls := hown
  have in7 : ∀ w ∈ u_ws RX7 TX7 8, w ∈ wsX7_append := fun _ h => List.mem_cons_of_mem _ (List.mem_append_right _ h)
  have hl : lv_has ls 3 [(0, .ref h0), (1, .int x1)] := hl
  refine lv_bipush (v := 24) hx hb dX7_append_0 (by decide) ?_
  refine lv_istore_n (lv' := [(2, .int 24), (0, .ref h0), (1, .int x1)]) hx hb dX7_append_2 rfl hl (by decide) rfl (fun ls hl => ?_)
  refine lv_iload_n hx hb dX7_append_3 rfl (lv_at hl 0 rfl) ?_
  refine lv_if_lt (tgt := 46) hx hb dX7_append_4 (by decide) (fun h => absurd h (by decide)) (fun _ => ?_)
  refine lv_aload_n hx hb dX7_append_7 rfl (lv_at hl 1 rfl) ?_
  refine va_get (D := D) (ci := 5) (v := .int 8) (C := RX7) (T := TX7) (N := 8) hx hb hts in7 hown hG.1 hP 0 rfl rfl 1 (by decide) (hts (.fieldLink RX7 15 "ChairCane$Tape" "length" "I") (by decide +kernel)) (fun _ h9 => h9) rfl dX7_append_8 ?_
  refine lv_sipush (v := 400) hx hb dX7_append_11 (by decide) ?_
  refine lv_icmp_ge (tgt := 40) hx hb dX7_append_14 (by decide) (fun h => absurd h (by decide)) (fun _ => ?_)
  refine lv_aload_n hx hb dX7_append_17 rfl (lv_at hl 1 rfl) ?_
  refine va_get (D := D) (ci := 5) (v := .ref a0) (C := RX7) (T := TX7) (N := 8) hx hb hts in7 hown hG.1 hP 0 rfl rfl 0 (by decide) (hts (.fieldLink RX7 9 "ChairCane$Tape" "bytes" "[B") (by decide +kernel)) (fun _ h9 => h9) rfl dX7_append_18 ?_
  refine lv_aload_n hx hb dX7_append_21 rfl (lv_at hl 1 rfl) ?_
  refine va_get (D := D) (ci := 5) (v := .int 8) (C := RX7) (T := TX7) (N := 8) hx hb hts in7 hown hG.1 hP 0 rfl rfl 1 (by decide) (hts (.fieldLink RX7 15 "ChairCane$Tape" "length" "I") (by decide +kernel)) (fun _ h9 => h9) rfl dX7_append_22 ?_
  refine lv_iload_n hx hb dX7_append_25 rfl (lv_at hl 2 rfl) ?_
  refine lv_iload_n hx hb dX7_append_26 rfl (lv_at hl 0 rfl) ?_
  refine lv_ishr hx hb dX7_append_27 ?_
  refine lv_topi (fun z_1 ez_1 => ?_)
  refine lv_i2b (v := (z_1).toInt8.toInt32) hx hb dX7_append_28 rfl ?_
  refine lv_topi (fun z_2 ez_2 => ?_)
  refine va_bast hx hb hG.1 hP hD hS 1 1 rfl rfl (by unfold vp_in; decide) dX7_append_29 (fun H locs hP hD hS => ?_)
  generalize upd f0 (Int32.toNatClampNeg (8)) (vp_nar .byte (z_2)) = f_3 at hP hD
  have hP : va_P D vwCl ([(h0, .inr (5, [.ref a0, .int 8, .ref a1, .ref a2, .ref a3, .int 0, .int 0, .int 0])), (a0, hcY k 400 f_3)]) H := hP
  have hD : va_D A ([(h0, .inr (5, [.ref a0, .int 8, .ref a1, .ref a2, .ref a3, .int 0, .int 0, .int 0])), (a0, hcY k 400 f_3)]) := hD
  refine lv_aload_n hx hb dX7_append_30 rfl (lv_at hl 1 rfl) ?_
  refine lv_dup hx hb dX7_append_31 rfl ?_
  refine va_get (D := D) (ci := 5) (v := .int 8) (C := RX7) (T := TX7) (N := 8) hx hb hts in7 hown hG.1 hP 0 rfl rfl 1 (by decide) (hts (.fieldLink RX7 15 "ChairCane$Tape" "length" "I") (by decide +kernel)) (fun _ h9 => h9) rfl dX7_append_32 ?_
  refine lv_iconst (v := 1) hx hb dX7_append_35 (by decide) ?_
  refine lv_iadd hx hb dX7_append_36 ?_
  refine hc_is (z := 9) (by decide) ?_
  refine va_put (D := D) (ci := 5) (v := .int 9) (C := RX7) (T := TX7) (N := 8) hx hb hts in7 tyX7 tyX7_ok nmX7 hown hG.1 hP hD hS 0 rfl rfl 1 (by decide) (hts (.fieldLink RX7 15 "ChairCane$Tape" "length" "I") (by decide +kernel)) (fun _ h9 => h9) rfl (tyX7_ok 1 (by decide)) rfl rfl (Nat.le_of_ble_eq_true rfl) dX7_append_37 (fun H locs hP hD hS => ?_)
  have hP : va_P D vwCl ([(h0, .inr (5, [.ref a0, .int 9, .ref a1, .ref a2, .ref a3, .int 0, .int 0, .int 0])), (a0, hcY k 400 f_3)]) H := hP
  have hD : va_D A ([(h0, .inr (5, [.ref a0, .int 9, .ref a1, .ref a2, .ref a3, .int 0, .int 0, .int 0])), (a0, hcY k 400 f_3)]) := hD
  refine lv_iinc (v := 16) (lv' := [(2, .int 16), (0, .ref h0), (1, .int x1)]) hx hb dX7_append_40 hl (k := 0) rfl (by decide) (by decide) rfl (fun ls hl => ?_)
  refine lv_goto (tgt := 3) hx hb dX7_append_43 (by decide) ?_
  refine lv_iload_n hx hb dX7_append_3 rfl (lv_at hl 0 rfl) ?_
  refine lv_if_lt (tgt := 46) hx hb dX7_append_4 (by decide) (fun h => absurd h (by decide)) (fun _ => ?_)
  refine lv_aload_n hx hb dX7_append_7 rfl (lv_at hl 1 rfl) ?_
  refine va_get (D := D) (ci := 5) (v := .int 9) (C := RX7) (T := TX7) (N := 8) hx hb hts in7 hown hG.1 hP 0 rfl rfl 1 (by decide) (hts (.fieldLink RX7 15 "ChairCane$Tape" "length" "I") (by decide +kernel)) (fun _ h9 => h9) rfl dX7_append_8 ?_
  refine lv_sipush (v := 400) hx hb dX7_append_11 (by decide) ?_
  refine lv_icmp_ge (tgt := 40) hx hb dX7_append_14 (by decide) (fun h => absurd h (by decide)) (fun _ => ?_)
  refine lv_aload_n hx hb dX7_append_17 rfl (lv_at hl 1 rfl) ?_
  refine va_get (D := D) (ci := 5) (v := .ref a0) (C := RX7) (T := TX7) (N := 8) hx hb hts in7 hown hG.1 hP 0 rfl rfl 0 (by decide) (hts (.fieldLink RX7 9 "ChairCane$Tape" "bytes" "[B") (by decide +kernel)) (fun _ h9 => h9) rfl dX7_append_18 ?_
  refine lv_aload_n hx hb dX7_append_21 rfl (lv_at hl 1 rfl) ?_
  refine va_get (D := D) (ci := 5) (v := .int 9) (C := RX7) (T := TX7) (N := 8) hx hb hts in7 hown hG.1 hP 0 rfl rfl 1 (by decide) (hts (.fieldLink RX7 15 "ChairCane$Tape" "length" "I") (by decide +kernel)) (fun _ h9 => h9) rfl dX7_append_22 ?_
  refine lv_iload_n hx hb dX7_append_25 rfl (lv_at hl 2 rfl) ?_
  refine lv_iload_n hx hb dX7_append_26 rfl (lv_at hl 0 rfl) ?_
  refine lv_ishr hx hb dX7_append_27 ?_
  refine lv_topi (fun z_4 ez_4 => ?_)
  refine lv_i2b (v := (z_4).toInt8.toInt32) hx hb dX7_append_28 rfl ?_
  refine lv_topi (fun z_5 ez_5 => ?_)
  refine va_bast hx hb hG.1 hP hD hS 1 1 rfl rfl (by unfold vp_in; decide) dX7_append_29 (fun H locs hP hD hS => ?_)
  generalize upd f_3 (Int32.toNatClampNeg (9)) (vp_nar .byte (z_5)) = f_6 at hP hD
  have hP : va_P D vwCl ([(h0, .inr (5, [.ref a0, .int 9, .ref a1, .ref a2, .ref a3, .int 0, .int 0, .int 0])), (a0, hcY k 400 f_6)]) H := hP
  have hD : va_D A ([(h0, .inr (5, [.ref a0, .int 9, .ref a1, .ref a2, .ref a3, .int 0, .int 0, .int 0])), (a0, hcY k 400 f_6)]) := hD
  refine lv_aload_n hx hb dX7_append_30 rfl (lv_at hl 1 rfl) ?_
  refine lv_dup hx hb dX7_append_31 rfl ?_
  refine va_get (D := D) (ci := 5) (v := .int 9) (C := RX7) (T := TX7) (N := 8) hx hb hts in7 hown hG.1 hP 0 rfl rfl 1 (by decide) (hts (.fieldLink RX7 15 "ChairCane$Tape" "length" "I") (by decide +kernel)) (fun _ h9 => h9) rfl dX7_append_32 ?_
  refine lv_iconst (v := 1) hx hb dX7_append_35 (by decide) ?_
  refine lv_iadd hx hb dX7_append_36 ?_
  refine hc_is (z := 10) (by decide) ?_
  refine va_put (D := D) (ci := 5) (v := .int 10) (C := RX7) (T := TX7) (N := 8) hx hb hts in7 tyX7 tyX7_ok nmX7 hown hG.1 hP hD hS 0 rfl rfl 1 (by decide) (hts (.fieldLink RX7 15 "ChairCane$Tape" "length" "I") (by decide +kernel)) (fun _ h9 => h9) rfl (tyX7_ok 1 (by decide)) rfl rfl (Nat.le_of_ble_eq_true rfl) dX7_append_37 (fun H locs hP hD hS => ?_)
  have hP : va_P D vwCl ([(h0, .inr (5, [.ref a0, .int 10, .ref a1, .ref a2, .ref a3, .int 0, .int 0, .int 0])), (a0, hcY k 400 f_6)]) H := hP
  have hD : va_D A ([(h0, .inr (5, [.ref a0, .int 10, .ref a1, .ref a2, .ref a3, .int 0, .int 0, .int 0])), (a0, hcY k 400 f_6)]) := hD
  refine lv_iinc (v := 8) (lv' := [(2, .int 8), (0, .ref h0), (1, .int x1)]) hx hb dX7_append_40 hl (k := 0) rfl (by decide) (by decide) rfl (fun ls hl => ?_)
  refine lv_goto (tgt := 3) hx hb dX7_append_43 (by decide) ?_
  refine lv_iload_n hx hb dX7_append_3 rfl (lv_at hl 0 rfl) ?_
  refine lv_if_lt (tgt := 46) hx hb dX7_append_4 (by decide) (fun h => absurd h (by decide)) (fun _ => ?_)
  refine lv_aload_n hx hb dX7_append_7 rfl (lv_at hl 1 rfl) ?_
  refine va_get (D := D) (ci := 5) (v := .int 10) (C := RX7) (T := TX7) (N := 8) hx hb hts in7 hown hG.1 hP 0 rfl rfl 1 (by decide) (hts (.fieldLink RX7 15 "ChairCane$Tape" "length" "I") (by decide +kernel)) (fun _ h9 => h9) rfl dX7_append_8 ?_
  refine lv_sipush (v := 400) hx hb dX7_append_11 (by decide) ?_
  refine lv_icmp_ge (tgt := 40) hx hb dX7_append_14 (by decide) (fun h => absurd h (by decide)) (fun _ => ?_)
  refine lv_aload_n hx hb dX7_append_17 rfl (lv_at hl 1 rfl) ?_
  refine va_get (D := D) (ci := 5) (v := .ref a0) (C := RX7) (T := TX7) (N := 8) hx hb hts in7 hown hG.1 hP 0 rfl rfl 0 (by decide) (hts (.fieldLink RX7 9 "ChairCane$Tape" "bytes" "[B") (by decide +kernel)) (fun _ h9 => h9) rfl dX7_append_18 ?_
  refine lv_aload_n hx hb dX7_append_21 rfl (lv_at hl 1 rfl) ?_
  refine va_get (D := D) (ci := 5) (v := .int 10) (C := RX7) (T := TX7) (N := 8) hx hb hts in7 hown hG.1 hP 0 rfl rfl 1 (by decide) (hts (.fieldLink RX7 15 "ChairCane$Tape" "length" "I") (by decide +kernel)) (fun _ h9 => h9) rfl dX7_append_22 ?_
  refine lv_iload_n hx hb dX7_append_25 rfl (lv_at hl 2 rfl) ?_
  refine lv_iload_n hx hb dX7_append_26 rfl (lv_at hl 0 rfl) ?_
  refine lv_ishr hx hb dX7_append_27 ?_
  refine lv_topi (fun z_7 ez_7 => ?_)
  refine lv_i2b (v := (z_7).toInt8.toInt32) hx hb dX7_append_28 rfl ?_
  refine lv_topi (fun z_8 ez_8 => ?_)
  refine va_bast hx hb hG.1 hP hD hS 1 1 rfl rfl (by unfold vp_in; decide) dX7_append_29 (fun H locs hP hD hS => ?_)
  generalize upd f_6 (Int32.toNatClampNeg (10)) (vp_nar .byte (z_8)) = f_9 at hP hD
  have hP : va_P D vwCl ([(h0, .inr (5, [.ref a0, .int 10, .ref a1, .ref a2, .ref a3, .int 0, .int 0, .int 0])), (a0, hcY k 400 f_9)]) H := hP
  have hD : va_D A ([(h0, .inr (5, [.ref a0, .int 10, .ref a1, .ref a2, .ref a3, .int 0, .int 0, .int 0])), (a0, hcY k 400 f_9)]) := hD
  refine lv_aload_n hx hb dX7_append_30 rfl (lv_at hl 1 rfl) ?_
  refine lv_dup hx hb dX7_append_31 rfl ?_
  refine va_get (D := D) (ci := 5) (v := .int 10) (C := RX7) (T := TX7) (N := 8) hx hb hts in7 hown hG.1 hP 0 rfl rfl 1 (by decide) (hts (.fieldLink RX7 15 "ChairCane$Tape" "length" "I") (by decide +kernel)) (fun _ h9 => h9) rfl dX7_append_32 ?_
  refine lv_iconst (v := 1) hx hb dX7_append_35 (by decide) ?_
  refine lv_iadd hx hb dX7_append_36 ?_
  refine hc_is (z := 11) (by decide) ?_
  refine va_put (D := D) (ci := 5) (v := .int 11) (C := RX7) (T := TX7) (N := 8) hx hb hts in7 tyX7 tyX7_ok nmX7 hown hG.1 hP hD hS 0 rfl rfl 1 (by decide) (hts (.fieldLink RX7 15 "ChairCane$Tape" "length" "I") (by decide +kernel)) (fun _ h9 => h9) rfl (tyX7_ok 1 (by decide)) rfl rfl (Nat.le_of_ble_eq_true rfl) dX7_append_37 (fun H locs hP hD hS => ?_)
  have hP : va_P D vwCl ([(h0, .inr (5, [.ref a0, .int 11, .ref a1, .ref a2, .ref a3, .int 0, .int 0, .int 0])), (a0, hcY k 400 f_9)]) H := hP
  have hD : va_D A ([(h0, .inr (5, [.ref a0, .int 11, .ref a1, .ref a2, .ref a3, .int 0, .int 0, .int 0])), (a0, hcY k 400 f_9)]) := hD
  refine lv_iinc (v := 0) (lv' := [(2, .int 0), (0, .ref h0), (1, .int x1)]) hx hb dX7_append_40 hl (k := 0) rfl (by decide) (by decide) rfl (fun ls hl => ?_)
  refine lv_goto (tgt := 3) hx hb dX7_append_43 (by decide) ?_
  refine lv_iload_n hx hb dX7_append_3 rfl (lv_at hl 0 rfl) ?_
  refine lv_if_lt (tgt := 46) hx hb dX7_append_4 (by decide) (fun h => absurd h (by decide)) (fun _ => ?_)
  refine lv_aload_n hx hb dX7_append_7 rfl (lv_at hl 1 rfl) ?_
  refine va_get (D := D) (ci := 5) (v := .int 11) (C := RX7) (T := TX7) (N := 8) hx hb hts in7 hown hG.1 hP 0 rfl rfl 1 (by decide) (hts (.fieldLink RX7 15 "ChairCane$Tape" "length" "I") (by decide +kernel)) (fun _ h9 => h9) rfl dX7_append_8 ?_
  refine lv_sipush (v := 400) hx hb dX7_append_11 (by decide) ?_
  refine lv_icmp_ge (tgt := 40) hx hb dX7_append_14 (by decide) (fun h => absurd h (by decide)) (fun _ => ?_)
  refine lv_aload_n hx hb dX7_append_17 rfl (lv_at hl 1 rfl) ?_
  refine va_get (D := D) (ci := 5) (v := .ref a0) (C := RX7) (T := TX7) (N := 8) hx hb hts in7 hown hG.1 hP 0 rfl rfl 0 (by decide) (hts (.fieldLink RX7 9 "ChairCane$Tape" "bytes" "[B") (by decide +kernel)) (fun _ h9 => h9) rfl dX7_append_18 ?_
  refine lv_aload_n hx hb dX7_append_21 rfl (lv_at hl 1 rfl) ?_
  refine va_get (D := D) (ci := 5) (v := .int 11) (C := RX7) (T := TX7) (N := 8) hx hb hts in7 hown hG.1 hP 0 rfl rfl 1 (by decide) (hts (.fieldLink RX7 15 "ChairCane$Tape" "length" "I") (by decide +kernel)) (fun _ h9 => h9) rfl dX7_append_22 ?_
  refine lv_iload_n hx hb dX7_append_25 rfl (lv_at hl 2 rfl) ?_
  refine lv_iload_n hx hb dX7_append_26 rfl (lv_at hl 0 rfl) ?_
  refine lv_ishr hx hb dX7_append_27 ?_
  refine lv_topi (fun z_10 ez_10 => ?_)
  refine lv_i2b (v := (z_10).toInt8.toInt32) hx hb dX7_append_28 rfl ?_
  refine lv_topi (fun z_11 ez_11 => ?_)
  refine va_bast hx hb hG.1 hP hD hS 1 1 rfl rfl (by unfold vp_in; decide) dX7_append_29 (fun H locs hP hD hS => ?_)
  generalize upd f_9 (Int32.toNatClampNeg (11)) (vp_nar .byte (z_11)) = f_12 at hP hD
  have hP : va_P D vwCl ([(h0, .inr (5, [.ref a0, .int 11, .ref a1, .ref a2, .ref a3, .int 0, .int 0, .int 0])), (a0, hcY k 400 f_12)]) H := hP
  have hD : va_D A ([(h0, .inr (5, [.ref a0, .int 11, .ref a1, .ref a2, .ref a3, .int 0, .int 0, .int 0])), (a0, hcY k 400 f_12)]) := hD
  refine lv_aload_n hx hb dX7_append_30 rfl (lv_at hl 1 rfl) ?_
  refine lv_dup hx hb dX7_append_31 rfl ?_
  refine va_get (D := D) (ci := 5) (v := .int 11) (C := RX7) (T := TX7) (N := 8) hx hb hts in7 hown hG.1 hP 0 rfl rfl 1 (by decide) (hts (.fieldLink RX7 15 "ChairCane$Tape" "length" "I") (by decide +kernel)) (fun _ h9 => h9) rfl dX7_append_32 ?_
  refine lv_iconst (v := 1) hx hb dX7_append_35 (by decide) ?_
  refine lv_iadd hx hb dX7_append_36 ?_
  refine hc_is (z := 12) (by decide) ?_
  refine va_put (D := D) (ci := 5) (v := .int 12) (C := RX7) (T := TX7) (N := 8) hx hb hts in7 tyX7 tyX7_ok nmX7 hown hG.1 hP hD hS 0 rfl rfl 1 (by decide) (hts (.fieldLink RX7 15 "ChairCane$Tape" "length" "I") (by decide +kernel)) (fun _ h9 => h9) rfl (tyX7_ok 1 (by decide)) rfl rfl (Nat.le_of_ble_eq_true rfl) dX7_append_37 (fun H locs hP hD hS => ?_)
  have hP : va_P D vwCl ([(h0, .inr (5, [.ref a0, .int 12, .ref a1, .ref a2, .ref a3, .int 0, .int 0, .int 0])), (a0, hcY k 400 f_12)]) H := hP
  have hD : va_D A ([(h0, .inr (5, [.ref a0, .int 12, .ref a1, .ref a2, .ref a3, .int 0, .int 0, .int 0])), (a0, hcY k 400 f_12)]) := hD
  refine lv_iinc (v := (-8)) (lv' := [(2, .int (-8)), (0, .ref h0), (1, .int x1)]) hx hb dX7_append_40 hl (k := 0) rfl (by decide) (by decide) rfl (fun ls hl => ?_)
  refine lv_goto (tgt := 3) hx hb dX7_append_43 (by decide) ?_
  refine lv_iload_n hx hb dX7_append_3 rfl (lv_at hl 0 rfl) ?_
  refine lv_if_lt (tgt := 46) hx hb dX7_append_4 (by decide) (fun _ => ?_) (fun h => absurd (by decide) h)
  exact hc_endV hx hb hr hlocks f_12 trivial hP hD hS dX7_append_46
set_option maxHeartbeats 4000000 in
set_option maxRecDepth 100000 in
theorem c_X7_append_12 (l : Launch) (D : va_G) (k : Nat → ClassId) (sz : Nat) (h0 : Nat) (a0 : Nat) (a1 : Nat) (a2 : Nat) (a3 : Nat) (f0 : Nat → Int32) (x1 : Int32) : CtV l yX7_append wsX7_append (rmK 1 0 0) [.ref h0, .int x1] D k sz ([(h0, .inr (5, [.ref a0, .int 12, .ref a1, .ref a2, .ref a3, .int 0, .int 0, .int 0])), (a0, hcY k 400 f0)]) (fun _ : Nat → Int32 => True) (fun fU : Nat → Int32 => [(h0, .inr (5, [.ref a0, .int 16, .ref a1, .ref a2, .ref a3, .int 0, .int 0, .int 0])), (a0, hcY k 400 fU)]) 0 0 := by
  refine CtV.mk (cc := cX7_append) (maxL := 3) (ret := none) (by decide) rfl (Nat.le_of_ble_eq_true rfl) ?_
  intro p e s m below meth c A ls E hP hD hS hl
  obtain ⟨hx, hb, hr, hml, hown, hts, hlocks, hin, hG, hA⟩ := E
  have hown : s.vm.findClass RX7 = some m.cls := hown
  have in7 : ∀ w ∈ u_ws RX7 TX7 8, w ∈ wsX7_append := fun _ h => List.mem_cons_of_mem _ (List.mem_append_right _ h)
  have hl : lv_has ls 3 [(0, .ref h0), (1, .int x1)] := hl
  refine lv_bipush (v := 24) hx hb dX7_append_0 (by decide) ?_
  refine lv_istore_n (lv' := [(2, .int 24), (0, .ref h0), (1, .int x1)]) hx hb dX7_append_2 rfl hl (by decide) rfl (fun ls hl => ?_)
  refine lv_iload_n hx hb dX7_append_3 rfl (lv_at hl 0 rfl) ?_
  refine lv_if_lt (tgt := 46) hx hb dX7_append_4 (by decide) (fun h => absurd h (by decide)) (fun _ => ?_)
  refine lv_aload_n hx hb dX7_append_7 rfl (lv_at hl 1 rfl) ?_
  refine va_get (D := D) (ci := 5) (v := .int 12) (C := RX7) (T := TX7) (N := 8) hx hb hts in7 hown hG.1 hP 0 rfl rfl 1 (by decide) (hts (.fieldLink RX7 15 "ChairCane$Tape" "length" "I") (by decide +kernel)) (fun _ h9 => h9) rfl dX7_append_8 ?_
  refine lv_sipush (v := 400) hx hb dX7_append_11 (by decide) ?_
  refine lv_icmp_ge (tgt := 40) hx hb dX7_append_14 (by decide) (fun h => absurd h (by decide)) (fun _ => ?_)
  refine lv_aload_n hx hb dX7_append_17 rfl (lv_at hl 1 rfl) ?_
  refine va_get (D := D) (ci := 5) (v := .ref a0) (C := RX7) (T := TX7) (N := 8) hx hb hts in7 hown hG.1 hP 0 rfl rfl 0 (by decide) (hts (.fieldLink RX7 9 "ChairCane$Tape" "bytes" "[B") (by decide +kernel)) (fun _ h9 => h9) rfl dX7_append_18 ?_
  refine lv_aload_n hx hb dX7_append_21 rfl (lv_at hl 1 rfl) ?_
  refine va_get (D := D) (ci := 5) (v := .int 12) (C := RX7) (T := TX7) (N := 8) hx hb hts in7 hown hG.1 hP 0 rfl rfl 1 (by decide) (hts (.fieldLink RX7 15 "ChairCane$Tape" "length" "I") (by decide +kernel)) (fun _ h9 => h9) rfl dX7_append_22 ?_
  refine lv_iload_n hx hb dX7_append_25 rfl (lv_at hl 2 rfl) ?_
  refine lv_iload_n hx hb dX7_append_26 rfl (lv_at hl 0 rfl) ?_
  refine lv_ishr hx hb dX7_append_27 ?_
  refine lv_topi (fun z_1 ez_1 => ?_)
  refine lv_i2b (v := (z_1).toInt8.toInt32) hx hb dX7_append_28 rfl ?_
  refine lv_topi (fun z_2 ez_2 => ?_)
  refine va_bast hx hb hG.1 hP hD hS 1 1 rfl rfl (by unfold vp_in; decide) dX7_append_29 (fun H locs hP hD hS => ?_)
  generalize upd f0 (Int32.toNatClampNeg (12)) (vp_nar .byte (z_2)) = f_3 at hP hD
  have hP : va_P D vwCl ([(h0, .inr (5, [.ref a0, .int 12, .ref a1, .ref a2, .ref a3, .int 0, .int 0, .int 0])), (a0, hcY k 400 f_3)]) H := hP
  have hD : va_D A ([(h0, .inr (5, [.ref a0, .int 12, .ref a1, .ref a2, .ref a3, .int 0, .int 0, .int 0])), (a0, hcY k 400 f_3)]) := hD
  refine lv_aload_n hx hb dX7_append_30 rfl (lv_at hl 1 rfl) ?_
  refine lv_dup hx hb dX7_append_31 rfl ?_
  refine va_get (D := D) (ci := 5) (v := .int 12) (C := RX7) (T := TX7) (N := 8) hx hb hts in7 hown hG.1 hP 0 rfl rfl 1 (by decide) (hts (.fieldLink RX7 15 "ChairCane$Tape" "length" "I") (by decide +kernel)) (fun _ h9 => h9) rfl dX7_append_32 ?_
  refine lv_iconst (v := 1) hx hb dX7_append_35 (by decide) ?_
  refine lv_iadd hx hb dX7_append_36 ?_
  refine hc_is (z := 13) (by decide) ?_
  refine va_put (D := D) (ci := 5) (v := .int 13) (C := RX7) (T := TX7) (N := 8) hx hb hts in7 tyX7 tyX7_ok nmX7 hown hG.1 hP hD hS 0 rfl rfl 1 (by decide) (hts (.fieldLink RX7 15 "ChairCane$Tape" "length" "I") (by decide +kernel)) (fun _ h9 => h9) rfl (tyX7_ok 1 (by decide)) rfl rfl (Nat.le_of_ble_eq_true rfl) dX7_append_37 (fun H locs hP hD hS => ?_)
  have hP : va_P D vwCl ([(h0, .inr (5, [.ref a0, .int 13, .ref a1, .ref a2, .ref a3, .int 0, .int 0, .int 0])), (a0, hcY k 400 f_3)]) H := hP
  have hD : va_D A ([(h0, .inr (5, [.ref a0, .int 13, .ref a1, .ref a2, .ref a3, .int 0, .int 0, .int 0])), (a0, hcY k 400 f_3)]) := hD
  refine lv_iinc (v := 16) (lv' := [(2, .int 16), (0, .ref h0), (1, .int x1)]) hx hb dX7_append_40 hl (k := 0) rfl (by decide) (by decide) rfl (fun ls hl => ?_)
  refine lv_goto (tgt := 3) hx hb dX7_append_43 (by decide) ?_
  refine lv_iload_n hx hb dX7_append_3 rfl (lv_at hl 0 rfl) ?_
  refine lv_if_lt (tgt := 46) hx hb dX7_append_4 (by decide) (fun h => absurd h (by decide)) (fun _ => ?_)
  refine lv_aload_n hx hb dX7_append_7 rfl (lv_at hl 1 rfl) ?_
  refine va_get (D := D) (ci := 5) (v := .int 13) (C := RX7) (T := TX7) (N := 8) hx hb hts in7 hown hG.1 hP 0 rfl rfl 1 (by decide) (hts (.fieldLink RX7 15 "ChairCane$Tape" "length" "I") (by decide +kernel)) (fun _ h9 => h9) rfl dX7_append_8 ?_
  refine lv_sipush (v := 400) hx hb dX7_append_11 (by decide) ?_
  refine lv_icmp_ge (tgt := 40) hx hb dX7_append_14 (by decide) (fun h => absurd h (by decide)) (fun _ => ?_)
  refine lv_aload_n hx hb dX7_append_17 rfl (lv_at hl 1 rfl) ?_
  refine va_get (D := D) (ci := 5) (v := .ref a0) (C := RX7) (T := TX7) (N := 8) hx hb hts in7 hown hG.1 hP 0 rfl rfl 0 (by decide) (hts (.fieldLink RX7 9 "ChairCane$Tape" "bytes" "[B") (by decide +kernel)) (fun _ h9 => h9) rfl dX7_append_18 ?_
  refine lv_aload_n hx hb dX7_append_21 rfl (lv_at hl 1 rfl) ?_
  refine va_get (D := D) (ci := 5) (v := .int 13) (C := RX7) (T := TX7) (N := 8) hx hb hts in7 hown hG.1 hP 0 rfl rfl 1 (by decide) (hts (.fieldLink RX7 15 "ChairCane$Tape" "length" "I") (by decide +kernel)) (fun _ h9 => h9) rfl dX7_append_22 ?_
  refine lv_iload_n hx hb dX7_append_25 rfl (lv_at hl 2 rfl) ?_
  refine lv_iload_n hx hb dX7_append_26 rfl (lv_at hl 0 rfl) ?_
  refine lv_ishr hx hb dX7_append_27 ?_
  refine lv_topi (fun z_4 ez_4 => ?_)
  refine lv_i2b (v := (z_4).toInt8.toInt32) hx hb dX7_append_28 rfl ?_
  refine lv_topi (fun z_5 ez_5 => ?_)
  refine va_bast hx hb hG.1 hP hD hS 1 1 rfl rfl (by unfold vp_in; decide) dX7_append_29 (fun H locs hP hD hS => ?_)
  generalize upd f_3 (Int32.toNatClampNeg (13)) (vp_nar .byte (z_5)) = f_6 at hP hD
  have hP : va_P D vwCl ([(h0, .inr (5, [.ref a0, .int 13, .ref a1, .ref a2, .ref a3, .int 0, .int 0, .int 0])), (a0, hcY k 400 f_6)]) H := hP
  have hD : va_D A ([(h0, .inr (5, [.ref a0, .int 13, .ref a1, .ref a2, .ref a3, .int 0, .int 0, .int 0])), (a0, hcY k 400 f_6)]) := hD
  refine lv_aload_n hx hb dX7_append_30 rfl (lv_at hl 1 rfl) ?_
  refine lv_dup hx hb dX7_append_31 rfl ?_
  refine va_get (D := D) (ci := 5) (v := .int 13) (C := RX7) (T := TX7) (N := 8) hx hb hts in7 hown hG.1 hP 0 rfl rfl 1 (by decide) (hts (.fieldLink RX7 15 "ChairCane$Tape" "length" "I") (by decide +kernel)) (fun _ h9 => h9) rfl dX7_append_32 ?_
  refine lv_iconst (v := 1) hx hb dX7_append_35 (by decide) ?_
  refine lv_iadd hx hb dX7_append_36 ?_
  refine hc_is (z := 14) (by decide) ?_
  refine va_put (D := D) (ci := 5) (v := .int 14) (C := RX7) (T := TX7) (N := 8) hx hb hts in7 tyX7 tyX7_ok nmX7 hown hG.1 hP hD hS 0 rfl rfl 1 (by decide) (hts (.fieldLink RX7 15 "ChairCane$Tape" "length" "I") (by decide +kernel)) (fun _ h9 => h9) rfl (tyX7_ok 1 (by decide)) rfl rfl (Nat.le_of_ble_eq_true rfl) dX7_append_37 (fun H locs hP hD hS => ?_)
  have hP : va_P D vwCl ([(h0, .inr (5, [.ref a0, .int 14, .ref a1, .ref a2, .ref a3, .int 0, .int 0, .int 0])), (a0, hcY k 400 f_6)]) H := hP
  have hD : va_D A ([(h0, .inr (5, [.ref a0, .int 14, .ref a1, .ref a2, .ref a3, .int 0, .int 0, .int 0])), (a0, hcY k 400 f_6)]) := hD
  refine lv_iinc (v := 8) (lv' := [(2, .int 8), (0, .ref h0), (1, .int x1)]) hx hb dX7_append_40 hl (k := 0) rfl (by decide) (by decide) rfl (fun ls hl => ?_)
  refine lv_goto (tgt := 3) hx hb dX7_append_43 (by decide) ?_
  refine lv_iload_n hx hb dX7_append_3 rfl (lv_at hl 0 rfl) ?_
  refine lv_if_lt (tgt := 46) hx hb dX7_append_4 (by decide) (fun h => absurd h (by decide)) (fun _ => ?_)
  refine lv_aload_n hx hb dX7_append_7 rfl (lv_at hl 1 rfl) ?_
  refine va_get (D := D) (ci := 5) (v := .int 14) (C := RX7) (T := TX7) (N := 8) hx hb hts in7 hown hG.1 hP 0 rfl rfl 1 (by decide) (hts (.fieldLink RX7 15 "ChairCane$Tape" "length" "I") (by decide +kernel)) (fun _ h9 => h9) rfl dX7_append_8 ?_
  refine lv_sipush (v := 400) hx hb dX7_append_11 (by decide) ?_
  refine lv_icmp_ge (tgt := 40) hx hb dX7_append_14 (by decide) (fun h => absurd h (by decide)) (fun _ => ?_)
  refine lv_aload_n hx hb dX7_append_17 rfl (lv_at hl 1 rfl) ?_
  refine va_get (D := D) (ci := 5) (v := .ref a0) (C := RX7) (T := TX7) (N := 8) hx hb hts in7 hown hG.1 hP 0 rfl rfl 0 (by decide) (hts (.fieldLink RX7 9 "ChairCane$Tape" "bytes" "[B") (by decide +kernel)) (fun _ h9 => h9) rfl dX7_append_18 ?_
  refine lv_aload_n hx hb dX7_append_21 rfl (lv_at hl 1 rfl) ?_
  refine va_get (D := D) (ci := 5) (v := .int 14) (C := RX7) (T := TX7) (N := 8) hx hb hts in7 hown hG.1 hP 0 rfl rfl 1 (by decide) (hts (.fieldLink RX7 15 "ChairCane$Tape" "length" "I") (by decide +kernel)) (fun _ h9 => h9) rfl dX7_append_22 ?_
  refine lv_iload_n hx hb dX7_append_25 rfl (lv_at hl 2 rfl) ?_
  refine lv_iload_n hx hb dX7_append_26 rfl (lv_at hl 0 rfl) ?_
  refine lv_ishr hx hb dX7_append_27 ?_
  refine lv_topi (fun z_7 ez_7 => ?_)
  refine lv_i2b (v := (z_7).toInt8.toInt32) hx hb dX7_append_28 rfl ?_
  refine lv_topi (fun z_8 ez_8 => ?_)
  refine va_bast hx hb hG.1 hP hD hS 1 1 rfl rfl (by unfold vp_in; decide) dX7_append_29 (fun H locs hP hD hS => ?_)
  generalize upd f_6 (Int32.toNatClampNeg (14)) (vp_nar .byte (z_8)) = f_9 at hP hD
  have hP : va_P D vwCl ([(h0, .inr (5, [.ref a0, .int 14, .ref a1, .ref a2, .ref a3, .int 0, .int 0, .int 0])), (a0, hcY k 400 f_9)]) H := hP
  have hD : va_D A ([(h0, .inr (5, [.ref a0, .int 14, .ref a1, .ref a2, .ref a3, .int 0, .int 0, .int 0])), (a0, hcY k 400 f_9)]) := hD
  refine lv_aload_n hx hb dX7_append_30 rfl (lv_at hl 1 rfl) ?_
  refine lv_dup hx hb dX7_append_31 rfl ?_
  refine va_get (D := D) (ci := 5) (v := .int 14) (C := RX7) (T := TX7) (N := 8) hx hb hts in7 hown hG.1 hP 0 rfl rfl 1 (by decide) (hts (.fieldLink RX7 15 "ChairCane$Tape" "length" "I") (by decide +kernel)) (fun _ h9 => h9) rfl dX7_append_32 ?_
  refine lv_iconst (v := 1) hx hb dX7_append_35 (by decide) ?_
  refine lv_iadd hx hb dX7_append_36 ?_
  refine hc_is (z := 15) (by decide) ?_
  refine va_put (D := D) (ci := 5) (v := .int 15) (C := RX7) (T := TX7) (N := 8) hx hb hts in7 tyX7 tyX7_ok nmX7 hown hG.1 hP hD hS 0 rfl rfl 1 (by decide) (hts (.fieldLink RX7 15 "ChairCane$Tape" "length" "I") (by decide +kernel)) (fun _ h9 => h9) rfl (tyX7_ok 1 (by decide)) rfl rfl (Nat.le_of_ble_eq_true rfl) dX7_append_37 (fun H locs hP hD hS => ?_)
  have hP : va_P D vwCl ([(h0, .inr (5, [.ref a0, .int 15, .ref a1, .ref a2, .ref a3, .int 0, .int 0, .int 0])), (a0, hcY k 400 f_9)]) H := hP
  have hD : va_D A ([(h0, .inr (5, [.ref a0, .int 15, .ref a1, .ref a2, .ref a3, .int 0, .int 0, .int 0])), (a0, hcY k 400 f_9)]) := hD
  refine lv_iinc (v := 0) (lv' := [(2, .int 0), (0, .ref h0), (1, .int x1)]) hx hb dX7_append_40 hl (k := 0) rfl (by decide) (by decide) rfl (fun ls hl => ?_)
  refine lv_goto (tgt := 3) hx hb dX7_append_43 (by decide) ?_
  refine lv_iload_n hx hb dX7_append_3 rfl (lv_at hl 0 rfl) ?_
  refine lv_if_lt (tgt := 46) hx hb dX7_append_4 (by decide) (fun h => absurd h (by decide)) (fun _ => ?_)
  refine lv_aload_n hx hb dX7_append_7 rfl (lv_at hl 1 rfl) ?_
  refine va_get (D := D) (ci := 5) (v := .int 15) (C := RX7) (T := TX7) (N := 8) hx hb hts in7 hown hG.1 hP 0 rfl rfl 1 (by decide) (hts (.fieldLink RX7 15 "ChairCane$Tape" "length" "I") (by decide +kernel)) (fun _ h9 => h9) rfl dX7_append_8 ?_
  refine lv_sipush (v := 400) hx hb dX7_append_11 (by decide) ?_
  refine lv_icmp_ge (tgt := 40) hx hb dX7_append_14 (by decide) (fun h => absurd h (by decide)) (fun _ => ?_)
  refine lv_aload_n hx hb dX7_append_17 rfl (lv_at hl 1 rfl) ?_
  refine va_get (D := D) (ci := 5) (v := .ref a0) (C := RX7) (T := TX7) (N := 8) hx hb hts in7 hown hG.1 hP 0 rfl rfl 0 (by decide) (hts (.fieldLink RX7 9 "ChairCane$Tape" "bytes" "[B") (by decide +kernel)) (fun _ h9 => h9) rfl dX7_append_18 ?_
  refine lv_aload_n hx hb dX7_append_21 rfl (lv_at hl 1 rfl) ?_
  refine va_get (D := D) (ci := 5) (v := .int 15) (C := RX7) (T := TX7) (N := 8) hx hb hts in7 hown hG.1 hP 0 rfl rfl 1 (by decide) (hts (.fieldLink RX7 15 "ChairCane$Tape" "length" "I") (by decide +kernel)) (fun _ h9 => h9) rfl dX7_append_22 ?_
  refine lv_iload_n hx hb dX7_append_25 rfl (lv_at hl 2 rfl) ?_
  refine lv_iload_n hx hb dX7_append_26 rfl (lv_at hl 0 rfl) ?_
  refine lv_ishr hx hb dX7_append_27 ?_
  refine lv_topi (fun z_10 ez_10 => ?_)
  refine lv_i2b (v := (z_10).toInt8.toInt32) hx hb dX7_append_28 rfl ?_
  refine lv_topi (fun z_11 ez_11 => ?_)
  refine va_bast hx hb hG.1 hP hD hS 1 1 rfl rfl (by unfold vp_in; decide) dX7_append_29 (fun H locs hP hD hS => ?_)
  generalize upd f_9 (Int32.toNatClampNeg (15)) (vp_nar .byte (z_11)) = f_12 at hP hD
  have hP : va_P D vwCl ([(h0, .inr (5, [.ref a0, .int 15, .ref a1, .ref a2, .ref a3, .int 0, .int 0, .int 0])), (a0, hcY k 400 f_12)]) H := hP
  have hD : va_D A ([(h0, .inr (5, [.ref a0, .int 15, .ref a1, .ref a2, .ref a3, .int 0, .int 0, .int 0])), (a0, hcY k 400 f_12)]) := hD
  refine lv_aload_n hx hb dX7_append_30 rfl (lv_at hl 1 rfl) ?_
  refine lv_dup hx hb dX7_append_31 rfl ?_
  refine va_get (D := D) (ci := 5) (v := .int 15) (C := RX7) (T := TX7) (N := 8) hx hb hts in7 hown hG.1 hP 0 rfl rfl 1 (by decide) (hts (.fieldLink RX7 15 "ChairCane$Tape" "length" "I") (by decide +kernel)) (fun _ h9 => h9) rfl dX7_append_32 ?_
  refine lv_iconst (v := 1) hx hb dX7_append_35 (by decide) ?_
  refine lv_iadd hx hb dX7_append_36 ?_
  refine hc_is (z := 16) (by decide) ?_
  refine va_put (D := D) (ci := 5) (v := .int 16) (C := RX7) (T := TX7) (N := 8) hx hb hts in7 tyX7 tyX7_ok nmX7 hown hG.1 hP hD hS 0 rfl rfl 1 (by decide) (hts (.fieldLink RX7 15 "ChairCane$Tape" "length" "I") (by decide +kernel)) (fun _ h9 => h9) rfl (tyX7_ok 1 (by decide)) rfl rfl (Nat.le_of_ble_eq_true rfl) dX7_append_37 (fun H locs hP hD hS => ?_)
  have hP : va_P D vwCl ([(h0, .inr (5, [.ref a0, .int 16, .ref a1, .ref a2, .ref a3, .int 0, .int 0, .int 0])), (a0, hcY k 400 f_12)]) H := hP
  have hD : va_D A ([(h0, .inr (5, [.ref a0, .int 16, .ref a1, .ref a2, .ref a3, .int 0, .int 0, .int 0])), (a0, hcY k 400 f_12)]) := hD
  refine lv_iinc (v := (-8)) (lv' := [(2, .int (-8)), (0, .ref h0), (1, .int x1)]) hx hb dX7_append_40 hl (k := 0) rfl (by decide) (by decide) rfl (fun ls hl => ?_)
  refine lv_goto (tgt := 3) hx hb dX7_append_43 (by decide) ?_
  refine lv_iload_n hx hb dX7_append_3 rfl (lv_at hl 0 rfl) ?_
  refine lv_if_lt (tgt := 46) hx hb dX7_append_4 (by decide) (fun _ => ?_) (fun h => absurd (by decide) h)
  exact hc_endV hx hb hr hlocks f_12 trivial hP hD hS dX7_append_46
set_option maxHeartbeats 4000000 in
set_option maxRecDepth 100000 in
theorem c_X7_append_16 (l : Launch) (D : va_G) (k : Nat → ClassId) (sz : Nat) (h0 : Nat) (a0 : Nat) (a1 : Nat) (a2 : Nat) (a3 : Nat) (f0 : Nat → Int32) (x1 : Int32) : CtV l yX7_append wsX7_append (rmK 1 0 0) [.ref h0, .int x1] D k sz ([(h0, .inr (5, [.ref a0, .int 16, .ref a1, .ref a2, .ref a3, .int 0, .int 0, .int 0])), (a0, hcY k 400 f0)]) (fun _ : Nat → Int32 => True) (fun fU : Nat → Int32 => [(h0, .inr (5, [.ref a0, .int 20, .ref a1, .ref a2, .ref a3, .int 0, .int 0, .int 0])), (a0, hcY k 400 fU)]) 0 0 := by
  refine CtV.mk (cc := cX7_append) (maxL := 3) (ret := none) (by decide) rfl (Nat.le_of_ble_eq_true rfl) ?_
  intro p e s m below meth c A ls E hP hD hS hl
  obtain ⟨hx, hb, hr, hml, hown, hts, hlocks, hin, hG, hA⟩ := E
  have hown : s.vm.findClass RX7 = some m.cls := hown
  have in7 : ∀ w ∈ u_ws RX7 TX7 8, w ∈ wsX7_append := fun _ h => List.mem_cons_of_mem _ (List.mem_append_right _ h)
  have hl : lv_has ls 3 [(0, .ref h0), (1, .int x1)] := hl
  refine lv_bipush (v := 24) hx hb dX7_append_0 (by decide) ?_
  refine lv_istore_n (lv' := [(2, .int 24), (0, .ref h0), (1, .int x1)]) hx hb dX7_append_2 rfl hl (by decide) rfl (fun ls hl => ?_)
  refine lv_iload_n hx hb dX7_append_3 rfl (lv_at hl 0 rfl) ?_
  refine lv_if_lt (tgt := 46) hx hb dX7_append_4 (by decide) (fun h => absurd h (by decide)) (fun _ => ?_)
  refine lv_aload_n hx hb dX7_append_7 rfl (lv_at hl 1 rfl) ?_
  refine va_get (D := D) (ci := 5) (v := .int 16) (C := RX7) (T := TX7) (N := 8) hx hb hts in7 hown hG.1 hP 0 rfl rfl 1 (by decide) (hts (.fieldLink RX7 15 "ChairCane$Tape" "length" "I") (by decide +kernel)) (fun _ h9 => h9) rfl dX7_append_8 ?_
  refine lv_sipush (v := 400) hx hb dX7_append_11 (by decide) ?_
  refine lv_icmp_ge (tgt := 40) hx hb dX7_append_14 (by decide) (fun h => absurd h (by decide)) (fun _ => ?_)
  refine lv_aload_n hx hb dX7_append_17 rfl (lv_at hl 1 rfl) ?_
  refine va_get (D := D) (ci := 5) (v := .ref a0) (C := RX7) (T := TX7) (N := 8) hx hb hts in7 hown hG.1 hP 0 rfl rfl 0 (by decide) (hts (.fieldLink RX7 9 "ChairCane$Tape" "bytes" "[B") (by decide +kernel)) (fun _ h9 => h9) rfl dX7_append_18 ?_
  refine lv_aload_n hx hb dX7_append_21 rfl (lv_at hl 1 rfl) ?_
  refine va_get (D := D) (ci := 5) (v := .int 16) (C := RX7) (T := TX7) (N := 8) hx hb hts in7 hown hG.1 hP 0 rfl rfl 1 (by decide) (hts (.fieldLink RX7 15 "ChairCane$Tape" "length" "I") (by decide +kernel)) (fun _ h9 => h9) rfl dX7_append_22 ?_
  refine lv_iload_n hx hb dX7_append_25 rfl (lv_at hl 2 rfl) ?_
  refine lv_iload_n hx hb dX7_append_26 rfl (lv_at hl 0 rfl) ?_
  refine lv_ishr hx hb dX7_append_27 ?_
  refine lv_topi (fun z_1 ez_1 => ?_)
  refine lv_i2b (v := (z_1).toInt8.toInt32) hx hb dX7_append_28 rfl ?_
  refine lv_topi (fun z_2 ez_2 => ?_)
  refine va_bast hx hb hG.1 hP hD hS 1 1 rfl rfl (by unfold vp_in; decide) dX7_append_29 (fun H locs hP hD hS => ?_)
  generalize upd f0 (Int32.toNatClampNeg (16)) (vp_nar .byte (z_2)) = f_3 at hP hD
  have hP : va_P D vwCl ([(h0, .inr (5, [.ref a0, .int 16, .ref a1, .ref a2, .ref a3, .int 0, .int 0, .int 0])), (a0, hcY k 400 f_3)]) H := hP
  have hD : va_D A ([(h0, .inr (5, [.ref a0, .int 16, .ref a1, .ref a2, .ref a3, .int 0, .int 0, .int 0])), (a0, hcY k 400 f_3)]) := hD
  refine lv_aload_n hx hb dX7_append_30 rfl (lv_at hl 1 rfl) ?_
  refine lv_dup hx hb dX7_append_31 rfl ?_
  refine va_get (D := D) (ci := 5) (v := .int 16) (C := RX7) (T := TX7) (N := 8) hx hb hts in7 hown hG.1 hP 0 rfl rfl 1 (by decide) (hts (.fieldLink RX7 15 "ChairCane$Tape" "length" "I") (by decide +kernel)) (fun _ h9 => h9) rfl dX7_append_32 ?_
  refine lv_iconst (v := 1) hx hb dX7_append_35 (by decide) ?_
  refine lv_iadd hx hb dX7_append_36 ?_
  refine hc_is (z := 17) (by decide) ?_
  refine va_put (D := D) (ci := 5) (v := .int 17) (C := RX7) (T := TX7) (N := 8) hx hb hts in7 tyX7 tyX7_ok nmX7 hown hG.1 hP hD hS 0 rfl rfl 1 (by decide) (hts (.fieldLink RX7 15 "ChairCane$Tape" "length" "I") (by decide +kernel)) (fun _ h9 => h9) rfl (tyX7_ok 1 (by decide)) rfl rfl (Nat.le_of_ble_eq_true rfl) dX7_append_37 (fun H locs hP hD hS => ?_)
  have hP : va_P D vwCl ([(h0, .inr (5, [.ref a0, .int 17, .ref a1, .ref a2, .ref a3, .int 0, .int 0, .int 0])), (a0, hcY k 400 f_3)]) H := hP
  have hD : va_D A ([(h0, .inr (5, [.ref a0, .int 17, .ref a1, .ref a2, .ref a3, .int 0, .int 0, .int 0])), (a0, hcY k 400 f_3)]) := hD
  refine lv_iinc (v := 16) (lv' := [(2, .int 16), (0, .ref h0), (1, .int x1)]) hx hb dX7_append_40 hl (k := 0) rfl (by decide) (by decide) rfl (fun ls hl => ?_)
  refine lv_goto (tgt := 3) hx hb dX7_append_43 (by decide) ?_
  refine lv_iload_n hx hb dX7_append_3 rfl (lv_at hl 0 rfl) ?_
  refine lv_if_lt (tgt := 46) hx hb dX7_append_4 (by decide) (fun h => absurd h (by decide)) (fun _ => ?_)
  refine lv_aload_n hx hb dX7_append_7 rfl (lv_at hl 1 rfl) ?_
  refine va_get (D := D) (ci := 5) (v := .int 17) (C := RX7) (T := TX7) (N := 8) hx hb hts in7 hown hG.1 hP 0 rfl rfl 1 (by decide) (hts (.fieldLink RX7 15 "ChairCane$Tape" "length" "I") (by decide +kernel)) (fun _ h9 => h9) rfl dX7_append_8 ?_
  refine lv_sipush (v := 400) hx hb dX7_append_11 (by decide) ?_
  refine lv_icmp_ge (tgt := 40) hx hb dX7_append_14 (by decide) (fun h => absurd h (by decide)) (fun _ => ?_)
  refine lv_aload_n hx hb dX7_append_17 rfl (lv_at hl 1 rfl) ?_
  refine va_get (D := D) (ci := 5) (v := .ref a0) (C := RX7) (T := TX7) (N := 8) hx hb hts in7 hown hG.1 hP 0 rfl rfl 0 (by decide) (hts (.fieldLink RX7 9 "ChairCane$Tape" "bytes" "[B") (by decide +kernel)) (fun _ h9 => h9) rfl dX7_append_18 ?_
  refine lv_aload_n hx hb dX7_append_21 rfl (lv_at hl 1 rfl) ?_
  refine va_get (D := D) (ci := 5) (v := .int 17) (C := RX7) (T := TX7) (N := 8) hx hb hts in7 hown hG.1 hP 0 rfl rfl 1 (by decide) (hts (.fieldLink RX7 15 "ChairCane$Tape" "length" "I") (by decide +kernel)) (fun _ h9 => h9) rfl dX7_append_22 ?_
  refine lv_iload_n hx hb dX7_append_25 rfl (lv_at hl 2 rfl) ?_
  refine lv_iload_n hx hb dX7_append_26 rfl (lv_at hl 0 rfl) ?_
  refine lv_ishr hx hb dX7_append_27 ?_
  refine lv_topi (fun z_4 ez_4 => ?_)
  refine lv_i2b (v := (z_4).toInt8.toInt32) hx hb dX7_append_28 rfl ?_
  refine lv_topi (fun z_5 ez_5 => ?_)
  refine va_bast hx hb hG.1 hP hD hS 1 1 rfl rfl (by unfold vp_in; decide) dX7_append_29 (fun H locs hP hD hS => ?_)
  generalize upd f_3 (Int32.toNatClampNeg (17)) (vp_nar .byte (z_5)) = f_6 at hP hD
  have hP : va_P D vwCl ([(h0, .inr (5, [.ref a0, .int 17, .ref a1, .ref a2, .ref a3, .int 0, .int 0, .int 0])), (a0, hcY k 400 f_6)]) H := hP
  have hD : va_D A ([(h0, .inr (5, [.ref a0, .int 17, .ref a1, .ref a2, .ref a3, .int 0, .int 0, .int 0])), (a0, hcY k 400 f_6)]) := hD
  refine lv_aload_n hx hb dX7_append_30 rfl (lv_at hl 1 rfl) ?_
  refine lv_dup hx hb dX7_append_31 rfl ?_
  refine va_get (D := D) (ci := 5) (v := .int 17) (C := RX7) (T := TX7) (N := 8) hx hb hts in7 hown hG.1 hP 0 rfl rfl 1 (by decide) (hts (.fieldLink RX7 15 "ChairCane$Tape" "length" "I") (by decide +kernel)) (fun _ h9 => h9) rfl dX7_append_32 ?_
  refine lv_iconst (v := 1) hx hb dX7_append_35 (by decide) ?_
  refine lv_iadd hx hb dX7_append_36 ?_
  refine hc_is (z := 18) (by decide) ?_
  refine va_put (D := D) (ci := 5) (v := .int 18) (C := RX7) (T := TX7) (N := 8) hx hb hts in7 tyX7 tyX7_ok nmX7 hown hG.1 hP hD hS 0 rfl rfl 1 (by decide) (hts (.fieldLink RX7 15 "ChairCane$Tape" "length" "I") (by decide +kernel)) (fun _ h9 => h9) rfl (tyX7_ok 1 (by decide)) rfl rfl (Nat.le_of_ble_eq_true rfl) dX7_append_37 (fun H locs hP hD hS => ?_)
  have hP : va_P D vwCl ([(h0, .inr (5, [.ref a0, .int 18, .ref a1, .ref a2, .ref a3, .int 0, .int 0, .int 0])), (a0, hcY k 400 f_6)]) H := hP
  have hD : va_D A ([(h0, .inr (5, [.ref a0, .int 18, .ref a1, .ref a2, .ref a3, .int 0, .int 0, .int 0])), (a0, hcY k 400 f_6)]) := hD
  refine lv_iinc (v := 8) (lv' := [(2, .int 8), (0, .ref h0), (1, .int x1)]) hx hb dX7_append_40 hl (k := 0) rfl (by decide) (by decide) rfl (fun ls hl => ?_)
  refine lv_goto (tgt := 3) hx hb dX7_append_43 (by decide) ?_
  refine lv_iload_n hx hb dX7_append_3 rfl (lv_at hl 0 rfl) ?_
  refine lv_if_lt (tgt := 46) hx hb dX7_append_4 (by decide) (fun h => absurd h (by decide)) (fun _ => ?_)
  refine lv_aload_n hx hb dX7_append_7 rfl (lv_at hl 1 rfl) ?_
  refine va_get (D := D) (ci := 5) (v := .int 18) (C := RX7) (T := TX7) (N := 8) hx hb hts in7 hown hG.1 hP 0 rfl rfl 1 (by decide) (hts (.fieldLink RX7 15 "ChairCane$Tape" "length" "I") (by decide +kernel)) (fun _ h9 => h9) rfl dX7_append_8 ?_
  refine lv_sipush (v := 400) hx hb dX7_append_11 (by decide) ?_
  refine lv_icmp_ge (tgt := 40) hx hb dX7_append_14 (by decide) (fun h => absurd h (by decide)) (fun _ => ?_)
  refine lv_aload_n hx hb dX7_append_17 rfl (lv_at hl 1 rfl) ?_
  refine va_get (D := D) (ci := 5) (v := .ref a0) (C := RX7) (T := TX7) (N := 8) hx hb hts in7 hown hG.1 hP 0 rfl rfl 0 (by decide) (hts (.fieldLink RX7 9 "ChairCane$Tape" "bytes" "[B") (by decide +kernel)) (fun _ h9 => h9) rfl dX7_append_18 ?_
  refine lv_aload_n hx hb dX7_append_21 rfl (lv_at hl 1 rfl) ?_
  refine va_get (D := D) (ci := 5) (v := .int 18) (C := RX7) (T := TX7) (N := 8) hx hb hts in7 hown hG.1 hP 0 rfl rfl 1 (by decide) (hts (.fieldLink RX7 15 "ChairCane$Tape" "length" "I") (by decide +kernel)) (fun _ h9 => h9) rfl dX7_append_22 ?_
  refine lv_iload_n hx hb dX7_append_25 rfl (lv_at hl 2 rfl) ?_
  refine lv_iload_n hx hb dX7_append_26 rfl (lv_at hl 0 rfl) ?_
  refine lv_ishr hx hb dX7_append_27 ?_
  refine lv_topi (fun z_7 ez_7 => ?_)
  refine lv_i2b (v := (z_7).toInt8.toInt32) hx hb dX7_append_28 rfl ?_
  refine lv_topi (fun z_8 ez_8 => ?_)
  refine va_bast hx hb hG.1 hP hD hS 1 1 rfl rfl (by unfold vp_in; decide) dX7_append_29 (fun H locs hP hD hS => ?_)
  generalize upd f_6 (Int32.toNatClampNeg (18)) (vp_nar .byte (z_8)) = f_9 at hP hD
  have hP : va_P D vwCl ([(h0, .inr (5, [.ref a0, .int 18, .ref a1, .ref a2, .ref a3, .int 0, .int 0, .int 0])), (a0, hcY k 400 f_9)]) H := hP
  have hD : va_D A ([(h0, .inr (5, [.ref a0, .int 18, .ref a1, .ref a2, .ref a3, .int 0, .int 0, .int 0])), (a0, hcY k 400 f_9)]) := hD
  refine lv_aload_n hx hb dX7_append_30 rfl (lv_at hl 1 rfl) ?_
  refine lv_dup hx hb dX7_append_31 rfl ?_
  refine va_get (D := D) (ci := 5) (v := .int 18) (C := RX7) (T := TX7) (N := 8) hx hb hts in7 hown hG.1 hP 0 rfl rfl 1 (by decide) (hts (.fieldLink RX7 15 "ChairCane$Tape" "length" "I") (by decide +kernel)) (fun _ h9 => h9) rfl dX7_append_32 ?_
  refine lv_iconst (v := 1) hx hb dX7_append_35 (by decide) ?_
  refine lv_iadd hx hb dX7_append_36 ?_
  refine hc_is (z := 19) (by decide) ?_
  refine va_put (D := D) (ci := 5) (v := .int 19) (C := RX7) (T := TX7) (N := 8) hx hb hts in7 tyX7 tyX7_ok nmX7 hown hG.1 hP hD hS 0 rfl rfl 1 (by decide) (hts (.fieldLink RX7 15 "ChairCane$Tape" "length" "I") (by decide +kernel)) (fun _ h9 => h9) rfl (tyX7_ok 1 (by decide)) rfl rfl (Nat.le_of_ble_eq_true rfl) dX7_append_37 (fun H locs hP hD hS => ?_)
  have hP : va_P D vwCl ([(h0, .inr (5, [.ref a0, .int 19, .ref a1, .ref a2, .ref a3, .int 0, .int 0, .int 0])), (a0, hcY k 400 f_9)]) H := hP
  have hD : va_D A ([(h0, .inr (5, [.ref a0, .int 19, .ref a1, .ref a2, .ref a3, .int 0, .int 0, .int 0])), (a0, hcY k 400 f_9)]) := hD
  refine lv_iinc (v := 0) (lv' := [(2, .int 0), (0, .ref h0), (1, .int x1)]) hx hb dX7_append_40 hl (k := 0) rfl (by decide) (by decide) rfl (fun ls hl => ?_)
  refine lv_goto (tgt := 3) hx hb dX7_append_43 (by decide) ?_
  refine lv_iload_n hx hb dX7_append_3 rfl (lv_at hl 0 rfl) ?_
  refine lv_if_lt (tgt := 46) hx hb dX7_append_4 (by decide) (fun h => absurd h (by decide)) (fun _ => ?_)
  refine lv_aload_n hx hb dX7_append_7 rfl (lv_at hl 1 rfl) ?_
  refine va_get (D := D) (ci := 5) (v := .int 19) (C := RX7) (T := TX7) (N := 8) hx hb hts in7 hown hG.1 hP 0 rfl rfl 1 (by decide) (hts (.fieldLink RX7 15 "ChairCane$Tape" "length" "I") (by decide +kernel)) (fun _ h9 => h9) rfl dX7_append_8 ?_
  refine lv_sipush (v := 400) hx hb dX7_append_11 (by decide) ?_
  refine lv_icmp_ge (tgt := 40) hx hb dX7_append_14 (by decide) (fun h => absurd h (by decide)) (fun _ => ?_)
  refine lv_aload_n hx hb dX7_append_17 rfl (lv_at hl 1 rfl) ?_
  refine va_get (D := D) (ci := 5) (v := .ref a0) (C := RX7) (T := TX7) (N := 8) hx hb hts in7 hown hG.1 hP 0 rfl rfl 0 (by decide) (hts (.fieldLink RX7 9 "ChairCane$Tape" "bytes" "[B") (by decide +kernel)) (fun _ h9 => h9) rfl dX7_append_18 ?_
  refine lv_aload_n hx hb dX7_append_21 rfl (lv_at hl 1 rfl) ?_
  refine va_get (D := D) (ci := 5) (v := .int 19) (C := RX7) (T := TX7) (N := 8) hx hb hts in7 hown hG.1 hP 0 rfl rfl 1 (by decide) (hts (.fieldLink RX7 15 "ChairCane$Tape" "length" "I") (by decide +kernel)) (fun _ h9 => h9) rfl dX7_append_22 ?_
  refine lv_iload_n hx hb dX7_append_25 rfl (lv_at hl 2 rfl) ?_
  refine lv_iload_n hx hb dX7_append_26 rfl (lv_at hl 0 rfl) ?_
  refine lv_ishr hx hb dX7_append_27 ?_
  refine lv_topi (fun z_10 ez_10 => ?_)
  refine lv_i2b (v := (z_10).toInt8.toInt32) hx hb dX7_append_28 rfl ?_
  refine lv_topi (fun z_11 ez_11 => ?_)
  refine va_bast hx hb hG.1 hP hD hS 1 1 rfl rfl (by unfold vp_in; decide) dX7_append_29 (fun H locs hP hD hS => ?_)
  generalize upd f_9 (Int32.toNatClampNeg (19)) (vp_nar .byte (z_11)) = f_12 at hP hD
  have hP : va_P D vwCl ([(h0, .inr (5, [.ref a0, .int 19, .ref a1, .ref a2, .ref a3, .int 0, .int 0, .int 0])), (a0, hcY k 400 f_12)]) H := hP
  have hD : va_D A ([(h0, .inr (5, [.ref a0, .int 19, .ref a1, .ref a2, .ref a3, .int 0, .int 0, .int 0])), (a0, hcY k 400 f_12)]) := hD
  refine lv_aload_n hx hb dX7_append_30 rfl (lv_at hl 1 rfl) ?_
  refine lv_dup hx hb dX7_append_31 rfl ?_
  refine va_get (D := D) (ci := 5) (v := .int 19) (C := RX7) (T := TX7) (N := 8) hx hb hts in7 hown hG.1 hP 0 rfl rfl 1 (by decide) (hts (.fieldLink RX7 15 "ChairCane$Tape" "length" "I") (by decide +kernel)) (fun _ h9 => h9) rfl dX7_append_32 ?_
  refine lv_iconst (v := 1) hx hb dX7_append_35 (by decide) ?_
  refine lv_iadd hx hb dX7_append_36 ?_
  refine hc_is (z := 20) (by decide) ?_
  refine va_put (D := D) (ci := 5) (v := .int 20) (C := RX7) (T := TX7) (N := 8) hx hb hts in7 tyX7 tyX7_ok nmX7 hown hG.1 hP hD hS 0 rfl rfl 1 (by decide) (hts (.fieldLink RX7 15 "ChairCane$Tape" "length" "I") (by decide +kernel)) (fun _ h9 => h9) rfl (tyX7_ok 1 (by decide)) rfl rfl (Nat.le_of_ble_eq_true rfl) dX7_append_37 (fun H locs hP hD hS => ?_)
  have hP : va_P D vwCl ([(h0, .inr (5, [.ref a0, .int 20, .ref a1, .ref a2, .ref a3, .int 0, .int 0, .int 0])), (a0, hcY k 400 f_12)]) H := hP
  have hD : va_D A ([(h0, .inr (5, [.ref a0, .int 20, .ref a1, .ref a2, .ref a3, .int 0, .int 0, .int 0])), (a0, hcY k 400 f_12)]) := hD
  refine lv_iinc (v := (-8)) (lv' := [(2, .int (-8)), (0, .ref h0), (1, .int x1)]) hx hb dX7_append_40 hl (k := 0) rfl (by decide) (by decide) rfl (fun ls hl => ?_)
  refine lv_goto (tgt := 3) hx hb dX7_append_43 (by decide) ?_
  refine lv_iload_n hx hb dX7_append_3 rfl (lv_at hl 0 rfl) ?_
  refine lv_if_lt (tgt := 46) hx hb dX7_append_4 (by decide) (fun _ => ?_) (fun h => absurd (by decide) h)
  exact hc_endV hx hb hr hlocks f_12 trivial hP hD hS dX7_append_46
set_option maxHeartbeats 4000000 in
set_option maxRecDepth 100000 in
theorem c_X7_put (l : Launch) (D : va_G) (k : Nat → ClassId) (sz : Nat) (h0 : Nat) (a0 : Nat) (a1 : Nat) (a2 : Nat) (a3 : Nat) : CtV l yX7_put wsX7_put (rmK 1 0 0) [.ref h0, .int (-1), .int 0, .int 0] D k sz ([(h0, .inr (5, [.ref a0, .int 0, .ref a1, .ref a2, .ref a3, .int 0, .int 0, .int 0])), (a1, hcI k 401 (fun _ => 0)), (a2, hcI k 401 (fun _ => 0)), (a3, hcI k 401 (fun _ => 0))]) (fun _ : Unit => True) (fun _ : Unit => [(h0, .inr (5, [.ref a0, .int 0, .ref a1, .ref a2, .ref a3, .int 1, .int 0, .int 0])), (a1, hcI k 401 (upd (fun _ => 0) 0 (-1))), (a2, hcI k 401 (upd (fun _ => 0) 0 0)), (a3, hcI k 401 (upd (fun _ => 0) 0 0))]) 0 0 := by
  refine CtV.mk (cc := cX7_put) (maxL := 4) (ret := none) (by decide) rfl (Nat.le_of_ble_eq_true rfl) ?_
  intro p e s m below meth c A ls E hP hD hS hl
  obtain ⟨hx, hb, hr, hml, hown, hts, hlocks, hin, hG, hA⟩ := E
  have hown : s.vm.findClass RX7 = some m.cls := hown
  have in7 : ∀ w ∈ u_ws RX7 TX7 8, w ∈ wsX7_put := fun _ h => List.mem_cons_of_mem _ (List.mem_append_right _ h)
  have hl : lv_has ls 4 [(0, .ref h0), (1, .int (-1)), (2, .int 0), (3, .int 0)] := hl
  refine lv_aload_n hx hb dX7_put_0 rfl (lv_at hl 0 rfl) ?_
  refine va_get (D := D) (ci := 5) (v := .int 0) (C := RX7) (T := TX7) (N := 8) hx hb hts in7 hown hG.1 hP 0 rfl rfl 5 (by decide) (hts (.fieldLink RX7 29 "ChairCane$Tape" "pieces" "I") (by decide +kernel)) (fun _ h9 => h9) rfl dX7_put_1 ?_
  refine lv_sipush (v := 400) hx hb dX7_put_4 (by decide) ?_
  refine lv_icmp_gt (tgt := 50) hx hb dX7_put_7 (by decide) (fun h => absurd h (by decide)) (fun _ => ?_)
  refine lv_aload_n hx hb dX7_put_10 rfl (lv_at hl 0 rfl) ?_
  refine va_get (D := D) (ci := 5) (v := .ref a1) (C := RX7) (T := TX7) (N := 8) hx hb hts in7 hown hG.1 hP 0 rfl rfl 2 (by decide) (hts (.fieldLink RX7 19 "ChairCane$Tape" "kinds" "[I") (by decide +kernel)) (fun _ h9 => h9) rfl dX7_put_11 ?_
  refine lv_aload_n hx hb dX7_put_14 rfl (lv_at hl 0 rfl) ?_
  refine va_get (D := D) (ci := 5) (v := .int 0) (C := RX7) (T := TX7) (N := 8) hx hb hts in7 hown hG.1 hP 0 rfl rfl 5 (by decide) (hts (.fieldLink RX7 29 "ChairCane$Tape" "pieces" "I") (by decide +kernel)) (fun _ h9 => h9) rfl dX7_put_15 ?_
  refine lv_iload_n hx hb dX7_put_18 rfl (lv_at hl 1 rfl) ?_
  refine va_iast hx hb hG.1 hP hD hS 1 0 rfl rfl (by unfold vp_in; decide) dX7_put_19 (fun H locs hP hD hS => ?_)
  have hP : va_P D vwCl ([(h0, .inr (5, [.ref a0, .int 0, .ref a1, .ref a2, .ref a3, .int 0, .int 0, .int 0])), (a1, hcI k 401 (upd (fun _ => 0) 0 (-1))), (a2, hcI k 401 (fun _ => 0)), (a3, hcI k 401 (fun _ => 0))]) H := hP
  have hD : va_D A ([(h0, .inr (5, [.ref a0, .int 0, .ref a1, .ref a2, .ref a3, .int 0, .int 0, .int 0])), (a1, hcI k 401 (upd (fun _ => 0) 0 (-1))), (a2, hcI k 401 (fun _ => 0)), (a3, hcI k 401 (fun _ => 0))]) := hD
  refine lv_aload_n hx hb dX7_put_20 rfl (lv_at hl 0 rfl) ?_
  refine va_get (D := D) (ci := 5) (v := .ref a2) (C := RX7) (T := TX7) (N := 8) hx hb hts in7 hown hG.1 hP 0 rfl rfl 3 (by decide) (hts (.fieldLink RX7 23 "ChairCane$Tape" "places" "[I") (by decide +kernel)) (fun _ h9 => h9) rfl dX7_put_21 ?_
  refine lv_aload_n hx hb dX7_put_24 rfl (lv_at hl 0 rfl) ?_
  refine va_get (D := D) (ci := 5) (v := .int 0) (C := RX7) (T := TX7) (N := 8) hx hb hts in7 hown hG.1 hP 0 rfl rfl 5 (by decide) (hts (.fieldLink RX7 29 "ChairCane$Tape" "pieces" "I") (by decide +kernel)) (fun _ h9 => h9) rfl dX7_put_25 ?_
  refine lv_iload_n hx hb dX7_put_28 rfl (lv_at hl 2 rfl) ?_
  refine va_iast hx hb hG.1 hP hD hS 2 0 rfl rfl (by unfold vp_in; decide) dX7_put_29 (fun H locs hP hD hS => ?_)
  have hP : va_P D vwCl ([(h0, .inr (5, [.ref a0, .int 0, .ref a1, .ref a2, .ref a3, .int 0, .int 0, .int 0])), (a1, hcI k 401 (upd (fun _ => 0) 0 (-1))), (a2, hcI k 401 (upd (fun _ => 0) 0 0)), (a3, hcI k 401 (fun _ => 0))]) H := hP
  have hD : va_D A ([(h0, .inr (5, [.ref a0, .int 0, .ref a1, .ref a2, .ref a3, .int 0, .int 0, .int 0])), (a1, hcI k 401 (upd (fun _ => 0) 0 (-1))), (a2, hcI k 401 (upd (fun _ => 0) 0 0)), (a3, hcI k 401 (fun _ => 0))]) := hD
  refine lv_aload_n hx hb dX7_put_30 rfl (lv_at hl 0 rfl) ?_
  refine va_get (D := D) (ci := 5) (v := .ref a3) (C := RX7) (T := TX7) (N := 8) hx hb hts in7 hown hG.1 hP 0 rfl rfl 4 (by decide) (hts (.fieldLink RX7 26 "ChairCane$Tape" "values" "[I") (by decide +kernel)) (fun _ h9 => h9) rfl dX7_put_31 ?_
  refine lv_aload_n hx hb dX7_put_34 rfl (lv_at hl 0 rfl) ?_
  refine va_get (D := D) (ci := 5) (v := .int 0) (C := RX7) (T := TX7) (N := 8) hx hb hts in7 hown hG.1 hP 0 rfl rfl 5 (by decide) (hts (.fieldLink RX7 29 "ChairCane$Tape" "pieces" "I") (by decide +kernel)) (fun _ h9 => h9) rfl dX7_put_35 ?_
  refine lv_iload_n hx hb dX7_put_38 rfl (lv_at hl 3 rfl) ?_
  refine va_iast hx hb hG.1 hP hD hS 3 0 rfl rfl (by unfold vp_in; decide) dX7_put_39 (fun H locs hP hD hS => ?_)
  have hP : va_P D vwCl ([(h0, .inr (5, [.ref a0, .int 0, .ref a1, .ref a2, .ref a3, .int 0, .int 0, .int 0])), (a1, hcI k 401 (upd (fun _ => 0) 0 (-1))), (a2, hcI k 401 (upd (fun _ => 0) 0 0)), (a3, hcI k 401 (upd (fun _ => 0) 0 0))]) H := hP
  have hD : va_D A ([(h0, .inr (5, [.ref a0, .int 0, .ref a1, .ref a2, .ref a3, .int 0, .int 0, .int 0])), (a1, hcI k 401 (upd (fun _ => 0) 0 (-1))), (a2, hcI k 401 (upd (fun _ => 0) 0 0)), (a3, hcI k 401 (upd (fun _ => 0) 0 0))]) := hD
  refine lv_aload_n hx hb dX7_put_40 rfl (lv_at hl 0 rfl) ?_
  refine lv_dup hx hb dX7_put_41 rfl ?_
  refine va_get (D := D) (ci := 5) (v := .int 0) (C := RX7) (T := TX7) (N := 8) hx hb hts in7 hown hG.1 hP 0 rfl rfl 5 (by decide) (hts (.fieldLink RX7 29 "ChairCane$Tape" "pieces" "I") (by decide +kernel)) (fun _ h9 => h9) rfl dX7_put_42 ?_
  refine lv_iconst (v := 1) hx hb dX7_put_45 (by decide) ?_
  refine lv_iadd hx hb dX7_put_46 ?_
  refine hc_is (z := 1) (by decide) ?_
  refine va_put (D := D) (ci := 5) (v := .int 1) (C := RX7) (T := TX7) (N := 8) hx hb hts in7 tyX7 tyX7_ok nmX7 hown hG.1 hP hD hS 0 rfl rfl 5 (by decide) (hts (.fieldLink RX7 29 "ChairCane$Tape" "pieces" "I") (by decide +kernel)) (fun _ h9 => h9) rfl (tyX7_ok 5 (by decide)) rfl rfl (Nat.le_of_ble_eq_true rfl) dX7_put_47 (fun H locs hP hD hS => ?_)
  have hP : va_P D vwCl ([(h0, .inr (5, [.ref a0, .int 0, .ref a1, .ref a2, .ref a3, .int 1, .int 0, .int 0])), (a1, hcI k 401 (upd (fun _ => 0) 0 (-1))), (a2, hcI k 401 (upd (fun _ => 0) 0 0)), (a3, hcI k 401 (upd (fun _ => 0) 0 0))]) H := hP
  have hD : va_D A ([(h0, .inr (5, [.ref a0, .int 0, .ref a1, .ref a2, .ref a3, .int 1, .int 0, .int 0])), (a1, hcI k 401 (upd (fun _ => 0) 0 (-1))), (a2, hcI k 401 (upd (fun _ => 0) 0 0)), (a3, hcI k 401 (upd (fun _ => 0) 0 0))]) := hD
  exact hc_endV hx hb hr hlocks () trivial hP hD hS dX7_put_50
set_option maxHeartbeats 4000000 in
set_option maxRecDepth 100000 in
theorem c_X7_cutUp (l : Launch) (D : va_G) (k : Nat → ClassId) (sz : Nat) (h0 : Nat) (a0 : Nat) (a1 : Nat) (a2 : Nat) (a3 : Nat) : CtV l yX7_cutUp wsX7_cutUp (rmK 2 0 0) [.ref h0] D k sz ([(h0, .inr (5, [.ref a0, .int 0, .ref a1, .ref a2, .ref a3, .int 0, .int 0, .int 0])), (a1, hcI k 401 (fun _ => 0)), (a2, hcI k 401 (fun _ => 0)), (a3, hcI k 401 (fun _ => 0))]) (fun _ : Unit => True) (fun _ : Unit => [(h0, .inr (5, [.ref a0, .int 0, .ref a1, .ref a2, .ref a3, .int 1, .int 0, .int 0])), (a1, hcI k 401 (upd (fun _ => 0) 0 (-1))), (a2, hcI k 401 (upd (fun _ => 0) 0 0)), (a3, hcI k 401 (upd (fun _ => 0) 0 0))]) 0 0 := by
  refine CtV.mk (cc := cX7_cutUp) (maxL := 2) (ret := none) (by decide) rfl (Nat.le_of_ble_eq_true rfl) ?_
  intro p e s m below meth c A ls E hP hD hS hl
  obtain ⟨hx, hb, hr, hml, hown, hts, hlocks, hin, hG, hA⟩ := E
  have hown : s.vm.findClass RX7 = some m.cls := hown
  have in7 : ∀ w ∈ u_ws RX7 TX7 8, w ∈ wsX7_cutUp := fun _ h => List.mem_cons_of_mem _ (List.mem_append_right _ h)
  have hl : lv_has ls 2 [(0, .ref h0)] := hl
  refine lv_aload_n hx hb dX7_cutUp_0 rfl (lv_at hl 0 rfl) ?_
  refine lv_iconst (v := 0) hx hb dX7_cutUp_1 (by decide) ?_
  refine va_put (D := D) (ci := 5) (v := .int 0) (C := RX7) (T := TX7) (N := 8) hx hb hts in7 tyX7 tyX7_ok nmX7 hown hG.1 hP hD hS 0 rfl rfl 5 (by decide) (hts (.fieldLink RX7 29 "ChairCane$Tape" "pieces" "I") (by decide +kernel)) (fun _ h9 => h9) rfl (tyX7_ok 5 (by decide)) rfl rfl (Nat.le_of_ble_eq_true rfl) dX7_cutUp_2 (fun H locs hP hD hS => ?_)
  have hP : va_P D vwCl ([(h0, .inr (5, [.ref a0, .int 0, .ref a1, .ref a2, .ref a3, .int 0, .int 0, .int 0])), (a1, hcI k 401 (fun _ => 0)), (a2, hcI k 401 (fun _ => 0)), (a3, hcI k 401 (fun _ => 0))]) H := hP
  have hD : va_D A ([(h0, .inr (5, [.ref a0, .int 0, .ref a1, .ref a2, .ref a3, .int 0, .int 0, .int 0])), (a1, hcI k 401 (fun _ => 0)), (a2, hcI k 401 (fun _ => 0)), (a3, hcI k 401 (fun _ => 0))]) := hD
  refine lv_aload_n hx hb dX7_cutUp_5 rfl (lv_at hl 0 rfl) ?_
  refine lv_iconst (v := 0) hx hb dX7_cutUp_6 (by decide) ?_
  refine va_put (D := D) (ci := 5) (v := .int 0) (C := RX7) (T := TX7) (N := 8) hx hb hts in7 tyX7 tyX7_ok nmX7 hown hG.1 hP hD hS 0 rfl rfl 6 (by decide) (hts (.fieldLink RX7 32 "ChairCane$Tape" "at" "I") (by decide +kernel)) (fun _ h9 => h9) rfl (tyX7_ok 6 (by decide)) rfl rfl (Nat.le_of_ble_eq_true rfl) dX7_cutUp_7 (fun H locs hP hD hS => ?_)
  have hP : va_P D vwCl ([(h0, .inr (5, [.ref a0, .int 0, .ref a1, .ref a2, .ref a3, .int 0, .int 0, .int 0])), (a1, hcI k 401 (fun _ => 0)), (a2, hcI k 401 (fun _ => 0)), (a3, hcI k 401 (fun _ => 0))]) H := hP
  have hD : va_D A ([(h0, .inr (5, [.ref a0, .int 0, .ref a1, .ref a2, .ref a3, .int 0, .int 0, .int 0])), (a1, hcI k 401 (fun _ => 0)), (a2, hcI k 401 (fun _ => 0)), (a3, hcI k 401 (fun _ => 0))]) := hD
  refine lv_aload_n hx hb dX7_cutUp_10 rfl (lv_at hl 0 rfl) ?_
  refine lv_iconst (v := 0) hx hb dX7_cutUp_11 (by decide) ?_
  refine va_put (D := D) (ci := 5) (v := .int 0) (C := RX7) (T := TX7) (N := 8) hx hb hts in7 tyX7 tyX7_ok nmX7 hown hG.1 hP hD hS 0 rfl rfl 7 (by decide) (hts (.fieldLink RX7 35 "ChairCane$Tape" "fault" "I") (by decide +kernel)) (fun _ h9 => h9) rfl (tyX7_ok 7 (by decide)) rfl rfl (Nat.le_of_ble_eq_true rfl) dX7_cutUp_12 (fun H locs hP hD hS => ?_)
  have hP : va_P D vwCl ([(h0, .inr (5, [.ref a0, .int 0, .ref a1, .ref a2, .ref a3, .int 0, .int 0, .int 0])), (a1, hcI k 401 (fun _ => 0)), (a2, hcI k 401 (fun _ => 0)), (a3, hcI k 401 (fun _ => 0))]) H := hP
  have hD : va_D A ([(h0, .inr (5, [.ref a0, .int 0, .ref a1, .ref a2, .ref a3, .int 0, .int 0, .int 0])), (a1, hcI k 401 (fun _ => 0)), (a2, hcI k 401 (fun _ => 0)), (a3, hcI k 401 (fun _ => 0))]) := hD
  refine lv_iconst (v := 0) hx hb dX7_cutUp_15 (by decide) ?_
  refine lv_istore_n (lv' := [(1, .int 0), (0, .ref h0)]) hx hb dX7_cutUp_16 rfl hl (by decide) rfl (fun ls hl => ?_)
  refine lv_iload_n hx hb dX7_cutUp_17 rfl (lv_at hl 0 rfl) ?_
  refine lv_aload_n hx hb dX7_cutUp_18 rfl (lv_at hl 1 rfl) ?_
  refine va_get (D := D) (ci := 5) (v := .int 0) (C := RX7) (T := TX7) (N := 8) hx hb hts in7 hown hG.1 hP 0 rfl rfl 1 (by decide) (hts (.fieldLink RX7 15 "ChairCane$Tape" "length" "I") (by decide +kernel)) (fun _ h9 => h9) rfl dX7_cutUp_19 ?_
  refine lv_icmp_ge (tgt := 51) hx hb dX7_cutUp_22 (by decide) (fun _ => ?_) (fun h => absurd (by decide) h)
  refine lv_aload_n hx hb dX7_cutUp_51 rfl (lv_at hl 1 rfl) ?_
  refine lv_iconst (v := (-1)) hx hb dX7_cutUp_52 (by decide) ?_
  refine lv_aload_n hx hb dX7_cutUp_53 rfl (lv_at hl 1 rfl) ?_
  refine va_get (D := D) (ci := 5) (v := .int 0) (C := RX7) (T := TX7) (N := 8) hx hb hts in7 hown hG.1 hP 0 rfl rfl 1 (by decide) (hts (.fieldLink RX7 15 "ChairCane$Tape" "length" "I") (by decide +kernel)) (fun _ h9 => h9) rfl dX7_cutUp_54 ?_
  refine lv_iconst (v := 0) hx hb dX7_cutUp_57 (by decide) ?_
  refine hc_Vv (As := [.int (-1), .int 0, .int 0]) (rest := []) (n := 3) (wr := []) hx hb hml hown hts hG hA hP hD hS hl.1 [0, 1, 2, 3] [] (c_X7_put l D k _ h0 a0 a1 a2 a3) (ci := 5) (q0 := 0) rfl rfl gX7_cutUp_X7_put rfl ⟨rfl, rfl, Nat.le_of_ble_eq_true rfl, Nat.le_of_ble_eq_true rfl⟩ (by decide +kernel) rfl rfl ⟨by decide, by decide, by decide⟩ ⟨rfl, rfl, Nat.le_of_ble_eq_true rfl, Nat.le_of_ble_eq_true rfl, Nat.le_of_ble_eq_true rfl⟩ dX7_cutUp_58 (fun u_1 H locs hw hP hD hS => ?_)
  have hP : va_P D vwCl ([(h0, .inr (5, [.ref a0, .int 0, .ref a1, .ref a2, .ref a3, .int 1, .int 0, .int 0])), (a1, hcI k 401 (upd (fun _ => 0) 0 (-1))), (a2, hcI k 401 (upd (fun _ => 0) 0 0)), (a3, hcI k 401 (upd (fun _ => 0) 0 0))]) H := hP
  have hD : va_D A ([(h0, .inr (5, [.ref a0, .int 0, .ref a1, .ref a2, .ref a3, .int 1, .int 0, .int 0])), (a1, hcI k 401 (upd (fun _ => 0) 0 (-1))), (a2, hcI k 401 (upd (fun _ => 0) 0 0)), (a3, hcI k 401 (upd (fun _ => 0) 0 0))]) := hD
  exact hc_endV hx hb hr hlocks () trivial hP hD hS dX7_cutUp_61
set_option maxHeartbeats 4000000 in
set_option maxRecDepth 100000 in
theorem c_X7_kind (l : Launch) (D : va_G) (k : Nat → ClassId) (sz : Nat) (h0 : Nat) (a0 : Nat) (a1 : Nat) (a2 : Nat) (a3 : Nat) : CtI l yX7_kind wsX7_kind (rmK 1 0 0) [.ref h0] D k sz ([(h0, .inr (5, [.ref a0, .int 0, .ref a1, .ref a2, .ref a3, .int 1, .int 0, .int 0])), (a1, hcI k 401 (upd (fun _ => 0) 0 (-1)))]) (fun (r : Int32) (_ : Unit) => r = (-1)) (fun _ : Unit => [(h0, .inr (5, [.ref a0, .int 0, .ref a1, .ref a2, .ref a3, .int 1, .int 0, .int 0])), (a1, hcI k 401 (upd (fun _ => 0) 0 (-1)))]) 0 0 := by
  refine CtI.mk (cc := cX7_kind) (maxL := 1) (ret := (some .int)) (by decide) rfl (Nat.le_of_ble_eq_true rfl) ?_
  intro p e s m below meth c A ls E hP hD hS hl
  obtain ⟨hx, hb, hr, hml, hown, hts, hlocks, hin, hG, hA⟩ := E
  have hown : s.vm.findClass RX7 = some m.cls := hown
  have in7 : ∀ w ∈ u_ws RX7 TX7 8, w ∈ wsX7_kind := fun _ h => List.mem_cons_of_mem _ (List.mem_append_right _ h)
  have hl : lv_has ls 1 [(0, .ref h0)] := hl
  refine lv_aload_n hx hb dX7_kind_0 rfl (lv_at hl 0 rfl) ?_
  refine va_get (D := D) (ci := 5) (v := .int 0) (C := RX7) (T := TX7) (N := 8) hx hb hts in7 hown hG.1 hP 0 rfl rfl 6 (by decide) (hts (.fieldLink RX7 32 "ChairCane$Tape" "at" "I") (by decide +kernel)) (fun _ h9 => h9) rfl dX7_kind_1 ?_
  refine lv_aload_n hx hb dX7_kind_4 rfl (lv_at hl 0 rfl) ?_
  refine va_get (D := D) (ci := 5) (v := .int 1) (C := RX7) (T := TX7) (N := 8) hx hb hts in7 hown hG.1 hP 0 rfl rfl 5 (by decide) (hts (.fieldLink RX7 29 "ChairCane$Tape" "pieces" "I") (by decide +kernel)) (fun _ h9 => h9) rfl dX7_kind_5 ?_
  refine lv_icmp_ge (tgt := 23) hx hb dX7_kind_8 (by decide) (fun h => absurd h (by decide)) (fun _ => ?_)
  refine lv_aload_n hx hb dX7_kind_11 rfl (lv_at hl 0 rfl) ?_
  refine va_get (D := D) (ci := 5) (v := .ref a1) (C := RX7) (T := TX7) (N := 8) hx hb hts in7 hown hG.1 hP 0 rfl rfl 2 (by decide) (hts (.fieldLink RX7 19 "ChairCane$Tape" "kinds" "[I") (by decide +kernel)) (fun _ h9 => h9) rfl dX7_kind_12 ?_
  refine lv_aload_n hx hb dX7_kind_15 rfl (lv_at hl 0 rfl) ?_
  refine va_get (D := D) (ci := 5) (v := .int 0) (C := RX7) (T := TX7) (N := 8) hx hb hts in7 hown hG.1 hP 0 rfl rfl 6 (by decide) (hts (.fieldLink RX7 32 "ChairCane$Tape" "at" "I") (by decide +kernel)) (fun _ h9 => h9) rfl dX7_kind_16 ?_
  refine va_iald hx hb hG.1 hP 1 0 rfl rfl (by unfold vp_in; decide) dX7_kind_19 ?_
  refine hc_is (z := (-1)) rfl ?_
  refine lv_goto (tgt := 24) hx hb dX7_kind_20 (by decide) ?_
  exact hc_end hx hb hr hlocks () rfl hP hD hS dX7_kind_24
set_option maxHeartbeats 4000000 in
set_option maxRecDepth 100000 in
theorem c_X7_fail (l : Launch) (D : va_G) (k : Nat → ClassId) (sz : Nat) (h0 : Nat) (a0 : Nat) (a1 : Nat) (a2 : Nat) (a3 : Nat) : CtI l yX7_fail wsX7_fail (rmK 1 0 0) [.ref h0, .int 0] D k sz ([(h0, .inr (5, [.ref a0, .int 0, .ref a1, .ref a2, .ref a3, .int 1, .int 0, .int 0])), (a2, hcI k 401 (upd (fun _ => 0) 0 0))]) (fun (r : Int32) (_ : Unit) => r = 0) (fun _ : Unit => [(h0, .inr (5, [.ref a0, .int 0, .ref a1, .ref a2, .ref a3, .int 1, .int 0, .int 1])), (a2, hcI k 401 (upd (fun _ => 0) 0 0))]) 0 0 := by
  refine CtI.mk (cc := cX7_fail) (maxL := 2) (ret := (some .boolean)) (by decide) rfl (Nat.le_of_ble_eq_true rfl) ?_
  intro p e s m below meth c A ls E hP hD hS hl
  obtain ⟨hx, hb, hr, hml, hown, hts, hlocks, hin, hG, hA⟩ := E
  have hown : s.vm.findClass RX7 = some m.cls := hown
  have in7 : ∀ w ∈ u_ws RX7 TX7 8, w ∈ wsX7_fail := fun _ h => List.mem_cons_of_mem _ (List.mem_append_right _ h)
  have hl : lv_has ls 2 [(0, .ref h0), (1, .int 0)] := hl
  refine lv_aload_n hx hb dX7_fail_0 rfl (lv_at hl 0 rfl) ?_
  refine lv_iconst (v := 1) hx hb dX7_fail_1 (by decide) ?_
  refine lv_bipush (v := 8) hx hb dX7_fail_2 (by decide) ?_
  refine lv_aload_n hx hb dX7_fail_4 rfl (lv_at hl 0 rfl) ?_
  refine va_get (D := D) (ci := 5) (v := .int 0) (C := RX7) (T := TX7) (N := 8) hx hb hts in7 hown hG.1 hP 0 rfl rfl 6 (by decide) (hts (.fieldLink RX7 32 "ChairCane$Tape" "at" "I") (by decide +kernel)) (fun _ h9 => h9) rfl dX7_fail_5 ?_
  refine lv_aload_n hx hb dX7_fail_8 rfl (lv_at hl 0 rfl) ?_
  refine va_get (D := D) (ci := 5) (v := .int 1) (C := RX7) (T := TX7) (N := 8) hx hb hts in7 hown hG.1 hP 0 rfl rfl 5 (by decide) (hts (.fieldLink RX7 29 "ChairCane$Tape" "pieces" "I") (by decide +kernel)) (fun _ h9 => h9) rfl dX7_fail_9 ?_
  refine lv_icmp_ge (tgt := 27) hx hb dX7_fail_12 (by decide) (fun h => absurd h (by decide)) (fun _ => ?_)
  refine lv_aload_n hx hb dX7_fail_15 rfl (lv_at hl 0 rfl) ?_
  refine va_get (D := D) (ci := 5) (v := .ref a2) (C := RX7) (T := TX7) (N := 8) hx hb hts in7 hown hG.1 hP 0 rfl rfl 3 (by decide) (hts (.fieldLink RX7 23 "ChairCane$Tape" "places" "[I") (by decide +kernel)) (fun _ h9 => h9) rfl dX7_fail_16 ?_
  refine lv_aload_n hx hb dX7_fail_19 rfl (lv_at hl 0 rfl) ?_
  refine va_get (D := D) (ci := 5) (v := .int 0) (C := RX7) (T := TX7) (N := 8) hx hb hts in7 hown hG.1 hP 0 rfl rfl 6 (by decide) (hts (.fieldLink RX7 32 "ChairCane$Tape" "at" "I") (by decide +kernel)) (fun _ h9 => h9) rfl dX7_fail_20 ?_
  refine va_iald hx hb hG.1 hP 1 0 rfl rfl (by unfold vp_in; decide) dX7_fail_23 ?_
  refine hc_is (z := 0) rfl ?_
  refine lv_goto (tgt := 31) hx hb dX7_fail_24 (by decide) ?_
  refine lv_imul hx hb dX7_fail_31 ?_
  refine hc_is (z := 0) (by decide) ?_
  refine lv_iadd hx hb dX7_fail_32 ?_
  refine hc_is (z := 1) (by decide) ?_
  refine lv_iload_n hx hb dX7_fail_33 rfl (lv_at hl 1 rfl) ?_
  refine lv_iadd hx hb dX7_fail_34 ?_
  refine hc_is (z := 1) (by decide) ?_
  refine va_put (D := D) (ci := 5) (v := .int 1) (C := RX7) (T := TX7) (N := 8) hx hb hts in7 tyX7 tyX7_ok nmX7 hown hG.1 hP hD hS 0 rfl rfl 7 (by decide) (hts (.fieldLink RX7 35 "ChairCane$Tape" "fault" "I") (by decide +kernel)) (fun _ h9 => h9) rfl (tyX7_ok 7 (by decide)) rfl rfl (Nat.le_of_ble_eq_true rfl) dX7_fail_35 (fun H locs hP hD hS => ?_)
  have hP : va_P D vwCl ([(h0, .inr (5, [.ref a0, .int 0, .ref a1, .ref a2, .ref a3, .int 1, .int 0, .int 1])), (a2, hcI k 401 (upd (fun _ => 0) 0 0))]) H := hP
  have hD : va_D A ([(h0, .inr (5, [.ref a0, .int 0, .ref a1, .ref a2, .ref a3, .int 1, .int 0, .int 1])), (a2, hcI k 401 (upd (fun _ => 0) 0 0))]) := hD
  refine lv_iconst (v := 0) hx hb dX7_fail_38 (by decide) ?_
  exact hc_endZ hx hb hr hlocks rfl () rfl hP hD hS dX7_fail_39
set_option maxHeartbeats 4000000 in
set_option maxRecDepth 100000 in
theorem c_X3_clear (l : Launch) (D : va_G) (k : Nat → ClassId) (sz : Nat) (h0 : Nat) (a0 : Nat) (a1 : Nat) (a2 : Nat) (a3 : Nat) (a4 : Nat) (a5 : Nat) (a6 : Nat) (a7 : Nat) : CtV l yX3_clear wsX3_clear (rmK 1 0 0) [.ref h0] D k sz ([(h0, .inr (2, [.int 0, .int 0, .int 0, .int 0, .ref a0, .ref a1, .ref a2, .ref a3, .ref a4, .ref a5, .int 0, .int 0, .int 0, .ref a6, .ref a7, .int 0, .int 0]))]) (fun _ : Unit => True) (fun _ : Unit => [(h0, .inr (2, [.int 0, .int 0, .int 0, .int 0, .ref a0, .ref a1, .ref a2, .ref a3, .ref a4, .ref a5, .int 0, .int 0, .int 0, .ref a6, .ref a7, .int 0, .int 0]))]) 0 0 := by
  refine CtV.mk (cc := cX3_clear) (maxL := 1) (ret := none) (by decide) rfl (Nat.le_of_ble_eq_true rfl) ?_
  intro p e s m below meth c A ls E hP hD hS hl
  obtain ⟨hx, hb, hr, hml, hown, hts, hlocks, hin, hG, hA⟩ := E
  have hown : s.vm.findClass RX3 = some m.cls := hown
  have in3 : ∀ w ∈ u_ws RX3 TX3 17, w ∈ wsX3_clear := fun _ h => List.mem_cons_of_mem _ (List.mem_append_right _ h)
  have hl : lv_has ls 1 [(0, .ref h0)] := hl
  refine lv_aload_n hx hb dX3_clear_0 rfl (lv_at hl 0 rfl) ?_
  refine lv_iconst (v := 0) hx hb dX3_clear_1 (by decide) ?_
  refine va_put (D := D) (ci := 2) (v := .int 0) (C := RX3) (T := TX3) (N := 17) hx hb hts in3 tyX3 tyX3_ok nmX3 hown hG.1 hP hD hS 0 rfl rfl 0 (by decide) (hts (.fieldLink RX3 9 "ChairCane$Room" "told" "Z") (by decide +kernel)) (fun _ h9 => h9) rfl (tyX3_ok 0 (by decide)) rfl rfl (Nat.le_of_ble_eq_true rfl) dX3_clear_2 (fun H locs hP hD hS => ?_)
  have hP : va_P D vwCl ([(h0, .inr (2, [.int 0, .int 0, .int 0, .int 0, .ref a0, .ref a1, .ref a2, .ref a3, .ref a4, .ref a5, .int 0, .int 0, .int 0, .ref a6, .ref a7, .int 0, .int 0]))]) H := hP
  have hD : va_D A ([(h0, .inr (2, [.int 0, .int 0, .int 0, .int 0, .ref a0, .ref a1, .ref a2, .ref a3, .ref a4, .ref a5, .int 0, .int 0, .int 0, .ref a6, .ref a7, .int 0, .int 0]))]) := hD
  refine lv_aload_n hx hb dX3_clear_5 rfl (lv_at hl 0 rfl) ?_
  refine lv_iconst (v := 0) hx hb dX3_clear_6 (by decide) ?_
  refine va_put (D := D) (ci := 2) (v := .int 0) (C := RX3) (T := TX3) (N := 17) hx hb hts in3 tyX3 tyX3_ok nmX3 hown hG.1 hP hD hS 0 rfl rfl 1 (by decide) (hts (.fieldLink RX3 15 "ChairCane$Room" "strands" "I") (by decide +kernel)) (fun _ h9 => h9) rfl (tyX3_ok 1 (by decide)) rfl rfl (Nat.le_of_ble_eq_true rfl) dX3_clear_7 (fun H locs hP hD hS => ?_)
  have hP : va_P D vwCl ([(h0, .inr (2, [.int 0, .int 0, .int 0, .int 0, .ref a0, .ref a1, .ref a2, .ref a3, .ref a4, .ref a5, .int 0, .int 0, .int 0, .ref a6, .ref a7, .int 0, .int 0]))]) H := hP
  have hD : va_D A ([(h0, .inr (2, [.int 0, .int 0, .int 0, .int 0, .ref a0, .ref a1, .ref a2, .ref a3, .ref a4, .ref a5, .int 0, .int 0, .int 0, .ref a6, .ref a7, .int 0, .int 0]))]) := hD
  refine lv_aload_n hx hb dX3_clear_10 rfl (lv_at hl 0 rfl) ?_
  refine lv_iconst (v := 0) hx hb dX3_clear_11 (by decide) ?_
  refine va_put (D := D) (ci := 2) (v := .int 0) (C := RX3) (T := TX3) (N := 17) hx hb hts in3 tyX3 tyX3_ok nmX3 hown hG.1 hP hD hS 0 rfl rfl 2 (by decide) (hts (.fieldLink RX3 19 "ChairCane$Room" "chairs" "I") (by decide +kernel)) (fun _ h9 => h9) rfl (tyX3_ok 2 (by decide)) rfl rfl (Nat.le_of_ble_eq_true rfl) dX3_clear_12 (fun H locs hP hD hS => ?_)
  have hP : va_P D vwCl ([(h0, .inr (2, [.int 0, .int 0, .int 0, .int 0, .ref a0, .ref a1, .ref a2, .ref a3, .ref a4, .ref a5, .int 0, .int 0, .int 0, .ref a6, .ref a7, .int 0, .int 0]))]) H := hP
  have hD : va_D A ([(h0, .inr (2, [.int 0, .int 0, .int 0, .int 0, .ref a0, .ref a1, .ref a2, .ref a3, .ref a4, .ref a5, .int 0, .int 0, .int 0, .ref a6, .ref a7, .int 0, .int 0]))]) := hD
  refine lv_aload_n hx hb dX3_clear_15 rfl (lv_at hl 0 rfl) ?_
  refine lv_iconst (v := 0) hx hb dX3_clear_16 (by decide) ?_
  refine va_put (D := D) (ci := 2) (v := .int 0) (C := RX3) (T := TX3) (N := 17) hx hb hts in3 tyX3 tyX3_ok nmX3 hown hG.1 hP hD hS 0 rfl rfl 3 (by decide) (hts (.fieldLink RX3 22 "ChairCane$Room" "sitters" "I") (by decide +kernel)) (fun _ h9 => h9) rfl (tyX3_ok 3 (by decide)) rfl rfl (Nat.le_of_ble_eq_true rfl) dX3_clear_17 (fun H locs hP hD hS => ?_)
  have hP : va_P D vwCl ([(h0, .inr (2, [.int 0, .int 0, .int 0, .int 0, .ref a0, .ref a1, .ref a2, .ref a3, .ref a4, .ref a5, .int 0, .int 0, .int 0, .ref a6, .ref a7, .int 0, .int 0]))]) H := hP
  have hD : va_D A ([(h0, .inr (2, [.int 0, .int 0, .int 0, .int 0, .ref a0, .ref a1, .ref a2, .ref a3, .ref a4, .ref a5, .int 0, .int 0, .int 0, .ref a6, .ref a7, .int 0, .int 0]))]) := hD
  exact hc_endV hx hb hr hlocks () trivial hP hD hS dX3_clear_20
set_option maxHeartbeats 4000000 in
set_option maxRecDepth 100000 in
theorem c_X1_readClause (l : Launch) (D : va_G) (k : Nat → ClassId) (sz : Nat) (h0 : Nat) (a0 : Nat) (a1 : Nat) (a2 : Nat) (a3 : Nat) (r0 : Nat) : CtI l yX1_readClause wsX1_readClause (rmK 2 0 0) [.ref h0, .ref r0, .int 0] D k sz ([(h0, .inr (5, [.ref a0, .int 0, .ref a1, .ref a2, .ref a3, .int 1, .int 0, .int 0])), (a1, hcI k 401 (upd (fun _ => 0) 0 (-1))), (a2, hcI k 401 (upd (fun _ => 0) 0 0))]) (fun (r : Int32) (_ : Unit) => r = 0) (fun _ : Unit => [(a1, hcI k 401 (upd (fun _ => 0) 0 (-1))), (h0, .inr (5, [.ref a0, .int 0, .ref a1, .ref a2, .ref a3, .int 1, .int 0, .int 1])), (a2, hcI k 401 (upd (fun _ => 0) 0 0))]) 0 0 := by
  refine CtI.mk (cc := cX1_readClause) (maxL := 4) (ret := (some .boolean)) (by decide) rfl (Nat.le_of_ble_eq_true rfl) ?_
  intro p e s m below meth c A ls E hP hD hS hl
  obtain ⟨hx, hb, hr, hml, hown, hts, hlocks, hin, hG, hA⟩ := E
  have hown : s.vm.findClass RX1 = some m.cls := hown
  have in3 : ∀ w ∈ u_ws RX3 TX3 17, w ∈ wsX1_readClause := fun _ h => List.mem_cons_of_mem _ (List.mem_append_left _ (List.mem_append_right _ h))
  have in7 : ∀ w ∈ u_ws RX7 TX7 8, w ∈ wsX1_readClause := fun _ h => List.mem_cons_of_mem _ (List.mem_append_right _ h)
  have hl : lv_has ls 4 [(0, .ref h0), (1, .ref r0), (2, .int 0)] := hl
  refine lv_aload_n hx hb dX1_readClause_0 rfl (lv_at hl 0 rfl) ?_
  refine hc_Vi (As := []) (rest := []) (n := 0) (wr := [(a2, hcI k 401 (upd (fun _ => 0) 0 0))]) hx hb hml hown hts hG hA hP hD hS hl.1 [0, 1] [2] (c_X7_kind l D k _ h0 a0 a1 a2 a3) (ci := 5) (q0 := 0) rfl rfl gX1_readClause_X7_kind rfl ⟨rfl, rfl, Nat.le_of_ble_eq_true rfl, Nat.le_of_ble_eq_true rfl⟩ (by decide +kernel) rfl rfl ⟨by decide, by decide, by decide⟩ ⟨rfl, rfl, Nat.le_of_ble_eq_true rfl, Nat.le_of_ble_eq_true rfl, Nat.le_of_ble_eq_true rfl⟩ dX1_readClause_1 (fun r_2 u_1 H locs hw hP hD hS => ?_)
  have hP : va_P D vwCl ([(a2, hcI k 401 (upd (fun _ => 0) 0 0)), (h0, .inr (5, [.ref a0, .int 0, .ref a1, .ref a2, .ref a3, .int 1, .int 0, .int 0])), (a1, hcI k 401 (upd (fun _ => 0) 0 (-1)))]) H := hP
  have hD : va_D A ([(a2, hcI k 401 (upd (fun _ => 0) 0 0)), (h0, .inr (5, [.ref a0, .int 0, .ref a1, .ref a2, .ref a3, .int 1, .int 0, .int 0])), (a1, hcI k 401 (upd (fun _ => 0) 0 (-1)))]) := hD
  obtain rfl : r_2 = (-1) := hw
  refine lv_istore_n (lv' := [(3, .int (-1)), (0, .ref h0), (1, .ref r0), (2, .int 0)]) hx hb dX1_readClause_4 rfl hl (by decide) rfl (fun ls hl => ?_)
  refine lv_iload_n hx hb dX1_readClause_5 rfl (lv_at hl 0 rfl) ?_
  refine lv_sipush (v := 271) hx hb dX1_readClause_6 (by decide) ?_
  refine lv_icmp_eq (tgt := 39) hx hb dX1_readClause_9 (by decide) (fun h => absurd h (by decide)) (fun _ => ?_)
  refine lv_iload_n hx hb dX1_readClause_12 rfl (lv_at hl 0 rfl) ?_
  refine lv_sipush (v := 272) hx hb dX1_readClause_13 (by decide) ?_
  refine lv_icmp_eq (tgt := 39) hx hb dX1_readClause_16 (by decide) (fun h => absurd h (by decide)) (fun _ => ?_)
  refine lv_iload_n hx hb dX1_readClause_19 rfl (lv_at hl 0 rfl) ?_
  refine lv_sipush (v := 261) hx hb dX1_readClause_20 (by decide) ?_
  refine lv_icmp_eq (tgt := 39) hx hb dX1_readClause_23 (by decide) (fun h => absurd h (by decide)) (fun _ => ?_)
  refine lv_iload_n hx hb dX1_readClause_26 rfl (lv_at hl 0 rfl) ?_
  refine lv_sipush (v := 260) hx hb dX1_readClause_27 (by decide) ?_
  refine lv_icmp_eq (tgt := 39) hx hb dX1_readClause_30 (by decide) (fun h => absurd h (by decide)) (fun _ => ?_)
  refine lv_aload_n hx hb dX1_readClause_33 rfl (lv_at hl 1 rfl) ?_
  refine lv_iconst (v := 0) hx hb dX1_readClause_34 (by decide) ?_
  refine hc_Vi (As := [.int 0]) (rest := []) (n := 1) (wr := [(a1, hcI k 401 (upd (fun _ => 0) 0 (-1)))]) hx hb hml hown hts hG hA hP hD hS hl.1 [1, 0] [2] (c_X7_fail l D k _ h0 a0 a1 a2 a3) (ci := 5) (q0 := 1) rfl rfl gX1_readClause_X7_fail rfl ⟨rfl, rfl, Nat.le_of_ble_eq_true rfl, Nat.le_of_ble_eq_true rfl⟩ (by decide +kernel) rfl rfl ⟨by decide, by decide, by decide⟩ ⟨rfl, rfl, Nat.le_of_ble_eq_true rfl, Nat.le_of_ble_eq_true rfl, Nat.le_of_ble_eq_true rfl⟩ dX1_readClause_35 (fun r_4 u_3 H locs hw hP hD hS => ?_)
  have hP : va_P D vwCl ([(a1, hcI k 401 (upd (fun _ => 0) 0 (-1))), (h0, .inr (5, [.ref a0, .int 0, .ref a1, .ref a2, .ref a3, .int 1, .int 0, .int 1])), (a2, hcI k 401 (upd (fun _ => 0) 0 0))]) H := hP
  have hD : va_D A ([(a1, hcI k 401 (upd (fun _ => 0) 0 (-1))), (h0, .inr (5, [.ref a0, .int 0, .ref a1, .ref a2, .ref a3, .int 1, .int 0, .int 1])), (a2, hcI k 401 (upd (fun _ => 0) 0 0))]) := hD
  obtain rfl : r_4 = 0 := hw
  exact hc_endZ hx hb hr hlocks rfl () rfl hP hD hS dX1_readClause_38
set_option maxHeartbeats 4000000 in
set_option maxRecDepth 100000 in
theorem c_X1_read (l : Launch) (D : va_G) (k : Nat → ClassId) (sz : Nat) (h0 : Nat) (a0 : Nat) (a1 : Nat) (a2 : Nat) (a3 : Nat) (r0 : Nat) (b0 : Nat) (b1 : Nat) (b2 : Nat) (b3 : Nat) (b4 : Nat) (b5 : Nat) (b6 : Nat) (b7 : Nat) : CtI l yX1_read wsX1_read (rmK 3 0 0) [.ref h0, .ref r0] D k sz ([(h0, .inr (5, [.ref a0, .int 0, .ref a1, .ref a2, .ref a3, .int 0, .int 0, .int 0])), (a1, hcI k 401 (fun _ => 0)), (a2, hcI k 401 (fun _ => 0)), (a3, hcI k 401 (fun _ => 0)), (r0, .inr (2, [.int 0, .int 0, .int 0, .int 0, .ref b0, .ref b1, .ref b2, .ref b3, .ref b4, .ref b5, .int 0, .int 0, .int 0, .ref b6, .ref b7, .int 0, .int 0]))]) (fun (r : Int32) (_ : Unit) => r = 0) (fun _ : Unit => [(a3, hcI k 401 (upd (fun _ => 0) 0 0)), (r0, .inr (2, [.int 0, .int 0, .int 0, .int 0, .ref b0, .ref b1, .ref b2, .ref b3, .ref b4, .ref b5, .int 0, .int 0, .int 0, .ref b6, .ref b7, .int 0, .int 0])), (a1, hcI k 401 (upd (fun _ => 0) 0 (-1))), (h0, .inr (5, [.ref a0, .int 0, .ref a1, .ref a2, .ref a3, .int 1, .int 0, .int 1])), (a2, hcI k 401 (upd (fun _ => 0) 0 0))]) 0 0 := by
  refine CtI.mk (cc := cX1_read) (maxL := 3) (ret := (some .boolean)) (by decide) rfl (Nat.le_of_ble_eq_true rfl) ?_
  intro p e s m below meth c A ls E hP hD hS hl
  obtain ⟨hx, hb, hr, hml, hown, hts, hlocks, hin, hG, hA⟩ := E
  have hown : s.vm.findClass RX1 = some m.cls := hown
  have in3 : ∀ w ∈ u_ws RX3 TX3 17, w ∈ wsX1_read := fun _ h => List.mem_cons_of_mem _ (List.mem_append_right _ h)
  have in7 : ∀ w ∈ u_ws RX7 TX7 8, w ∈ wsX1_read := fun _ h => List.mem_cons_of_mem _ (List.mem_append_left _ (List.mem_append_right _ h))
  have hl : lv_has ls 3 [(0, .ref h0), (1, .ref r0)] := hl
  refine lv_aload_n hx hb dX1_read_0 rfl (lv_at hl 0 rfl) ?_
  refine hc_Vv (As := []) (rest := []) (n := 0) (wr := [(r0, .inr (2, [.int 0, .int 0, .int 0, .int 0, .ref b0, .ref b1, .ref b2, .ref b3, .ref b4, .ref b5, .int 0, .int 0, .int 0, .ref b6, .ref b7, .int 0, .int 0]))]) hx hb hml hown hts hG hA hP hD hS hl.1 [0, 1, 2, 3] [4] (c_X7_cutUp l D k _ h0 a0 a1 a2 a3) (ci := 5) (q0 := 0) rfl rfl gX1_read_X7_cutUp rfl ⟨rfl, rfl, Nat.le_of_ble_eq_true rfl, Nat.le_of_ble_eq_true rfl⟩ (by decide +kernel) rfl rfl ⟨by decide, by decide, by decide⟩ ⟨rfl, rfl, Nat.le_of_ble_eq_true rfl, Nat.le_of_ble_eq_true rfl, Nat.le_of_ble_eq_true rfl⟩ dX1_read_1 (fun u_1 H locs hw hP hD hS => ?_)
  have hP : va_P D vwCl ([(r0, .inr (2, [.int 0, .int 0, .int 0, .int 0, .ref b0, .ref b1, .ref b2, .ref b3, .ref b4, .ref b5, .int 0, .int 0, .int 0, .ref b6, .ref b7, .int 0, .int 0])), (h0, .inr (5, [.ref a0, .int 0, .ref a1, .ref a2, .ref a3, .int 1, .int 0, .int 0])), (a1, hcI k 401 (upd (fun _ => 0) 0 (-1))), (a2, hcI k 401 (upd (fun _ => 0) 0 0)), (a3, hcI k 401 (upd (fun _ => 0) 0 0))]) H := hP
  have hD : va_D A ([(r0, .inr (2, [.int 0, .int 0, .int 0, .int 0, .ref b0, .ref b1, .ref b2, .ref b3, .ref b4, .ref b5, .int 0, .int 0, .int 0, .ref b6, .ref b7, .int 0, .int 0])), (h0, .inr (5, [.ref a0, .int 0, .ref a1, .ref a2, .ref a3, .int 1, .int 0, .int 0])), (a1, hcI k 401 (upd (fun _ => 0) 0 (-1))), (a2, hcI k 401 (upd (fun _ => 0) 0 0)), (a3, hcI k 401 (upd (fun _ => 0) 0 0))]) := hD
  refine lv_aload_n hx hb dX1_read_4 rfl (lv_at hl 1 rfl) ?_
  refine hc_Vv (As := []) (rest := []) (n := 0) (wr := [(h0, .inr (5, [.ref a0, .int 0, .ref a1, .ref a2, .ref a3, .int 1, .int 0, .int 0])), (a1, hcI k 401 (upd (fun _ => 0) 0 (-1))), (a2, hcI k 401 (upd (fun _ => 0) 0 0)), (a3, hcI k 401 (upd (fun _ => 0) 0 0))]) hx hb hml hown hts hG hA hP hD hS hl.1 [0] [1, 2, 3, 4] (c_X3_clear l D k _ r0 b0 b1 b2 b3 b4 b5 b6 b7) (ci := 2) (q0 := 0) rfl rfl gX1_read_X3_clear rfl ⟨rfl, rfl, Nat.le_of_ble_eq_true rfl, Nat.le_of_ble_eq_true rfl⟩ (by decide +kernel) rfl rfl ⟨by decide, by decide, by decide⟩ ⟨rfl, rfl, Nat.le_of_ble_eq_true rfl, Nat.le_of_ble_eq_true rfl, Nat.le_of_ble_eq_true rfl⟩ dX1_read_5 (fun u_3 H locs hw hP hD hS => ?_)
  have hP : va_P D vwCl ([(h0, .inr (5, [.ref a0, .int 0, .ref a1, .ref a2, .ref a3, .int 1, .int 0, .int 0])), (a1, hcI k 401 (upd (fun _ => 0) 0 (-1))), (a2, hcI k 401 (upd (fun _ => 0) 0 0)), (a3, hcI k 401 (upd (fun _ => 0) 0 0)), (r0, .inr (2, [.int 0, .int 0, .int 0, .int 0, .ref b0, .ref b1, .ref b2, .ref b3, .ref b4, .ref b5, .int 0, .int 0, .int 0, .ref b6, .ref b7, .int 0, .int 0]))]) H := hP
  have hD : va_D A ([(h0, .inr (5, [.ref a0, .int 0, .ref a1, .ref a2, .ref a3, .int 1, .int 0, .int 0])), (a1, hcI k 401 (upd (fun _ => 0) 0 (-1))), (a2, hcI k 401 (upd (fun _ => 0) 0 0)), (a3, hcI k 401 (upd (fun _ => 0) 0 0)), (r0, .inr (2, [.int 0, .int 0, .int 0, .int 0, .ref b0, .ref b1, .ref b2, .ref b3, .ref b4, .ref b5, .int 0, .int 0, .int 0, .ref b6, .ref b7, .int 0, .int 0]))]) := hD
  refine lv_iconst (v := 0) hx hb dX1_read_8 (by decide) ?_
  refine lv_istore_n (lv' := [(2, .int 0), (0, .ref h0), (1, .ref r0)]) hx hb dX1_read_9 rfl hl (by decide) rfl (fun ls hl => ?_)
  refine lv_iload_n hx hb dX1_read_10 rfl (lv_at hl 0 rfl) ?_
  refine lv_bipush (v := 40) hx hb dX1_read_11 (by decide) ?_
  refine lv_icmp_gt (tgt := 62) hx hb dX1_read_13 (by decide) (fun h => absurd h (by decide)) (fun _ => ?_)
  refine lv_aload_n hx hb dX1_read_16 rfl (lv_at hl 1 rfl) ?_
  refine lv_aload_n hx hb dX1_read_17 rfl (lv_at hl 2 rfl) ?_
  refine lv_iload_n hx hb dX1_read_18 rfl (lv_at hl 0 rfl) ?_
  refine hc_Si (As := [.ref h0, .ref r0, .int 0]) (rest := []) (n := 3) (wr := [(a3, hcI k 401 (upd (fun _ => 0) 0 0)), (r0, .inr (2, [.int 0, .int 0, .int 0, .int 0, .ref b0, .ref b1, .ref b2, .ref b3, .ref b4, .ref b5, .int 0, .int 0, .int 0, .ref b6, .ref b7, .int 0, .int 0]))]) hx hb hml hown hts hG hA hP hD hS hl.1 [0, 1, 2] [3, 4] (c_X1_readClause l D k _ h0 a0 a1 a2 a3 r0) gX1_read_X1_readClause rfl ⟨rfl, rfl, Nat.le_of_ble_eq_true rfl, Nat.le_of_ble_eq_true rfl⟩ (by decide +kernel) rfl rfl ⟨by decide, by decide, by decide⟩ ⟨rfl, rfl, Nat.le_of_ble_eq_true rfl, Nat.le_of_ble_eq_true rfl, Nat.le_of_ble_eq_true rfl⟩ dX1_read_19 (fun r_6 u_5 H locs hw hP hD hS => ?_)
  have hP : va_P D vwCl ([(a3, hcI k 401 (upd (fun _ => 0) 0 0)), (r0, .inr (2, [.int 0, .int 0, .int 0, .int 0, .ref b0, .ref b1, .ref b2, .ref b3, .ref b4, .ref b5, .int 0, .int 0, .int 0, .ref b6, .ref b7, .int 0, .int 0])), (a1, hcI k 401 (upd (fun _ => 0) 0 (-1))), (h0, .inr (5, [.ref a0, .int 0, .ref a1, .ref a2, .ref a3, .int 1, .int 0, .int 1])), (a2, hcI k 401 (upd (fun _ => 0) 0 0))]) H := hP
  have hD : va_D A ([(a3, hcI k 401 (upd (fun _ => 0) 0 0)), (r0, .inr (2, [.int 0, .int 0, .int 0, .int 0, .ref b0, .ref b1, .ref b2, .ref b3, .ref b4, .ref b5, .int 0, .int 0, .int 0, .ref b6, .ref b7, .int 0, .int 0])), (a1, hcI k 401 (upd (fun _ => 0) 0 (-1))), (h0, .inr (5, [.ref a0, .int 0, .ref a1, .ref a2, .ref a3, .int 1, .int 0, .int 1])), (a2, hcI k 401 (upd (fun _ => 0) 0 0))]) := hD
  obtain rfl : r_6 = 0 := hw
  refine lv_if_ne (tgt := 27) hx hb dX1_read_22 (by decide) (fun h => absurd h (by decide)) (fun _ => ?_)
  refine lv_iconst (v := 0) hx hb dX1_read_25 (by decide) ?_
  exact hc_endZ hx hb hr hlocks rfl () rfl hP hD hS dX1_read_26
set_option maxHeartbeats 4000000 in
set_option maxRecDepth 100000 in
theorem c_X4_clear (l : Launch) (D : va_G) (k : Nat → ClassId) (sz : Nat) (h0 : Nat) (a0 : Nat) (a1 : Nat) (a2 : Nat) (a3 : Nat) (a4 : Nat) : CtV l yX4_clear wsX4_clear (rmK 1 0 0) [.ref h0] D k sz ([(h0, .inr (3, [.ref a0, .ref a1, .ref a2, .ref a3, .ref a4, .int 0, .int 0, .int 0]))]) (fun _ : Unit => True) (fun _ : Unit => [(h0, .inr (3, [.ref a0, .ref a1, .ref a2, .ref a3, .ref a4, .int 0, .int 0, .int 0]))]) 0 0 := by
  refine CtV.mk (cc := cX4_clear) (maxL := 1) (ret := none) (by decide) rfl (Nat.le_of_ble_eq_true rfl) ?_
  intro p e s m below meth c A ls E hP hD hS hl
  obtain ⟨hx, hb, hr, hml, hown, hts, hlocks, hin, hG, hA⟩ := E
  have hown : s.vm.findClass RX4 = some m.cls := hown
  have in4 : ∀ w ∈ u_ws RX4 TX4 8, w ∈ wsX4_clear := fun _ h => List.mem_cons_of_mem _ (List.mem_append_right _ h)
  have hl : lv_has ls 1 [(0, .ref h0)] := hl
  refine lv_aload_n hx hb dX4_clear_0 rfl (lv_at hl 0 rfl) ?_
  refine lv_iconst (v := 0) hx hb dX4_clear_1 (by decide) ?_
  refine va_put (D := D) (ci := 3) (v := .int 0) (C := RX4) (T := TX4) (N := 8) hx hb hts in4 tyX4 tyX4_ok nmX4 hown hG.1 hP hD hS 0 rfl rfl 5 (by decide) (hts (.fieldLink RX4 28 "ChairCane$Rule" "length" "I") (by decide +kernel)) (fun _ h9 => h9) rfl (tyX4_ok 5 (by decide)) rfl rfl (Nat.le_of_ble_eq_true rfl) dX4_clear_2 (fun H locs hP hD hS => ?_)
  have hP : va_P D vwCl ([(h0, .inr (3, [.ref a0, .ref a1, .ref a2, .ref a3, .ref a4, .int 0, .int 0, .int 0]))]) H := hP
  have hD : va_D A ([(h0, .inr (3, [.ref a0, .ref a1, .ref a2, .ref a3, .ref a4, .int 0, .int 0, .int 0]))]) := hD
  refine lv_aload_n hx hb dX4_clear_5 rfl (lv_at hl 0 rfl) ?_
  refine lv_iconst (v := 0) hx hb dX4_clear_6 (by decide) ?_
  refine va_put (D := D) (ci := 3) (v := .int 0) (C := RX4) (T := TX4) (N := 8) hx hb hts in4 tyX4 tyX4_ok nmX4 hown hG.1 hP hD hS 0 rfl rfl 6 (by decide) (hts (.fieldLink RX4 32 "ChairCane$Rule" "clauses" "I") (by decide +kernel)) (fun _ h9 => h9) rfl (tyX4_ok 6 (by decide)) rfl rfl (Nat.le_of_ble_eq_true rfl) dX4_clear_7 (fun H locs hP hD hS => ?_)
  have hP : va_P D vwCl ([(h0, .inr (3, [.ref a0, .ref a1, .ref a2, .ref a3, .ref a4, .int 0, .int 0, .int 0]))]) H := hP
  have hD : va_D A ([(h0, .inr (3, [.ref a0, .ref a1, .ref a2, .ref a3, .ref a4, .int 0, .int 0, .int 0]))]) := hD
  refine lv_aload_n hx hb dX4_clear_10 rfl (lv_at hl 0 rfl) ?_
  refine lv_iconst (v := 0) hx hb dX4_clear_11 (by decide) ?_
  refine va_put (D := D) (ci := 3) (v := .int 0) (C := RX4) (T := TX4) (N := 8) hx hb hts in4 tyX4 tyX4_ok nmX4 hown hG.1 hP hD hS 0 rfl rfl 7 (by decide) (hts (.fieldLink RX4 35 "ChairCane$Rule" "units" "I") (by decide +kernel)) (fun _ h9 => h9) rfl (tyX4_ok 7 (by decide)) rfl rfl (Nat.le_of_ble_eq_true rfl) dX4_clear_12 (fun H locs hP hD hS => ?_)
  have hP : va_P D vwCl ([(h0, .inr (3, [.ref a0, .ref a1, .ref a2, .ref a3, .ref a4, .int 0, .int 0, .int 0]))]) H := hP
  have hD : va_D A ([(h0, .inr (3, [.ref a0, .ref a1, .ref a2, .ref a3, .ref a4, .int 0, .int 0, .int 0]))]) := hD
  exact hc_endV hx hb hr hlocks () trivial hP hD hS dX4_clear_15
set_option maxHeartbeats 4000000 in
set_option maxRecDepth 100000 in
theorem c_X5_openClause (l : Launch) (D : va_G) (k : Nat → ClassId) (sz : Nat) (h0 : Nat) (a0 : Nat) (a1 : Nat) (a2 : Nat) (a3 : Nat) : CtI l yX5_openClause wsX5_openClause (rmK 2 0 0) [.ref h0, .int 0] D k sz ([(h0, .inr (5, [.ref a0, .int 0, .ref a1, .ref a2, .ref a3, .int 1, .int 0, .int 0])), (a1, hcI k 401 (upd (fun _ => 0) 0 (-1))), (a2, hcI k 401 (upd (fun _ => 0) 0 0))]) (fun (r : Int32) (_ : Unit) => r = 0) (fun _ : Unit => [(a1, hcI k 401 (upd (fun _ => 0) 0 (-1))), (h0, .inr (5, [.ref a0, .int 0, .ref a1, .ref a2, .ref a3, .int 1, .int 0, .int 1])), (a2, hcI k 401 (upd (fun _ => 0) 0 0))]) 0 0 := by
  refine CtI.mk (cc := cX5_openClause) (maxL := 2) (ret := (some .boolean)) (by decide) rfl (Nat.le_of_ble_eq_true rfl) ?_
  intro p e s m below meth c A ls E hP hD hS hl
  obtain ⟨hx, hb, hr, hml, hown, hts, hlocks, hin, hG, hA⟩ := E
  have hown : s.vm.findClass RX5 = some m.cls := hown
  have in7 : ∀ w ∈ u_ws RX7 TX7 8, w ∈ wsX5_openClause := fun _ h => List.mem_cons_of_mem _ (List.mem_append_right _ h)
  have hl : lv_has ls 2 [(0, .ref h0), (1, .int 0)] := hl
  refine lv_aload_n hx hb dX5_openClause_0 rfl (lv_at hl 0 rfl) ?_
  refine hc_Vi (As := []) (rest := []) (n := 0) (wr := [(a2, hcI k 401 (upd (fun _ => 0) 0 0))]) hx hb hml hown hts hG hA hP hD hS hl.1 [0, 1] [2] (c_X7_kind l D k _ h0 a0 a1 a2 a3) (ci := 5) (q0 := 0) rfl rfl gX5_openClause_X7_kind rfl ⟨rfl, rfl, Nat.le_of_ble_eq_true rfl, Nat.le_of_ble_eq_true rfl⟩ (by decide +kernel) rfl rfl ⟨by decide, by decide, by decide⟩ ⟨rfl, rfl, Nat.le_of_ble_eq_true rfl, Nat.le_of_ble_eq_true rfl, Nat.le_of_ble_eq_true rfl⟩ dX5_openClause_1 (fun r_2 u_1 H locs hw hP hD hS => ?_)
  have hP : va_P D vwCl ([(a2, hcI k 401 (upd (fun _ => 0) 0 0)), (h0, .inr (5, [.ref a0, .int 0, .ref a1, .ref a2, .ref a3, .int 1, .int 0, .int 0])), (a1, hcI k 401 (upd (fun _ => 0) 0 (-1)))]) H := hP
  have hD : va_D A ([(a2, hcI k 401 (upd (fun _ => 0) 0 0)), (h0, .inr (5, [.ref a0, .int 0, .ref a1, .ref a2, .ref a3, .int 1, .int 0, .int 0])), (a1, hcI k 401 (upd (fun _ => 0) 0 (-1)))]) := hD
  obtain rfl : r_2 = (-1) := hw
  refine lv_sipush (v := 273) hx hb dX5_openClause_4 (by decide) ?_
  refine lv_icmp_eq (tgt := 16) hx hb dX5_openClause_7 (by decide) (fun h => absurd h (by decide)) (fun _ => ?_)
  refine lv_aload_n hx hb dX5_openClause_10 rfl (lv_at hl 0 rfl) ?_
  refine lv_iconst (v := 0) hx hb dX5_openClause_11 (by decide) ?_
  refine hc_Vi (As := [.int 0]) (rest := []) (n := 1) (wr := [(a1, hcI k 401 (upd (fun _ => 0) 0 (-1)))]) hx hb hml hown hts hG hA hP hD hS hl.1 [1, 0] [2] (c_X7_fail l D k _ h0 a0 a1 a2 a3) (ci := 5) (q0 := 1) rfl rfl gX5_openClause_X7_fail rfl ⟨rfl, rfl, Nat.le_of_ble_eq_true rfl, Nat.le_of_ble_eq_true rfl⟩ (by decide +kernel) rfl rfl ⟨by decide, by decide, by decide⟩ ⟨rfl, rfl, Nat.le_of_ble_eq_true rfl, Nat.le_of_ble_eq_true rfl, Nat.le_of_ble_eq_true rfl⟩ dX5_openClause_12 (fun r_4 u_3 H locs hw hP hD hS => ?_)
  have hP : va_P D vwCl ([(a1, hcI k 401 (upd (fun _ => 0) 0 (-1))), (h0, .inr (5, [.ref a0, .int 0, .ref a1, .ref a2, .ref a3, .int 1, .int 0, .int 1])), (a2, hcI k 401 (upd (fun _ => 0) 0 0))]) H := hP
  have hD : va_D A ([(a1, hcI k 401 (upd (fun _ => 0) 0 (-1))), (h0, .inr (5, [.ref a0, .int 0, .ref a1, .ref a2, .ref a3, .int 1, .int 0, .int 1])), (a2, hcI k 401 (upd (fun _ => 0) 0 0))]) := hD
  obtain rfl : r_4 = 0 := hw
  exact hc_endZ hx hb hr hlocks rfl () rfl hP hD hS dX5_openClause_15
set_option maxHeartbeats 4000000 in
set_option maxRecDepth 100000 in
theorem c_X5_read (l : Launch) (D : va_G) (k : Nat → ClassId) (sz : Nat) (h0 : Nat) (a0 : Nat) (a1 : Nat) (a2 : Nat) (a3 : Nat) (r0 : Nat) (b0 : Nat) (b1 : Nat) (b2 : Nat) (b3 : Nat) (b4 : Nat) : CtI l yX5_read wsX5_read (rmK 3 0 0) [.ref h0, .ref r0] D k sz ([(h0, .inr (5, [.ref a0, .int 0, .ref a1, .ref a2, .ref a3, .int 0, .int 0, .int 0])), (a1, hcI k 401 (fun _ => 0)), (a2, hcI k 401 (fun _ => 0)), (a3, hcI k 401 (fun _ => 0)), (r0, .inr (3, [.ref b0, .ref b1, .ref b2, .ref b3, .ref b4, .int 0, .int 0, .int 0]))]) (fun (r : Int32) (_ : Unit) => r = 0) (fun _ : Unit => [(a3, hcI k 401 (upd (fun _ => 0) 0 0)), (r0, .inr (3, [.ref b0, .ref b1, .ref b2, .ref b3, .ref b4, .int 0, .int 0, .int 0])), (a1, hcI k 401 (upd (fun _ => 0) 0 (-1))), (h0, .inr (5, [.ref a0, .int 0, .ref a1, .ref a2, .ref a3, .int 1, .int 0, .int 1])), (a2, hcI k 401 (upd (fun _ => 0) 0 0))]) 0 0 := by
  refine CtI.mk (cc := cX5_read) (maxL := 5) (ret := (some .boolean)) (by decide) rfl (Nat.le_of_ble_eq_true rfl) ?_
  intro p e s m below meth c A ls E hP hD hS hl
  obtain ⟨hx, hb, hr, hml, hown, hts, hlocks, hin, hG, hA⟩ := E
  have hown : s.vm.findClass RX5 = some m.cls := hown
  have in4 : ∀ w ∈ u_ws RX4 TX4 8, w ∈ wsX5_read := fun _ h => List.mem_cons_of_mem _ (List.mem_append_left _ (List.mem_append_right _ h))
  have in7 : ∀ w ∈ u_ws RX7 TX7 8, w ∈ wsX5_read := fun _ h => List.mem_cons_of_mem _ (List.mem_append_right _ h)
  have hl : lv_has ls 5 [(0, .ref h0), (1, .ref r0)] := hl
  refine lv_aload_n hx hb dX5_read_0 rfl (lv_at hl 0 rfl) ?_
  refine hc_Vv (As := []) (rest := []) (n := 0) (wr := [(r0, .inr (3, [.ref b0, .ref b1, .ref b2, .ref b3, .ref b4, .int 0, .int 0, .int 0]))]) hx hb hml hown hts hG hA hP hD hS hl.1 [0, 1, 2, 3] [4] (c_X7_cutUp l D k _ h0 a0 a1 a2 a3) (ci := 5) (q0 := 0) rfl rfl gX5_read_X7_cutUp rfl ⟨rfl, rfl, Nat.le_of_ble_eq_true rfl, Nat.le_of_ble_eq_true rfl⟩ (by decide +kernel) rfl rfl ⟨by decide, by decide, by decide⟩ ⟨rfl, rfl, Nat.le_of_ble_eq_true rfl, Nat.le_of_ble_eq_true rfl, Nat.le_of_ble_eq_true rfl⟩ dX5_read_1 (fun u_1 H locs hw hP hD hS => ?_)
  have hP : va_P D vwCl ([(r0, .inr (3, [.ref b0, .ref b1, .ref b2, .ref b3, .ref b4, .int 0, .int 0, .int 0])), (h0, .inr (5, [.ref a0, .int 0, .ref a1, .ref a2, .ref a3, .int 1, .int 0, .int 0])), (a1, hcI k 401 (upd (fun _ => 0) 0 (-1))), (a2, hcI k 401 (upd (fun _ => 0) 0 0)), (a3, hcI k 401 (upd (fun _ => 0) 0 0))]) H := hP
  have hD : va_D A ([(r0, .inr (3, [.ref b0, .ref b1, .ref b2, .ref b3, .ref b4, .int 0, .int 0, .int 0])), (h0, .inr (5, [.ref a0, .int 0, .ref a1, .ref a2, .ref a3, .int 1, .int 0, .int 0])), (a1, hcI k 401 (upd (fun _ => 0) 0 (-1))), (a2, hcI k 401 (upd (fun _ => 0) 0 0)), (a3, hcI k 401 (upd (fun _ => 0) 0 0))]) := hD
  refine lv_aload_n hx hb dX5_read_4 rfl (lv_at hl 1 rfl) ?_
  refine hc_Vv (As := []) (rest := []) (n := 0) (wr := [(h0, .inr (5, [.ref a0, .int 0, .ref a1, .ref a2, .ref a3, .int 1, .int 0, .int 0])), (a1, hcI k 401 (upd (fun _ => 0) 0 (-1))), (a2, hcI k 401 (upd (fun _ => 0) 0 0)), (a3, hcI k 401 (upd (fun _ => 0) 0 0))]) hx hb hml hown hts hG hA hP hD hS hl.1 [0] [1, 2, 3, 4] (c_X4_clear l D k _ r0 b0 b1 b2 b3 b4) (ci := 3) (q0 := 0) rfl rfl gX5_read_X4_clear rfl ⟨rfl, rfl, Nat.le_of_ble_eq_true rfl, Nat.le_of_ble_eq_true rfl⟩ (by decide +kernel) rfl rfl ⟨by decide, by decide, by decide⟩ ⟨rfl, rfl, Nat.le_of_ble_eq_true rfl, Nat.le_of_ble_eq_true rfl, Nat.le_of_ble_eq_true rfl⟩ dX5_read_5 (fun u_3 H locs hw hP hD hS => ?_)
  have hP : va_P D vwCl ([(h0, .inr (5, [.ref a0, .int 0, .ref a1, .ref a2, .ref a3, .int 1, .int 0, .int 0])), (a1, hcI k 401 (upd (fun _ => 0) 0 (-1))), (a2, hcI k 401 (upd (fun _ => 0) 0 0)), (a3, hcI k 401 (upd (fun _ => 0) 0 0)), (r0, .inr (3, [.ref b0, .ref b1, .ref b2, .ref b3, .ref b4, .int 0, .int 0, .int 0]))]) H := hP
  have hD : va_D A ([(h0, .inr (5, [.ref a0, .int 0, .ref a1, .ref a2, .ref a3, .int 1, .int 0, .int 0])), (a1, hcI k 401 (upd (fun _ => 0) 0 (-1))), (a2, hcI k 401 (upd (fun _ => 0) 0 0)), (a3, hcI k 401 (upd (fun _ => 0) 0 0)), (r0, .inr (3, [.ref b0, .ref b1, .ref b2, .ref b3, .ref b4, .int 0, .int 0, .int 0]))]) := hD
  refine lv_iconst (v := 0) hx hb dX5_read_8 (by decide) ?_
  refine lv_istore_n (lv' := [(2, .int 0), (0, .ref h0), (1, .ref r0)]) hx hb dX5_read_9 rfl hl (by decide) rfl (fun ls hl => ?_)
  refine lv_iload_n hx hb dX5_read_10 rfl (lv_at hl 0 rfl) ?_
  refine lv_bipush (v := 12) hx hb dX5_read_11 (by decide) ?_
  refine lv_icmp_gt (tgt := 104) hx hb dX5_read_13 (by decide) (fun h => absurd h (by decide)) (fun _ => ?_)
  refine lv_aload_n hx hb dX5_read_16 rfl (lv_at hl 2 rfl) ?_
  refine va_get (D := D) (ci := 3) (v := .int 0) (C := RX4) (T := TX4) (N := 8) hx hb hts in4 hown hG.1 hP 4 rfl rfl 5 (by decide) (hts (.fieldLink RX5 19 "ChairCane$Rule" "length" "I") (by decide +kernel)) (fun _ h9 => h9) rfl dX5_read_17 ?_
  refine lv_istore_n (lv' := [(3, .int 0), (2, .int 0), (0, .ref h0), (1, .ref r0)]) hx hb dX5_read_20 rfl hl (by decide) rfl (fun ls hl => ?_)
  refine lv_aload_n hx hb dX5_read_21 rfl (lv_at hl 2 rfl) ?_
  refine lv_iload_n hx hb dX5_read_22 rfl (lv_at hl 1 rfl) ?_
  refine hc_Si (As := [.ref h0, .int 0]) (rest := []) (n := 2) (wr := [(a3, hcI k 401 (upd (fun _ => 0) 0 0)), (r0, .inr (3, [.ref b0, .ref b1, .ref b2, .ref b3, .ref b4, .int 0, .int 0, .int 0]))]) hx hb hml hown hts hG hA hP hD hS hl.1 [0, 1, 2] [3, 4] (c_X5_openClause l D k _ h0 a0 a1 a2 a3) gX5_read_X5_openClause rfl ⟨rfl, rfl, Nat.le_of_ble_eq_true rfl, Nat.le_of_ble_eq_true rfl⟩ (by decide +kernel) rfl rfl ⟨by decide, by decide, by decide⟩ ⟨rfl, rfl, Nat.le_of_ble_eq_true rfl, Nat.le_of_ble_eq_true rfl, Nat.le_of_ble_eq_true rfl⟩ dX5_read_23 (fun r_6 u_5 H locs hw hP hD hS => ?_)
  have hP : va_P D vwCl ([(a3, hcI k 401 (upd (fun _ => 0) 0 0)), (r0, .inr (3, [.ref b0, .ref b1, .ref b2, .ref b3, .ref b4, .int 0, .int 0, .int 0])), (a1, hcI k 401 (upd (fun _ => 0) 0 (-1))), (h0, .inr (5, [.ref a0, .int 0, .ref a1, .ref a2, .ref a3, .int 1, .int 0, .int 1])), (a2, hcI k 401 (upd (fun _ => 0) 0 0))]) H := hP
  have hD : va_D A ([(a3, hcI k 401 (upd (fun _ => 0) 0 0)), (r0, .inr (3, [.ref b0, .ref b1, .ref b2, .ref b3, .ref b4, .int 0, .int 0, .int 0])), (a1, hcI k 401 (upd (fun _ => 0) 0 (-1))), (h0, .inr (5, [.ref a0, .int 0, .ref a1, .ref a2, .ref a3, .int 1, .int 0, .int 1])), (a2, hcI k 401 (upd (fun _ => 0) 0 0))]) := hD
  obtain rfl : r_6 = 0 := hw
  refine lv_if_eq (tgt := 37) hx hb dX5_read_26 (by decide) (fun _ => ?_) (fun h => absurd (by decide) h)
  refine lv_iconst (v := 0) hx hb dX5_read_37 (by decide) ?_
  exact hc_endZ hx hb hr hlocks rfl () rfl hP hD hS dX5_read_38
set_option maxHeartbeats 4000000 in
set_option maxRecDepth 100000 in
theorem c_X3_copyFrom (l : Launch) (D : va_G) (k : Nat → ClassId) (sz : Nat) (h0 : Nat) (r0 : Nat) (a0 : Nat) (a1 : Nat) (a2 : Nat) (a3 : Nat) (a4 : Nat) (a5 : Nat) (a6 : Nat) (a7 : Nat) (b0 : Nat) (b1 : Nat) (b2 : Nat) (b3 : Nat) (b4 : Nat) (b5 : Nat) (b6 : Nat) (b7 : Nat) : CtV l yX3_copyFrom wsX3_copyFrom (rmK 1 0 0) [.ref h0, .ref r0] D k sz ([(h0, .inr (2, [.int 0, .int 0, .int 0, .int 0, .ref a0, .ref a1, .ref a2, .ref a3, .ref a4, .ref a5, .int 0, .int 0, .int 0, .ref a6, .ref a7, .int 0, .int 0])), (a0, hcI k 4 (fun _ => 0)), (a1, hcI k 8 (fun _ => 0)), (a2, hcI k 8 (fun _ => 0)), (a3, hcI k 8 (fun _ => 0)), (a4, hcI k 8 (fun _ => 0)), (a5, hcI k 4 (fun _ => 0)), (a6, hcI k 4 (fun _ => 0)), (a7, hcI k 4 (fun _ => 0)), (r0, .inr (2, [.int 0, .int 0, .int 0, .int 0, .ref b0, .ref b1, .ref b2, .ref b3, .ref b4, .ref b5, .int 0, .int 0, .int 0, .ref b6, .ref b7, .int 0, .int 0])), (b0, hcI k 4 (fun _ => 0)), (b1, hcI k 8 (fun _ => 0)), (b2, hcI k 8 (fun _ => 0)), (b3, hcI k 8 (fun _ => 0)), (b4, hcI k 8 (fun _ => 0)), (b5, hcI k 4 (fun _ => 0)), (b6, hcI k 4 (fun _ => 0)), (b7, hcI k 4 (fun _ => 0))]) (fun _ : Unit => True) (fun _ : Unit => [(r0, .inr (2, [.int 0, .int 0, .int 0, .int 0, .ref b0, .ref b1, .ref b2, .ref b3, .ref b4, .ref b5, .int 0, .int 0, .int 0, .ref b6, .ref b7, .int 0, .int 0])), (b0, hcI k 4 (fun _ => 0)), (b1, hcI k 8 (fun _ => 0)), (b2, hcI k 8 (fun _ => 0)), (b3, hcI k 8 (fun _ => 0)), (b4, hcI k 8 (fun _ => 0)), (b5, hcI k 4 (fun _ => 0)), (b6, hcI k 4 (fun _ => 0)), (b7, hcI k 4 (fun _ => 0))]) 0 0 := by
  refine CtV.mk (cc := cX3_copyFrom) (maxL := 2) (ret := none) (by decide) rfl (Nat.le_of_ble_eq_true rfl) ?_
  intro p e s m below meth c A ls E hP hD hS hl
  obtain ⟨hx, hb, hr, hml, hown, hts, hlocks, hin, hG, hA⟩ := E
  have hown : s.vm.findClass RX3 = some m.cls := hown
  have in3 : ∀ w ∈ u_ws RX3 TX3 17, w ∈ wsX3_copyFrom := fun _ h => List.mem_cons_of_mem _ (List.mem_append_right _ h)
  have hl : lv_has ls 2 [(0, .ref h0), (1, .ref r0)] := hl
  refine lv_aload_n hx hb dX3_copyFrom_0 rfl (lv_at hl 0 rfl) ?_
  refine lv_aload_n hx hb dX3_copyFrom_1 rfl (lv_at hl 1 rfl) ?_
  refine va_get (D := D) (ci := 2) (v := .int 0) (C := RX3) (T := TX3) (N := 17) hx hb hts in3 hown hG.1 hP 9 rfl rfl 0 (by decide) (hts (.fieldLink RX3 9 "ChairCane$Room" "told" "Z") (by decide +kernel)) (fun _ h9 => h9) rfl dX3_copyFrom_2 ?_
  refine va_put (D := D) (ci := 2) (v := .int 0) (C := RX3) (T := TX3) (N := 17) hx hb hts in3 tyX3 tyX3_ok nmX3 hown hG.1 hP hD hS 0 rfl rfl 0 (by decide) (hts (.fieldLink RX3 9 "ChairCane$Room" "told" "Z") (by decide +kernel)) (fun _ h9 => h9) rfl (tyX3_ok 0 (by decide)) rfl rfl (Nat.le_of_ble_eq_true rfl) dX3_copyFrom_5 (fun H locs hP hD hS => ?_)
  have hP : va_P D vwCl ([(h0, .inr (2, [.int 0, .int 0, .int 0, .int 0, .ref a0, .ref a1, .ref a2, .ref a3, .ref a4, .ref a5, .int 0, .int 0, .int 0, .ref a6, .ref a7, .int 0, .int 0])), (a0, hcI k 4 (fun _ => 0)), (a1, hcI k 8 (fun _ => 0)), (a2, hcI k 8 (fun _ => 0)), (a3, hcI k 8 (fun _ => 0)), (a4, hcI k 8 (fun _ => 0)), (a5, hcI k 4 (fun _ => 0)), (a6, hcI k 4 (fun _ => 0)), (a7, hcI k 4 (fun _ => 0)), (r0, .inr (2, [.int 0, .int 0, .int 0, .int 0, .ref b0, .ref b1, .ref b2, .ref b3, .ref b4, .ref b5, .int 0, .int 0, .int 0, .ref b6, .ref b7, .int 0, .int 0])), (b0, hcI k 4 (fun _ => 0)), (b1, hcI k 8 (fun _ => 0)), (b2, hcI k 8 (fun _ => 0)), (b3, hcI k 8 (fun _ => 0)), (b4, hcI k 8 (fun _ => 0)), (b5, hcI k 4 (fun _ => 0)), (b6, hcI k 4 (fun _ => 0)), (b7, hcI k 4 (fun _ => 0))]) H := hP
  have hD : va_D A ([(h0, .inr (2, [.int 0, .int 0, .int 0, .int 0, .ref a0, .ref a1, .ref a2, .ref a3, .ref a4, .ref a5, .int 0, .int 0, .int 0, .ref a6, .ref a7, .int 0, .int 0])), (a0, hcI k 4 (fun _ => 0)), (a1, hcI k 8 (fun _ => 0)), (a2, hcI k 8 (fun _ => 0)), (a3, hcI k 8 (fun _ => 0)), (a4, hcI k 8 (fun _ => 0)), (a5, hcI k 4 (fun _ => 0)), (a6, hcI k 4 (fun _ => 0)), (a7, hcI k 4 (fun _ => 0)), (r0, .inr (2, [.int 0, .int 0, .int 0, .int 0, .ref b0, .ref b1, .ref b2, .ref b3, .ref b4, .ref b5, .int 0, .int 0, .int 0, .ref b6, .ref b7, .int 0, .int 0])), (b0, hcI k 4 (fun _ => 0)), (b1, hcI k 8 (fun _ => 0)), (b2, hcI k 8 (fun _ => 0)), (b3, hcI k 8 (fun _ => 0)), (b4, hcI k 8 (fun _ => 0)), (b5, hcI k 4 (fun _ => 0)), (b6, hcI k 4 (fun _ => 0)), (b7, hcI k 4 (fun _ => 0))]) := hD
  refine lv_aload_n hx hb dX3_copyFrom_8 rfl (lv_at hl 0 rfl) ?_
  refine lv_aload_n hx hb dX3_copyFrom_9 rfl (lv_at hl 1 rfl) ?_
  refine va_get (D := D) (ci := 2) (v := .int 0) (C := RX3) (T := TX3) (N := 17) hx hb hts in3 hown hG.1 hP 9 rfl rfl 1 (by decide) (hts (.fieldLink RX3 15 "ChairCane$Room" "strands" "I") (by decide +kernel)) (fun _ h9 => h9) rfl dX3_copyFrom_10 ?_
  refine va_put (D := D) (ci := 2) (v := .int 0) (C := RX3) (T := TX3) (N := 17) hx hb hts in3 tyX3 tyX3_ok nmX3 hown hG.1 hP hD hS 0 rfl rfl 1 (by decide) (hts (.fieldLink RX3 15 "ChairCane$Room" "strands" "I") (by decide +kernel)) (fun _ h9 => h9) rfl (tyX3_ok 1 (by decide)) rfl rfl (Nat.le_of_ble_eq_true rfl) dX3_copyFrom_13 (fun H locs hP hD hS => ?_)
  have hP : va_P D vwCl ([(h0, .inr (2, [.int 0, .int 0, .int 0, .int 0, .ref a0, .ref a1, .ref a2, .ref a3, .ref a4, .ref a5, .int 0, .int 0, .int 0, .ref a6, .ref a7, .int 0, .int 0])), (a0, hcI k 4 (fun _ => 0)), (a1, hcI k 8 (fun _ => 0)), (a2, hcI k 8 (fun _ => 0)), (a3, hcI k 8 (fun _ => 0)), (a4, hcI k 8 (fun _ => 0)), (a5, hcI k 4 (fun _ => 0)), (a6, hcI k 4 (fun _ => 0)), (a7, hcI k 4 (fun _ => 0)), (r0, .inr (2, [.int 0, .int 0, .int 0, .int 0, .ref b0, .ref b1, .ref b2, .ref b3, .ref b4, .ref b5, .int 0, .int 0, .int 0, .ref b6, .ref b7, .int 0, .int 0])), (b0, hcI k 4 (fun _ => 0)), (b1, hcI k 8 (fun _ => 0)), (b2, hcI k 8 (fun _ => 0)), (b3, hcI k 8 (fun _ => 0)), (b4, hcI k 8 (fun _ => 0)), (b5, hcI k 4 (fun _ => 0)), (b6, hcI k 4 (fun _ => 0)), (b7, hcI k 4 (fun _ => 0))]) H := hP
  have hD : va_D A ([(h0, .inr (2, [.int 0, .int 0, .int 0, .int 0, .ref a0, .ref a1, .ref a2, .ref a3, .ref a4, .ref a5, .int 0, .int 0, .int 0, .ref a6, .ref a7, .int 0, .int 0])), (a0, hcI k 4 (fun _ => 0)), (a1, hcI k 8 (fun _ => 0)), (a2, hcI k 8 (fun _ => 0)), (a3, hcI k 8 (fun _ => 0)), (a4, hcI k 8 (fun _ => 0)), (a5, hcI k 4 (fun _ => 0)), (a6, hcI k 4 (fun _ => 0)), (a7, hcI k 4 (fun _ => 0)), (r0, .inr (2, [.int 0, .int 0, .int 0, .int 0, .ref b0, .ref b1, .ref b2, .ref b3, .ref b4, .ref b5, .int 0, .int 0, .int 0, .ref b6, .ref b7, .int 0, .int 0])), (b0, hcI k 4 (fun _ => 0)), (b1, hcI k 8 (fun _ => 0)), (b2, hcI k 8 (fun _ => 0)), (b3, hcI k 8 (fun _ => 0)), (b4, hcI k 8 (fun _ => 0)), (b5, hcI k 4 (fun _ => 0)), (b6, hcI k 4 (fun _ => 0)), (b7, hcI k 4 (fun _ => 0))]) := hD
  refine lv_aload_n hx hb dX3_copyFrom_16 rfl (lv_at hl 0 rfl) ?_
  refine lv_aload_n hx hb dX3_copyFrom_17 rfl (lv_at hl 1 rfl) ?_
  refine va_get (D := D) (ci := 2) (v := .int 0) (C := RX3) (T := TX3) (N := 17) hx hb hts in3 hown hG.1 hP 9 rfl rfl 2 (by decide) (hts (.fieldLink RX3 19 "ChairCane$Room" "chairs" "I") (by decide +kernel)) (fun _ h9 => h9) rfl dX3_copyFrom_18 ?_
  refine va_put (D := D) (ci := 2) (v := .int 0) (C := RX3) (T := TX3) (N := 17) hx hb hts in3 tyX3 tyX3_ok nmX3 hown hG.1 hP hD hS 0 rfl rfl 2 (by decide) (hts (.fieldLink RX3 19 "ChairCane$Room" "chairs" "I") (by decide +kernel)) (fun _ h9 => h9) rfl (tyX3_ok 2 (by decide)) rfl rfl (Nat.le_of_ble_eq_true rfl) dX3_copyFrom_21 (fun H locs hP hD hS => ?_)
  have hP : va_P D vwCl ([(h0, .inr (2, [.int 0, .int 0, .int 0, .int 0, .ref a0, .ref a1, .ref a2, .ref a3, .ref a4, .ref a5, .int 0, .int 0, .int 0, .ref a6, .ref a7, .int 0, .int 0])), (a0, hcI k 4 (fun _ => 0)), (a1, hcI k 8 (fun _ => 0)), (a2, hcI k 8 (fun _ => 0)), (a3, hcI k 8 (fun _ => 0)), (a4, hcI k 8 (fun _ => 0)), (a5, hcI k 4 (fun _ => 0)), (a6, hcI k 4 (fun _ => 0)), (a7, hcI k 4 (fun _ => 0)), (r0, .inr (2, [.int 0, .int 0, .int 0, .int 0, .ref b0, .ref b1, .ref b2, .ref b3, .ref b4, .ref b5, .int 0, .int 0, .int 0, .ref b6, .ref b7, .int 0, .int 0])), (b0, hcI k 4 (fun _ => 0)), (b1, hcI k 8 (fun _ => 0)), (b2, hcI k 8 (fun _ => 0)), (b3, hcI k 8 (fun _ => 0)), (b4, hcI k 8 (fun _ => 0)), (b5, hcI k 4 (fun _ => 0)), (b6, hcI k 4 (fun _ => 0)), (b7, hcI k 4 (fun _ => 0))]) H := hP
  have hD : va_D A ([(h0, .inr (2, [.int 0, .int 0, .int 0, .int 0, .ref a0, .ref a1, .ref a2, .ref a3, .ref a4, .ref a5, .int 0, .int 0, .int 0, .ref a6, .ref a7, .int 0, .int 0])), (a0, hcI k 4 (fun _ => 0)), (a1, hcI k 8 (fun _ => 0)), (a2, hcI k 8 (fun _ => 0)), (a3, hcI k 8 (fun _ => 0)), (a4, hcI k 8 (fun _ => 0)), (a5, hcI k 4 (fun _ => 0)), (a6, hcI k 4 (fun _ => 0)), (a7, hcI k 4 (fun _ => 0)), (r0, .inr (2, [.int 0, .int 0, .int 0, .int 0, .ref b0, .ref b1, .ref b2, .ref b3, .ref b4, .ref b5, .int 0, .int 0, .int 0, .ref b6, .ref b7, .int 0, .int 0])), (b0, hcI k 4 (fun _ => 0)), (b1, hcI k 8 (fun _ => 0)), (b2, hcI k 8 (fun _ => 0)), (b3, hcI k 8 (fun _ => 0)), (b4, hcI k 8 (fun _ => 0)), (b5, hcI k 4 (fun _ => 0)), (b6, hcI k 4 (fun _ => 0)), (b7, hcI k 4 (fun _ => 0))]) := hD
  refine lv_aload_n hx hb dX3_copyFrom_24 rfl (lv_at hl 0 rfl) ?_
  refine lv_aload_n hx hb dX3_copyFrom_25 rfl (lv_at hl 1 rfl) ?_
  refine va_get (D := D) (ci := 2) (v := .int 0) (C := RX3) (T := TX3) (N := 17) hx hb hts in3 hown hG.1 hP 9 rfl rfl 3 (by decide) (hts (.fieldLink RX3 22 "ChairCane$Room" "sitters" "I") (by decide +kernel)) (fun _ h9 => h9) rfl dX3_copyFrom_26 ?_
  refine va_put (D := D) (ci := 2) (v := .int 0) (C := RX3) (T := TX3) (N := 17) hx hb hts in3 tyX3 tyX3_ok nmX3 hown hG.1 hP hD hS 0 rfl rfl 3 (by decide) (hts (.fieldLink RX3 22 "ChairCane$Room" "sitters" "I") (by decide +kernel)) (fun _ h9 => h9) rfl (tyX3_ok 3 (by decide)) rfl rfl (Nat.le_of_ble_eq_true rfl) dX3_copyFrom_29 (fun H locs hP hD hS => ?_)
  have hP : va_P D vwCl ([(h0, .inr (2, [.int 0, .int 0, .int 0, .int 0, .ref a0, .ref a1, .ref a2, .ref a3, .ref a4, .ref a5, .int 0, .int 0, .int 0, .ref a6, .ref a7, .int 0, .int 0])), (a0, hcI k 4 (fun _ => 0)), (a1, hcI k 8 (fun _ => 0)), (a2, hcI k 8 (fun _ => 0)), (a3, hcI k 8 (fun _ => 0)), (a4, hcI k 8 (fun _ => 0)), (a5, hcI k 4 (fun _ => 0)), (a6, hcI k 4 (fun _ => 0)), (a7, hcI k 4 (fun _ => 0)), (r0, .inr (2, [.int 0, .int 0, .int 0, .int 0, .ref b0, .ref b1, .ref b2, .ref b3, .ref b4, .ref b5, .int 0, .int 0, .int 0, .ref b6, .ref b7, .int 0, .int 0])), (b0, hcI k 4 (fun _ => 0)), (b1, hcI k 8 (fun _ => 0)), (b2, hcI k 8 (fun _ => 0)), (b3, hcI k 8 (fun _ => 0)), (b4, hcI k 8 (fun _ => 0)), (b5, hcI k 4 (fun _ => 0)), (b6, hcI k 4 (fun _ => 0)), (b7, hcI k 4 (fun _ => 0))]) H := hP
  have hD : va_D A ([(h0, .inr (2, [.int 0, .int 0, .int 0, .int 0, .ref a0, .ref a1, .ref a2, .ref a3, .ref a4, .ref a5, .int 0, .int 0, .int 0, .ref a6, .ref a7, .int 0, .int 0])), (a0, hcI k 4 (fun _ => 0)), (a1, hcI k 8 (fun _ => 0)), (a2, hcI k 8 (fun _ => 0)), (a3, hcI k 8 (fun _ => 0)), (a4, hcI k 8 (fun _ => 0)), (a5, hcI k 4 (fun _ => 0)), (a6, hcI k 4 (fun _ => 0)), (a7, hcI k 4 (fun _ => 0)), (r0, .inr (2, [.int 0, .int 0, .int 0, .int 0, .ref b0, .ref b1, .ref b2, .ref b3, .ref b4, .ref b5, .int 0, .int 0, .int 0, .ref b6, .ref b7, .int 0, .int 0])), (b0, hcI k 4 (fun _ => 0)), (b1, hcI k 8 (fun _ => 0)), (b2, hcI k 8 (fun _ => 0)), (b3, hcI k 8 (fun _ => 0)), (b4, hcI k 8 (fun _ => 0)), (b5, hcI k 4 (fun _ => 0)), (b6, hcI k 4 (fun _ => 0)), (b7, hcI k 4 (fun _ => 0))]) := hD
  refine lv_aload_n hx hb dX3_copyFrom_32 rfl (lv_at hl 1 rfl) ?_
  refine va_get (D := D) (ci := 2) (v := .ref b0) (C := RX3) (T := TX3) (N := 17) hx hb hts in3 hown hG.1 hP 9 rfl rfl 4 (by decide) (hts (.fieldLink RX3 25 "ChairCane$Room" "toldCane" "[I") (by decide +kernel)) (fun _ h9 => h9) rfl dX3_copyFrom_33 ?_
  refine lv_iconst (v := 0) hx hb dX3_copyFrom_36 (by decide) ?_
  refine lv_aload_n hx hb dX3_copyFrom_37 rfl (lv_at hl 0 rfl) ?_
  refine va_get (D := D) (ci := 2) (v := .ref a0) (C := RX3) (T := TX3) (N := 17) hx hb hts in3 hown hG.1 hP 0 rfl rfl 4 (by decide) (hts (.fieldLink RX3 25 "ChairCane$Room" "toldCane" "[I") (by decide +kernel)) (fun _ h9 => h9) rfl dX3_copyFrom_38 ?_
  refine lv_iconst (v := 0) hx hb dX3_copyFrom_41 (by decide) ?_
  refine lv_iconst (v := 4) hx hb dX3_copyFrom_42 (by decide) ?_
  refine va_copyi hx hb (by rw [hml]; exact hl.1.symm) hown (hts (.methodLink RX3 65 arraycopyName) (by decide +kernel)) (hts (.native arraycopyName) (by decide +kernel)) (hts (.static arraycopyName) (by decide +kernel)) (hts (.initialized "java/lang/System") (by decide +kernel)) hG.1 hP hD hS 10 1 0 0 rfl rfl rfl rfl rfl (by decide) (by decide) (by decide) (by decide) (by decide) (fun _ _ => rfl) (Nat.le_of_ble_eq_true rfl) (Nat.le_of_ble_eq_true rfl) dX3_copyFrom_43 (fun H locs hP hD hS => ?_)
  generalize va_cpy (α := Int32) (fun _ => 0) (fun _ => 0) (Int32.toNatClampNeg 0) (Int32.toNatClampNeg 0) (Int32.toNatClampNeg 4) = f_1 at hP hD
  have hP : va_P D vwCl ([(h0, .inr (2, [.int 0, .int 0, .int 0, .int 0, .ref a0, .ref a1, .ref a2, .ref a3, .ref a4, .ref a5, .int 0, .int 0, .int 0, .ref a6, .ref a7, .int 0, .int 0])), (a0, hcI k 4 f_1), (a1, hcI k 8 (fun _ => 0)), (a2, hcI k 8 (fun _ => 0)), (a3, hcI k 8 (fun _ => 0)), (a4, hcI k 8 (fun _ => 0)), (a5, hcI k 4 (fun _ => 0)), (a6, hcI k 4 (fun _ => 0)), (a7, hcI k 4 (fun _ => 0)), (r0, .inr (2, [.int 0, .int 0, .int 0, .int 0, .ref b0, .ref b1, .ref b2, .ref b3, .ref b4, .ref b5, .int 0, .int 0, .int 0, .ref b6, .ref b7, .int 0, .int 0])), (b0, hcI k 4 (fun _ => 0)), (b1, hcI k 8 (fun _ => 0)), (b2, hcI k 8 (fun _ => 0)), (b3, hcI k 8 (fun _ => 0)), (b4, hcI k 8 (fun _ => 0)), (b5, hcI k 4 (fun _ => 0)), (b6, hcI k 4 (fun _ => 0)), (b7, hcI k 4 (fun _ => 0))]) H := hP
  have hD : va_D A ([(h0, .inr (2, [.int 0, .int 0, .int 0, .int 0, .ref a0, .ref a1, .ref a2, .ref a3, .ref a4, .ref a5, .int 0, .int 0, .int 0, .ref a6, .ref a7, .int 0, .int 0])), (a0, hcI k 4 f_1), (a1, hcI k 8 (fun _ => 0)), (a2, hcI k 8 (fun _ => 0)), (a3, hcI k 8 (fun _ => 0)), (a4, hcI k 8 (fun _ => 0)), (a5, hcI k 4 (fun _ => 0)), (a6, hcI k 4 (fun _ => 0)), (a7, hcI k 4 (fun _ => 0)), (r0, .inr (2, [.int 0, .int 0, .int 0, .int 0, .ref b0, .ref b1, .ref b2, .ref b3, .ref b4, .ref b5, .int 0, .int 0, .int 0, .ref b6, .ref b7, .int 0, .int 0])), (b0, hcI k 4 (fun _ => 0)), (b1, hcI k 8 (fun _ => 0)), (b2, hcI k 8 (fun _ => 0)), (b3, hcI k 8 (fun _ => 0)), (b4, hcI k 8 (fun _ => 0)), (b5, hcI k 4 (fun _ => 0)), (b6, hcI k 4 (fun _ => 0)), (b7, hcI k 4 (fun _ => 0))]) := hD
  refine lv_aload_n hx hb dX3_copyFrom_46 rfl (lv_at hl 1 rfl) ?_
  refine va_get (D := D) (ci := 2) (v := .ref b1) (C := RX3) (T := TX3) (N := 17) hx hb hts in3 hown hG.1 hP 9 rfl rfl 5 (by decide) (hts (.fieldLink RX3 29 "ChairCane$Room" "height" "[I") (by decide +kernel)) (fun _ h9 => h9) rfl dX3_copyFrom_47 ?_
  refine lv_iconst (v := 0) hx hb dX3_copyFrom_50 (by decide) ?_
  refine lv_aload_n hx hb dX3_copyFrom_51 rfl (lv_at hl 0 rfl) ?_
  refine va_get (D := D) (ci := 2) (v := .ref a1) (C := RX3) (T := TX3) (N := 17) hx hb hts in3 hown hG.1 hP 0 rfl rfl 5 (by decide) (hts (.fieldLink RX3 29 "ChairCane$Room" "height" "[I") (by decide +kernel)) (fun _ h9 => h9) rfl dX3_copyFrom_52 ?_
  refine lv_iconst (v := 0) hx hb dX3_copyFrom_55 (by decide) ?_
  refine lv_bipush (v := 8) hx hb dX3_copyFrom_56 (by decide) ?_
  refine va_copyi hx hb (by rw [hml]; exact hl.1.symm) hown (hts (.methodLink RX3 65 arraycopyName) (by decide +kernel)) (hts (.native arraycopyName) (by decide +kernel)) (hts (.static arraycopyName) (by decide +kernel)) (hts (.initialized "java/lang/System") (by decide +kernel)) hG.1 hP hD hS 11 2 0 0 rfl rfl rfl rfl rfl (by decide) (by decide) (by decide) (by decide) (by decide) (fun _ _ => rfl) (Nat.le_of_ble_eq_true rfl) (Nat.le_of_ble_eq_true rfl) dX3_copyFrom_58 (fun H locs hP hD hS => ?_)
  generalize va_cpy (α := Int32) (fun _ => 0) (fun _ => 0) (Int32.toNatClampNeg 0) (Int32.toNatClampNeg 0) (Int32.toNatClampNeg 8) = f_2 at hP hD
  have hP : va_P D vwCl ([(h0, .inr (2, [.int 0, .int 0, .int 0, .int 0, .ref a0, .ref a1, .ref a2, .ref a3, .ref a4, .ref a5, .int 0, .int 0, .int 0, .ref a6, .ref a7, .int 0, .int 0])), (a0, hcI k 4 f_1), (a1, hcI k 8 f_2), (a2, hcI k 8 (fun _ => 0)), (a3, hcI k 8 (fun _ => 0)), (a4, hcI k 8 (fun _ => 0)), (a5, hcI k 4 (fun _ => 0)), (a6, hcI k 4 (fun _ => 0)), (a7, hcI k 4 (fun _ => 0)), (r0, .inr (2, [.int 0, .int 0, .int 0, .int 0, .ref b0, .ref b1, .ref b2, .ref b3, .ref b4, .ref b5, .int 0, .int 0, .int 0, .ref b6, .ref b7, .int 0, .int 0])), (b0, hcI k 4 (fun _ => 0)), (b1, hcI k 8 (fun _ => 0)), (b2, hcI k 8 (fun _ => 0)), (b3, hcI k 8 (fun _ => 0)), (b4, hcI k 8 (fun _ => 0)), (b5, hcI k 4 (fun _ => 0)), (b6, hcI k 4 (fun _ => 0)), (b7, hcI k 4 (fun _ => 0))]) H := hP
  have hD : va_D A ([(h0, .inr (2, [.int 0, .int 0, .int 0, .int 0, .ref a0, .ref a1, .ref a2, .ref a3, .ref a4, .ref a5, .int 0, .int 0, .int 0, .ref a6, .ref a7, .int 0, .int 0])), (a0, hcI k 4 f_1), (a1, hcI k 8 f_2), (a2, hcI k 8 (fun _ => 0)), (a3, hcI k 8 (fun _ => 0)), (a4, hcI k 8 (fun _ => 0)), (a5, hcI k 4 (fun _ => 0)), (a6, hcI k 4 (fun _ => 0)), (a7, hcI k 4 (fun _ => 0)), (r0, .inr (2, [.int 0, .int 0, .int 0, .int 0, .ref b0, .ref b1, .ref b2, .ref b3, .ref b4, .ref b5, .int 0, .int 0, .int 0, .ref b6, .ref b7, .int 0, .int 0])), (b0, hcI k 4 (fun _ => 0)), (b1, hcI k 8 (fun _ => 0)), (b2, hcI k 8 (fun _ => 0)), (b3, hcI k 8 (fun _ => 0)), (b4, hcI k 8 (fun _ => 0)), (b5, hcI k 4 (fun _ => 0)), (b6, hcI k 4 (fun _ => 0)), (b7, hcI k 4 (fun _ => 0))]) := hD
  refine lv_aload_n hx hb dX3_copyFrom_61 rfl (lv_at hl 1 rfl) ?_
  refine va_get (D := D) (ci := 2) (v := .ref b2) (C := RX3) (T := TX3) (N := 17) hx hb hts in3 hown hG.1 hP 9 rfl rfl 6 (by decide) (hts (.fieldLink RX3 32 "ChairCane$Room" "strandOf" "[I") (by decide +kernel)) (fun _ h9 => h9) rfl dX3_copyFrom_62 ?_
  refine lv_iconst (v := 0) hx hb dX3_copyFrom_65 (by decide) ?_
  refine lv_aload_n hx hb dX3_copyFrom_66 rfl (lv_at hl 0 rfl) ?_
  refine va_get (D := D) (ci := 2) (v := .ref a2) (C := RX3) (T := TX3) (N := 17) hx hb hts in3 hown hG.1 hP 0 rfl rfl 6 (by decide) (hts (.fieldLink RX3 32 "ChairCane$Room" "strandOf" "[I") (by decide +kernel)) (fun _ h9 => h9) rfl dX3_copyFrom_67 ?_
  refine lv_iconst (v := 0) hx hb dX3_copyFrom_70 (by decide) ?_
  refine lv_bipush (v := 8) hx hb dX3_copyFrom_71 (by decide) ?_
  refine va_copyi hx hb (by rw [hml]; exact hl.1.symm) hown (hts (.methodLink RX3 65 arraycopyName) (by decide +kernel)) (hts (.native arraycopyName) (by decide +kernel)) (hts (.static arraycopyName) (by decide +kernel)) (hts (.initialized "java/lang/System") (by decide +kernel)) hG.1 hP hD hS 12 3 0 0 rfl rfl rfl rfl rfl (by decide) (by decide) (by decide) (by decide) (by decide) (fun _ _ => rfl) (Nat.le_of_ble_eq_true rfl) (Nat.le_of_ble_eq_true rfl) dX3_copyFrom_73 (fun H locs hP hD hS => ?_)
  generalize va_cpy (α := Int32) (fun _ => 0) (fun _ => 0) (Int32.toNatClampNeg 0) (Int32.toNatClampNeg 0) (Int32.toNatClampNeg 8) = f_3 at hP hD
  have hP : va_P D vwCl ([(h0, .inr (2, [.int 0, .int 0, .int 0, .int 0, .ref a0, .ref a1, .ref a2, .ref a3, .ref a4, .ref a5, .int 0, .int 0, .int 0, .ref a6, .ref a7, .int 0, .int 0])), (a0, hcI k 4 f_1), (a1, hcI k 8 f_2), (a2, hcI k 8 f_3), (a3, hcI k 8 (fun _ => 0)), (a4, hcI k 8 (fun _ => 0)), (a5, hcI k 4 (fun _ => 0)), (a6, hcI k 4 (fun _ => 0)), (a7, hcI k 4 (fun _ => 0)), (r0, .inr (2, [.int 0, .int 0, .int 0, .int 0, .ref b0, .ref b1, .ref b2, .ref b3, .ref b4, .ref b5, .int 0, .int 0, .int 0, .ref b6, .ref b7, .int 0, .int 0])), (b0, hcI k 4 (fun _ => 0)), (b1, hcI k 8 (fun _ => 0)), (b2, hcI k 8 (fun _ => 0)), (b3, hcI k 8 (fun _ => 0)), (b4, hcI k 8 (fun _ => 0)), (b5, hcI k 4 (fun _ => 0)), (b6, hcI k 4 (fun _ => 0)), (b7, hcI k 4 (fun _ => 0))]) H := hP
  have hD : va_D A ([(h0, .inr (2, [.int 0, .int 0, .int 0, .int 0, .ref a0, .ref a1, .ref a2, .ref a3, .ref a4, .ref a5, .int 0, .int 0, .int 0, .ref a6, .ref a7, .int 0, .int 0])), (a0, hcI k 4 f_1), (a1, hcI k 8 f_2), (a2, hcI k 8 f_3), (a3, hcI k 8 (fun _ => 0)), (a4, hcI k 8 (fun _ => 0)), (a5, hcI k 4 (fun _ => 0)), (a6, hcI k 4 (fun _ => 0)), (a7, hcI k 4 (fun _ => 0)), (r0, .inr (2, [.int 0, .int 0, .int 0, .int 0, .ref b0, .ref b1, .ref b2, .ref b3, .ref b4, .ref b5, .int 0, .int 0, .int 0, .ref b6, .ref b7, .int 0, .int 0])), (b0, hcI k 4 (fun _ => 0)), (b1, hcI k 8 (fun _ => 0)), (b2, hcI k 8 (fun _ => 0)), (b3, hcI k 8 (fun _ => 0)), (b4, hcI k 8 (fun _ => 0)), (b5, hcI k 4 (fun _ => 0)), (b6, hcI k 4 (fun _ => 0)), (b7, hcI k 4 (fun _ => 0))]) := hD
  refine lv_aload_n hx hb dX3_copyFrom_76 rfl (lv_at hl 1 rfl) ?_
  refine va_get (D := D) (ci := 2) (v := .ref b3) (C := RX3) (T := TX3) (N := 17) hx hb hts in3 hown hG.1 hP 9 rfl rfl 7 (by decide) (hts (.fieldLink RX3 35 "ChairCane$Room" "chairOf" "[I") (by decide +kernel)) (fun _ h9 => h9) rfl dX3_copyFrom_77 ?_
  refine lv_iconst (v := 0) hx hb dX3_copyFrom_80 (by decide) ?_
  refine lv_aload_n hx hb dX3_copyFrom_81 rfl (lv_at hl 0 rfl) ?_
  refine va_get (D := D) (ci := 2) (v := .ref a3) (C := RX3) (T := TX3) (N := 17) hx hb hts in3 hown hG.1 hP 0 rfl rfl 7 (by decide) (hts (.fieldLink RX3 35 "ChairCane$Room" "chairOf" "[I") (by decide +kernel)) (fun _ h9 => h9) rfl dX3_copyFrom_82 ?_
  refine lv_iconst (v := 0) hx hb dX3_copyFrom_85 (by decide) ?_
  refine lv_bipush (v := 8) hx hb dX3_copyFrom_86 (by decide) ?_
  refine va_copyi hx hb (by rw [hml]; exact hl.1.symm) hown (hts (.methodLink RX3 65 arraycopyName) (by decide +kernel)) (hts (.native arraycopyName) (by decide +kernel)) (hts (.static arraycopyName) (by decide +kernel)) (hts (.initialized "java/lang/System") (by decide +kernel)) hG.1 hP hD hS 13 4 0 0 rfl rfl rfl rfl rfl (by decide) (by decide) (by decide) (by decide) (by decide) (fun _ _ => rfl) (Nat.le_of_ble_eq_true rfl) (Nat.le_of_ble_eq_true rfl) dX3_copyFrom_88 (fun H locs hP hD hS => ?_)
  generalize va_cpy (α := Int32) (fun _ => 0) (fun _ => 0) (Int32.toNatClampNeg 0) (Int32.toNatClampNeg 0) (Int32.toNatClampNeg 8) = f_4 at hP hD
  have hP : va_P D vwCl ([(h0, .inr (2, [.int 0, .int 0, .int 0, .int 0, .ref a0, .ref a1, .ref a2, .ref a3, .ref a4, .ref a5, .int 0, .int 0, .int 0, .ref a6, .ref a7, .int 0, .int 0])), (a0, hcI k 4 f_1), (a1, hcI k 8 f_2), (a2, hcI k 8 f_3), (a3, hcI k 8 f_4), (a4, hcI k 8 (fun _ => 0)), (a5, hcI k 4 (fun _ => 0)), (a6, hcI k 4 (fun _ => 0)), (a7, hcI k 4 (fun _ => 0)), (r0, .inr (2, [.int 0, .int 0, .int 0, .int 0, .ref b0, .ref b1, .ref b2, .ref b3, .ref b4, .ref b5, .int 0, .int 0, .int 0, .ref b6, .ref b7, .int 0, .int 0])), (b0, hcI k 4 (fun _ => 0)), (b1, hcI k 8 (fun _ => 0)), (b2, hcI k 8 (fun _ => 0)), (b3, hcI k 8 (fun _ => 0)), (b4, hcI k 8 (fun _ => 0)), (b5, hcI k 4 (fun _ => 0)), (b6, hcI k 4 (fun _ => 0)), (b7, hcI k 4 (fun _ => 0))]) H := hP
  have hD : va_D A ([(h0, .inr (2, [.int 0, .int 0, .int 0, .int 0, .ref a0, .ref a1, .ref a2, .ref a3, .ref a4, .ref a5, .int 0, .int 0, .int 0, .ref a6, .ref a7, .int 0, .int 0])), (a0, hcI k 4 f_1), (a1, hcI k 8 f_2), (a2, hcI k 8 f_3), (a3, hcI k 8 f_4), (a4, hcI k 8 (fun _ => 0)), (a5, hcI k 4 (fun _ => 0)), (a6, hcI k 4 (fun _ => 0)), (a7, hcI k 4 (fun _ => 0)), (r0, .inr (2, [.int 0, .int 0, .int 0, .int 0, .ref b0, .ref b1, .ref b2, .ref b3, .ref b4, .ref b5, .int 0, .int 0, .int 0, .ref b6, .ref b7, .int 0, .int 0])), (b0, hcI k 4 (fun _ => 0)), (b1, hcI k 8 (fun _ => 0)), (b2, hcI k 8 (fun _ => 0)), (b3, hcI k 8 (fun _ => 0)), (b4, hcI k 8 (fun _ => 0)), (b5, hcI k 4 (fun _ => 0)), (b6, hcI k 4 (fun _ => 0)), (b7, hcI k 4 (fun _ => 0))]) := hD
  refine lv_aload_n hx hb dX3_copyFrom_91 rfl (lv_at hl 1 rfl) ?_
  refine va_get (D := D) (ci := 2) (v := .ref b4) (C := RX3) (T := TX3) (N := 17) hx hb hts in3 hown hG.1 hP 9 rfl rfl 8 (by decide) (hts (.fieldLink RX3 38 "ChairCane$Room" "weight" "[I") (by decide +kernel)) (fun _ h9 => h9) rfl dX3_copyFrom_92 ?_
  refine lv_iconst (v := 0) hx hb dX3_copyFrom_95 (by decide) ?_
  refine lv_aload_n hx hb dX3_copyFrom_96 rfl (lv_at hl 0 rfl) ?_
  refine va_get (D := D) (ci := 2) (v := .ref a4) (C := RX3) (T := TX3) (N := 17) hx hb hts in3 hown hG.1 hP 0 rfl rfl 8 (by decide) (hts (.fieldLink RX3 38 "ChairCane$Room" "weight" "[I") (by decide +kernel)) (fun _ h9 => h9) rfl dX3_copyFrom_97 ?_
  refine lv_iconst (v := 0) hx hb dX3_copyFrom_100 (by decide) ?_
  refine lv_bipush (v := 8) hx hb dX3_copyFrom_101 (by decide) ?_
  refine va_copyi hx hb (by rw [hml]; exact hl.1.symm) hown (hts (.methodLink RX3 65 arraycopyName) (by decide +kernel)) (hts (.native arraycopyName) (by decide +kernel)) (hts (.static arraycopyName) (by decide +kernel)) (hts (.initialized "java/lang/System") (by decide +kernel)) hG.1 hP hD hS 14 5 0 0 rfl rfl rfl rfl rfl (by decide) (by decide) (by decide) (by decide) (by decide) (fun _ _ => rfl) (Nat.le_of_ble_eq_true rfl) (Nat.le_of_ble_eq_true rfl) dX3_copyFrom_103 (fun H locs hP hD hS => ?_)
  generalize va_cpy (α := Int32) (fun _ => 0) (fun _ => 0) (Int32.toNatClampNeg 0) (Int32.toNatClampNeg 0) (Int32.toNatClampNeg 8) = f_5 at hP hD
  have hP : va_P D vwCl ([(h0, .inr (2, [.int 0, .int 0, .int 0, .int 0, .ref a0, .ref a1, .ref a2, .ref a3, .ref a4, .ref a5, .int 0, .int 0, .int 0, .ref a6, .ref a7, .int 0, .int 0])), (a0, hcI k 4 f_1), (a1, hcI k 8 f_2), (a2, hcI k 8 f_3), (a3, hcI k 8 f_4), (a4, hcI k 8 f_5), (a5, hcI k 4 (fun _ => 0)), (a6, hcI k 4 (fun _ => 0)), (a7, hcI k 4 (fun _ => 0)), (r0, .inr (2, [.int 0, .int 0, .int 0, .int 0, .ref b0, .ref b1, .ref b2, .ref b3, .ref b4, .ref b5, .int 0, .int 0, .int 0, .ref b6, .ref b7, .int 0, .int 0])), (b0, hcI k 4 (fun _ => 0)), (b1, hcI k 8 (fun _ => 0)), (b2, hcI k 8 (fun _ => 0)), (b3, hcI k 8 (fun _ => 0)), (b4, hcI k 8 (fun _ => 0)), (b5, hcI k 4 (fun _ => 0)), (b6, hcI k 4 (fun _ => 0)), (b7, hcI k 4 (fun _ => 0))]) H := hP
  have hD : va_D A ([(h0, .inr (2, [.int 0, .int 0, .int 0, .int 0, .ref a0, .ref a1, .ref a2, .ref a3, .ref a4, .ref a5, .int 0, .int 0, .int 0, .ref a6, .ref a7, .int 0, .int 0])), (a0, hcI k 4 f_1), (a1, hcI k 8 f_2), (a2, hcI k 8 f_3), (a3, hcI k 8 f_4), (a4, hcI k 8 f_5), (a5, hcI k 4 (fun _ => 0)), (a6, hcI k 4 (fun _ => 0)), (a7, hcI k 4 (fun _ => 0)), (r0, .inr (2, [.int 0, .int 0, .int 0, .int 0, .ref b0, .ref b1, .ref b2, .ref b3, .ref b4, .ref b5, .int 0, .int 0, .int 0, .ref b6, .ref b7, .int 0, .int 0])), (b0, hcI k 4 (fun _ => 0)), (b1, hcI k 8 (fun _ => 0)), (b2, hcI k 8 (fun _ => 0)), (b3, hcI k 8 (fun _ => 0)), (b4, hcI k 8 (fun _ => 0)), (b5, hcI k 4 (fun _ => 0)), (b6, hcI k 4 (fun _ => 0)), (b7, hcI k 4 (fun _ => 0))]) := hD
  refine lv_aload_n hx hb dX3_copyFrom_106 rfl (lv_at hl 1 rfl) ?_
  refine va_get (D := D) (ci := 2) (v := .ref b5) (C := RX3) (T := TX3) (N := 17) hx hb hts in3 hown hG.1 hP 9 rfl rfl 9 (by decide) (hts (.fieldLink RX3 41 "ChairCane$Room" "cane" "[I") (by decide +kernel)) (fun _ h9 => h9) rfl dX3_copyFrom_107 ?_
  refine lv_iconst (v := 0) hx hb dX3_copyFrom_110 (by decide) ?_
  refine lv_aload_n hx hb dX3_copyFrom_111 rfl (lv_at hl 0 rfl) ?_
  refine va_get (D := D) (ci := 2) (v := .ref a5) (C := RX3) (T := TX3) (N := 17) hx hb hts in3 hown hG.1 hP 0 rfl rfl 9 (by decide) (hts (.fieldLink RX3 41 "ChairCane$Room" "cane" "[I") (by decide +kernel)) (fun _ h9 => h9) rfl dX3_copyFrom_112 ?_
  refine lv_iconst (v := 0) hx hb dX3_copyFrom_115 (by decide) ?_
  refine lv_iconst (v := 4) hx hb dX3_copyFrom_116 (by decide) ?_
  refine va_copyi hx hb (by rw [hml]; exact hl.1.symm) hown (hts (.methodLink RX3 65 arraycopyName) (by decide +kernel)) (hts (.native arraycopyName) (by decide +kernel)) (hts (.static arraycopyName) (by decide +kernel)) (hts (.initialized "java/lang/System") (by decide +kernel)) hG.1 hP hD hS 15 6 0 0 rfl rfl rfl rfl rfl (by decide) (by decide) (by decide) (by decide) (by decide) (fun _ _ => rfl) (Nat.le_of_ble_eq_true rfl) (Nat.le_of_ble_eq_true rfl) dX3_copyFrom_117 (fun H locs hP hD hS => ?_)
  generalize va_cpy (α := Int32) (fun _ => 0) (fun _ => 0) (Int32.toNatClampNeg 0) (Int32.toNatClampNeg 0) (Int32.toNatClampNeg 4) = f_6 at hP hD
  have hP : va_P D vwCl ([(h0, .inr (2, [.int 0, .int 0, .int 0, .int 0, .ref a0, .ref a1, .ref a2, .ref a3, .ref a4, .ref a5, .int 0, .int 0, .int 0, .ref a6, .ref a7, .int 0, .int 0])), (a0, hcI k 4 f_1), (a1, hcI k 8 f_2), (a2, hcI k 8 f_3), (a3, hcI k 8 f_4), (a4, hcI k 8 f_5), (a5, hcI k 4 f_6), (a6, hcI k 4 (fun _ => 0)), (a7, hcI k 4 (fun _ => 0)), (r0, .inr (2, [.int 0, .int 0, .int 0, .int 0, .ref b0, .ref b1, .ref b2, .ref b3, .ref b4, .ref b5, .int 0, .int 0, .int 0, .ref b6, .ref b7, .int 0, .int 0])), (b0, hcI k 4 (fun _ => 0)), (b1, hcI k 8 (fun _ => 0)), (b2, hcI k 8 (fun _ => 0)), (b3, hcI k 8 (fun _ => 0)), (b4, hcI k 8 (fun _ => 0)), (b5, hcI k 4 (fun _ => 0)), (b6, hcI k 4 (fun _ => 0)), (b7, hcI k 4 (fun _ => 0))]) H := hP
  have hD : va_D A ([(h0, .inr (2, [.int 0, .int 0, .int 0, .int 0, .ref a0, .ref a1, .ref a2, .ref a3, .ref a4, .ref a5, .int 0, .int 0, .int 0, .ref a6, .ref a7, .int 0, .int 0])), (a0, hcI k 4 f_1), (a1, hcI k 8 f_2), (a2, hcI k 8 f_3), (a3, hcI k 8 f_4), (a4, hcI k 8 f_5), (a5, hcI k 4 f_6), (a6, hcI k 4 (fun _ => 0)), (a7, hcI k 4 (fun _ => 0)), (r0, .inr (2, [.int 0, .int 0, .int 0, .int 0, .ref b0, .ref b1, .ref b2, .ref b3, .ref b4, .ref b5, .int 0, .int 0, .int 0, .ref b6, .ref b7, .int 0, .int 0])), (b0, hcI k 4 (fun _ => 0)), (b1, hcI k 8 (fun _ => 0)), (b2, hcI k 8 (fun _ => 0)), (b3, hcI k 8 (fun _ => 0)), (b4, hcI k 8 (fun _ => 0)), (b5, hcI k 4 (fun _ => 0)), (b6, hcI k 4 (fun _ => 0)), (b7, hcI k 4 (fun _ => 0))]) := hD
  refine lv_aload_n hx hb dX3_copyFrom_120 rfl (lv_at hl 1 rfl) ?_
  refine va_get (D := D) (ci := 2) (v := .ref b6) (C := RX3) (T := TX3) (N := 17) hx hb hts in3 hown hG.1 hP 9 rfl rfl 13 (by decide) (hts (.fieldLink RX3 53 "ChairCane$Room" "load" "[I") (by decide +kernel)) (fun _ h9 => h9) rfl dX3_copyFrom_121 ?_
  refine lv_iconst (v := 0) hx hb dX3_copyFrom_124 (by decide) ?_
  refine lv_aload_n hx hb dX3_copyFrom_125 rfl (lv_at hl 0 rfl) ?_
  refine va_get (D := D) (ci := 2) (v := .ref a6) (C := RX3) (T := TX3) (N := 17) hx hb hts in3 hown hG.1 hP 0 rfl rfl 13 (by decide) (hts (.fieldLink RX3 53 "ChairCane$Room" "load" "[I") (by decide +kernel)) (fun _ h9 => h9) rfl dX3_copyFrom_126 ?_
  refine lv_iconst (v := 0) hx hb dX3_copyFrom_129 (by decide) ?_
  refine lv_iconst (v := 4) hx hb dX3_copyFrom_130 (by decide) ?_
  refine va_copyi hx hb (by rw [hml]; exact hl.1.symm) hown (hts (.methodLink RX3 65 arraycopyName) (by decide +kernel)) (hts (.native arraycopyName) (by decide +kernel)) (hts (.static arraycopyName) (by decide +kernel)) (hts (.initialized "java/lang/System") (by decide +kernel)) hG.1 hP hD hS 16 7 0 0 rfl rfl rfl rfl rfl (by decide) (by decide) (by decide) (by decide) (by decide) (fun _ _ => rfl) (Nat.le_of_ble_eq_true rfl) (Nat.le_of_ble_eq_true rfl) dX3_copyFrom_131 (fun H locs hP hD hS => ?_)
  generalize va_cpy (α := Int32) (fun _ => 0) (fun _ => 0) (Int32.toNatClampNeg 0) (Int32.toNatClampNeg 0) (Int32.toNatClampNeg 4) = f_7 at hP hD
  have hP : va_P D vwCl ([(h0, .inr (2, [.int 0, .int 0, .int 0, .int 0, .ref a0, .ref a1, .ref a2, .ref a3, .ref a4, .ref a5, .int 0, .int 0, .int 0, .ref a6, .ref a7, .int 0, .int 0])), (a0, hcI k 4 f_1), (a1, hcI k 8 f_2), (a2, hcI k 8 f_3), (a3, hcI k 8 f_4), (a4, hcI k 8 f_5), (a5, hcI k 4 f_6), (a6, hcI k 4 f_7), (a7, hcI k 4 (fun _ => 0)), (r0, .inr (2, [.int 0, .int 0, .int 0, .int 0, .ref b0, .ref b1, .ref b2, .ref b3, .ref b4, .ref b5, .int 0, .int 0, .int 0, .ref b6, .ref b7, .int 0, .int 0])), (b0, hcI k 4 (fun _ => 0)), (b1, hcI k 8 (fun _ => 0)), (b2, hcI k 8 (fun _ => 0)), (b3, hcI k 8 (fun _ => 0)), (b4, hcI k 8 (fun _ => 0)), (b5, hcI k 4 (fun _ => 0)), (b6, hcI k 4 (fun _ => 0)), (b7, hcI k 4 (fun _ => 0))]) H := hP
  have hD : va_D A ([(h0, .inr (2, [.int 0, .int 0, .int 0, .int 0, .ref a0, .ref a1, .ref a2, .ref a3, .ref a4, .ref a5, .int 0, .int 0, .int 0, .ref a6, .ref a7, .int 0, .int 0])), (a0, hcI k 4 f_1), (a1, hcI k 8 f_2), (a2, hcI k 8 f_3), (a3, hcI k 8 f_4), (a4, hcI k 8 f_5), (a5, hcI k 4 f_6), (a6, hcI k 4 f_7), (a7, hcI k 4 (fun _ => 0)), (r0, .inr (2, [.int 0, .int 0, .int 0, .int 0, .ref b0, .ref b1, .ref b2, .ref b3, .ref b4, .ref b5, .int 0, .int 0, .int 0, .ref b6, .ref b7, .int 0, .int 0])), (b0, hcI k 4 (fun _ => 0)), (b1, hcI k 8 (fun _ => 0)), (b2, hcI k 8 (fun _ => 0)), (b3, hcI k 8 (fun _ => 0)), (b4, hcI k 8 (fun _ => 0)), (b5, hcI k 4 (fun _ => 0)), (b6, hcI k 4 (fun _ => 0)), (b7, hcI k 4 (fun _ => 0))]) := hD
  refine lv_aload_n hx hb dX3_copyFrom_134 rfl (lv_at hl 1 rfl) ?_
  refine va_get (D := D) (ci := 2) (v := .ref b7) (C := RX3) (T := TX3) (N := 17) hx hb hts in3 hown hG.1 hP 9 rfl rfl 14 (by decide) (hts (.fieldLink RX3 56 "ChairCane$Room" "heads" "[I") (by decide +kernel)) (fun _ h9 => h9) rfl dX3_copyFrom_135 ?_
  refine lv_iconst (v := 0) hx hb dX3_copyFrom_138 (by decide) ?_
  refine lv_aload_n hx hb dX3_copyFrom_139 rfl (lv_at hl 0 rfl) ?_
  refine va_get (D := D) (ci := 2) (v := .ref a7) (C := RX3) (T := TX3) (N := 17) hx hb hts in3 hown hG.1 hP 0 rfl rfl 14 (by decide) (hts (.fieldLink RX3 56 "ChairCane$Room" "heads" "[I") (by decide +kernel)) (fun _ h9 => h9) rfl dX3_copyFrom_140 ?_
  refine lv_iconst (v := 0) hx hb dX3_copyFrom_143 (by decide) ?_
  refine lv_iconst (v := 4) hx hb dX3_copyFrom_144 (by decide) ?_
  refine va_copyi hx hb (by rw [hml]; exact hl.1.symm) hown (hts (.methodLink RX3 65 arraycopyName) (by decide +kernel)) (hts (.native arraycopyName) (by decide +kernel)) (hts (.static arraycopyName) (by decide +kernel)) (hts (.initialized "java/lang/System") (by decide +kernel)) hG.1 hP hD hS 17 8 0 0 rfl rfl rfl rfl rfl (by decide) (by decide) (by decide) (by decide) (by decide) (fun _ _ => rfl) (Nat.le_of_ble_eq_true rfl) (Nat.le_of_ble_eq_true rfl) dX3_copyFrom_145 (fun H locs hP hD hS => ?_)
  generalize va_cpy (α := Int32) (fun _ => 0) (fun _ => 0) (Int32.toNatClampNeg 0) (Int32.toNatClampNeg 0) (Int32.toNatClampNeg 4) = f_8 at hP hD
  have hP : va_P D vwCl ([(h0, .inr (2, [.int 0, .int 0, .int 0, .int 0, .ref a0, .ref a1, .ref a2, .ref a3, .ref a4, .ref a5, .int 0, .int 0, .int 0, .ref a6, .ref a7, .int 0, .int 0])), (a0, hcI k 4 f_1), (a1, hcI k 8 f_2), (a2, hcI k 8 f_3), (a3, hcI k 8 f_4), (a4, hcI k 8 f_5), (a5, hcI k 4 f_6), (a6, hcI k 4 f_7), (a7, hcI k 4 f_8), (r0, .inr (2, [.int 0, .int 0, .int 0, .int 0, .ref b0, .ref b1, .ref b2, .ref b3, .ref b4, .ref b5, .int 0, .int 0, .int 0, .ref b6, .ref b7, .int 0, .int 0])), (b0, hcI k 4 (fun _ => 0)), (b1, hcI k 8 (fun _ => 0)), (b2, hcI k 8 (fun _ => 0)), (b3, hcI k 8 (fun _ => 0)), (b4, hcI k 8 (fun _ => 0)), (b5, hcI k 4 (fun _ => 0)), (b6, hcI k 4 (fun _ => 0)), (b7, hcI k 4 (fun _ => 0))]) H := hP
  have hD : va_D A ([(h0, .inr (2, [.int 0, .int 0, .int 0, .int 0, .ref a0, .ref a1, .ref a2, .ref a3, .ref a4, .ref a5, .int 0, .int 0, .int 0, .ref a6, .ref a7, .int 0, .int 0])), (a0, hcI k 4 f_1), (a1, hcI k 8 f_2), (a2, hcI k 8 f_3), (a3, hcI k 8 f_4), (a4, hcI k 8 f_5), (a5, hcI k 4 f_6), (a6, hcI k 4 f_7), (a7, hcI k 4 f_8), (r0, .inr (2, [.int 0, .int 0, .int 0, .int 0, .ref b0, .ref b1, .ref b2, .ref b3, .ref b4, .ref b5, .int 0, .int 0, .int 0, .ref b6, .ref b7, .int 0, .int 0])), (b0, hcI k 4 (fun _ => 0)), (b1, hcI k 8 (fun _ => 0)), (b2, hcI k 8 (fun _ => 0)), (b3, hcI k 8 (fun _ => 0)), (b4, hcI k 8 (fun _ => 0)), (b5, hcI k 4 (fun _ => 0)), (b6, hcI k 4 (fun _ => 0)), (b7, hcI k 4 (fun _ => 0))]) := hD
  refine lv_aload_n hx hb dX3_copyFrom_148 rfl (lv_at hl 0 rfl) ?_
  refine lv_aload_n hx hb dX3_copyFrom_149 rfl (lv_at hl 1 rfl) ?_
  refine va_get (D := D) (ci := 2) (v := .int 0) (C := RX3) (T := TX3) (N := 17) hx hb hts in3 hown hG.1 hP 9 rfl rfl 10 (by decide) (hts (.fieldLink RX3 44 "ChairCane$Room" "sits" "I") (by decide +kernel)) (fun _ h9 => h9) rfl dX3_copyFrom_150 ?_
  refine va_put (D := D) (ci := 2) (v := .int 0) (C := RX3) (T := TX3) (N := 17) hx hb hts in3 tyX3 tyX3_ok nmX3 hown hG.1 hP hD hS 0 rfl rfl 10 (by decide) (hts (.fieldLink RX3 44 "ChairCane$Room" "sits" "I") (by decide +kernel)) (fun _ h9 => h9) rfl (tyX3_ok 10 (by decide)) rfl rfl (Nat.le_of_ble_eq_true rfl) dX3_copyFrom_153 (fun H locs hP hD hS => ?_)
  have hP : va_P D vwCl ([(h0, .inr (2, [.int 0, .int 0, .int 0, .int 0, .ref a0, .ref a1, .ref a2, .ref a3, .ref a4, .ref a5, .int 0, .int 0, .int 0, .ref a6, .ref a7, .int 0, .int 0])), (a0, hcI k 4 f_1), (a1, hcI k 8 f_2), (a2, hcI k 8 f_3), (a3, hcI k 8 f_4), (a4, hcI k 8 f_5), (a5, hcI k 4 f_6), (a6, hcI k 4 f_7), (a7, hcI k 4 f_8), (r0, .inr (2, [.int 0, .int 0, .int 0, .int 0, .ref b0, .ref b1, .ref b2, .ref b3, .ref b4, .ref b5, .int 0, .int 0, .int 0, .ref b6, .ref b7, .int 0, .int 0])), (b0, hcI k 4 (fun _ => 0)), (b1, hcI k 8 (fun _ => 0)), (b2, hcI k 8 (fun _ => 0)), (b3, hcI k 8 (fun _ => 0)), (b4, hcI k 8 (fun _ => 0)), (b5, hcI k 4 (fun _ => 0)), (b6, hcI k 4 (fun _ => 0)), (b7, hcI k 4 (fun _ => 0))]) H := hP
  have hD : va_D A ([(h0, .inr (2, [.int 0, .int 0, .int 0, .int 0, .ref a0, .ref a1, .ref a2, .ref a3, .ref a4, .ref a5, .int 0, .int 0, .int 0, .ref a6, .ref a7, .int 0, .int 0])), (a0, hcI k 4 f_1), (a1, hcI k 8 f_2), (a2, hcI k 8 f_3), (a3, hcI k 8 f_4), (a4, hcI k 8 f_5), (a5, hcI k 4 f_6), (a6, hcI k 4 f_7), (a7, hcI k 4 f_8), (r0, .inr (2, [.int 0, .int 0, .int 0, .int 0, .ref b0, .ref b1, .ref b2, .ref b3, .ref b4, .ref b5, .int 0, .int 0, .int 0, .ref b6, .ref b7, .int 0, .int 0])), (b0, hcI k 4 (fun _ => 0)), (b1, hcI k 8 (fun _ => 0)), (b2, hcI k 8 (fun _ => 0)), (b3, hcI k 8 (fun _ => 0)), (b4, hcI k 8 (fun _ => 0)), (b5, hcI k 4 (fun _ => 0)), (b6, hcI k 4 (fun _ => 0)), (b7, hcI k 4 (fun _ => 0))]) := hD
  refine lv_aload_n hx hb dX3_copyFrom_156 rfl (lv_at hl 0 rfl) ?_
  refine lv_aload_n hx hb dX3_copyFrom_157 rfl (lv_at hl 1 rfl) ?_
  refine va_get (D := D) (ci := 2) (v := .int 0) (C := RX3) (T := TX3) (N := 17) hx hb hts in3 hown hG.1 hP 9 rfl rfl 11 (by decide) (hts (.fieldLink RX3 47 "ChairCane$Room" "dropped" "I") (by decide +kernel)) (fun _ h9 => h9) rfl dX3_copyFrom_158 ?_
  refine va_put (D := D) (ci := 2) (v := .int 0) (C := RX3) (T := TX3) (N := 17) hx hb hts in3 tyX3 tyX3_ok nmX3 hown hG.1 hP hD hS 0 rfl rfl 11 (by decide) (hts (.fieldLink RX3 47 "ChairCane$Room" "dropped" "I") (by decide +kernel)) (fun _ h9 => h9) rfl (tyX3_ok 11 (by decide)) rfl rfl (Nat.le_of_ble_eq_true rfl) dX3_copyFrom_161 (fun H locs hP hD hS => ?_)
  have hP : va_P D vwCl ([(h0, .inr (2, [.int 0, .int 0, .int 0, .int 0, .ref a0, .ref a1, .ref a2, .ref a3, .ref a4, .ref a5, .int 0, .int 0, .int 0, .ref a6, .ref a7, .int 0, .int 0])), (a0, hcI k 4 f_1), (a1, hcI k 8 f_2), (a2, hcI k 8 f_3), (a3, hcI k 8 f_4), (a4, hcI k 8 f_5), (a5, hcI k 4 f_6), (a6, hcI k 4 f_7), (a7, hcI k 4 f_8), (r0, .inr (2, [.int 0, .int 0, .int 0, .int 0, .ref b0, .ref b1, .ref b2, .ref b3, .ref b4, .ref b5, .int 0, .int 0, .int 0, .ref b6, .ref b7, .int 0, .int 0])), (b0, hcI k 4 (fun _ => 0)), (b1, hcI k 8 (fun _ => 0)), (b2, hcI k 8 (fun _ => 0)), (b3, hcI k 8 (fun _ => 0)), (b4, hcI k 8 (fun _ => 0)), (b5, hcI k 4 (fun _ => 0)), (b6, hcI k 4 (fun _ => 0)), (b7, hcI k 4 (fun _ => 0))]) H := hP
  have hD : va_D A ([(h0, .inr (2, [.int 0, .int 0, .int 0, .int 0, .ref a0, .ref a1, .ref a2, .ref a3, .ref a4, .ref a5, .int 0, .int 0, .int 0, .ref a6, .ref a7, .int 0, .int 0])), (a0, hcI k 4 f_1), (a1, hcI k 8 f_2), (a2, hcI k 8 f_3), (a3, hcI k 8 f_4), (a4, hcI k 8 f_5), (a5, hcI k 4 f_6), (a6, hcI k 4 f_7), (a7, hcI k 4 f_8), (r0, .inr (2, [.int 0, .int 0, .int 0, .int 0, .ref b0, .ref b1, .ref b2, .ref b3, .ref b4, .ref b5, .int 0, .int 0, .int 0, .ref b6, .ref b7, .int 0, .int 0])), (b0, hcI k 4 (fun _ => 0)), (b1, hcI k 8 (fun _ => 0)), (b2, hcI k 8 (fun _ => 0)), (b3, hcI k 8 (fun _ => 0)), (b4, hcI k 8 (fun _ => 0)), (b5, hcI k 4 (fun _ => 0)), (b6, hcI k 4 (fun _ => 0)), (b7, hcI k 4 (fun _ => 0))]) := hD
  refine lv_aload_n hx hb dX3_copyFrom_164 rfl (lv_at hl 0 rfl) ?_
  refine lv_aload_n hx hb dX3_copyFrom_165 rfl (lv_at hl 1 rfl) ?_
  refine va_get (D := D) (ci := 2) (v := .int 0) (C := RX3) (T := TX3) (N := 17) hx hb hts in3 hown hG.1 hP 9 rfl rfl 12 (by decide) (hts (.fieldLink RX3 50 "ChairCane$Room" "minute" "I") (by decide +kernel)) (fun _ h9 => h9) rfl dX3_copyFrom_166 ?_
  refine va_put (D := D) (ci := 2) (v := .int 0) (C := RX3) (T := TX3) (N := 17) hx hb hts in3 tyX3 tyX3_ok nmX3 hown hG.1 hP hD hS 0 rfl rfl 12 (by decide) (hts (.fieldLink RX3 50 "ChairCane$Room" "minute" "I") (by decide +kernel)) (fun _ h9 => h9) rfl (tyX3_ok 12 (by decide)) rfl rfl (Nat.le_of_ble_eq_true rfl) dX3_copyFrom_169 (fun H locs hP hD hS => ?_)
  have hP : va_P D vwCl ([(h0, .inr (2, [.int 0, .int 0, .int 0, .int 0, .ref a0, .ref a1, .ref a2, .ref a3, .ref a4, .ref a5, .int 0, .int 0, .int 0, .ref a6, .ref a7, .int 0, .int 0])), (a0, hcI k 4 f_1), (a1, hcI k 8 f_2), (a2, hcI k 8 f_3), (a3, hcI k 8 f_4), (a4, hcI k 8 f_5), (a5, hcI k 4 f_6), (a6, hcI k 4 f_7), (a7, hcI k 4 f_8), (r0, .inr (2, [.int 0, .int 0, .int 0, .int 0, .ref b0, .ref b1, .ref b2, .ref b3, .ref b4, .ref b5, .int 0, .int 0, .int 0, .ref b6, .ref b7, .int 0, .int 0])), (b0, hcI k 4 (fun _ => 0)), (b1, hcI k 8 (fun _ => 0)), (b2, hcI k 8 (fun _ => 0)), (b3, hcI k 8 (fun _ => 0)), (b4, hcI k 8 (fun _ => 0)), (b5, hcI k 4 (fun _ => 0)), (b6, hcI k 4 (fun _ => 0)), (b7, hcI k 4 (fun _ => 0))]) H := hP
  have hD : va_D A ([(h0, .inr (2, [.int 0, .int 0, .int 0, .int 0, .ref a0, .ref a1, .ref a2, .ref a3, .ref a4, .ref a5, .int 0, .int 0, .int 0, .ref a6, .ref a7, .int 0, .int 0])), (a0, hcI k 4 f_1), (a1, hcI k 8 f_2), (a2, hcI k 8 f_3), (a3, hcI k 8 f_4), (a4, hcI k 8 f_5), (a5, hcI k 4 f_6), (a6, hcI k 4 f_7), (a7, hcI k 4 f_8), (r0, .inr (2, [.int 0, .int 0, .int 0, .int 0, .ref b0, .ref b1, .ref b2, .ref b3, .ref b4, .ref b5, .int 0, .int 0, .int 0, .ref b6, .ref b7, .int 0, .int 0])), (b0, hcI k 4 (fun _ => 0)), (b1, hcI k 8 (fun _ => 0)), (b2, hcI k 8 (fun _ => 0)), (b3, hcI k 8 (fun _ => 0)), (b4, hcI k 8 (fun _ => 0)), (b5, hcI k 4 (fun _ => 0)), (b6, hcI k 4 (fun _ => 0)), (b7, hcI k 4 (fun _ => 0))]) := hD
  refine lv_aload_n hx hb dX3_copyFrom_172 rfl (lv_at hl 0 rfl) ?_
  refine lv_iconst (v := 0) hx hb dX3_copyFrom_173 (by decide) ?_
  refine va_put (D := D) (ci := 2) (v := .int 0) (C := RX3) (T := TX3) (N := 17) hx hb hts in3 tyX3 tyX3_ok nmX3 hown hG.1 hP hD hS 0 rfl rfl 15 (by decide) (hts (.fieldLink RX3 59 "ChairCane$Room" "held" "I") (by decide +kernel)) (fun _ h9 => h9) rfl (tyX3_ok 15 (by decide)) rfl rfl (Nat.le_of_ble_eq_true rfl) dX3_copyFrom_174 (fun H locs hP hD hS => ?_)
  have hP : va_P D vwCl ([(h0, .inr (2, [.int 0, .int 0, .int 0, .int 0, .ref a0, .ref a1, .ref a2, .ref a3, .ref a4, .ref a5, .int 0, .int 0, .int 0, .ref a6, .ref a7, .int 0, .int 0])), (a0, hcI k 4 f_1), (a1, hcI k 8 f_2), (a2, hcI k 8 f_3), (a3, hcI k 8 f_4), (a4, hcI k 8 f_5), (a5, hcI k 4 f_6), (a6, hcI k 4 f_7), (a7, hcI k 4 f_8), (r0, .inr (2, [.int 0, .int 0, .int 0, .int 0, .ref b0, .ref b1, .ref b2, .ref b3, .ref b4, .ref b5, .int 0, .int 0, .int 0, .ref b6, .ref b7, .int 0, .int 0])), (b0, hcI k 4 (fun _ => 0)), (b1, hcI k 8 (fun _ => 0)), (b2, hcI k 8 (fun _ => 0)), (b3, hcI k 8 (fun _ => 0)), (b4, hcI k 8 (fun _ => 0)), (b5, hcI k 4 (fun _ => 0)), (b6, hcI k 4 (fun _ => 0)), (b7, hcI k 4 (fun _ => 0))]) H := hP
  have hD : va_D A ([(h0, .inr (2, [.int 0, .int 0, .int 0, .int 0, .ref a0, .ref a1, .ref a2, .ref a3, .ref a4, .ref a5, .int 0, .int 0, .int 0, .ref a6, .ref a7, .int 0, .int 0])), (a0, hcI k 4 f_1), (a1, hcI k 8 f_2), (a2, hcI k 8 f_3), (a3, hcI k 8 f_4), (a4, hcI k 8 f_5), (a5, hcI k 4 f_6), (a6, hcI k 4 f_7), (a7, hcI k 4 f_8), (r0, .inr (2, [.int 0, .int 0, .int 0, .int 0, .ref b0, .ref b1, .ref b2, .ref b3, .ref b4, .ref b5, .int 0, .int 0, .int 0, .ref b6, .ref b7, .int 0, .int 0])), (b0, hcI k 4 (fun _ => 0)), (b1, hcI k 8 (fun _ => 0)), (b2, hcI k 8 (fun _ => 0)), (b3, hcI k 8 (fun _ => 0)), (b4, hcI k 8 (fun _ => 0)), (b5, hcI k 4 (fun _ => 0)), (b6, hcI k 4 (fun _ => 0)), (b7, hcI k 4 (fun _ => 0))]) := hD
  exact hc_endV hx hb hr hlocks () trivial (hP.sub [9, 10, 11, 12, 13, 14, 15, 16, 17] rfl) (hD.sub [9, 10, 11, 12, 13, 14, 15, 16, 17] (by decide) rfl) hS dX3_copyFrom_177
set_option maxHeartbeats 4000000 in
set_option maxRecDepth 100000 in
theorem c_X0_copyFrom (l : Launch) (D : va_G) (k : Nat → ClassId) (sz : Nat) (h0 : Nat) (r0 : Nat) (a0 : Nat) (a1 : Nat) (a2 : Nat) (b0 : Nat) (b1 : Nat) (b2 : Nat) : CtV l yX0_copyFrom wsX0_copyFrom (rmK 1 0 0) [.ref h0, .ref r0] D k sz ([(h0, .inr (0, [.ref a0, .ref a1, .ref a2, .int 0, .int 0])), (a0, hcI k 20 (fun _ => 0)), (a1, hcI k 20 (fun _ => 0)), (a2, hcI k 20 (fun _ => 0)), (r0, .inr (0, [.ref b0, .ref b1, .ref b2, .int 0, .int 0])), (b0, hcI k 20 (fun _ => 0)), (b1, hcI k 20 (fun _ => 0)), (b2, hcI k 20 (fun _ => 0))]) (fun _ : Unit => True) (fun _ : Unit => [(r0, .inr (0, [.ref b0, .ref b1, .ref b2, .int 0, .int 0])), (b0, hcI k 20 (fun _ => 0)), (b1, hcI k 20 (fun _ => 0)), (b2, hcI k 20 (fun _ => 0))]) 0 0 := by
  refine CtV.mk (cc := cX0_copyFrom) (maxL := 2) (ret := none) (by decide) rfl (Nat.le_of_ble_eq_true rfl) ?_
  intro p e s m below meth c A ls E hP hD hS hl
  obtain ⟨hx, hb, hr, hml, hown, hts, hlocks, hin, hG, hA⟩ := E
  have hown : s.vm.findClass RX0 = some m.cls := hown
  have in0 : ∀ w ∈ u_ws RX0 TX0 5, w ∈ wsX0_copyFrom := fun _ h => List.mem_cons_of_mem _ (List.mem_append_right _ h)
  have hl : lv_has ls 2 [(0, .ref h0), (1, .ref r0)] := hl
  refine lv_aload_n hx hb dX0_copyFrom_0 rfl (lv_at hl 1 rfl) ?_
  refine va_get (D := D) (ci := 0) (v := .ref b0) (C := RX0) (T := TX0) (N := 5) hx hb hts in0 hown hG.1 hP 4 rfl rfl 0 (by decide) (hts (.fieldLink RX0 9 "ChairCane$Acts" "seats" "[I") (by decide +kernel)) (fun _ h9 => h9) rfl dX0_copyFrom_1 ?_
  refine lv_iconst (v := 0) hx hb dX0_copyFrom_4 (by decide) ?_
  refine lv_aload_n hx hb dX0_copyFrom_5 rfl (lv_at hl 0 rfl) ?_
  refine va_get (D := D) (ci := 0) (v := .ref a0) (C := RX0) (T := TX0) (N := 5) hx hb hts in0 hown hG.1 hP 0 rfl rfl 0 (by decide) (hts (.fieldLink RX0 9 "ChairCane$Acts" "seats" "[I") (by decide +kernel)) (fun _ h9 => h9) rfl dX0_copyFrom_6 ?_
  refine lv_iconst (v := 0) hx hb dX0_copyFrom_9 (by decide) ?_
  refine lv_bipush (v := 20) hx hb dX0_copyFrom_10 (by decide) ?_
  refine va_copyi hx hb (by rw [hml]; exact hl.1.symm) hown (hts (.methodLink RX0 28 arraycopyName) (by decide +kernel)) (hts (.native arraycopyName) (by decide +kernel)) (hts (.static arraycopyName) (by decide +kernel)) (hts (.initialized "java/lang/System") (by decide +kernel)) hG.1 hP hD hS 5 1 0 0 rfl rfl rfl rfl rfl (by decide) (by decide) (by decide) (by decide) (by decide) (fun _ _ => rfl) (Nat.le_of_ble_eq_true rfl) (Nat.le_of_ble_eq_true rfl) dX0_copyFrom_12 (fun H locs hP hD hS => ?_)
  generalize va_cpy (α := Int32) (fun _ => 0) (fun _ => 0) (Int32.toNatClampNeg 0) (Int32.toNatClampNeg 0) (Int32.toNatClampNeg 20) = f_1 at hP hD
  have hP : va_P D vwCl ([(h0, .inr (0, [.ref a0, .ref a1, .ref a2, .int 0, .int 0])), (a0, hcI k 20 f_1), (a1, hcI k 20 (fun _ => 0)), (a2, hcI k 20 (fun _ => 0)), (r0, .inr (0, [.ref b0, .ref b1, .ref b2, .int 0, .int 0])), (b0, hcI k 20 (fun _ => 0)), (b1, hcI k 20 (fun _ => 0)), (b2, hcI k 20 (fun _ => 0))]) H := hP
  have hD : va_D A ([(h0, .inr (0, [.ref a0, .ref a1, .ref a2, .int 0, .int 0])), (a0, hcI k 20 f_1), (a1, hcI k 20 (fun _ => 0)), (a2, hcI k 20 (fun _ => 0)), (r0, .inr (0, [.ref b0, .ref b1, .ref b2, .int 0, .int 0])), (b0, hcI k 20 (fun _ => 0)), (b1, hcI k 20 (fun _ => 0)), (b2, hcI k 20 (fun _ => 0))]) := hD
  refine lv_aload_n hx hb dX0_copyFrom_15 rfl (lv_at hl 1 rfl) ?_
  refine va_get (D := D) (ci := 0) (v := .ref b1) (C := RX0) (T := TX0) (N := 5) hx hb hts in0 hown hG.1 hP 4 rfl rfl 1 (by decide) (hts (.fieldLink RX0 15 "ChairCane$Acts" "minutes" "[I") (by decide +kernel)) (fun _ h9 => h9) rfl dX0_copyFrom_16 ?_
  refine lv_iconst (v := 0) hx hb dX0_copyFrom_19 (by decide) ?_
  refine lv_aload_n hx hb dX0_copyFrom_20 rfl (lv_at hl 0 rfl) ?_
  refine va_get (D := D) (ci := 0) (v := .ref a1) (C := RX0) (T := TX0) (N := 5) hx hb hts in0 hown hG.1 hP 0 rfl rfl 1 (by decide) (hts (.fieldLink RX0 15 "ChairCane$Acts" "minutes" "[I") (by decide +kernel)) (fun _ h9 => h9) rfl dX0_copyFrom_21 ?_
  refine lv_iconst (v := 0) hx hb dX0_copyFrom_24 (by decide) ?_
  refine lv_bipush (v := 20) hx hb dX0_copyFrom_25 (by decide) ?_
  refine va_copyi hx hb (by rw [hml]; exact hl.1.symm) hown (hts (.methodLink RX0 28 arraycopyName) (by decide +kernel)) (hts (.native arraycopyName) (by decide +kernel)) (hts (.static arraycopyName) (by decide +kernel)) (hts (.initialized "java/lang/System") (by decide +kernel)) hG.1 hP hD hS 6 2 0 0 rfl rfl rfl rfl rfl (by decide) (by decide) (by decide) (by decide) (by decide) (fun _ _ => rfl) (Nat.le_of_ble_eq_true rfl) (Nat.le_of_ble_eq_true rfl) dX0_copyFrom_27 (fun H locs hP hD hS => ?_)
  generalize va_cpy (α := Int32) (fun _ => 0) (fun _ => 0) (Int32.toNatClampNeg 0) (Int32.toNatClampNeg 0) (Int32.toNatClampNeg 20) = f_2 at hP hD
  have hP : va_P D vwCl ([(h0, .inr (0, [.ref a0, .ref a1, .ref a2, .int 0, .int 0])), (a0, hcI k 20 f_1), (a1, hcI k 20 f_2), (a2, hcI k 20 (fun _ => 0)), (r0, .inr (0, [.ref b0, .ref b1, .ref b2, .int 0, .int 0])), (b0, hcI k 20 (fun _ => 0)), (b1, hcI k 20 (fun _ => 0)), (b2, hcI k 20 (fun _ => 0))]) H := hP
  have hD : va_D A ([(h0, .inr (0, [.ref a0, .ref a1, .ref a2, .int 0, .int 0])), (a0, hcI k 20 f_1), (a1, hcI k 20 f_2), (a2, hcI k 20 (fun _ => 0)), (r0, .inr (0, [.ref b0, .ref b1, .ref b2, .int 0, .int 0])), (b0, hcI k 20 (fun _ => 0)), (b1, hcI k 20 (fun _ => 0)), (b2, hcI k 20 (fun _ => 0))]) := hD
  refine lv_aload_n hx hb dX0_copyFrom_30 rfl (lv_at hl 1 rfl) ?_
  refine va_get (D := D) (ci := 0) (v := .ref b2) (C := RX0) (T := TX0) (N := 5) hx hb hts in0 hown hG.1 hP 4 rfl rfl 2 (by decide) (hts (.fieldLink RX0 18 "ChairCane$Acts" "canes" "[I") (by decide +kernel)) (fun _ h9 => h9) rfl dX0_copyFrom_31 ?_
  refine lv_iconst (v := 0) hx hb dX0_copyFrom_34 (by decide) ?_
  refine lv_aload_n hx hb dX0_copyFrom_35 rfl (lv_at hl 0 rfl) ?_
  refine va_get (D := D) (ci := 0) (v := .ref a2) (C := RX0) (T := TX0) (N := 5) hx hb hts in0 hown hG.1 hP 0 rfl rfl 2 (by decide) (hts (.fieldLink RX0 18 "ChairCane$Acts" "canes" "[I") (by decide +kernel)) (fun _ h9 => h9) rfl dX0_copyFrom_36 ?_
  refine lv_iconst (v := 0) hx hb dX0_copyFrom_39 (by decide) ?_
  refine lv_bipush (v := 20) hx hb dX0_copyFrom_40 (by decide) ?_
  refine va_copyi hx hb (by rw [hml]; exact hl.1.symm) hown (hts (.methodLink RX0 28 arraycopyName) (by decide +kernel)) (hts (.native arraycopyName) (by decide +kernel)) (hts (.static arraycopyName) (by decide +kernel)) (hts (.initialized "java/lang/System") (by decide +kernel)) hG.1 hP hD hS 7 3 0 0 rfl rfl rfl rfl rfl (by decide) (by decide) (by decide) (by decide) (by decide) (fun _ _ => rfl) (Nat.le_of_ble_eq_true rfl) (Nat.le_of_ble_eq_true rfl) dX0_copyFrom_42 (fun H locs hP hD hS => ?_)
  generalize va_cpy (α := Int32) (fun _ => 0) (fun _ => 0) (Int32.toNatClampNeg 0) (Int32.toNatClampNeg 0) (Int32.toNatClampNeg 20) = f_3 at hP hD
  have hP : va_P D vwCl ([(h0, .inr (0, [.ref a0, .ref a1, .ref a2, .int 0, .int 0])), (a0, hcI k 20 f_1), (a1, hcI k 20 f_2), (a2, hcI k 20 f_3), (r0, .inr (0, [.ref b0, .ref b1, .ref b2, .int 0, .int 0])), (b0, hcI k 20 (fun _ => 0)), (b1, hcI k 20 (fun _ => 0)), (b2, hcI k 20 (fun _ => 0))]) H := hP
  have hD : va_D A ([(h0, .inr (0, [.ref a0, .ref a1, .ref a2, .int 0, .int 0])), (a0, hcI k 20 f_1), (a1, hcI k 20 f_2), (a2, hcI k 20 f_3), (r0, .inr (0, [.ref b0, .ref b1, .ref b2, .int 0, .int 0])), (b0, hcI k 20 (fun _ => 0)), (b1, hcI k 20 (fun _ => 0)), (b2, hcI k 20 (fun _ => 0))]) := hD
  refine lv_aload_n hx hb dX0_copyFrom_45 rfl (lv_at hl 0 rfl) ?_
  refine lv_aload_n hx hb dX0_copyFrom_46 rfl (lv_at hl 1 rfl) ?_
  refine va_get (D := D) (ci := 0) (v := .int 0) (C := RX0) (T := TX0) (N := 5) hx hb hts in0 hown hG.1 hP 4 rfl rfl 3 (by decide) (hts (.fieldLink RX0 21 "ChairCane$Acts" "next" "I") (by decide +kernel)) (fun _ h9 => h9) rfl dX0_copyFrom_47 ?_
  refine va_put (D := D) (ci := 0) (v := .int 0) (C := RX0) (T := TX0) (N := 5) hx hb hts in0 tyX0 tyX0_ok nmX0 hown hG.1 hP hD hS 0 rfl rfl 3 (by decide) (hts (.fieldLink RX0 21 "ChairCane$Acts" "next" "I") (by decide +kernel)) (fun _ h9 => h9) rfl (tyX0_ok 3 (by decide)) rfl rfl (Nat.le_of_ble_eq_true rfl) dX0_copyFrom_50 (fun H locs hP hD hS => ?_)
  have hP : va_P D vwCl ([(h0, .inr (0, [.ref a0, .ref a1, .ref a2, .int 0, .int 0])), (a0, hcI k 20 f_1), (a1, hcI k 20 f_2), (a2, hcI k 20 f_3), (r0, .inr (0, [.ref b0, .ref b1, .ref b2, .int 0, .int 0])), (b0, hcI k 20 (fun _ => 0)), (b1, hcI k 20 (fun _ => 0)), (b2, hcI k 20 (fun _ => 0))]) H := hP
  have hD : va_D A ([(h0, .inr (0, [.ref a0, .ref a1, .ref a2, .int 0, .int 0])), (a0, hcI k 20 f_1), (a1, hcI k 20 f_2), (a2, hcI k 20 f_3), (r0, .inr (0, [.ref b0, .ref b1, .ref b2, .int 0, .int 0])), (b0, hcI k 20 (fun _ => 0)), (b1, hcI k 20 (fun _ => 0)), (b2, hcI k 20 (fun _ => 0))]) := hD
  refine lv_aload_n hx hb dX0_copyFrom_53 rfl (lv_at hl 0 rfl) ?_
  refine lv_aload_n hx hb dX0_copyFrom_54 rfl (lv_at hl 1 rfl) ?_
  refine va_get (D := D) (ci := 0) (v := .int 0) (C := RX0) (T := TX0) (N := 5) hx hb hts in0 hown hG.1 hP 4 rfl rfl 4 (by decide) (hts (.fieldLink RX0 25 "ChairCane$Acts" "kept" "I") (by decide +kernel)) (fun _ h9 => h9) rfl dX0_copyFrom_55 ?_
  refine va_put (D := D) (ci := 0) (v := .int 0) (C := RX0) (T := TX0) (N := 5) hx hb hts in0 tyX0 tyX0_ok nmX0 hown hG.1 hP hD hS 0 rfl rfl 4 (by decide) (hts (.fieldLink RX0 25 "ChairCane$Acts" "kept" "I") (by decide +kernel)) (fun _ h9 => h9) rfl (tyX0_ok 4 (by decide)) rfl rfl (Nat.le_of_ble_eq_true rfl) dX0_copyFrom_58 (fun H locs hP hD hS => ?_)
  have hP : va_P D vwCl ([(h0, .inr (0, [.ref a0, .ref a1, .ref a2, .int 0, .int 0])), (a0, hcI k 20 f_1), (a1, hcI k 20 f_2), (a2, hcI k 20 f_3), (r0, .inr (0, [.ref b0, .ref b1, .ref b2, .int 0, .int 0])), (b0, hcI k 20 (fun _ => 0)), (b1, hcI k 20 (fun _ => 0)), (b2, hcI k 20 (fun _ => 0))]) H := hP
  have hD : va_D A ([(h0, .inr (0, [.ref a0, .ref a1, .ref a2, .int 0, .int 0])), (a0, hcI k 20 f_1), (a1, hcI k 20 f_2), (a2, hcI k 20 f_3), (r0, .inr (0, [.ref b0, .ref b1, .ref b2, .int 0, .int 0])), (b0, hcI k 20 (fun _ => 0)), (b1, hcI k 20 (fun _ => 0)), (b2, hcI k 20 (fun _ => 0))]) := hD
  exact hc_endV hx hb hr hlocks () trivial (hP.sub [4, 5, 6, 7] rfl) (hD.sub [4, 5, 6, 7] (by decide) rfl) hS dX0_copyFrom_61
set_option maxHeartbeats 4000000 in
set_option maxRecDepth 100000 in
theorem c_X2_copyFrom (l : Launch) (D : va_G) (k : Nat → ClassId) (sz : Nat) (h0 : Nat) (r0 : Nat) (a0 : Nat) (a1 : Nat) (a2 : Nat) (b0 : Nat) (b1 : Nat) (b2 : Nat) : CtV l yX2_copyFrom wsX2_copyFrom (rmK 1 0 0) [.ref h0, .ref r0] D k sz ([(h0, .inr (1, [.ref a0, .ref a1, .ref a2, .int 0])), (a0, hcI k 10 (fun _ => 0)), (a1, hcI k 10 (fun _ => 0)), (a2, hcI k 10 (fun _ => 0)), (r0, .inr (1, [.ref b0, .ref b1, .ref b2, .int 0])), (b0, hcI k 10 (fun _ => 0)), (b1, hcI k 10 (fun _ => 0)), (b2, hcI k 10 (fun _ => 0))]) (fun _ : Unit => True) (fun _ : Unit => [(r0, .inr (1, [.ref b0, .ref b1, .ref b2, .int 0])), (b0, hcI k 10 (fun _ => 0)), (b1, hcI k 10 (fun _ => 0)), (b2, hcI k 10 (fun _ => 0))]) 0 0 := by
  refine CtV.mk (cc := cX2_copyFrom) (maxL := 2) (ret := none) (by decide) rfl (Nat.le_of_ble_eq_true rfl) ?_
  intro p e s m below meth c A ls E hP hD hS hl
  obtain ⟨hx, hb, hr, hml, hown, hts, hlocks, hin, hG, hA⟩ := E
  have hown : s.vm.findClass RX2 = some m.cls := hown
  have in2 : ∀ w ∈ u_ws RX2 TX2 4, w ∈ wsX2_copyFrom := fun _ h => List.mem_cons_of_mem _ (List.mem_append_right _ h)
  have hl : lv_has ls 2 [(0, .ref h0), (1, .ref r0)] := hl
  refine lv_aload_n hx hb dX2_copyFrom_0 rfl (lv_at hl 1 rfl) ?_
  refine va_get (D := D) (ci := 1) (v := .ref b0) (C := RX2) (T := TX2) (N := 4) hx hb hts in2 hown hG.1 hP 4 rfl rfl 0 (by decide) (hts (.fieldLink RX2 9 "ChairCane$Notes" "minutes" "[I") (by decide +kernel)) (fun _ h9 => h9) rfl dX2_copyFrom_1 ?_
  refine lv_iconst (v := 0) hx hb dX2_copyFrom_4 (by decide) ?_
  refine lv_aload_n hx hb dX2_copyFrom_5 rfl (lv_at hl 0 rfl) ?_
  refine va_get (D := D) (ci := 1) (v := .ref a0) (C := RX2) (T := TX2) (N := 4) hx hb hts in2 hown hG.1 hP 0 rfl rfl 0 (by decide) (hts (.fieldLink RX2 9 "ChairCane$Notes" "minutes" "[I") (by decide +kernel)) (fun _ h9 => h9) rfl dX2_copyFrom_6 ?_
  refine lv_iconst (v := 0) hx hb dX2_copyFrom_9 (by decide) ?_
  refine lv_bipush (v := 10) hx hb dX2_copyFrom_10 (by decide) ?_
  refine va_copyi hx hb (by rw [hml]; exact hl.1.symm) hown (hts (.methodLink RX2 25 arraycopyName) (by decide +kernel)) (hts (.native arraycopyName) (by decide +kernel)) (hts (.static arraycopyName) (by decide +kernel)) (hts (.initialized "java/lang/System") (by decide +kernel)) hG.1 hP hD hS 5 1 0 0 rfl rfl rfl rfl rfl (by decide) (by decide) (by decide) (by decide) (by decide) (fun _ _ => rfl) (Nat.le_of_ble_eq_true rfl) (Nat.le_of_ble_eq_true rfl) dX2_copyFrom_12 (fun H locs hP hD hS => ?_)
  generalize va_cpy (α := Int32) (fun _ => 0) (fun _ => 0) (Int32.toNatClampNeg 0) (Int32.toNatClampNeg 0) (Int32.toNatClampNeg 10) = f_1 at hP hD
  have hP : va_P D vwCl ([(h0, .inr (1, [.ref a0, .ref a1, .ref a2, .int 0])), (a0, hcI k 10 f_1), (a1, hcI k 10 (fun _ => 0)), (a2, hcI k 10 (fun _ => 0)), (r0, .inr (1, [.ref b0, .ref b1, .ref b2, .int 0])), (b0, hcI k 10 (fun _ => 0)), (b1, hcI k 10 (fun _ => 0)), (b2, hcI k 10 (fun _ => 0))]) H := hP
  have hD : va_D A ([(h0, .inr (1, [.ref a0, .ref a1, .ref a2, .int 0])), (a0, hcI k 10 f_1), (a1, hcI k 10 (fun _ => 0)), (a2, hcI k 10 (fun _ => 0)), (r0, .inr (1, [.ref b0, .ref b1, .ref b2, .int 0])), (b0, hcI k 10 (fun _ => 0)), (b1, hcI k 10 (fun _ => 0)), (b2, hcI k 10 (fun _ => 0))]) := hD
  refine lv_aload_n hx hb dX2_copyFrom_15 rfl (lv_at hl 1 rfl) ?_
  refine va_get (D := D) (ci := 1) (v := .ref b1) (C := RX2) (T := TX2) (N := 4) hx hb hts in2 hown hG.1 hP 4 rfl rfl 1 (by decide) (hts (.fieldLink RX2 15 "ChairCane$Notes" "whose" "[I") (by decide +kernel)) (fun _ h9 => h9) rfl dX2_copyFrom_16 ?_
  refine lv_iconst (v := 0) hx hb dX2_copyFrom_19 (by decide) ?_
  refine lv_aload_n hx hb dX2_copyFrom_20 rfl (lv_at hl 0 rfl) ?_
  refine va_get (D := D) (ci := 1) (v := .ref a1) (C := RX2) (T := TX2) (N := 4) hx hb hts in2 hown hG.1 hP 0 rfl rfl 1 (by decide) (hts (.fieldLink RX2 15 "ChairCane$Notes" "whose" "[I") (by decide +kernel)) (fun _ h9 => h9) rfl dX2_copyFrom_21 ?_
  refine lv_iconst (v := 0) hx hb dX2_copyFrom_24 (by decide) ?_
  refine lv_bipush (v := 10) hx hb dX2_copyFrom_25 (by decide) ?_
  refine va_copyi hx hb (by rw [hml]; exact hl.1.symm) hown (hts (.methodLink RX2 25 arraycopyName) (by decide +kernel)) (hts (.native arraycopyName) (by decide +kernel)) (hts (.static arraycopyName) (by decide +kernel)) (hts (.initialized "java/lang/System") (by decide +kernel)) hG.1 hP hD hS 6 2 0 0 rfl rfl rfl rfl rfl (by decide) (by decide) (by decide) (by decide) (by decide) (fun _ _ => rfl) (Nat.le_of_ble_eq_true rfl) (Nat.le_of_ble_eq_true rfl) dX2_copyFrom_27 (fun H locs hP hD hS => ?_)
  generalize va_cpy (α := Int32) (fun _ => 0) (fun _ => 0) (Int32.toNatClampNeg 0) (Int32.toNatClampNeg 0) (Int32.toNatClampNeg 10) = f_2 at hP hD
  have hP : va_P D vwCl ([(h0, .inr (1, [.ref a0, .ref a1, .ref a2, .int 0])), (a0, hcI k 10 f_1), (a1, hcI k 10 f_2), (a2, hcI k 10 (fun _ => 0)), (r0, .inr (1, [.ref b0, .ref b1, .ref b2, .int 0])), (b0, hcI k 10 (fun _ => 0)), (b1, hcI k 10 (fun _ => 0)), (b2, hcI k 10 (fun _ => 0))]) H := hP
  have hD : va_D A ([(h0, .inr (1, [.ref a0, .ref a1, .ref a2, .int 0])), (a0, hcI k 10 f_1), (a1, hcI k 10 f_2), (a2, hcI k 10 (fun _ => 0)), (r0, .inr (1, [.ref b0, .ref b1, .ref b2, .int 0])), (b0, hcI k 10 (fun _ => 0)), (b1, hcI k 10 (fun _ => 0)), (b2, hcI k 10 (fun _ => 0))]) := hD
  refine lv_aload_n hx hb dX2_copyFrom_30 rfl (lv_at hl 1 rfl) ?_
  refine va_get (D := D) (ci := 1) (v := .ref b2) (C := RX2) (T := TX2) (N := 4) hx hb hts in2 hown hG.1 hP 4 rfl rfl 2 (by decide) (hts (.fieldLink RX2 18 "ChairCane$Notes" "states" "[I") (by decide +kernel)) (fun _ h9 => h9) rfl dX2_copyFrom_31 ?_
  refine lv_iconst (v := 0) hx hb dX2_copyFrom_34 (by decide) ?_
  refine lv_aload_n hx hb dX2_copyFrom_35 rfl (lv_at hl 0 rfl) ?_
  refine va_get (D := D) (ci := 1) (v := .ref a2) (C := RX2) (T := TX2) (N := 4) hx hb hts in2 hown hG.1 hP 0 rfl rfl 2 (by decide) (hts (.fieldLink RX2 18 "ChairCane$Notes" "states" "[I") (by decide +kernel)) (fun _ h9 => h9) rfl dX2_copyFrom_36 ?_
  refine lv_iconst (v := 0) hx hb dX2_copyFrom_39 (by decide) ?_
  refine lv_bipush (v := 10) hx hb dX2_copyFrom_40 (by decide) ?_
  refine va_copyi hx hb (by rw [hml]; exact hl.1.symm) hown (hts (.methodLink RX2 25 arraycopyName) (by decide +kernel)) (hts (.native arraycopyName) (by decide +kernel)) (hts (.static arraycopyName) (by decide +kernel)) (hts (.initialized "java/lang/System") (by decide +kernel)) hG.1 hP hD hS 7 3 0 0 rfl rfl rfl rfl rfl (by decide) (by decide) (by decide) (by decide) (by decide) (fun _ _ => rfl) (Nat.le_of_ble_eq_true rfl) (Nat.le_of_ble_eq_true rfl) dX2_copyFrom_42 (fun H locs hP hD hS => ?_)
  generalize va_cpy (α := Int32) (fun _ => 0) (fun _ => 0) (Int32.toNatClampNeg 0) (Int32.toNatClampNeg 0) (Int32.toNatClampNeg 10) = f_3 at hP hD
  have hP : va_P D vwCl ([(h0, .inr (1, [.ref a0, .ref a1, .ref a2, .int 0])), (a0, hcI k 10 f_1), (a1, hcI k 10 f_2), (a2, hcI k 10 f_3), (r0, .inr (1, [.ref b0, .ref b1, .ref b2, .int 0])), (b0, hcI k 10 (fun _ => 0)), (b1, hcI k 10 (fun _ => 0)), (b2, hcI k 10 (fun _ => 0))]) H := hP
  have hD : va_D A ([(h0, .inr (1, [.ref a0, .ref a1, .ref a2, .int 0])), (a0, hcI k 10 f_1), (a1, hcI k 10 f_2), (a2, hcI k 10 f_3), (r0, .inr (1, [.ref b0, .ref b1, .ref b2, .int 0])), (b0, hcI k 10 (fun _ => 0)), (b1, hcI k 10 (fun _ => 0)), (b2, hcI k 10 (fun _ => 0))]) := hD
  refine lv_aload_n hx hb dX2_copyFrom_45 rfl (lv_at hl 0 rfl) ?_
  refine lv_aload_n hx hb dX2_copyFrom_46 rfl (lv_at hl 1 rfl) ?_
  refine va_get (D := D) (ci := 1) (v := .int 0) (C := RX2) (T := TX2) (N := 4) hx hb hts in2 hown hG.1 hP 4 rfl rfl 3 (by decide) (hts (.fieldLink RX2 21 "ChairCane$Notes" "many" "I") (by decide +kernel)) (fun _ h9 => h9) rfl dX2_copyFrom_47 ?_
  refine va_put (D := D) (ci := 1) (v := .int 0) (C := RX2) (T := TX2) (N := 4) hx hb hts in2 tyX2 tyX2_ok nmX2 hown hG.1 hP hD hS 0 rfl rfl 3 (by decide) (hts (.fieldLink RX2 21 "ChairCane$Notes" "many" "I") (by decide +kernel)) (fun _ h9 => h9) rfl (tyX2_ok 3 (by decide)) rfl rfl (Nat.le_of_ble_eq_true rfl) dX2_copyFrom_50 (fun H locs hP hD hS => ?_)
  have hP : va_P D vwCl ([(h0, .inr (1, [.ref a0, .ref a1, .ref a2, .int 0])), (a0, hcI k 10 f_1), (a1, hcI k 10 f_2), (a2, hcI k 10 f_3), (r0, .inr (1, [.ref b0, .ref b1, .ref b2, .int 0])), (b0, hcI k 10 (fun _ => 0)), (b1, hcI k 10 (fun _ => 0)), (b2, hcI k 10 (fun _ => 0))]) H := hP
  have hD : va_D A ([(h0, .inr (1, [.ref a0, .ref a1, .ref a2, .int 0])), (a0, hcI k 10 f_1), (a1, hcI k 10 f_2), (a2, hcI k 10 f_3), (r0, .inr (1, [.ref b0, .ref b1, .ref b2, .int 0])), (b0, hcI k 10 (fun _ => 0)), (b1, hcI k 10 (fun _ => 0)), (b2, hcI k 10 (fun _ => 0))]) := hD
  exact hc_endV hx hb hr hlocks () trivial (hP.sub [4, 5, 6, 7] rfl) (hD.sub [4, 5, 6, 7] (by decide) rfl) hS dX2_copyFrom_53
set_option maxHeartbeats 4000000 in
set_option maxRecDepth 100000 in
theorem c_X6_copyFrom (l : Launch) (D : va_G) (k : Nat → ClassId) (sz : Nat) (h0 : Nat) (r0 : Nat) (v0 : Nat → Nat) (v1 : Nat → Nat) : CtV l yX6_copyFrom wsX6_copyFrom (rmK 2 0 0) [.ref h0, .ref r0] D k sz ([(h0, .inr (4, [.ref (v0 0), .ref (v0 1), .ref (v0 2), .int (-1), .int 0])), ((v0 0), .inr (2, [.int 0, .int 0, .int 0, .int 0, .ref (v0 3), .ref (v0 4), .ref (v0 5), .ref (v0 6), .ref (v0 7), .ref (v0 8), .int 0, .int 0, .int 0, .ref (v0 9), .ref (v0 10), .int 0, .int 0])), ((v0 3), hcI k 4 (fun _ => 0)), ((v0 4), hcI k 8 (fun _ => 0)), ((v0 5), hcI k 8 (fun _ => 0)), ((v0 6), hcI k 8 (fun _ => 0)), ((v0 7), hcI k 8 (fun _ => 0)), ((v0 8), hcI k 4 (fun _ => 0)), ((v0 9), hcI k 4 (fun _ => 0)), ((v0 10), hcI k 4 (fun _ => 0)), ((v0 1), .inr (0, [.ref (v0 11), .ref (v0 12), .ref (v0 13), .int 0, .int 0])), ((v0 11), hcI k 20 (fun _ => 0)), ((v0 12), hcI k 20 (fun _ => 0)), ((v0 13), hcI k 20 (fun _ => 0)), ((v0 2), .inr (1, [.ref (v0 14), .ref (v0 15), .ref (v0 16), .int 0])), ((v0 14), hcI k 10 (fun _ => 0)), ((v0 15), hcI k 10 (fun _ => 0)), ((v0 16), hcI k 10 (fun _ => 0)), (r0, .inr (4, [.ref (v1 0), .ref (v1 1), .ref (v1 2), .int (-1), .int 0])), ((v1 0), .inr (2, [.int 0, .int 0, .int 0, .int 0, .ref (v1 3), .ref (v1 4), .ref (v1 5), .ref (v1 6), .ref (v1 7), .ref (v1 8), .int 0, .int 0, .int 0, .ref (v1 9), .ref (v1 10), .int 0, .int 0])), ((v1 3), hcI k 4 (fun _ => 0)), ((v1 4), hcI k 8 (fun _ => 0)), ((v1 5), hcI k 8 (fun _ => 0)), ((v1 6), hcI k 8 (fun _ => 0)), ((v1 7), hcI k 8 (fun _ => 0)), ((v1 8), hcI k 4 (fun _ => 0)), ((v1 9), hcI k 4 (fun _ => 0)), ((v1 10), hcI k 4 (fun _ => 0)), ((v1 1), .inr (0, [.ref (v1 11), .ref (v1 12), .ref (v1 13), .int 0, .int 0])), ((v1 11), hcI k 20 (fun _ => 0)), ((v1 12), hcI k 20 (fun _ => 0)), ((v1 13), hcI k 20 (fun _ => 0)), ((v1 2), .inr (1, [.ref (v1 14), .ref (v1 15), .ref (v1 16), .int 0])), ((v1 14), hcI k 10 (fun _ => 0)), ((v1 15), hcI k 10 (fun _ => 0)), ((v1 16), hcI k 10 (fun _ => 0))]) (fun _ : Unit => True) (fun _ : Unit => [(r0, .inr (4, [.ref (v1 0), .ref (v1 1), .ref (v1 2), .int (-1), .int 0])), ((v1 0), .inr (2, [.int 0, .int 0, .int 0, .int 0, .ref (v1 3), .ref (v1 4), .ref (v1 5), .ref (v1 6), .ref (v1 7), .ref (v1 8), .int 0, .int 0, .int 0, .ref (v1 9), .ref (v1 10), .int 0, .int 0])), ((v1 3), hcI k 4 (fun _ => 0)), ((v1 4), hcI k 8 (fun _ => 0)), ((v1 5), hcI k 8 (fun _ => 0)), ((v1 6), hcI k 8 (fun _ => 0)), ((v1 7), hcI k 8 (fun _ => 0)), ((v1 8), hcI k 4 (fun _ => 0)), ((v1 9), hcI k 4 (fun _ => 0)), ((v1 10), hcI k 4 (fun _ => 0)), ((v1 1), .inr (0, [.ref (v1 11), .ref (v1 12), .ref (v1 13), .int 0, .int 0])), ((v1 11), hcI k 20 (fun _ => 0)), ((v1 12), hcI k 20 (fun _ => 0)), ((v1 13), hcI k 20 (fun _ => 0)), ((v1 2), .inr (1, [.ref (v1 14), .ref (v1 15), .ref (v1 16), .int 0])), ((v1 14), hcI k 10 (fun _ => 0)), ((v1 15), hcI k 10 (fun _ => 0)), ((v1 16), hcI k 10 (fun _ => 0))]) 0 0 := by
  refine CtV.mk (cc := cX6_copyFrom) (maxL := 2) (ret := none) (by decide) rfl (Nat.le_of_ble_eq_true rfl) ?_
  intro p e s m below meth c A ls E hP hD hS hl
  obtain ⟨hx, hb, hr, hml, hown, hts, hlocks, hin, hG, hA⟩ := E
  have hown : s.vm.findClass RX6 = some m.cls := hown
  have in0 : ∀ w ∈ u_ws RX0 TX0 5, w ∈ wsX6_copyFrom := fun _ h => List.mem_cons_of_mem _ (List.mem_append_left _ (List.mem_append_right _ h))
  have in2 : ∀ w ∈ u_ws RX2 TX2 4, w ∈ wsX6_copyFrom := fun _ h => List.mem_cons_of_mem _ (List.mem_append_right _ h)
  have in3 : ∀ w ∈ u_ws RX3 TX3 17, w ∈ wsX6_copyFrom := fun _ h => List.mem_cons_of_mem _ (List.mem_append_left _ (List.mem_append_left _ (List.mem_append_right _ h)))
  have in6 : ∀ w ∈ u_ws RX6 TX6 5, w ∈ wsX6_copyFrom := fun _ h => List.mem_cons_of_mem _ (List.mem_append_left _ (List.mem_append_left _ (List.mem_append_left _ (List.mem_append_right _ h))))
  have hl : lv_has ls 2 [(0, .ref h0), (1, .ref r0)] := hl
  refine lv_aload_n hx hb dX6_copyFrom_0 rfl (lv_at hl 0 rfl) ?_
  refine va_get (D := D) (ci := 4) (v := .ref (v0 0)) (C := RX6) (T := TX6) (N := 5) hx hb hts in6 hown hG.1 hP 0 rfl rfl 0 (by decide) (hts (.fieldLink RX6 12 "ChairCane$Standing" "room" "LChairCane$Room;") (by decide +kernel)) (fun _ h9 => h9) rfl dX6_copyFrom_1 ?_
  refine lv_aload_n hx hb dX6_copyFrom_4 rfl (lv_at hl 1 rfl) ?_
  refine va_get (D := D) (ci := 4) (v := .ref (v1 0)) (C := RX6) (T := TX6) (N := 5) hx hb hts in6 hown hG.1 hP 18 rfl rfl 0 (by decide) (hts (.fieldLink RX6 12 "ChairCane$Standing" "room" "LChairCane$Room;") (by decide +kernel)) (fun _ h9 => h9) rfl dX6_copyFrom_5 ?_
  refine hc_Vv (As := [.ref (v1 0)]) (rest := []) (n := 1) (wr := [(h0, .inr (4, [.ref (v0 0), .ref (v0 1), .ref (v0 2), .int (-1), .int 0])), ((v0 1), .inr (0, [.ref (v0 11), .ref (v0 12), .ref (v0 13), .int 0, .int 0])), ((v0 11), hcI k 20 (fun _ => 0)), ((v0 12), hcI k 20 (fun _ => 0)), ((v0 13), hcI k 20 (fun _ => 0)), ((v0 2), .inr (1, [.ref (v0 14), .ref (v0 15), .ref (v0 16), .int 0])), ((v0 14), hcI k 10 (fun _ => 0)), ((v0 15), hcI k 10 (fun _ => 0)), ((v0 16), hcI k 10 (fun _ => 0)), (r0, .inr (4, [.ref (v1 0), .ref (v1 1), .ref (v1 2), .int (-1), .int 0])), ((v1 1), .inr (0, [.ref (v1 11), .ref (v1 12), .ref (v1 13), .int 0, .int 0])), ((v1 11), hcI k 20 (fun _ => 0)), ((v1 12), hcI k 20 (fun _ => 0)), ((v1 13), hcI k 20 (fun _ => 0)), ((v1 2), .inr (1, [.ref (v1 14), .ref (v1 15), .ref (v1 16), .int 0])), ((v1 14), hcI k 10 (fun _ => 0)), ((v1 15), hcI k 10 (fun _ => 0)), ((v1 16), hcI k 10 (fun _ => 0))]) hx hb hml hown hts hG hA hP hD hS hl.1 [1, 2, 3, 4, 5, 6, 7, 8, 9, 19, 20, 21, 22, 23, 24, 25, 26, 27] [0, 10, 11, 12, 13, 14, 15, 16, 17, 18, 28, 29, 30, 31, 32, 33, 34, 35] (c_X3_copyFrom l D k _ (v0 0) (v1 0) (v0 3) (v0 4) (v0 5) (v0 6) (v0 7) (v0 8) (v0 9) (v0 10) (v1 3) (v1 4) (v1 5) (v1 6) (v1 7) (v1 8) (v1 9) (v1 10)) (ci := 2) (q0 := 1) rfl rfl gX6_copyFrom_X3_copyFrom rfl ⟨rfl, rfl, Nat.le_of_ble_eq_true rfl, Nat.le_of_ble_eq_true rfl⟩ (by decide +kernel) rfl rfl ⟨by decide, by decide, by decide⟩ ⟨rfl, rfl, Nat.le_of_ble_eq_true rfl, Nat.le_of_ble_eq_true rfl, Nat.le_of_ble_eq_true rfl⟩ dX6_copyFrom_8 (fun u_1 H locs hw hP hD hS => ?_)
  have hP : va_P D vwCl ([(h0, .inr (4, [.ref (v0 0), .ref (v0 1), .ref (v0 2), .int (-1), .int 0])), ((v0 1), .inr (0, [.ref (v0 11), .ref (v0 12), .ref (v0 13), .int 0, .int 0])), ((v0 11), hcI k 20 (fun _ => 0)), ((v0 12), hcI k 20 (fun _ => 0)), ((v0 13), hcI k 20 (fun _ => 0)), ((v0 2), .inr (1, [.ref (v0 14), .ref (v0 15), .ref (v0 16), .int 0])), ((v0 14), hcI k 10 (fun _ => 0)), ((v0 15), hcI k 10 (fun _ => 0)), ((v0 16), hcI k 10 (fun _ => 0)), (r0, .inr (4, [.ref (v1 0), .ref (v1 1), .ref (v1 2), .int (-1), .int 0])), ((v1 1), .inr (0, [.ref (v1 11), .ref (v1 12), .ref (v1 13), .int 0, .int 0])), ((v1 11), hcI k 20 (fun _ => 0)), ((v1 12), hcI k 20 (fun _ => 0)), ((v1 13), hcI k 20 (fun _ => 0)), ((v1 2), .inr (1, [.ref (v1 14), .ref (v1 15), .ref (v1 16), .int 0])), ((v1 14), hcI k 10 (fun _ => 0)), ((v1 15), hcI k 10 (fun _ => 0)), ((v1 16), hcI k 10 (fun _ => 0)), ((v1 0), .inr (2, [.int 0, .int 0, .int 0, .int 0, .ref (v1 3), .ref (v1 4), .ref (v1 5), .ref (v1 6), .ref (v1 7), .ref (v1 8), .int 0, .int 0, .int 0, .ref (v1 9), .ref (v1 10), .int 0, .int 0])), ((v1 3), hcI k 4 (fun _ => 0)), ((v1 4), hcI k 8 (fun _ => 0)), ((v1 5), hcI k 8 (fun _ => 0)), ((v1 6), hcI k 8 (fun _ => 0)), ((v1 7), hcI k 8 (fun _ => 0)), ((v1 8), hcI k 4 (fun _ => 0)), ((v1 9), hcI k 4 (fun _ => 0)), ((v1 10), hcI k 4 (fun _ => 0))]) H := hP
  have hD : va_D A ([(h0, .inr (4, [.ref (v0 0), .ref (v0 1), .ref (v0 2), .int (-1), .int 0])), ((v0 1), .inr (0, [.ref (v0 11), .ref (v0 12), .ref (v0 13), .int 0, .int 0])), ((v0 11), hcI k 20 (fun _ => 0)), ((v0 12), hcI k 20 (fun _ => 0)), ((v0 13), hcI k 20 (fun _ => 0)), ((v0 2), .inr (1, [.ref (v0 14), .ref (v0 15), .ref (v0 16), .int 0])), ((v0 14), hcI k 10 (fun _ => 0)), ((v0 15), hcI k 10 (fun _ => 0)), ((v0 16), hcI k 10 (fun _ => 0)), (r0, .inr (4, [.ref (v1 0), .ref (v1 1), .ref (v1 2), .int (-1), .int 0])), ((v1 1), .inr (0, [.ref (v1 11), .ref (v1 12), .ref (v1 13), .int 0, .int 0])), ((v1 11), hcI k 20 (fun _ => 0)), ((v1 12), hcI k 20 (fun _ => 0)), ((v1 13), hcI k 20 (fun _ => 0)), ((v1 2), .inr (1, [.ref (v1 14), .ref (v1 15), .ref (v1 16), .int 0])), ((v1 14), hcI k 10 (fun _ => 0)), ((v1 15), hcI k 10 (fun _ => 0)), ((v1 16), hcI k 10 (fun _ => 0)), ((v1 0), .inr (2, [.int 0, .int 0, .int 0, .int 0, .ref (v1 3), .ref (v1 4), .ref (v1 5), .ref (v1 6), .ref (v1 7), .ref (v1 8), .int 0, .int 0, .int 0, .ref (v1 9), .ref (v1 10), .int 0, .int 0])), ((v1 3), hcI k 4 (fun _ => 0)), ((v1 4), hcI k 8 (fun _ => 0)), ((v1 5), hcI k 8 (fun _ => 0)), ((v1 6), hcI k 8 (fun _ => 0)), ((v1 7), hcI k 8 (fun _ => 0)), ((v1 8), hcI k 4 (fun _ => 0)), ((v1 9), hcI k 4 (fun _ => 0)), ((v1 10), hcI k 4 (fun _ => 0))]) := hD
  refine lv_aload_n hx hb dX6_copyFrom_11 rfl (lv_at hl 0 rfl) ?_
  refine va_get (D := D) (ci := 4) (v := .ref (v0 1)) (C := RX6) (T := TX6) (N := 5) hx hb hts in6 hown hG.1 hP 0 rfl rfl 1 (by decide) (hts (.fieldLink RX6 21 "ChairCane$Standing" "acts" "LChairCane$Acts;") (by decide +kernel)) (fun _ h9 => h9) rfl dX6_copyFrom_12 ?_
  refine lv_aload_n hx hb dX6_copyFrom_15 rfl (lv_at hl 1 rfl) ?_
  refine va_get (D := D) (ci := 4) (v := .ref (v1 1)) (C := RX6) (T := TX6) (N := 5) hx hb hts in6 hown hG.1 hP 9 rfl rfl 1 (by decide) (hts (.fieldLink RX6 21 "ChairCane$Standing" "acts" "LChairCane$Acts;") (by decide +kernel)) (fun _ h9 => h9) rfl dX6_copyFrom_16 ?_
  refine hc_Vv (As := [.ref (v1 1)]) (rest := []) (n := 1) (wr := [(h0, .inr (4, [.ref (v0 0), .ref (v0 1), .ref (v0 2), .int (-1), .int 0])), ((v0 2), .inr (1, [.ref (v0 14), .ref (v0 15), .ref (v0 16), .int 0])), ((v0 14), hcI k 10 (fun _ => 0)), ((v0 15), hcI k 10 (fun _ => 0)), ((v0 16), hcI k 10 (fun _ => 0)), (r0, .inr (4, [.ref (v1 0), .ref (v1 1), .ref (v1 2), .int (-1), .int 0])), ((v1 2), .inr (1, [.ref (v1 14), .ref (v1 15), .ref (v1 16), .int 0])), ((v1 14), hcI k 10 (fun _ => 0)), ((v1 15), hcI k 10 (fun _ => 0)), ((v1 16), hcI k 10 (fun _ => 0)), ((v1 0), .inr (2, [.int 0, .int 0, .int 0, .int 0, .ref (v1 3), .ref (v1 4), .ref (v1 5), .ref (v1 6), .ref (v1 7), .ref (v1 8), .int 0, .int 0, .int 0, .ref (v1 9), .ref (v1 10), .int 0, .int 0])), ((v1 3), hcI k 4 (fun _ => 0)), ((v1 4), hcI k 8 (fun _ => 0)), ((v1 5), hcI k 8 (fun _ => 0)), ((v1 6), hcI k 8 (fun _ => 0)), ((v1 7), hcI k 8 (fun _ => 0)), ((v1 8), hcI k 4 (fun _ => 0)), ((v1 9), hcI k 4 (fun _ => 0)), ((v1 10), hcI k 4 (fun _ => 0))]) hx hb hml hown hts hG hA hP hD hS hl.1 [1, 2, 3, 4, 10, 11, 12, 13] [0, 5, 6, 7, 8, 9, 14, 15, 16, 17, 18, 19, 20, 21, 22, 23, 24, 25, 26] (c_X0_copyFrom l D k _ (v0 1) (v1 1) (v0 11) (v0 12) (v0 13) (v1 11) (v1 12) (v1 13)) (ci := 0) (q0 := 1) rfl rfl gX6_copyFrom_X0_copyFrom rfl ⟨rfl, rfl, Nat.le_of_ble_eq_true rfl, Nat.le_of_ble_eq_true rfl⟩ (by decide +kernel) rfl rfl ⟨by decide, by decide, by decide⟩ ⟨rfl, rfl, Nat.le_of_ble_eq_true rfl, Nat.le_of_ble_eq_true rfl, Nat.le_of_ble_eq_true rfl⟩ dX6_copyFrom_19 (fun u_3 H locs hw hP hD hS => ?_)
  have hP : va_P D vwCl ([(h0, .inr (4, [.ref (v0 0), .ref (v0 1), .ref (v0 2), .int (-1), .int 0])), ((v0 2), .inr (1, [.ref (v0 14), .ref (v0 15), .ref (v0 16), .int 0])), ((v0 14), hcI k 10 (fun _ => 0)), ((v0 15), hcI k 10 (fun _ => 0)), ((v0 16), hcI k 10 (fun _ => 0)), (r0, .inr (4, [.ref (v1 0), .ref (v1 1), .ref (v1 2), .int (-1), .int 0])), ((v1 2), .inr (1, [.ref (v1 14), .ref (v1 15), .ref (v1 16), .int 0])), ((v1 14), hcI k 10 (fun _ => 0)), ((v1 15), hcI k 10 (fun _ => 0)), ((v1 16), hcI k 10 (fun _ => 0)), ((v1 0), .inr (2, [.int 0, .int 0, .int 0, .int 0, .ref (v1 3), .ref (v1 4), .ref (v1 5), .ref (v1 6), .ref (v1 7), .ref (v1 8), .int 0, .int 0, .int 0, .ref (v1 9), .ref (v1 10), .int 0, .int 0])), ((v1 3), hcI k 4 (fun _ => 0)), ((v1 4), hcI k 8 (fun _ => 0)), ((v1 5), hcI k 8 (fun _ => 0)), ((v1 6), hcI k 8 (fun _ => 0)), ((v1 7), hcI k 8 (fun _ => 0)), ((v1 8), hcI k 4 (fun _ => 0)), ((v1 9), hcI k 4 (fun _ => 0)), ((v1 10), hcI k 4 (fun _ => 0)), ((v1 1), .inr (0, [.ref (v1 11), .ref (v1 12), .ref (v1 13), .int 0, .int 0])), ((v1 11), hcI k 20 (fun _ => 0)), ((v1 12), hcI k 20 (fun _ => 0)), ((v1 13), hcI k 20 (fun _ => 0))]) H := hP
  have hD : va_D A ([(h0, .inr (4, [.ref (v0 0), .ref (v0 1), .ref (v0 2), .int (-1), .int 0])), ((v0 2), .inr (1, [.ref (v0 14), .ref (v0 15), .ref (v0 16), .int 0])), ((v0 14), hcI k 10 (fun _ => 0)), ((v0 15), hcI k 10 (fun _ => 0)), ((v0 16), hcI k 10 (fun _ => 0)), (r0, .inr (4, [.ref (v1 0), .ref (v1 1), .ref (v1 2), .int (-1), .int 0])), ((v1 2), .inr (1, [.ref (v1 14), .ref (v1 15), .ref (v1 16), .int 0])), ((v1 14), hcI k 10 (fun _ => 0)), ((v1 15), hcI k 10 (fun _ => 0)), ((v1 16), hcI k 10 (fun _ => 0)), ((v1 0), .inr (2, [.int 0, .int 0, .int 0, .int 0, .ref (v1 3), .ref (v1 4), .ref (v1 5), .ref (v1 6), .ref (v1 7), .ref (v1 8), .int 0, .int 0, .int 0, .ref (v1 9), .ref (v1 10), .int 0, .int 0])), ((v1 3), hcI k 4 (fun _ => 0)), ((v1 4), hcI k 8 (fun _ => 0)), ((v1 5), hcI k 8 (fun _ => 0)), ((v1 6), hcI k 8 (fun _ => 0)), ((v1 7), hcI k 8 (fun _ => 0)), ((v1 8), hcI k 4 (fun _ => 0)), ((v1 9), hcI k 4 (fun _ => 0)), ((v1 10), hcI k 4 (fun _ => 0)), ((v1 1), .inr (0, [.ref (v1 11), .ref (v1 12), .ref (v1 13), .int 0, .int 0])), ((v1 11), hcI k 20 (fun _ => 0)), ((v1 12), hcI k 20 (fun _ => 0)), ((v1 13), hcI k 20 (fun _ => 0))]) := hD
  refine lv_aload_n hx hb dX6_copyFrom_22 rfl (lv_at hl 0 rfl) ?_
  refine va_get (D := D) (ci := 4) (v := .ref (v0 2)) (C := RX6) (T := TX6) (N := 5) hx hb hts in6 hown hG.1 hP 0 rfl rfl 2 (by decide) (hts (.fieldLink RX6 28 "ChairCane$Standing" "notes" "LChairCane$Notes;") (by decide +kernel)) (fun _ h9 => h9) rfl dX6_copyFrom_23 ?_
  refine lv_aload_n hx hb dX6_copyFrom_26 rfl (lv_at hl 1 rfl) ?_
  refine va_get (D := D) (ci := 4) (v := .ref (v1 2)) (C := RX6) (T := TX6) (N := 5) hx hb hts in6 hown hG.1 hP 5 rfl rfl 2 (by decide) (hts (.fieldLink RX6 28 "ChairCane$Standing" "notes" "LChairCane$Notes;") (by decide +kernel)) (fun _ h9 => h9) rfl dX6_copyFrom_27 ?_
  refine hc_Vv (As := [.ref (v1 2)]) (rest := []) (n := 1) (wr := [(h0, .inr (4, [.ref (v0 0), .ref (v0 1), .ref (v0 2), .int (-1), .int 0])), (r0, .inr (4, [.ref (v1 0), .ref (v1 1), .ref (v1 2), .int (-1), .int 0])), ((v1 0), .inr (2, [.int 0, .int 0, .int 0, .int 0, .ref (v1 3), .ref (v1 4), .ref (v1 5), .ref (v1 6), .ref (v1 7), .ref (v1 8), .int 0, .int 0, .int 0, .ref (v1 9), .ref (v1 10), .int 0, .int 0])), ((v1 3), hcI k 4 (fun _ => 0)), ((v1 4), hcI k 8 (fun _ => 0)), ((v1 5), hcI k 8 (fun _ => 0)), ((v1 6), hcI k 8 (fun _ => 0)), ((v1 7), hcI k 8 (fun _ => 0)), ((v1 8), hcI k 4 (fun _ => 0)), ((v1 9), hcI k 4 (fun _ => 0)), ((v1 10), hcI k 4 (fun _ => 0)), ((v1 1), .inr (0, [.ref (v1 11), .ref (v1 12), .ref (v1 13), .int 0, .int 0])), ((v1 11), hcI k 20 (fun _ => 0)), ((v1 12), hcI k 20 (fun _ => 0)), ((v1 13), hcI k 20 (fun _ => 0))]) hx hb hml hown hts hG hA hP hD hS hl.1 [1, 2, 3, 4, 6, 7, 8, 9] [0, 5, 10, 11, 12, 13, 14, 15, 16, 17, 18, 19, 20, 21, 22] (c_X2_copyFrom l D k _ (v0 2) (v1 2) (v0 14) (v0 15) (v0 16) (v1 14) (v1 15) (v1 16)) (ci := 1) (q0 := 1) rfl rfl gX6_copyFrom_X2_copyFrom rfl ⟨rfl, rfl, Nat.le_of_ble_eq_true rfl, Nat.le_of_ble_eq_true rfl⟩ (by decide +kernel) rfl rfl ⟨by decide, by decide, by decide⟩ ⟨rfl, rfl, Nat.le_of_ble_eq_true rfl, Nat.le_of_ble_eq_true rfl, Nat.le_of_ble_eq_true rfl⟩ dX6_copyFrom_30 (fun u_5 H locs hw hP hD hS => ?_)
  have hP : va_P D vwCl ([(h0, .inr (4, [.ref (v0 0), .ref (v0 1), .ref (v0 2), .int (-1), .int 0])), (r0, .inr (4, [.ref (v1 0), .ref (v1 1), .ref (v1 2), .int (-1), .int 0])), ((v1 0), .inr (2, [.int 0, .int 0, .int 0, .int 0, .ref (v1 3), .ref (v1 4), .ref (v1 5), .ref (v1 6), .ref (v1 7), .ref (v1 8), .int 0, .int 0, .int 0, .ref (v1 9), .ref (v1 10), .int 0, .int 0])), ((v1 3), hcI k 4 (fun _ => 0)), ((v1 4), hcI k 8 (fun _ => 0)), ((v1 5), hcI k 8 (fun _ => 0)), ((v1 6), hcI k 8 (fun _ => 0)), ((v1 7), hcI k 8 (fun _ => 0)), ((v1 8), hcI k 4 (fun _ => 0)), ((v1 9), hcI k 4 (fun _ => 0)), ((v1 10), hcI k 4 (fun _ => 0)), ((v1 1), .inr (0, [.ref (v1 11), .ref (v1 12), .ref (v1 13), .int 0, .int 0])), ((v1 11), hcI k 20 (fun _ => 0)), ((v1 12), hcI k 20 (fun _ => 0)), ((v1 13), hcI k 20 (fun _ => 0)), ((v1 2), .inr (1, [.ref (v1 14), .ref (v1 15), .ref (v1 16), .int 0])), ((v1 14), hcI k 10 (fun _ => 0)), ((v1 15), hcI k 10 (fun _ => 0)), ((v1 16), hcI k 10 (fun _ => 0))]) H := hP
  have hD : va_D A ([(h0, .inr (4, [.ref (v0 0), .ref (v0 1), .ref (v0 2), .int (-1), .int 0])), (r0, .inr (4, [.ref (v1 0), .ref (v1 1), .ref (v1 2), .int (-1), .int 0])), ((v1 0), .inr (2, [.int 0, .int 0, .int 0, .int 0, .ref (v1 3), .ref (v1 4), .ref (v1 5), .ref (v1 6), .ref (v1 7), .ref (v1 8), .int 0, .int 0, .int 0, .ref (v1 9), .ref (v1 10), .int 0, .int 0])), ((v1 3), hcI k 4 (fun _ => 0)), ((v1 4), hcI k 8 (fun _ => 0)), ((v1 5), hcI k 8 (fun _ => 0)), ((v1 6), hcI k 8 (fun _ => 0)), ((v1 7), hcI k 8 (fun _ => 0)), ((v1 8), hcI k 4 (fun _ => 0)), ((v1 9), hcI k 4 (fun _ => 0)), ((v1 10), hcI k 4 (fun _ => 0)), ((v1 1), .inr (0, [.ref (v1 11), .ref (v1 12), .ref (v1 13), .int 0, .int 0])), ((v1 11), hcI k 20 (fun _ => 0)), ((v1 12), hcI k 20 (fun _ => 0)), ((v1 13), hcI k 20 (fun _ => 0)), ((v1 2), .inr (1, [.ref (v1 14), .ref (v1 15), .ref (v1 16), .int 0])), ((v1 14), hcI k 10 (fun _ => 0)), ((v1 15), hcI k 10 (fun _ => 0)), ((v1 16), hcI k 10 (fun _ => 0))]) := hD
  refine lv_aload_n hx hb dX6_copyFrom_33 rfl (lv_at hl 0 rfl) ?_
  refine lv_aload_n hx hb dX6_copyFrom_34 rfl (lv_at hl 1 rfl) ?_
  refine va_get (D := D) (ci := 4) (v := .int (-1)) (C := RX6) (T := TX6) (N := 5) hx hb hts in6 hown hG.1 hP 1 rfl rfl 3 (by decide) (hts (.fieldLink RX6 32 "ChairCane$Standing" "inForce" "I") (by decide +kernel)) (fun _ h9 => h9) rfl dX6_copyFrom_35 ?_
  refine va_put (D := D) (ci := 4) (v := .int (-1)) (C := RX6) (T := TX6) (N := 5) hx hb hts in6 tyX6 tyX6_ok nmX6 hown hG.1 hP hD hS 0 rfl rfl 3 (by decide) (hts (.fieldLink RX6 32 "ChairCane$Standing" "inForce" "I") (by decide +kernel)) (fun _ h9 => h9) rfl (tyX6_ok 3 (by decide)) rfl rfl (Nat.le_of_ble_eq_true rfl) dX6_copyFrom_38 (fun H locs hP hD hS => ?_)
  have hP : va_P D vwCl ([(h0, .inr (4, [.ref (v0 0), .ref (v0 1), .ref (v0 2), .int (-1), .int 0])), (r0, .inr (4, [.ref (v1 0), .ref (v1 1), .ref (v1 2), .int (-1), .int 0])), ((v1 0), .inr (2, [.int 0, .int 0, .int 0, .int 0, .ref (v1 3), .ref (v1 4), .ref (v1 5), .ref (v1 6), .ref (v1 7), .ref (v1 8), .int 0, .int 0, .int 0, .ref (v1 9), .ref (v1 10), .int 0, .int 0])), ((v1 3), hcI k 4 (fun _ => 0)), ((v1 4), hcI k 8 (fun _ => 0)), ((v1 5), hcI k 8 (fun _ => 0)), ((v1 6), hcI k 8 (fun _ => 0)), ((v1 7), hcI k 8 (fun _ => 0)), ((v1 8), hcI k 4 (fun _ => 0)), ((v1 9), hcI k 4 (fun _ => 0)), ((v1 10), hcI k 4 (fun _ => 0)), ((v1 1), .inr (0, [.ref (v1 11), .ref (v1 12), .ref (v1 13), .int 0, .int 0])), ((v1 11), hcI k 20 (fun _ => 0)), ((v1 12), hcI k 20 (fun _ => 0)), ((v1 13), hcI k 20 (fun _ => 0)), ((v1 2), .inr (1, [.ref (v1 14), .ref (v1 15), .ref (v1 16), .int 0])), ((v1 14), hcI k 10 (fun _ => 0)), ((v1 15), hcI k 10 (fun _ => 0)), ((v1 16), hcI k 10 (fun _ => 0))]) H := hP
  have hD : va_D A ([(h0, .inr (4, [.ref (v0 0), .ref (v0 1), .ref (v0 2), .int (-1), .int 0])), (r0, .inr (4, [.ref (v1 0), .ref (v1 1), .ref (v1 2), .int (-1), .int 0])), ((v1 0), .inr (2, [.int 0, .int 0, .int 0, .int 0, .ref (v1 3), .ref (v1 4), .ref (v1 5), .ref (v1 6), .ref (v1 7), .ref (v1 8), .int 0, .int 0, .int 0, .ref (v1 9), .ref (v1 10), .int 0, .int 0])), ((v1 3), hcI k 4 (fun _ => 0)), ((v1 4), hcI k 8 (fun _ => 0)), ((v1 5), hcI k 8 (fun _ => 0)), ((v1 6), hcI k 8 (fun _ => 0)), ((v1 7), hcI k 8 (fun _ => 0)), ((v1 8), hcI k 4 (fun _ => 0)), ((v1 9), hcI k 4 (fun _ => 0)), ((v1 10), hcI k 4 (fun _ => 0)), ((v1 1), .inr (0, [.ref (v1 11), .ref (v1 12), .ref (v1 13), .int 0, .int 0])), ((v1 11), hcI k 20 (fun _ => 0)), ((v1 12), hcI k 20 (fun _ => 0)), ((v1 13), hcI k 20 (fun _ => 0)), ((v1 2), .inr (1, [.ref (v1 14), .ref (v1 15), .ref (v1 16), .int 0])), ((v1 14), hcI k 10 (fun _ => 0)), ((v1 15), hcI k 10 (fun _ => 0)), ((v1 16), hcI k 10 (fun _ => 0))]) := hD
  refine lv_aload_n hx hb dX6_copyFrom_41 rfl (lv_at hl 0 rfl) ?_
  refine lv_aload_n hx hb dX6_copyFrom_42 rfl (lv_at hl 1 rfl) ?_
  refine va_get (D := D) (ci := 4) (v := .int 0) (C := RX6) (T := TX6) (N := 5) hx hb hts in6 hown hG.1 hP 1 rfl rfl 4 (by decide) (hts (.fieldLink RX6 36 "ChairCane$Standing" "x" "I") (by decide +kernel)) (fun _ h9 => h9) rfl dX6_copyFrom_43 ?_
  refine va_put (D := D) (ci := 4) (v := .int 0) (C := RX6) (T := TX6) (N := 5) hx hb hts in6 tyX6 tyX6_ok nmX6 hown hG.1 hP hD hS 0 rfl rfl 4 (by decide) (hts (.fieldLink RX6 36 "ChairCane$Standing" "x" "I") (by decide +kernel)) (fun _ h9 => h9) rfl (tyX6_ok 4 (by decide)) rfl rfl (Nat.le_of_ble_eq_true rfl) dX6_copyFrom_46 (fun H locs hP hD hS => ?_)
  have hP : va_P D vwCl ([(h0, .inr (4, [.ref (v0 0), .ref (v0 1), .ref (v0 2), .int (-1), .int 0])), (r0, .inr (4, [.ref (v1 0), .ref (v1 1), .ref (v1 2), .int (-1), .int 0])), ((v1 0), .inr (2, [.int 0, .int 0, .int 0, .int 0, .ref (v1 3), .ref (v1 4), .ref (v1 5), .ref (v1 6), .ref (v1 7), .ref (v1 8), .int 0, .int 0, .int 0, .ref (v1 9), .ref (v1 10), .int 0, .int 0])), ((v1 3), hcI k 4 (fun _ => 0)), ((v1 4), hcI k 8 (fun _ => 0)), ((v1 5), hcI k 8 (fun _ => 0)), ((v1 6), hcI k 8 (fun _ => 0)), ((v1 7), hcI k 8 (fun _ => 0)), ((v1 8), hcI k 4 (fun _ => 0)), ((v1 9), hcI k 4 (fun _ => 0)), ((v1 10), hcI k 4 (fun _ => 0)), ((v1 1), .inr (0, [.ref (v1 11), .ref (v1 12), .ref (v1 13), .int 0, .int 0])), ((v1 11), hcI k 20 (fun _ => 0)), ((v1 12), hcI k 20 (fun _ => 0)), ((v1 13), hcI k 20 (fun _ => 0)), ((v1 2), .inr (1, [.ref (v1 14), .ref (v1 15), .ref (v1 16), .int 0])), ((v1 14), hcI k 10 (fun _ => 0)), ((v1 15), hcI k 10 (fun _ => 0)), ((v1 16), hcI k 10 (fun _ => 0))]) H := hP
  have hD : va_D A ([(h0, .inr (4, [.ref (v0 0), .ref (v0 1), .ref (v0 2), .int (-1), .int 0])), (r0, .inr (4, [.ref (v1 0), .ref (v1 1), .ref (v1 2), .int (-1), .int 0])), ((v1 0), .inr (2, [.int 0, .int 0, .int 0, .int 0, .ref (v1 3), .ref (v1 4), .ref (v1 5), .ref (v1 6), .ref (v1 7), .ref (v1 8), .int 0, .int 0, .int 0, .ref (v1 9), .ref (v1 10), .int 0, .int 0])), ((v1 3), hcI k 4 (fun _ => 0)), ((v1 4), hcI k 8 (fun _ => 0)), ((v1 5), hcI k 8 (fun _ => 0)), ((v1 6), hcI k 8 (fun _ => 0)), ((v1 7), hcI k 8 (fun _ => 0)), ((v1 8), hcI k 4 (fun _ => 0)), ((v1 9), hcI k 4 (fun _ => 0)), ((v1 10), hcI k 4 (fun _ => 0)), ((v1 1), .inr (0, [.ref (v1 11), .ref (v1 12), .ref (v1 13), .int 0, .int 0])), ((v1 11), hcI k 20 (fun _ => 0)), ((v1 12), hcI k 20 (fun _ => 0)), ((v1 13), hcI k 20 (fun _ => 0)), ((v1 2), .inr (1, [.ref (v1 14), .ref (v1 15), .ref (v1 16), .int 0])), ((v1 14), hcI k 10 (fun _ => 0)), ((v1 15), hcI k 10 (fun _ => 0)), ((v1 16), hcI k 10 (fun _ => 0))]) := hD
  exact hc_endV hx hb hr hlocks () trivial (hP.sub [1, 2, 3, 4, 5, 6, 7, 8, 9, 10, 11, 12, 13, 14, 15, 16, 17, 18] rfl) (hD.sub [1, 2, 3, 4, 5, 6, 7, 8, 9, 10, 11, 12, 13, 14, 15, 16, 17, 18] (by decide) rfl) hS dX6_copyFrom_49
set_option maxHeartbeats 4000000 in
set_option maxRecDepth 100000 in
theorem c_X8_feed (l : Launch) (D : va_G) (k : Nat → ClassId) (sz : Nat) (h0 : Nat) (q qt qn i0 i1 i2 i3 : Nat → Nat) (x1 x2 x3 x4 x5 : Int32) : CtI l yX8_feed wsX8_feed (rmK 4 0 0) [.ref h0, .int x1, .int x2, .int x3, .int x4, .int x5] D k sz ([(h0, .inr (6, [.ref (q 0), .ref (q 1), .int 0, .ref (q 2), .ref (q 3), .ref (q 4), .ref (q 5), .ref (q 6), .ref (q 7), .ref (q 8), .ref (q 9), .ref (q 10)])), ((q 0), .inr (5, [.ref (qt 0), .int 0, .ref (qt 1), .ref (qt 2), .ref (qt 3), .int 0, .int 0, .int 0])), ((qt 0), hcY k 400 (fun _ => 0))]) (fun (r : Int32) (_ : Unit) => r = (20)) (fun _ : Unit => []) 0 0 := by
  refine CtI.mk (cc := cX8_feed) (maxL := 6) (ret := (some .int)) (by decide) rfl (Nat.le_of_ble_eq_true rfl) ?_
  intro p e s m below meth c A ls E hP hD hS hl
  obtain ⟨hx, hb, hr, hml, hown, hts, hlocks, hin, hG, hA⟩ := E
  have hown : s.vm.findClass RX8 = some m.cls := hown
  have in7 : ∀ w ∈ u_ws RX7 TX7 8, w ∈ wsX8_feed := fun _ h => List.mem_cons_of_mem _ (List.mem_append_right _ h)
  have in8 : ∀ w ∈ u_ws RX8 TX8 12, w ∈ wsX8_feed := fun _ h => List.mem_cons_of_mem _ (List.mem_append_left _ (List.mem_append_right _ h))
  have hl : lv_has ls 6 [(0, .ref h0), (1, .int x1), (2, .int x2), (3, .int x3), (4, .int x4), (5, .int x5)] := hl
  refine lv_aload_n hx hb dX8_feed_0 rfl (lv_at hl 0 rfl) ?_
  refine va_get (D := D) (ci := 6) (v := .ref (q 0)) (C := RX8) (T := TX8) (N := 12) hx hb hts in8 hown hG.1 hP 0 rfl rfl 0 (by decide) (hts (.fieldLink RX8 10 "ChairCane" "tape" "LChairCane$Tape;") (by decide +kernel)) (fun _ h9 => h9) rfl dX8_feed_1 ?_
  refine va_get (D := D) (ci := 5) (v := .int 0) (C := RX7) (T := TX7) (N := 8) hx hb hts in7 hown hG.1 hP 1 rfl rfl 1 (by decide) (hts (.fieldLink RX8 65 "ChairCane$Tape" "length" "I") (by decide +kernel)) (fun _ h9 => h9) rfl dX8_feed_4 ?_
  refine lv_bipush (v := 20) hx hb dX8_feed_7 (by decide) ?_
  refine lv_iadd hx hb dX8_feed_9 ?_
  refine hc_is (z := 20) (by decide) ?_
  refine lv_sipush (v := 400) hx hb dX8_feed_10 (by decide) ?_
  refine lv_icmp_le (tgt := 18) hx hb dX8_feed_13 (by decide) (fun _ => ?_) (fun h => absurd (by decide) h)
  refine lv_aload_n hx hb dX8_feed_18 rfl (lv_at hl 0 rfl) ?_
  refine va_get (D := D) (ci := 6) (v := .ref (q 0)) (C := RX8) (T := TX8) (N := 12) hx hb hts in8 hown hG.1 hP 0 rfl rfl 0 (by decide) (hts (.fieldLink RX8 10 "ChairCane" "tape" "LChairCane$Tape;") (by decide +kernel)) (fun _ h9 => h9) rfl dX8_feed_19 ?_
  refine lv_iload_n hx hb dX8_feed_22 rfl (lv_at hl 1 rfl) ?_
  refine hc_Vv (As := [.int x1]) (rest := []) (n := 1) (wr := [(h0, .inr (6, [.ref (q 0), .ref (q 1), .int 0, .ref (q 2), .ref (q 3), .ref (q 4), .ref (q 5), .ref (q 6), .ref (q 7), .ref (q 8), .ref (q 9), .ref (q 10)]))]) hx hb hml hown hts hG hA hP hD hS hl.1 [1, 2] [0] (c_X7_append_0 l D k _ (q 0) (qt 0) (qt 1) (qt 2) (qt 3) (fun _ => 0) x1) (ci := 5) (q0 := 1) rfl rfl gX8_feed_X7_append rfl ⟨rfl, rfl, Nat.le_of_ble_eq_true rfl, Nat.le_of_ble_eq_true rfl⟩ (by decide +kernel) rfl rfl ⟨by decide, by decide, by decide⟩ ⟨rfl, rfl, Nat.le_of_ble_eq_true rfl, Nat.le_of_ble_eq_true rfl, Nat.le_of_ble_eq_true rfl⟩ dX8_feed_23 (fun u_1 H locs hw hP hD hS => ?_)
  have hP : va_P D vwCl ([(h0, .inr (6, [.ref (q 0), .ref (q 1), .int 0, .ref (q 2), .ref (q 3), .ref (q 4), .ref (q 5), .ref (q 6), .ref (q 7), .ref (q 8), .ref (q 9), .ref (q 10)])), ((q 0), .inr (5, [.ref (qt 0), .int 4, .ref (qt 1), .ref (qt 2), .ref (qt 3), .int 0, .int 0, .int 0])), ((qt 0), hcY k 400 u_1)]) H := hP
  have hD : va_D A ([(h0, .inr (6, [.ref (q 0), .ref (q 1), .int 0, .ref (q 2), .ref (q 3), .ref (q 4), .ref (q 5), .ref (q 6), .ref (q 7), .ref (q 8), .ref (q 9), .ref (q 10)])), ((q 0), .inr (5, [.ref (qt 0), .int 4, .ref (qt 1), .ref (qt 2), .ref (qt 3), .int 0, .int 0, .int 0])), ((qt 0), hcY k 400 u_1)]) := hD
  refine lv_aload_n hx hb dX8_feed_26 rfl (lv_at hl 0 rfl) ?_
  refine va_get (D := D) (ci := 6) (v := .ref (q 0)) (C := RX8) (T := TX8) (N := 12) hx hb hts in8 hown hG.1 hP 0 rfl rfl 0 (by decide) (hts (.fieldLink RX8 10 "ChairCane" "tape" "LChairCane$Tape;") (by decide +kernel)) (fun _ h9 => h9) rfl dX8_feed_27 ?_
  refine lv_iload_n hx hb dX8_feed_30 rfl (lv_at hl 2 rfl) ?_
  refine hc_Vv (As := [.int x2]) (rest := []) (n := 1) (wr := [(h0, .inr (6, [.ref (q 0), .ref (q 1), .int 0, .ref (q 2), .ref (q 3), .ref (q 4), .ref (q 5), .ref (q 6), .ref (q 7), .ref (q 8), .ref (q 9), .ref (q 10)]))]) hx hb hml hown hts hG hA hP hD hS hl.1 [1, 2] [0] (c_X7_append_4 l D k _ (q 0) (qt 0) (qt 1) (qt 2) (qt 3) u_1 x2) (ci := 5) (q0 := 1) rfl rfl gX8_feed_X7_append rfl ⟨rfl, rfl, Nat.le_of_ble_eq_true rfl, Nat.le_of_ble_eq_true rfl⟩ (by decide +kernel) rfl rfl ⟨by decide, by decide, by decide⟩ ⟨rfl, rfl, Nat.le_of_ble_eq_true rfl, Nat.le_of_ble_eq_true rfl, Nat.le_of_ble_eq_true rfl⟩ dX8_feed_31 (fun u_3 H locs hw hP hD hS => ?_)
  have hP : va_P D vwCl ([(h0, .inr (6, [.ref (q 0), .ref (q 1), .int 0, .ref (q 2), .ref (q 3), .ref (q 4), .ref (q 5), .ref (q 6), .ref (q 7), .ref (q 8), .ref (q 9), .ref (q 10)])), ((q 0), .inr (5, [.ref (qt 0), .int 8, .ref (qt 1), .ref (qt 2), .ref (qt 3), .int 0, .int 0, .int 0])), ((qt 0), hcY k 400 u_3)]) H := hP
  have hD : va_D A ([(h0, .inr (6, [.ref (q 0), .ref (q 1), .int 0, .ref (q 2), .ref (q 3), .ref (q 4), .ref (q 5), .ref (q 6), .ref (q 7), .ref (q 8), .ref (q 9), .ref (q 10)])), ((q 0), .inr (5, [.ref (qt 0), .int 8, .ref (qt 1), .ref (qt 2), .ref (qt 3), .int 0, .int 0, .int 0])), ((qt 0), hcY k 400 u_3)]) := hD
  refine lv_aload_n hx hb dX8_feed_34 rfl (lv_at hl 0 rfl) ?_
  refine va_get (D := D) (ci := 6) (v := .ref (q 0)) (C := RX8) (T := TX8) (N := 12) hx hb hts in8 hown hG.1 hP 0 rfl rfl 0 (by decide) (hts (.fieldLink RX8 10 "ChairCane" "tape" "LChairCane$Tape;") (by decide +kernel)) (fun _ h9 => h9) rfl dX8_feed_35 ?_
  refine lv_iload_n hx hb dX8_feed_38 rfl (lv_at hl 3 rfl) ?_
  refine hc_Vv (As := [.int x3]) (rest := []) (n := 1) (wr := [(h0, .inr (6, [.ref (q 0), .ref (q 1), .int 0, .ref (q 2), .ref (q 3), .ref (q 4), .ref (q 5), .ref (q 6), .ref (q 7), .ref (q 8), .ref (q 9), .ref (q 10)]))]) hx hb hml hown hts hG hA hP hD hS hl.1 [1, 2] [0] (c_X7_append_8 l D k _ (q 0) (qt 0) (qt 1) (qt 2) (qt 3) u_3 x3) (ci := 5) (q0 := 1) rfl rfl gX8_feed_X7_append rfl ⟨rfl, rfl, Nat.le_of_ble_eq_true rfl, Nat.le_of_ble_eq_true rfl⟩ (by decide +kernel) rfl rfl ⟨by decide, by decide, by decide⟩ ⟨rfl, rfl, Nat.le_of_ble_eq_true rfl, Nat.le_of_ble_eq_true rfl, Nat.le_of_ble_eq_true rfl⟩ dX8_feed_39 (fun u_5 H locs hw hP hD hS => ?_)
  have hP : va_P D vwCl ([(h0, .inr (6, [.ref (q 0), .ref (q 1), .int 0, .ref (q 2), .ref (q 3), .ref (q 4), .ref (q 5), .ref (q 6), .ref (q 7), .ref (q 8), .ref (q 9), .ref (q 10)])), ((q 0), .inr (5, [.ref (qt 0), .int 12, .ref (qt 1), .ref (qt 2), .ref (qt 3), .int 0, .int 0, .int 0])), ((qt 0), hcY k 400 u_5)]) H := hP
  have hD : va_D A ([(h0, .inr (6, [.ref (q 0), .ref (q 1), .int 0, .ref (q 2), .ref (q 3), .ref (q 4), .ref (q 5), .ref (q 6), .ref (q 7), .ref (q 8), .ref (q 9), .ref (q 10)])), ((q 0), .inr (5, [.ref (qt 0), .int 12, .ref (qt 1), .ref (qt 2), .ref (qt 3), .int 0, .int 0, .int 0])), ((qt 0), hcY k 400 u_5)]) := hD
  refine lv_aload_n hx hb dX8_feed_42 rfl (lv_at hl 0 rfl) ?_
  refine va_get (D := D) (ci := 6) (v := .ref (q 0)) (C := RX8) (T := TX8) (N := 12) hx hb hts in8 hown hG.1 hP 0 rfl rfl 0 (by decide) (hts (.fieldLink RX8 10 "ChairCane" "tape" "LChairCane$Tape;") (by decide +kernel)) (fun _ h9 => h9) rfl dX8_feed_43 ?_
  refine lv_iload hx hb dX8_feed_46 (lv_at hl 4 rfl) ?_
  refine hc_Vv (As := [.int x4]) (rest := []) (n := 1) (wr := [(h0, .inr (6, [.ref (q 0), .ref (q 1), .int 0, .ref (q 2), .ref (q 3), .ref (q 4), .ref (q 5), .ref (q 6), .ref (q 7), .ref (q 8), .ref (q 9), .ref (q 10)]))]) hx hb hml hown hts hG hA hP hD hS hl.1 [1, 2] [0] (c_X7_append_12 l D k _ (q 0) (qt 0) (qt 1) (qt 2) (qt 3) u_5 x4) (ci := 5) (q0 := 1) rfl rfl gX8_feed_X7_append rfl ⟨rfl, rfl, Nat.le_of_ble_eq_true rfl, Nat.le_of_ble_eq_true rfl⟩ (by decide +kernel) rfl rfl ⟨by decide, by decide, by decide⟩ ⟨rfl, rfl, Nat.le_of_ble_eq_true rfl, Nat.le_of_ble_eq_true rfl, Nat.le_of_ble_eq_true rfl⟩ dX8_feed_48 (fun u_7 H locs hw hP hD hS => ?_)
  have hP : va_P D vwCl ([(h0, .inr (6, [.ref (q 0), .ref (q 1), .int 0, .ref (q 2), .ref (q 3), .ref (q 4), .ref (q 5), .ref (q 6), .ref (q 7), .ref (q 8), .ref (q 9), .ref (q 10)])), ((q 0), .inr (5, [.ref (qt 0), .int 16, .ref (qt 1), .ref (qt 2), .ref (qt 3), .int 0, .int 0, .int 0])), ((qt 0), hcY k 400 u_7)]) H := hP
  have hD : va_D A ([(h0, .inr (6, [.ref (q 0), .ref (q 1), .int 0, .ref (q 2), .ref (q 3), .ref (q 4), .ref (q 5), .ref (q 6), .ref (q 7), .ref (q 8), .ref (q 9), .ref (q 10)])), ((q 0), .inr (5, [.ref (qt 0), .int 16, .ref (qt 1), .ref (qt 2), .ref (qt 3), .int 0, .int 0, .int 0])), ((qt 0), hcY k 400 u_7)]) := hD
  refine lv_aload_n hx hb dX8_feed_51 rfl (lv_at hl 0 rfl) ?_
  refine va_get (D := D) (ci := 6) (v := .ref (q 0)) (C := RX8) (T := TX8) (N := 12) hx hb hts in8 hown hG.1 hP 0 rfl rfl 0 (by decide) (hts (.fieldLink RX8 10 "ChairCane" "tape" "LChairCane$Tape;") (by decide +kernel)) (fun _ h9 => h9) rfl dX8_feed_52 ?_
  refine lv_iload hx hb dX8_feed_55 (lv_at hl 5 rfl) ?_
  refine hc_Vv (As := [.int x5]) (rest := []) (n := 1) (wr := [(h0, .inr (6, [.ref (q 0), .ref (q 1), .int 0, .ref (q 2), .ref (q 3), .ref (q 4), .ref (q 5), .ref (q 6), .ref (q 7), .ref (q 8), .ref (q 9), .ref (q 10)]))]) hx hb hml hown hts hG hA hP hD hS hl.1 [1, 2] [0] (c_X7_append_16 l D k _ (q 0) (qt 0) (qt 1) (qt 2) (qt 3) u_7 x5) (ci := 5) (q0 := 1) rfl rfl gX8_feed_X7_append rfl ⟨rfl, rfl, Nat.le_of_ble_eq_true rfl, Nat.le_of_ble_eq_true rfl⟩ (by decide +kernel) rfl rfl ⟨by decide, by decide, by decide⟩ ⟨rfl, rfl, Nat.le_of_ble_eq_true rfl, Nat.le_of_ble_eq_true rfl, Nat.le_of_ble_eq_true rfl⟩ dX8_feed_57 (fun u_9 H locs hw hP hD hS => ?_)
  have hP : va_P D vwCl ([(h0, .inr (6, [.ref (q 0), .ref (q 1), .int 0, .ref (q 2), .ref (q 3), .ref (q 4), .ref (q 5), .ref (q 6), .ref (q 7), .ref (q 8), .ref (q 9), .ref (q 10)])), ((q 0), .inr (5, [.ref (qt 0), .int 20, .ref (qt 1), .ref (qt 2), .ref (qt 3), .int 0, .int 0, .int 0])), ((qt 0), hcY k 400 u_9)]) H := hP
  have hD : va_D A ([(h0, .inr (6, [.ref (q 0), .ref (q 1), .int 0, .ref (q 2), .ref (q 3), .ref (q 4), .ref (q 5), .ref (q 6), .ref (q 7), .ref (q 8), .ref (q 9), .ref (q 10)])), ((q 0), .inr (5, [.ref (qt 0), .int 20, .ref (qt 1), .ref (qt 2), .ref (qt 3), .int 0, .int 0, .int 0])), ((qt 0), hcY k 400 u_9)]) := hD
  refine lv_aload_n hx hb dX8_feed_60 rfl (lv_at hl 0 rfl) ?_
  refine va_get (D := D) (ci := 6) (v := .ref (q 0)) (C := RX8) (T := TX8) (N := 12) hx hb hts in8 hown hG.1 hP 0 rfl rfl 0 (by decide) (hts (.fieldLink RX8 10 "ChairCane" "tape" "LChairCane$Tape;") (by decide +kernel)) (fun _ h9 => h9) rfl dX8_feed_61 ?_
  refine va_get (D := D) (ci := 5) (v := .int 20) (C := RX7) (T := TX7) (N := 8) hx hb hts in7 hown hG.1 hP 1 rfl rfl 1 (by decide) (hts (.fieldLink RX8 65 "ChairCane$Tape" "length" "I") (by decide +kernel)) (fun _ h9 => h9) rfl dX8_feed_64 ?_
  exact hc_end hx hb hr hlocks () rfl (hP.sub [] rfl) (hD.sub [] (by decide) rfl) hS dX8_feed_67
set_option maxHeartbeats 4000000 in
set_option maxRecDepth 100000 in
theorem c_X8_hall (l : Launch) (D : va_G) (k : Nat → ClassId) (sz : Nat) (h0 : Nat) (q qt qn i0 i1 i2 i3 : Nat → Nat) : CtI l yX8_hall wsX8_hall (rmK 4 0 0) [.ref h0] D k sz ([(h0, .inr (6, [.ref (q 0), .ref (q 1), .int 0, .ref (q 2), .ref (q 3), .ref (q 4), .ref (q 5), .ref (q 6), .ref (q 7), .ref (q 8), .ref (q 9), .ref (q 10)])), ((q 0), .inr (5, [.ref (qt 0), .int 0, .ref (qt 1), .ref (qt 2), .ref (qt 3), .int 0, .int 0, .int 0])), ((qt 1), hcI k 401 (fun _ => 0)), ((qt 2), hcI k 401 (fun _ => 0)), ((qt 3), hcI k 401 (fun _ => 0)), ((q 5), .inr (2, [.int 0, .int 0, .int 0, .int 0, .ref (q 21), .ref (q 22), .ref (q 23), .ref (q 24), .ref (q 25), .ref (q 26), .int 0, .int 0, .int 0, .ref (q 27), .ref (q 28), .int 0, .int 0]))]) (fun (r : Int32) (_ : Unit) => r = (-3)) (fun _ : Unit => []) 0 0 := by
  refine CtI.mk (cc := cX8_hall) (maxL := 3) (ret := (some .int)) (by decide) rfl (Nat.le_of_ble_eq_true rfl) ?_
  intro p e s m below meth c A ls E hP hD hS hl
  obtain ⟨hx, hb, hr, hml, hown, hts, hlocks, hin, hG, hA⟩ := E
  have hown : s.vm.findClass RX8 = some m.cls := hown
  have in0 : ∀ w ∈ u_ws RX0 TX0 5, w ∈ wsX8_hall := fun _ h => List.mem_cons_of_mem _ (List.mem_append_left _ (List.mem_append_right _ h))
  have in2 : ∀ w ∈ u_ws RX2 TX2 4, w ∈ wsX8_hall := fun _ h => List.mem_cons_of_mem _ (List.mem_append_right _ h)
  have in3 : ∀ w ∈ u_ws RX3 TX3 17, w ∈ wsX8_hall := fun _ h => List.mem_cons_of_mem _ (List.mem_append_left _ (List.mem_append_left _ (List.mem_append_right _ h)))
  have in6 : ∀ w ∈ u_ws RX6 TX6 5, w ∈ wsX8_hall := fun _ h => List.mem_cons_of_mem _ (List.mem_append_left _ (List.mem_append_left _ (List.mem_append_left _ (List.mem_append_right _ h))))
  have in7 : ∀ w ∈ u_ws RX7 TX7 8, w ∈ wsX8_hall := fun _ h => List.mem_cons_of_mem _ (List.mem_append_left _ (List.mem_append_left _ (List.mem_append_left _ (List.mem_append_left _ (List.mem_append_right _ h)))))
  have in8 : ∀ w ∈ u_ws RX8 TX8 12, w ∈ wsX8_hall := fun _ h => List.mem_cons_of_mem _ (List.mem_append_left _ (List.mem_append_left _ (List.mem_append_left _ (List.mem_append_left _ (List.mem_append_left _ (List.mem_append_right _ h))))))
  have hl : lv_has ls 3 [(0, .ref h0)] := hl
  refine lv_aload_n hx hb dX8_hall_0 rfl (lv_at hl 0 rfl) ?_
  refine va_get (D := D) (ci := 6) (v := .ref (q 0)) (C := RX8) (T := TX8) (N := 12) hx hb hts in8 hown hG.1 hP 0 rfl rfl 0 (by decide) (hts (.fieldLink RX8 10 "ChairCane" "tape" "LChairCane$Tape;") (by decide +kernel)) (fun _ h9 => h9) rfl dX8_hall_1 ?_
  refine lv_aload_n hx hb dX8_hall_4 rfl (lv_at hl 0 rfl) ?_
  refine va_get (D := D) (ci := 6) (v := .ref (q 5)) (C := RX8) (T := TX8) (N := 12) hx hb hts in8 hown hG.1 hP 0 rfl rfl 6 (by decide) (hts (.fieldLink RX8 44 "ChairCane" "trial" "LChairCane$Room;") (by decide +kernel)) (fun _ h9 => h9) rfl dX8_hall_5 ?_
  refine hc_Si (As := [.ref (q 0), .ref (q 5)]) (rest := []) (n := 2) (wr := [(h0, .inr (6, [.ref (q 0), .ref (q 1), .int 0, .ref (q 2), .ref (q 3), .ref (q 4), .ref (q 5), .ref (q 6), .ref (q 7), .ref (q 8), .ref (q 9), .ref (q 10)]))]) hx hb hml hown hts hG hA hP hD hS hl.1 [1, 2, 3, 4, 5] [0] (c_X1_read l D k _ (q 0) (qt 0) (qt 1) (qt 2) (qt 3) (q 5) (q 21) (q 22) (q 23) (q 24) (q 25) (q 26) (q 27) (q 28)) gX8_hall_X1_read rfl ⟨rfl, rfl, Nat.le_of_ble_eq_true rfl, Nat.le_of_ble_eq_true rfl⟩ (by decide +kernel) rfl rfl ⟨by decide, by decide, by decide⟩ ⟨rfl, rfl, Nat.le_of_ble_eq_true rfl, Nat.le_of_ble_eq_true rfl, Nat.le_of_ble_eq_true rfl⟩ dX8_hall_8 (fun r_2 u_1 H locs hw hP hD hS => ?_)
  have hP : va_P D vwCl ([(h0, .inr (6, [.ref (q 0), .ref (q 1), .int 0, .ref (q 2), .ref (q 3), .ref (q 4), .ref (q 5), .ref (q 6), .ref (q 7), .ref (q 8), .ref (q 9), .ref (q 10)])), ((qt 3), hcI k 401 (upd (fun _ => 0) 0 0)), ((q 5), .inr (2, [.int 0, .int 0, .int 0, .int 0, .ref (q 21), .ref (q 22), .ref (q 23), .ref (q 24), .ref (q 25), .ref (q 26), .int 0, .int 0, .int 0, .ref (q 27), .ref (q 28), .int 0, .int 0])), ((qt 1), hcI k 401 (upd (fun _ => 0) 0 (-1))), ((q 0), .inr (5, [.ref (qt 0), .int 0, .ref (qt 1), .ref (qt 2), .ref (qt 3), .int 1, .int 0, .int 1])), ((qt 2), hcI k 401 (upd (fun _ => 0) 0 0))]) H := hP
  have hD : va_D A ([(h0, .inr (6, [.ref (q 0), .ref (q 1), .int 0, .ref (q 2), .ref (q 3), .ref (q 4), .ref (q 5), .ref (q 6), .ref (q 7), .ref (q 8), .ref (q 9), .ref (q 10)])), ((qt 3), hcI k 401 (upd (fun _ => 0) 0 0)), ((q 5), .inr (2, [.int 0, .int 0, .int 0, .int 0, .ref (q 21), .ref (q 22), .ref (q 23), .ref (q 24), .ref (q 25), .ref (q 26), .int 0, .int 0, .int 0, .ref (q 27), .ref (q 28), .int 0, .int 0])), ((qt 1), hcI k 401 (upd (fun _ => 0) 0 (-1))), ((q 0), .inr (5, [.ref (qt 0), .int 0, .ref (qt 1), .ref (qt 2), .ref (qt 3), .int 1, .int 0, .int 1])), ((qt 2), hcI k 401 (upd (fun _ => 0) 0 0))]) := hD
  obtain rfl : r_2 = 0 := hw
  refine lv_istore_n (lv' := [(1, .int 0), (0, .ref h0)]) hx hb dX8_hall_11 rfl hl (by decide) rfl (fun ls hl => ?_)
  refine lv_aload_n hx hb dX8_hall_12 rfl (lv_at hl 1 rfl) ?_
  refine va_get (D := D) (ci := 6) (v := .ref (q 0)) (C := RX8) (T := TX8) (N := 12) hx hb hts in8 hown hG.1 hP 0 rfl rfl 0 (by decide) (hts (.fieldLink RX8 10 "ChairCane" "tape" "LChairCane$Tape;") (by decide +kernel)) (fun _ h9 => h9) rfl dX8_hall_13 ?_
  refine va_get (D := D) (ci := 5) (v := .int 1) (C := RX7) (T := TX7) (N := 8) hx hb hts in7 hown hG.1 hP 4 rfl rfl 7 (by decide) (hts (.fieldLink RX8 78 "ChairCane$Tape" "fault" "I") (by decide +kernel)) (fun _ h9 => h9) rfl dX8_hall_16 ?_
  refine lv_istore_n (lv' := [(2, .int 1), (1, .int 0), (0, .ref h0)]) hx hb dX8_hall_19 rfl hl (by decide) rfl (fun ls hl => ?_)
  refine lv_aload_n hx hb dX8_hall_20 rfl (lv_at hl 2 rfl) ?_
  refine va_get (D := D) (ci := 6) (v := .ref (q 0)) (C := RX8) (T := TX8) (N := 12) hx hb hts in8 hown hG.1 hP 0 rfl rfl 0 (by decide) (hts (.fieldLink RX8 10 "ChairCane" "tape" "LChairCane$Tape;") (by decide +kernel)) (fun _ h9 => h9) rfl dX8_hall_21 ?_
  refine lv_iconst (v := 0) hx hb dX8_hall_24 (by decide) ?_
  refine va_put (D := D) (ci := 5) (v := .int 0) (C := RX7) (T := TX7) (N := 8) hx hb hts in7 tyX7 tyX7_ok nmX7 hown hG.1 hP hD hS 4 rfl rfl 1 (by decide) (hts (.fieldLink RX8 65 "ChairCane$Tape" "length" "I") (by decide +kernel)) (fun _ h9 => h9) rfl (tyX7_ok 1 (by decide)) rfl rfl (Nat.le_of_ble_eq_true rfl) dX8_hall_25 (fun H locs hP hD hS => ?_)
  have hP : va_P D vwCl ([(h0, .inr (6, [.ref (q 0), .ref (q 1), .int 0, .ref (q 2), .ref (q 3), .ref (q 4), .ref (q 5), .ref (q 6), .ref (q 7), .ref (q 8), .ref (q 9), .ref (q 10)])), ((qt 3), hcI k 401 (upd (fun _ => 0) 0 0)), ((q 5), .inr (2, [.int 0, .int 0, .int 0, .int 0, .ref (q 21), .ref (q 22), .ref (q 23), .ref (q 24), .ref (q 25), .ref (q 26), .int 0, .int 0, .int 0, .ref (q 27), .ref (q 28), .int 0, .int 0])), ((qt 1), hcI k 401 (upd (fun _ => 0) 0 (-1))), ((q 0), .inr (5, [.ref (qt 0), .int 0, .ref (qt 1), .ref (qt 2), .ref (qt 3), .int 1, .int 0, .int 1])), ((qt 2), hcI k 401 (upd (fun _ => 0) 0 0))]) H := hP
  have hD : va_D A ([(h0, .inr (6, [.ref (q 0), .ref (q 1), .int 0, .ref (q 2), .ref (q 3), .ref (q 4), .ref (q 5), .ref (q 6), .ref (q 7), .ref (q 8), .ref (q 9), .ref (q 10)])), ((qt 3), hcI k 401 (upd (fun _ => 0) 0 0)), ((q 5), .inr (2, [.int 0, .int 0, .int 0, .int 0, .ref (q 21), .ref (q 22), .ref (q 23), .ref (q 24), .ref (q 25), .ref (q 26), .int 0, .int 0, .int 0, .ref (q 27), .ref (q 28), .int 0, .int 0])), ((qt 1), hcI k 401 (upd (fun _ => 0) 0 (-1))), ((q 0), .inr (5, [.ref (qt 0), .int 0, .ref (qt 1), .ref (qt 2), .ref (qt 3), .int 1, .int 0, .int 1])), ((qt 2), hcI k 401 (upd (fun _ => 0) 0 0))]) := hD
  refine lv_iload_n hx hb dX8_hall_28 rfl (lv_at hl 1 rfl) ?_
  refine lv_if_ne (tgt := 37) hx hb dX8_hall_29 (by decide) (fun h => absurd h (by decide)) (fun _ => ?_)
  refine lv_bipush (v := (-2)) hx hb dX8_hall_32 (by decide) ?_
  refine lv_iload_n hx hb dX8_hall_34 rfl (lv_at hl 0 rfl) ?_
  refine lv_isub hx hb dX8_hall_35 ?_
  refine hc_is (z := (-3)) (by decide) ?_
  exact hc_end hx hb hr hlocks () rfl (hP.sub [] rfl) (hD.sub [] (by decide) rfl) hS dX8_hall_36
set_option maxHeartbeats 4000000 in
set_option maxRecDepth 100000 in
theorem c_X8_rule (l : Launch) (D : va_G) (k : Nat → ClassId) (sz : Nat) (h0 : Nat) (q qt qn i0 i1 i2 i3 : Nat → Nat) : CtI l yX8_rule wsX8_rule (rmK 4 0 0) [.ref h0] D k sz ([(h0, .inr (6, [.ref (q 0), .ref (q 1), .int 0, .ref (q 2), .ref (q 3), .ref (q 4), .ref (q 5), .ref (q 6), .ref (q 7), .ref (q 8), .ref (q 9), .ref (q 10)])), ((q 0), .inr (5, [.ref (qt 0), .int 0, .ref (qt 1), .ref (qt 2), .ref (qt 3), .int 0, .int 0, .int 0])), ((qt 1), hcI k 401 (fun _ => 0)), ((qt 2), hcI k 401 (fun _ => 0)), ((qt 3), hcI k 401 (fun _ => 0)), ((q 1), hcR k 6 (va_up (va_up (va_up (va_up (va_up (va_up (fun _ => none) 0 (some (q 11))) 1 (some (q 12))) 2 (some (q 13))) 3 (some (q 14))) 4 (some (q 15))) 5 (some (q 16)))), ((q 11), .inr (3, [.ref (q 29), .ref (q 30), .ref (q 31), .ref (q 32), .ref (q 33), .int 0, .int 0, .int 0]))]) (fun (r : Int32) (_ : Unit) => r = (-3)) (fun _ : Unit => []) 0 0 := by
  refine CtI.mk (cc := cX8_rule) (maxL := 3) (ret := (some .int)) (by decide) rfl (Nat.le_of_ble_eq_true rfl) ?_
  intro p e s m below meth c A ls E hP hD hS hl
  obtain ⟨hx, hb, hr, hml, hown, hts, hlocks, hin, hG, hA⟩ := E
  have hown : s.vm.findClass RX8 = some m.cls := hown
  have in4 : ∀ w ∈ u_ws RX4 TX4 8, w ∈ wsX8_rule := fun _ h => List.mem_cons_of_mem _ (List.mem_append_right _ h)
  have in7 : ∀ w ∈ u_ws RX7 TX7 8, w ∈ wsX8_rule := fun _ h => List.mem_cons_of_mem _ (List.mem_append_left _ (List.mem_append_right _ h))
  have in8 : ∀ w ∈ u_ws RX8 TX8 12, w ∈ wsX8_rule := fun _ h => List.mem_cons_of_mem _ (List.mem_append_left _ (List.mem_append_left _ (List.mem_append_right _ h)))
  have hl : lv_has ls 3 [(0, .ref h0)] := hl
  refine lv_aload_n hx hb dX8_rule_0 rfl (lv_at hl 0 rfl) ?_
  refine va_get (D := D) (ci := 6) (v := .int 0) (C := RX8) (T := TX8) (N := 12) hx hb hts in8 hown hG.1 hP 0 rfl rfl 2 (by decide) (hts (.fieldLink RX8 22 "ChairCane" "ruleCount" "I") (by decide +kernel)) (fun _ h9 => h9) rfl dX8_rule_1 ?_
  refine lv_bipush (v := 6) hx hb dX8_rule_4 (by decide) ?_
  refine lv_icmp_lt (tgt := 11) hx hb dX8_rule_6 (by decide) (fun _ => ?_) (fun h => absurd (by decide) h)
  refine lv_aload_n hx hb dX8_rule_11 rfl (lv_at hl 0 rfl) ?_
  refine va_get (D := D) (ci := 6) (v := .ref (q 0)) (C := RX8) (T := TX8) (N := 12) hx hb hts in8 hown hG.1 hP 0 rfl rfl 0 (by decide) (hts (.fieldLink RX8 10 "ChairCane" "tape" "LChairCane$Tape;") (by decide +kernel)) (fun _ h9 => h9) rfl dX8_rule_12 ?_
  refine lv_aload_n hx hb dX8_rule_15 rfl (lv_at hl 0 rfl) ?_
  refine va_get (D := D) (ci := 6) (v := .ref (q 1)) (C := RX8) (T := TX8) (N := 12) hx hb hts in8 hown hG.1 hP 0 rfl rfl 1 (by decide) (hts (.fieldLink RX8 18 "ChairCane" "rules" "[LChairCane$Rule;") (by decide +kernel)) (fun _ h9 => h9) rfl dX8_rule_16 ?_
  refine lv_aload_n hx hb dX8_rule_19 rfl (lv_at hl 0 rfl) ?_
  refine va_get (D := D) (ci := 6) (v := .int 0) (C := RX8) (T := TX8) (N := 12) hx hb hts in8 hown hG.1 hP 0 rfl rfl 2 (by decide) (hts (.fieldLink RX8 22 "ChairCane" "ruleCount" "I") (by decide +kernel)) (fun _ h9 => h9) rfl dX8_rule_20 ?_
  refine va_aldq hx hb hG.1 hP 5 4 rfl rfl (by unfold vp_in; decide) dX8_rule_23 ?_
  refine W.eq (g2 := F0 m 24 ls [.ref (q 11), .ref (q 0)]) rfl ?_
  refine hc_Si (As := [.ref (q 0), .ref (q 11)]) (rest := []) (n := 2) (wr := [(h0, .inr (6, [.ref (q 0), .ref (q 1), .int 0, .ref (q 2), .ref (q 3), .ref (q 4), .ref (q 5), .ref (q 6), .ref (q 7), .ref (q 8), .ref (q 9), .ref (q 10)])), ((q 1), hcR k 6 (va_up (va_up (va_up (va_up (va_up (va_up (fun _ => none) 0 (some (q 11))) 1 (some (q 12))) 2 (some (q 13))) 3 (some (q 14))) 4 (some (q 15))) 5 (some (q 16))))]) hx hb hml hown hts hG hA hP hD hS hl.1 [1, 2, 3, 4, 6] [0, 5] (c_X5_read l D k _ (q 0) (qt 0) (qt 1) (qt 2) (qt 3) (q 11) (q 29) (q 30) (q 31) (q 32) (q 33)) gX8_rule_X5_read rfl ⟨rfl, rfl, Nat.le_of_ble_eq_true rfl, Nat.le_of_ble_eq_true rfl⟩ (by decide +kernel) rfl rfl ⟨by decide, by decide, by decide⟩ ⟨rfl, rfl, Nat.le_of_ble_eq_true rfl, Nat.le_of_ble_eq_true rfl, Nat.le_of_ble_eq_true rfl⟩ dX8_rule_24 (fun r_2 u_1 H locs hw hP hD hS => ?_)
  have hP : va_P D vwCl ([(h0, .inr (6, [.ref (q 0), .ref (q 1), .int 0, .ref (q 2), .ref (q 3), .ref (q 4), .ref (q 5), .ref (q 6), .ref (q 7), .ref (q 8), .ref (q 9), .ref (q 10)])), ((q 1), hcR k 6 (va_up (va_up (va_up (va_up (va_up (va_up (fun _ => none) 0 (some (q 11))) 1 (some (q 12))) 2 (some (q 13))) 3 (some (q 14))) 4 (some (q 15))) 5 (some (q 16)))), ((qt 3), hcI k 401 (upd (fun _ => 0) 0 0)), ((q 11), .inr (3, [.ref (q 29), .ref (q 30), .ref (q 31), .ref (q 32), .ref (q 33), .int 0, .int 0, .int 0])), ((qt 1), hcI k 401 (upd (fun _ => 0) 0 (-1))), ((q 0), .inr (5, [.ref (qt 0), .int 0, .ref (qt 1), .ref (qt 2), .ref (qt 3), .int 1, .int 0, .int 1])), ((qt 2), hcI k 401 (upd (fun _ => 0) 0 0))]) H := hP
  have hD : va_D A ([(h0, .inr (6, [.ref (q 0), .ref (q 1), .int 0, .ref (q 2), .ref (q 3), .ref (q 4), .ref (q 5), .ref (q 6), .ref (q 7), .ref (q 8), .ref (q 9), .ref (q 10)])), ((q 1), hcR k 6 (va_up (va_up (va_up (va_up (va_up (va_up (fun _ => none) 0 (some (q 11))) 1 (some (q 12))) 2 (some (q 13))) 3 (some (q 14))) 4 (some (q 15))) 5 (some (q 16)))), ((qt 3), hcI k 401 (upd (fun _ => 0) 0 0)), ((q 11), .inr (3, [.ref (q 29), .ref (q 30), .ref (q 31), .ref (q 32), .ref (q 33), .int 0, .int 0, .int 0])), ((qt 1), hcI k 401 (upd (fun _ => 0) 0 (-1))), ((q 0), .inr (5, [.ref (qt 0), .int 0, .ref (qt 1), .ref (qt 2), .ref (qt 3), .int 1, .int 0, .int 1])), ((qt 2), hcI k 401 (upd (fun _ => 0) 0 0))]) := hD
  obtain rfl : r_2 = 0 := hw
  refine lv_istore_n (lv' := [(1, .int 0), (0, .ref h0)]) hx hb dX8_rule_27 rfl hl (by decide) rfl (fun ls hl => ?_)
  refine lv_aload_n hx hb dX8_rule_28 rfl (lv_at hl 1 rfl) ?_
  refine va_get (D := D) (ci := 6) (v := .ref (q 0)) (C := RX8) (T := TX8) (N := 12) hx hb hts in8 hown hG.1 hP 0 rfl rfl 0 (by decide) (hts (.fieldLink RX8 10 "ChairCane" "tape" "LChairCane$Tape;") (by decide +kernel)) (fun _ h9 => h9) rfl dX8_rule_29 ?_
  refine va_get (D := D) (ci := 5) (v := .int 1) (C := RX7) (T := TX7) (N := 8) hx hb hts in7 hown hG.1 hP 5 rfl rfl 7 (by decide) (hts (.fieldLink RX8 78 "ChairCane$Tape" "fault" "I") (by decide +kernel)) (fun _ h9 => h9) rfl dX8_rule_32 ?_
  refine lv_istore_n (lv' := [(2, .int 1), (1, .int 0), (0, .ref h0)]) hx hb dX8_rule_35 rfl hl (by decide) rfl (fun ls hl => ?_)
  refine lv_aload_n hx hb dX8_rule_36 rfl (lv_at hl 2 rfl) ?_
  refine va_get (D := D) (ci := 6) (v := .ref (q 0)) (C := RX8) (T := TX8) (N := 12) hx hb hts in8 hown hG.1 hP 0 rfl rfl 0 (by decide) (hts (.fieldLink RX8 10 "ChairCane" "tape" "LChairCane$Tape;") (by decide +kernel)) (fun _ h9 => h9) rfl dX8_rule_37 ?_
  refine lv_iconst (v := 0) hx hb dX8_rule_40 (by decide) ?_
  refine va_put (D := D) (ci := 5) (v := .int 0) (C := RX7) (T := TX7) (N := 8) hx hb hts in7 tyX7 tyX7_ok nmX7 hown hG.1 hP hD hS 5 rfl rfl 1 (by decide) (hts (.fieldLink RX8 65 "ChairCane$Tape" "length" "I") (by decide +kernel)) (fun _ h9 => h9) rfl (tyX7_ok 1 (by decide)) rfl rfl (Nat.le_of_ble_eq_true rfl) dX8_rule_41 (fun H locs hP hD hS => ?_)
  have hP : va_P D vwCl ([(h0, .inr (6, [.ref (q 0), .ref (q 1), .int 0, .ref (q 2), .ref (q 3), .ref (q 4), .ref (q 5), .ref (q 6), .ref (q 7), .ref (q 8), .ref (q 9), .ref (q 10)])), ((q 1), hcR k 6 (va_up (va_up (va_up (va_up (va_up (va_up (fun _ => none) 0 (some (q 11))) 1 (some (q 12))) 2 (some (q 13))) 3 (some (q 14))) 4 (some (q 15))) 5 (some (q 16)))), ((qt 3), hcI k 401 (upd (fun _ => 0) 0 0)), ((q 11), .inr (3, [.ref (q 29), .ref (q 30), .ref (q 31), .ref (q 32), .ref (q 33), .int 0, .int 0, .int 0])), ((qt 1), hcI k 401 (upd (fun _ => 0) 0 (-1))), ((q 0), .inr (5, [.ref (qt 0), .int 0, .ref (qt 1), .ref (qt 2), .ref (qt 3), .int 1, .int 0, .int 1])), ((qt 2), hcI k 401 (upd (fun _ => 0) 0 0))]) H := hP
  have hD : va_D A ([(h0, .inr (6, [.ref (q 0), .ref (q 1), .int 0, .ref (q 2), .ref (q 3), .ref (q 4), .ref (q 5), .ref (q 6), .ref (q 7), .ref (q 8), .ref (q 9), .ref (q 10)])), ((q 1), hcR k 6 (va_up (va_up (va_up (va_up (va_up (va_up (fun _ => none) 0 (some (q 11))) 1 (some (q 12))) 2 (some (q 13))) 3 (some (q 14))) 4 (some (q 15))) 5 (some (q 16)))), ((qt 3), hcI k 401 (upd (fun _ => 0) 0 0)), ((q 11), .inr (3, [.ref (q 29), .ref (q 30), .ref (q 31), .ref (q 32), .ref (q 33), .int 0, .int 0, .int 0])), ((qt 1), hcI k 401 (upd (fun _ => 0) 0 (-1))), ((q 0), .inr (5, [.ref (qt 0), .int 0, .ref (qt 1), .ref (qt 2), .ref (qt 3), .int 1, .int 0, .int 1])), ((qt 2), hcI k 401 (upd (fun _ => 0) 0 0))]) := hD
  refine lv_iload_n hx hb dX8_rule_44 rfl (lv_at hl 1 rfl) ?_
  refine lv_if_ne (tgt := 53) hx hb dX8_rule_45 (by decide) (fun h => absurd h (by decide)) (fun _ => ?_)
  refine lv_bipush (v := (-2)) hx hb dX8_rule_48 (by decide) ?_
  refine lv_iload_n hx hb dX8_rule_50 rfl (lv_at hl 0 rfl) ?_
  refine lv_isub hx hb dX8_rule_51 ?_
  refine hc_is (z := (-3)) (by decide) ?_
  exact hc_end hx hb hr hlocks () rfl (hP.sub [] rfl) (hD.sub [] (by decide) rfl) hS dX8_rule_52
set_option maxHeartbeats 4000000 in
set_option maxRecDepth 100000 in
theorem c_X8_count (l : Launch) (D : va_G) (k : Nat → ClassId) (sz : Nat) (h0 : Nat) (q qt qn i0 i1 i2 i3 : Nat → Nat) (x1 : Int32) : CtI l yX8_count wsX8_count (rmK 4 0 0) [.ref h0, .int x1] D k sz ([(h0, .inr (6, [.ref (q 0), .ref (q 1), .int 0, .ref (q 2), .ref (q 3), .ref (q 4), .ref (q 5), .ref (q 6), .ref (q 7), .ref (q 8), .ref (q 9), .ref (q 10)])), ((q 0), .inr (5, [.ref (qt 0), .int 0, .ref (qt 1), .ref (qt 2), .ref (qt 3), .int 0, .int 0, .int 0])), ((q 2), .inr (4, [.ref (qn 0), .ref (qn 1), .ref (qn 2), .int (-1), .int 0])), ((qn 0), .inr (2, [.int 0, .int 0, .int 0, .int 0, .ref (qn 3), .ref (qn 4), .ref (qn 5), .ref (qn 6), .ref (qn 7), .ref (qn 8), .int 0, .int 0, .int 0, .ref (qn 9), .ref (qn 10), .int 0, .int 0])), ((qn 1), .inr (0, [.ref (qn 11), .ref (qn 12), .ref (qn 13), .int 0, .int 0])), ((qn 2), .inr (1, [.ref (qn 14), .ref (qn 15), .ref (qn 16), .int 0]))]) (fun (r : Int32) (_ : Unit) => r = spCnt x1) (fun _ : Unit => []) 0 0 := by
  refine CtI.mk (cc := cX8_count) (maxL := 3) (ret := (some .int)) (by decide) rfl (Nat.le_of_ble_eq_true rfl) ?_
  intro p e s m below meth c A ls E hP hD hS hl
  obtain ⟨hx, hb, hr, hml, hown, hts, hlocks, hin, hG, hA⟩ := E
  have hown : s.vm.findClass RX8 = some m.cls := hown
  have in0 : ∀ w ∈ u_ws RX0 TX0 5, w ∈ wsX8_count := fun _ h => List.mem_cons_of_mem _ (List.mem_append_left _ (List.mem_append_right _ h))
  have in2 : ∀ w ∈ u_ws RX2 TX2 4, w ∈ wsX8_count := fun _ h => List.mem_cons_of_mem _ (List.mem_append_left _ (List.mem_append_left _ (List.mem_append_right _ h)))
  have in3 : ∀ w ∈ u_ws RX3 TX3 17, w ∈ wsX8_count := fun _ h => List.mem_cons_of_mem _ (List.mem_append_left _ (List.mem_append_left _ (List.mem_append_left _ (List.mem_append_right _ h))))
  have in6 : ∀ w ∈ u_ws RX6 TX6 5, w ∈ wsX8_count := fun _ h => List.mem_cons_of_mem _ (List.mem_append_left _ (List.mem_append_left _ (List.mem_append_left _ (List.mem_append_left _ (List.mem_append_right _ h)))))
  have in7 : ∀ w ∈ u_ws RX7 TX7 8, w ∈ wsX8_count := fun _ h => List.mem_cons_of_mem _ (List.mem_append_right _ h)
  have in8 : ∀ w ∈ u_ws RX8 TX8 12, w ∈ wsX8_count := fun _ h => List.mem_cons_of_mem _ (List.mem_append_left _ (List.mem_append_left _ (List.mem_append_left _ (List.mem_append_left _ (List.mem_append_left _ (List.mem_append_right _ h))))))
  have hl : lv_has ls 3 [(0, .ref h0), (1, .int x1)] := hl
  refine lv_aload_n hx hb dX8_count_0 rfl (lv_at hl 0 rfl) ?_
  refine va_get (D := D) (ci := 6) (v := .ref (q 2)) (C := RX8) (T := TX8) (N := 12) hx hb hts in8 hown hG.1 hP 0 rfl rfl 3 (by decide) (hts (.fieldLink RX8 29 "ChairCane" "now" "LChairCane$Standing;") (by decide +kernel)) (fun _ h9 => h9) rfl dX8_count_1 ?_
  refine va_get (D := D) (ci := 4) (v := .ref (qn 0)) (C := RX6) (T := TX6) (N := 5) hx hb hts in6 hown hG.1 hP 2 rfl rfl 0 (by decide) (hts (.fieldLink RX8 81 "ChairCane$Standing" "room" "LChairCane$Room;") (by decide +kernel)) (fun _ h9 => h9) rfl dX8_count_4 ?_
  refine lv_astore_n (lv' := [(2, .ref (qn 0)), (0, .ref h0), (1, .int x1)]) hx hb dX8_count_7 rfl hl (by decide) rfl (fun ls hl => ?_)
  refine lv_iload_n hx hb dX8_count_8 rfl (lv_at hl 2 rfl) ?_
  rcases sp_d13 x1 with hO_1 | rfl | rfl | rfl | rfl | rfl | rfl | rfl | rfl | rfl | rfl | rfl | rfl | rfl
  · refine lv_tableOut (tgt := 162) hx hb dX8_count_9 hO_1 (by decide) ?_
    refine lv_iconst (v := (-1)) hx hb dX8_count_162 (by decide) ?_
    exact hc_end hx hb hr hlocks () (spCnt_out hO_1) (hP.sub [] rfl) (hD.sub [] (by decide) rfl) hS dX8_count_163
  · refine lv_tableIn (tgt := 76) hx hb dX8_count_9 (by decide) (by decide) (by rfl) (by decide) ?_
    refine lv_aload_n hx hb dX8_count_76 rfl (lv_at hl 0 rfl) ?_
    refine va_get (D := D) (ci := 2) (v := .int 0) (C := RX3) (T := TX3) (N := 17) hx hb hts in3 hown hG.1 hP 3 rfl rfl 1 (by decide) (hts (.fieldLink RX8 247 "ChairCane$Room" "strands" "I") (by decide +kernel)) (fun _ h9 => h9) rfl dX8_count_77 ?_
    exact hc_end hx hb hr hlocks () (by decide) (hP.sub [] rfl) (hD.sub [] (by decide) rfl) hS dX8_count_80
  · refine lv_tableIn (tgt := 81) hx hb dX8_count_9 (by decide) (by decide) (by rfl) (by decide) ?_
    refine lv_aload_n hx hb dX8_count_81 rfl (lv_at hl 0 rfl) ?_
    refine va_get (D := D) (ci := 2) (v := .int 0) (C := RX3) (T := TX3) (N := 17) hx hb hts in3 hown hG.1 hP 3 rfl rfl 2 (by decide) (hts (.fieldLink RX8 315 "ChairCane$Room" "chairs" "I") (by decide +kernel)) (fun _ h9 => h9) rfl dX8_count_82 ?_
    exact hc_end hx hb hr hlocks () (by decide) (hP.sub [] rfl) (hD.sub [] (by decide) rfl) hS dX8_count_85
  · refine lv_tableIn (tgt := 86) hx hb dX8_count_9 (by decide) (by decide) (by rfl) (by decide) ?_
    refine lv_aload_n hx hb dX8_count_86 rfl (lv_at hl 0 rfl) ?_
    refine va_get (D := D) (ci := 2) (v := .int 0) (C := RX3) (T := TX3) (N := 17) hx hb hts in3 hown hG.1 hP 3 rfl rfl 3 (by decide) (hts (.fieldLink RX8 104 "ChairCane$Room" "sitters" "I") (by decide +kernel)) (fun _ h9 => h9) rfl dX8_count_87 ?_
    exact hc_end hx hb hr hlocks () (by decide) (hP.sub [] rfl) (hD.sub [] (by decide) rfl) hS dX8_count_90
  · refine lv_tableIn (tgt := 91) hx hb dX8_count_9 (by decide) (by decide) (by rfl) (by decide) ?_
    refine lv_aload_n hx hb dX8_count_91 rfl (lv_at hl 1 rfl) ?_
    refine va_get (D := D) (ci := 6) (v := .int 0) (C := RX8) (T := TX8) (N := 12) hx hb hts in8 hown hG.1 hP 0 rfl rfl 2 (by decide) (hts (.fieldLink RX8 22 "ChairCane" "ruleCount" "I") (by decide +kernel)) (fun _ h9 => h9) rfl dX8_count_92 ?_
    exact hc_end hx hb hr hlocks () (by decide) (hP.sub [] rfl) (hD.sub [] (by decide) rfl) hS dX8_count_95
  · refine lv_tableIn (tgt := 96) hx hb dX8_count_9 (by decide) (by decide) (by rfl) (by decide) ?_
    refine lv_aload_n hx hb dX8_count_96 rfl (lv_at hl 1 rfl) ?_
    refine va_get (D := D) (ci := 6) (v := .ref (q 2)) (C := RX8) (T := TX8) (N := 12) hx hb hts in8 hown hG.1 hP 0 rfl rfl 3 (by decide) (hts (.fieldLink RX8 29 "ChairCane" "now" "LChairCane$Standing;") (by decide +kernel)) (fun _ h9 => h9) rfl dX8_count_97 ?_
    refine va_get (D := D) (ci := 4) (v := .int (-1)) (C := RX6) (T := TX6) (N := 5) hx hb hts in6 hown hG.1 hP 2 rfl rfl 3 (by decide) (hts (.fieldLink RX8 112 "ChairCane$Standing" "inForce" "I") (by decide +kernel)) (fun _ h9 => h9) rfl dX8_count_100 ?_
    exact hc_end hx hb hr hlocks () (by decide) (hP.sub [] rfl) (hD.sub [] (by decide) rfl) hS dX8_count_103
  · refine lv_tableIn (tgt := 104) hx hb dX8_count_9 (by decide) (by decide) (by rfl) (by decide) ?_
    refine lv_aload_n hx hb dX8_count_104 rfl (lv_at hl 0 rfl) ?_
    refine va_get (D := D) (ci := 2) (v := .int 0) (C := RX3) (T := TX3) (N := 17) hx hb hts in3 hown hG.1 hP 3 rfl rfl 12 (by decide) (hts (.fieldLink RX8 154 "ChairCane$Room" "minute" "I") (by decide +kernel)) (fun _ h9 => h9) rfl dX8_count_105 ?_
    exact hc_end hx hb hr hlocks () (by decide) (hP.sub [] rfl) (hD.sub [] (by decide) rfl) hS dX8_count_108
  · refine lv_tableIn (tgt := 109) hx hb dX8_count_9 (by decide) (by decide) (by rfl) (by decide) ?_
    refine lv_aload_n hx hb dX8_count_109 rfl (lv_at hl 0 rfl) ?_
    refine va_get (D := D) (ci := 2) (v := .int 0) (C := RX3) (T := TX3) (N := 17) hx hb hts in3 hown hG.1 hP 3 rfl rfl 10 (by decide) (hts (.fieldLink RX8 200 "ChairCane$Room" "sits" "I") (by decide +kernel)) (fun _ h9 => h9) rfl dX8_count_110 ?_
    exact hc_end hx hb hr hlocks () (by decide) (hP.sub [] rfl) (hD.sub [] (by decide) rfl) hS dX8_count_113
  · refine lv_tableIn (tgt := 114) hx hb dX8_count_9 (by decide) (by decide) (by rfl) (by decide) ?_
    refine lv_aload_n hx hb dX8_count_114 rfl (lv_at hl 0 rfl) ?_
    refine va_get (D := D) (ci := 2) (v := .int 0) (C := RX3) (T := TX3) (N := 17) hx hb hts in3 hown hG.1 hP 3 rfl rfl 11 (by decide) (hts (.fieldLink RX8 179 "ChairCane$Room" "dropped" "I") (by decide +kernel)) (fun _ h9 => h9) rfl dX8_count_115 ?_
    exact hc_end hx hb hr hlocks () (by decide) (hP.sub [] rfl) (hD.sub [] (by decide) rfl) hS dX8_count_118
  · refine lv_tableIn (tgt := 119) hx hb dX8_count_9 (by decide) (by decide) (by rfl) (by decide) ?_
    refine lv_aload_n hx hb dX8_count_119 rfl (lv_at hl 0 rfl) ?_
    refine hc_Vi (As := []) (rest := []) (n := 0) (wr := [(h0, .inr (6, [.ref (q 0), .ref (q 1), .int 0, .ref (q 2), .ref (q 3), .ref (q 4), .ref (q 5), .ref (q 6), .ref (q 7), .ref (q 8), .ref (q 9), .ref (q 10)])), ((q 0), .inr (5, [.ref (qt 0), .int 0, .ref (qt 1), .ref (qt 2), .ref (qt 3), .int 0, .int 0, .int 0])), ((q 2), .inr (4, [.ref (qn 0), .ref (qn 1), .ref (qn 2), .int (-1), .int 0])), ((qn 1), .inr (0, [.ref (qn 11), .ref (qn 12), .ref (qn 13), .int 0, .int 0])), ((qn 2), .inr (1, [.ref (qn 14), .ref (qn 15), .ref (qn 16), .int 0]))]) hx hb hml hown hts hG hA hP hD hS hl.1 [3] [0, 1, 2, 4, 5] (c_X3_givesInAll l D k _ (qn 0) (qn 3) (qn 4) (qn 5) (qn 6) (qn 7) (qn 8) (qn 9) (qn 10)) (ci := 2) (q0 := 3) rfl rfl gX8_count_X3_givesInAll rfl ⟨rfl, rfl, Nat.le_of_ble_eq_true rfl, Nat.le_of_ble_eq_true rfl⟩ (by decide +kernel) rfl rfl ⟨by decide, by decide, by decide⟩ ⟨rfl, rfl, Nat.le_of_ble_eq_true rfl, Nat.le_of_ble_eq_true rfl, Nat.le_of_ble_eq_true rfl⟩ dX8_count_120 (fun r_3 u_2 H locs hw hP hD hS => ?_)
    have hP : va_P D vwCl ([(h0, .inr (6, [.ref (q 0), .ref (q 1), .int 0, .ref (q 2), .ref (q 3), .ref (q 4), .ref (q 5), .ref (q 6), .ref (q 7), .ref (q 8), .ref (q 9), .ref (q 10)])), ((q 0), .inr (5, [.ref (qt 0), .int 0, .ref (qt 1), .ref (qt 2), .ref (qt 3), .int 0, .int 0, .int 0])), ((q 2), .inr (4, [.ref (qn 0), .ref (qn 1), .ref (qn 2), .int (-1), .int 0])), ((qn 1), .inr (0, [.ref (qn 11), .ref (qn 12), .ref (qn 13), .int 0, .int 0])), ((qn 2), .inr (1, [.ref (qn 14), .ref (qn 15), .ref (qn 16), .int 0])), ((qn 0), .inr (2, [.int 0, .int 0, .int 0, .int 0, .ref (qn 3), .ref (qn 4), .ref (qn 5), .ref (qn 6), .ref (qn 7), .ref (qn 8), .int 0, .int 0, .int 0, .ref (qn 9), .ref (qn 10), .int 0, .int 0]))]) H := hP
    have hD : va_D A ([(h0, .inr (6, [.ref (q 0), .ref (q 1), .int 0, .ref (q 2), .ref (q 3), .ref (q 4), .ref (q 5), .ref (q 6), .ref (q 7), .ref (q 8), .ref (q 9), .ref (q 10)])), ((q 0), .inr (5, [.ref (qt 0), .int 0, .ref (qt 1), .ref (qt 2), .ref (qt 3), .int 0, .int 0, .int 0])), ((q 2), .inr (4, [.ref (qn 0), .ref (qn 1), .ref (qn 2), .int (-1), .int 0])), ((qn 1), .inr (0, [.ref (qn 11), .ref (qn 12), .ref (qn 13), .int 0, .int 0])), ((qn 2), .inr (1, [.ref (qn 14), .ref (qn 15), .ref (qn 16), .int 0])), ((qn 0), .inr (2, [.int 0, .int 0, .int 0, .int 0, .ref (qn 3), .ref (qn 4), .ref (qn 5), .ref (qn 6), .ref (qn 7), .ref (qn 8), .int 0, .int 0, .int 0, .ref (qn 9), .ref (qn 10), .int 0, .int 0]))]) := hD
    obtain rfl : r_3 = 0 := hw
    exact hc_end hx hb hr hlocks () (by decide) (hP.sub [] rfl) (hD.sub [] (by decide) rfl) hS dX8_count_123
  · refine lv_tableIn (tgt := 124) hx hb dX8_count_9 (by decide) (by decide) (by rfl) (by decide) ?_
    refine lv_aload_n hx hb dX8_count_124 rfl (lv_at hl 1 rfl) ?_
    refine va_get (D := D) (ci := 6) (v := .ref (q 2)) (C := RX8) (T := TX8) (N := 12) hx hb hts in8 hown hG.1 hP 0 rfl rfl 3 (by decide) (hts (.fieldLink RX8 29 "ChairCane" "now" "LChairCane$Standing;") (by decide +kernel)) (fun _ h9 => h9) rfl dX8_count_125 ?_
    refine va_get (D := D) (ci := 4) (v := .ref (qn 2)) (C := RX6) (T := TX6) (N := 5) hx hb hts in6 hown hG.1 hP 2 rfl rfl 2 (by decide) (hts (.fieldLink RX8 97 "ChairCane$Standing" "notes" "LChairCane$Notes;") (by decide +kernel)) (fun _ h9 => h9) rfl dX8_count_128 ?_
    refine va_get (D := D) (ci := 1) (v := .int 0) (C := RX2) (T := TX2) (N := 4) hx hb hts in2 hown hG.1 hP 5 rfl rfl 3 (by decide) (hts (.fieldLink RX8 244 "ChairCane$Notes" "many" "I") (by decide +kernel)) (fun _ h9 => h9) rfl dX8_count_131 ?_
    exact hc_end hx hb hr hlocks () (by decide) (hP.sub [] rfl) (hD.sub [] (by decide) rfl) hS dX8_count_134
  · refine lv_tableIn (tgt := 135) hx hb dX8_count_9 (by decide) (by decide) (by rfl) (by decide) ?_
    refine lv_aload_n hx hb dX8_count_135 rfl (lv_at hl 1 rfl) ?_
    refine va_get (D := D) (ci := 6) (v := .ref (q 2)) (C := RX8) (T := TX8) (N := 12) hx hb hts in8 hown hG.1 hP 0 rfl rfl 3 (by decide) (hts (.fieldLink RX8 29 "ChairCane" "now" "LChairCane$Standing;") (by decide +kernel)) (fun _ h9 => h9) rfl dX8_count_136 ?_
    refine va_get (D := D) (ci := 4) (v := .ref (qn 1)) (C := RX6) (T := TX6) (N := 5) hx hb hts in6 hown hG.1 hP 2 rfl rfl 1 (by decide) (hts (.fieldLink RX8 88 "ChairCane$Standing" "acts" "LChairCane$Acts;") (by decide +kernel)) (fun _ h9 => h9) rfl dX8_count_139 ?_
    refine va_get (D := D) (ci := 0) (v := .int 0) (C := RX0) (T := TX0) (N := 5) hx hb hts in0 hown hG.1 hP 4 rfl rfl 4 (by decide) (hts (.fieldLink RX8 187 "ChairCane$Acts" "kept" "I") (by decide +kernel)) (fun _ h9 => h9) rfl dX8_count_142 ?_
    exact hc_end hx hb hr hlocks () (by decide) (hP.sub [] rfl) (hD.sub [] (by decide) rfl) hS dX8_count_145
  · refine lv_tableIn (tgt := 146) hx hb dX8_count_9 (by decide) (by decide) (by rfl) (by decide) ?_
    refine lv_aload_n hx hb dX8_count_146 rfl (lv_at hl 1 rfl) ?_
    refine va_get (D := D) (ci := 6) (v := .ref (q 2)) (C := RX8) (T := TX8) (N := 12) hx hb hts in8 hown hG.1 hP 0 rfl rfl 3 (by decide) (hts (.fieldLink RX8 29 "ChairCane" "now" "LChairCane$Standing;") (by decide +kernel)) (fun _ h9 => h9) rfl dX8_count_147 ?_
    refine va_get (D := D) (ci := 4) (v := .int 0) (C := RX6) (T := TX6) (N := 5) hx hb hts in6 hown hG.1 hP 2 rfl rfl 4 (by decide) (hts (.fieldLink RX8 292 "ChairCane$Standing" "x" "I") (by decide +kernel)) (fun _ h9 => h9) rfl dX8_count_150 ?_
    exact hc_end hx hb hr hlocks () (by decide) (hP.sub [] rfl) (hD.sub [] (by decide) rfl) hS dX8_count_153
  · refine lv_tableIn (tgt := 154) hx hb dX8_count_9 (by decide) (by decide) (by rfl) (by decide) ?_
    refine lv_aload_n hx hb dX8_count_154 rfl (lv_at hl 1 rfl) ?_
    refine va_get (D := D) (ci := 6) (v := .ref (q 0)) (C := RX8) (T := TX8) (N := 12) hx hb hts in8 hown hG.1 hP 0 rfl rfl 0 (by decide) (hts (.fieldLink RX8 10 "ChairCane" "tape" "LChairCane$Tape;") (by decide +kernel)) (fun _ h9 => h9) rfl dX8_count_155 ?_
    refine va_get (D := D) (ci := 5) (v := .int 0) (C := RX7) (T := TX7) (N := 8) hx hb hts in7 hown hG.1 hP 1 rfl rfl 1 (by decide) (hts (.fieldLink RX8 65 "ChairCane$Tape" "length" "I") (by decide +kernel)) (fun _ h9 => h9) rfl dX8_count_158 ?_
    exact hc_end hx hb hr hlocks () (by decide) (hP.sub [] rfl) (hD.sub [] (by decide) rfl) hS dX8_count_161
set_option maxHeartbeats 4000000 in
set_option maxRecDepth 100000 in
theorem c_X8_image (l : Launch) (D : va_G) (k : Nat → ClassId) (sz : Nat) (h0 : Nat) (q qt qn i0 i1 i2 i3 : Nat → Nat) (x1 : Int32) : CtI l yX8_image wsX8_image (rmK 4 0 0) [.ref h0, .int x1] D k sz ([(h0, .inr (6, [.ref (q 0), .ref (q 1), .int 0, .ref (q 2), .ref (q 3), .ref (q 4), .ref (q 5), .ref (q 6), .ref (q 7), .ref (q 8), .ref (q 9), .ref (q 10)])), ((q 2), .inr (4, [.ref (qn 0), .ref (qn 1), .ref (qn 2), .int (-1), .int 0])), ((qn 0), .inr (2, [.int 0, .int 0, .int 0, .int 0, .ref (qn 3), .ref (qn 4), .ref (qn 5), .ref (qn 6), .ref (qn 7), .ref (qn 8), .int 0, .int 0, .int 0, .ref (qn 9), .ref (qn 10), .int 0, .int 0])), ((qn 3), hcI k 4 (fun _ => 0)), ((qn 4), hcI k 8 (fun _ => 0)), ((qn 5), hcI k 8 (fun _ => 0)), ((qn 6), hcI k 8 (fun _ => 0)), ((qn 7), hcI k 8 (fun _ => 0)), ((qn 8), hcI k 4 (fun _ => 0)), ((qn 9), hcI k 4 (fun _ => 0)), ((qn 10), hcI k 4 (fun _ => 0)), ((qn 1), .inr (0, [.ref (qn 11), .ref (qn 12), .ref (qn 13), .int 0, .int 0])), ((qn 11), hcI k 20 (fun _ => 0)), ((qn 12), hcI k 20 (fun _ => 0)), ((qn 13), hcI k 20 (fun _ => 0)), ((qn 2), .inr (1, [.ref (qn 14), .ref (qn 15), .ref (qn 16), .int 0])), ((qn 14), hcI k 10 (fun _ => 0)), ((qn 15), hcI k 10 (fun _ => 0)), ((qn 16), hcI k 10 (fun _ => 0)), ((q 3), hcS k 4 (va_up (va_up (va_up (va_up (fun _ => none) 0 (some (q 17))) 1 (some (q 18))) 2 (some (q 19))) 3 (some (q 20)))), ((q 4), hcZ k 4 (fun _ => 0)), ((q 17), .inr (4, [.ref (i0 0), .ref (i0 1), .ref (i0 2), .int (-1), .int 0])), ((i0 0), .inr (2, [.int 0, .int 0, .int 0, .int 0, .ref (i0 3), .ref (i0 4), .ref (i0 5), .ref (i0 6), .ref (i0 7), .ref (i0 8), .int 0, .int 0, .int 0, .ref (i0 9), .ref (i0 10), .int 0, .int 0])), ((i0 3), hcI k 4 (fun _ => 0)), ((i0 4), hcI k 8 (fun _ => 0)), ((i0 5), hcI k 8 (fun _ => 0)), ((i0 6), hcI k 8 (fun _ => 0)), ((i0 7), hcI k 8 (fun _ => 0)), ((i0 8), hcI k 4 (fun _ => 0)), ((i0 9), hcI k 4 (fun _ => 0)), ((i0 10), hcI k 4 (fun _ => 0)), ((i0 1), .inr (0, [.ref (i0 11), .ref (i0 12), .ref (i0 13), .int 0, .int 0])), ((i0 11), hcI k 20 (fun _ => 0)), ((i0 12), hcI k 20 (fun _ => 0)), ((i0 13), hcI k 20 (fun _ => 0)), ((i0 2), .inr (1, [.ref (i0 14), .ref (i0 15), .ref (i0 16), .int 0])), ((i0 14), hcI k 10 (fun _ => 0)), ((i0 15), hcI k 10 (fun _ => 0)), ((i0 16), hcI k 10 (fun _ => 0)), ((q 18), .inr (4, [.ref (i1 0), .ref (i1 1), .ref (i1 2), .int (-1), .int 0])), ((i1 0), .inr (2, [.int 0, .int 0, .int 0, .int 0, .ref (i1 3), .ref (i1 4), .ref (i1 5), .ref (i1 6), .ref (i1 7), .ref (i1 8), .int 0, .int 0, .int 0, .ref (i1 9), .ref (i1 10), .int 0, .int 0])), ((i1 3), hcI k 4 (fun _ => 0)), ((i1 4), hcI k 8 (fun _ => 0)), ((i1 5), hcI k 8 (fun _ => 0)), ((i1 6), hcI k 8 (fun _ => 0)), ((i1 7), hcI k 8 (fun _ => 0)), ((i1 8), hcI k 4 (fun _ => 0)), ((i1 9), hcI k 4 (fun _ => 0)), ((i1 10), hcI k 4 (fun _ => 0)), ((i1 1), .inr (0, [.ref (i1 11), .ref (i1 12), .ref (i1 13), .int 0, .int 0])), ((i1 11), hcI k 20 (fun _ => 0)), ((i1 12), hcI k 20 (fun _ => 0)), ((i1 13), hcI k 20 (fun _ => 0)), ((i1 2), .inr (1, [.ref (i1 14), .ref (i1 15), .ref (i1 16), .int 0])), ((i1 14), hcI k 10 (fun _ => 0)), ((i1 15), hcI k 10 (fun _ => 0)), ((i1 16), hcI k 10 (fun _ => 0)), ((q 19), .inr (4, [.ref (i2 0), .ref (i2 1), .ref (i2 2), .int (-1), .int 0])), ((i2 0), .inr (2, [.int 0, .int 0, .int 0, .int 0, .ref (i2 3), .ref (i2 4), .ref (i2 5), .ref (i2 6), .ref (i2 7), .ref (i2 8), .int 0, .int 0, .int 0, .ref (i2 9), .ref (i2 10), .int 0, .int 0])), ((i2 3), hcI k 4 (fun _ => 0)), ((i2 4), hcI k 8 (fun _ => 0)), ((i2 5), hcI k 8 (fun _ => 0)), ((i2 6), hcI k 8 (fun _ => 0)), ((i2 7), hcI k 8 (fun _ => 0)), ((i2 8), hcI k 4 (fun _ => 0)), ((i2 9), hcI k 4 (fun _ => 0)), ((i2 10), hcI k 4 (fun _ => 0)), ((i2 1), .inr (0, [.ref (i2 11), .ref (i2 12), .ref (i2 13), .int 0, .int 0])), ((i2 11), hcI k 20 (fun _ => 0)), ((i2 12), hcI k 20 (fun _ => 0)), ((i2 13), hcI k 20 (fun _ => 0)), ((i2 2), .inr (1, [.ref (i2 14), .ref (i2 15), .ref (i2 16), .int 0])), ((i2 14), hcI k 10 (fun _ => 0)), ((i2 15), hcI k 10 (fun _ => 0)), ((i2 16), hcI k 10 (fun _ => 0)), ((q 20), .inr (4, [.ref (i3 0), .ref (i3 1), .ref (i3 2), .int (-1), .int 0])), ((i3 0), .inr (2, [.int 0, .int 0, .int 0, .int 0, .ref (i3 3), .ref (i3 4), .ref (i3 5), .ref (i3 6), .ref (i3 7), .ref (i3 8), .int 0, .int 0, .int 0, .ref (i3 9), .ref (i3 10), .int 0, .int 0])), ((i3 3), hcI k 4 (fun _ => 0)), ((i3 4), hcI k 8 (fun _ => 0)), ((i3 5), hcI k 8 (fun _ => 0)), ((i3 6), hcI k 8 (fun _ => 0)), ((i3 7), hcI k 8 (fun _ => 0)), ((i3 8), hcI k 4 (fun _ => 0)), ((i3 9), hcI k 4 (fun _ => 0)), ((i3 10), hcI k 4 (fun _ => 0)), ((i3 1), .inr (0, [.ref (i3 11), .ref (i3 12), .ref (i3 13), .int 0, .int 0])), ((i3 11), hcI k 20 (fun _ => 0)), ((i3 12), hcI k 20 (fun _ => 0)), ((i3 13), hcI k 20 (fun _ => 0)), ((i3 2), .inr (1, [.ref (i3 14), .ref (i3 15), .ref (i3 16), .int 0])), ((i3 14), hcI k 10 (fun _ => 0)), ((i3 15), hcI k 10 (fun _ => 0)), ((i3 16), hcI k 10 (fun _ => 0))]) (fun (r : Int32) (_ : Unit) => r = spImg x1) (fun _ : Unit => []) 0 0 := by
  refine CtI.mk (cc := cX8_image) (maxL := 2) (ret := (some .int)) (by decide) rfl (Nat.le_of_ble_eq_true rfl) ?_
  intro p e s m below meth c A ls E hP hD hS hl
  obtain ⟨hx, hb, hr, hml, hown, hts, hlocks, hin, hG, hA⟩ := E
  have hown : s.vm.findClass RX8 = some m.cls := hown
  have in0 : ∀ w ∈ u_ws RX0 TX0 5, w ∈ wsX8_image := fun _ h => List.mem_cons_of_mem _ (List.mem_append_left _ (List.mem_append_right _ h))
  have in2 : ∀ w ∈ u_ws RX2 TX2 4, w ∈ wsX8_image := fun _ h => List.mem_cons_of_mem _ (List.mem_append_right _ h)
  have in3 : ∀ w ∈ u_ws RX3 TX3 17, w ∈ wsX8_image := fun _ h => List.mem_cons_of_mem _ (List.mem_append_left _ (List.mem_append_left _ (List.mem_append_right _ h)))
  have in6 : ∀ w ∈ u_ws RX6 TX6 5, w ∈ wsX8_image := fun _ h => List.mem_cons_of_mem _ (List.mem_append_left _ (List.mem_append_left _ (List.mem_append_left _ (List.mem_append_right _ h))))
  have in8 : ∀ w ∈ u_ws RX8 TX8 12, w ∈ wsX8_image := fun _ h => List.mem_cons_of_mem _ (List.mem_append_left _ (List.mem_append_left _ (List.mem_append_left _ (List.mem_append_left _ (List.mem_append_right _ h)))))
  have hl : lv_has ls 2 [(0, .ref h0), (1, .int x1)] := hl
  refine lv_iload_n hx hb dX8_image_0 rfl (lv_at hl 1 rfl) ?_
  refine lv_if_lt (tgt := 9) hx hb dX8_image_1 (by decide) (fun c_1 => ?_) (fun c_1 => ?_)
  · refine lv_iconst (v := (-1)) hx hb dX8_image_9 (by decide) ?_
    exact hc_end hx hb hr hlocks () (by unfold spImg; split <;> rename_i h <;> first | rfl | exact h | exact h.symm | (exfalso; simp only [sp_lt, sp_le, sp_eq, sp0, spm1, sp1, sp3, sp4, sp12] at h c_1 <;> omega)) (hP.sub [] rfl) (hD.sub [] (by decide) rfl) hS dX8_image_10
  · refine lv_iload_n hx hb dX8_image_4 rfl (lv_at hl 1 rfl) ?_
    refine lv_iconst (v := 4) hx hb dX8_image_5 (by decide) ?_
    refine lv_icmp_lt (tgt := 11) hx hb dX8_image_6 (by decide) (fun c_2 => ?_) (fun c_2 => ?_)
    · rcases sp_c4 c_1 (Int32.not_le.mpr c_2) with rfl | rfl | rfl | rfl
      · refine lv_aload_n hx hb dX8_image_11 rfl (lv_at hl 0 rfl) ?_
        refine va_get (D := D) (ci := 6) (v := .ref (q 3)) (C := RX8) (T := TX8) (N := 12) hx hb hts in8 hown hG.1 hP 0 rfl rfl 4 (by decide) (hts (.fieldLink RX8 33 "ChairCane" "images" "[LChairCane$Standing;") (by decide +kernel)) (fun _ h9 => h9) rfl dX8_image_12 ?_
        refine lv_iload_n hx hb dX8_image_15 rfl (lv_at hl 1 rfl) ?_
        refine va_aldq hx hb hG.1 hP 19 5 rfl rfl (by unfold vp_in; decide) dX8_image_16 ?_
        refine W.eq (g2 := F0 m 17 ls [.ref (q 17)]) rfl ?_
        refine lv_aload_n hx hb dX8_image_17 rfl (lv_at hl 0 rfl) ?_
        refine va_get (D := D) (ci := 6) (v := .ref (q 2)) (C := RX8) (T := TX8) (N := 12) hx hb hts in8 hown hG.1 hP 0 rfl rfl 3 (by decide) (hts (.fieldLink RX8 29 "ChairCane" "now" "LChairCane$Standing;") (by decide +kernel)) (fun _ h9 => h9) rfl dX8_image_18 ?_
        refine hc_Vv (As := [.ref (q 2)]) (rest := []) (n := 1) (wr := [(h0, .inr (6, [.ref (q 0), .ref (q 1), .int 0, .ref (q 2), .ref (q 3), .ref (q 4), .ref (q 5), .ref (q 6), .ref (q 7), .ref (q 8), .ref (q 9), .ref (q 10)])), ((q 3), hcS k 4 (va_up (va_up (va_up (va_up (fun _ => none) 0 (some (q 17))) 1 (some (q 18))) 2 (some (q 19))) 3 (some (q 20)))), ((q 4), hcZ k 4 (fun _ => 0)), ((q 18), .inr (4, [.ref (i1 0), .ref (i1 1), .ref (i1 2), .int (-1), .int 0])), ((i1 0), .inr (2, [.int 0, .int 0, .int 0, .int 0, .ref (i1 3), .ref (i1 4), .ref (i1 5), .ref (i1 6), .ref (i1 7), .ref (i1 8), .int 0, .int 0, .int 0, .ref (i1 9), .ref (i1 10), .int 0, .int 0])), ((i1 3), hcI k 4 (fun _ => 0)), ((i1 4), hcI k 8 (fun _ => 0)), ((i1 5), hcI k 8 (fun _ => 0)), ((i1 6), hcI k 8 (fun _ => 0)), ((i1 7), hcI k 8 (fun _ => 0)), ((i1 8), hcI k 4 (fun _ => 0)), ((i1 9), hcI k 4 (fun _ => 0)), ((i1 10), hcI k 4 (fun _ => 0)), ((i1 1), .inr (0, [.ref (i1 11), .ref (i1 12), .ref (i1 13), .int 0, .int 0])), ((i1 11), hcI k 20 (fun _ => 0)), ((i1 12), hcI k 20 (fun _ => 0)), ((i1 13), hcI k 20 (fun _ => 0)), ((i1 2), .inr (1, [.ref (i1 14), .ref (i1 15), .ref (i1 16), .int 0])), ((i1 14), hcI k 10 (fun _ => 0)), ((i1 15), hcI k 10 (fun _ => 0)), ((i1 16), hcI k 10 (fun _ => 0)), ((q 19), .inr (4, [.ref (i2 0), .ref (i2 1), .ref (i2 2), .int (-1), .int 0])), ((i2 0), .inr (2, [.int 0, .int 0, .int 0, .int 0, .ref (i2 3), .ref (i2 4), .ref (i2 5), .ref (i2 6), .ref (i2 7), .ref (i2 8), .int 0, .int 0, .int 0, .ref (i2 9), .ref (i2 10), .int 0, .int 0])), ((i2 3), hcI k 4 (fun _ => 0)), ((i2 4), hcI k 8 (fun _ => 0)), ((i2 5), hcI k 8 (fun _ => 0)), ((i2 6), hcI k 8 (fun _ => 0)), ((i2 7), hcI k 8 (fun _ => 0)), ((i2 8), hcI k 4 (fun _ => 0)), ((i2 9), hcI k 4 (fun _ => 0)), ((i2 10), hcI k 4 (fun _ => 0)), ((i2 1), .inr (0, [.ref (i2 11), .ref (i2 12), .ref (i2 13), .int 0, .int 0])), ((i2 11), hcI k 20 (fun _ => 0)), ((i2 12), hcI k 20 (fun _ => 0)), ((i2 13), hcI k 20 (fun _ => 0)), ((i2 2), .inr (1, [.ref (i2 14), .ref (i2 15), .ref (i2 16), .int 0])), ((i2 14), hcI k 10 (fun _ => 0)), ((i2 15), hcI k 10 (fun _ => 0)), ((i2 16), hcI k 10 (fun _ => 0)), ((q 20), .inr (4, [.ref (i3 0), .ref (i3 1), .ref (i3 2), .int (-1), .int 0])), ((i3 0), .inr (2, [.int 0, .int 0, .int 0, .int 0, .ref (i3 3), .ref (i3 4), .ref (i3 5), .ref (i3 6), .ref (i3 7), .ref (i3 8), .int 0, .int 0, .int 0, .ref (i3 9), .ref (i3 10), .int 0, .int 0])), ((i3 3), hcI k 4 (fun _ => 0)), ((i3 4), hcI k 8 (fun _ => 0)), ((i3 5), hcI k 8 (fun _ => 0)), ((i3 6), hcI k 8 (fun _ => 0)), ((i3 7), hcI k 8 (fun _ => 0)), ((i3 8), hcI k 4 (fun _ => 0)), ((i3 9), hcI k 4 (fun _ => 0)), ((i3 10), hcI k 4 (fun _ => 0)), ((i3 1), .inr (0, [.ref (i3 11), .ref (i3 12), .ref (i3 13), .int 0, .int 0])), ((i3 11), hcI k 20 (fun _ => 0)), ((i3 12), hcI k 20 (fun _ => 0)), ((i3 13), hcI k 20 (fun _ => 0)), ((i3 2), .inr (1, [.ref (i3 14), .ref (i3 15), .ref (i3 16), .int 0])), ((i3 14), hcI k 10 (fun _ => 0)), ((i3 15), hcI k 10 (fun _ => 0)), ((i3 16), hcI k 10 (fun _ => 0))]) hx hb hml hown hts hG hA hP hD hS hl.1 [21, 22, 23, 24, 25, 26, 27, 28, 29, 30, 31, 32, 33, 34, 35, 36, 37, 38, 1, 2, 3, 4, 5, 6, 7, 8, 9, 10, 11, 12, 13, 14, 15, 16, 17, 18] [0, 19, 20, 39, 40, 41, 42, 43, 44, 45, 46, 47, 48, 49, 50, 51, 52, 53, 54, 55, 56, 57, 58, 59, 60, 61, 62, 63, 64, 65, 66, 67, 68, 69, 70, 71, 72, 73, 74, 75, 76, 77, 78, 79, 80, 81, 82, 83, 84, 85, 86, 87, 88, 89, 90, 91, 92] (c_X6_copyFrom l D k _ (q 17) (q 2) i0 qn) (ci := 4) (q0 := 21) rfl rfl gX8_image_X6_copyFrom rfl ⟨rfl, rfl, Nat.le_of_ble_eq_true rfl, Nat.le_of_ble_eq_true rfl⟩ (by decide +kernel) rfl rfl ⟨by decide, by decide, by decide⟩ ⟨rfl, rfl, Nat.le_of_ble_eq_true rfl, Nat.le_of_ble_eq_true rfl, Nat.le_of_ble_eq_true rfl⟩ dX8_image_21 (fun u_3 H locs hw hP hD hS => ?_)
        have hP : va_P D vwCl ([(h0, .inr (6, [.ref (q 0), .ref (q 1), .int 0, .ref (q 2), .ref (q 3), .ref (q 4), .ref (q 5), .ref (q 6), .ref (q 7), .ref (q 8), .ref (q 9), .ref (q 10)])), ((q 3), hcS k 4 (va_up (va_up (va_up (va_up (fun _ => none) 0 (some (q 17))) 1 (some (q 18))) 2 (some (q 19))) 3 (some (q 20)))), ((q 4), hcZ k 4 (fun _ => 0)), ((q 18), .inr (4, [.ref (i1 0), .ref (i1 1), .ref (i1 2), .int (-1), .int 0])), ((i1 0), .inr (2, [.int 0, .int 0, .int 0, .int 0, .ref (i1 3), .ref (i1 4), .ref (i1 5), .ref (i1 6), .ref (i1 7), .ref (i1 8), .int 0, .int 0, .int 0, .ref (i1 9), .ref (i1 10), .int 0, .int 0])), ((i1 3), hcI k 4 (fun _ => 0)), ((i1 4), hcI k 8 (fun _ => 0)), ((i1 5), hcI k 8 (fun _ => 0)), ((i1 6), hcI k 8 (fun _ => 0)), ((i1 7), hcI k 8 (fun _ => 0)), ((i1 8), hcI k 4 (fun _ => 0)), ((i1 9), hcI k 4 (fun _ => 0)), ((i1 10), hcI k 4 (fun _ => 0)), ((i1 1), .inr (0, [.ref (i1 11), .ref (i1 12), .ref (i1 13), .int 0, .int 0])), ((i1 11), hcI k 20 (fun _ => 0)), ((i1 12), hcI k 20 (fun _ => 0)), ((i1 13), hcI k 20 (fun _ => 0)), ((i1 2), .inr (1, [.ref (i1 14), .ref (i1 15), .ref (i1 16), .int 0])), ((i1 14), hcI k 10 (fun _ => 0)), ((i1 15), hcI k 10 (fun _ => 0)), ((i1 16), hcI k 10 (fun _ => 0)), ((q 19), .inr (4, [.ref (i2 0), .ref (i2 1), .ref (i2 2), .int (-1), .int 0])), ((i2 0), .inr (2, [.int 0, .int 0, .int 0, .int 0, .ref (i2 3), .ref (i2 4), .ref (i2 5), .ref (i2 6), .ref (i2 7), .ref (i2 8), .int 0, .int 0, .int 0, .ref (i2 9), .ref (i2 10), .int 0, .int 0])), ((i2 3), hcI k 4 (fun _ => 0)), ((i2 4), hcI k 8 (fun _ => 0)), ((i2 5), hcI k 8 (fun _ => 0)), ((i2 6), hcI k 8 (fun _ => 0)), ((i2 7), hcI k 8 (fun _ => 0)), ((i2 8), hcI k 4 (fun _ => 0)), ((i2 9), hcI k 4 (fun _ => 0)), ((i2 10), hcI k 4 (fun _ => 0)), ((i2 1), .inr (0, [.ref (i2 11), .ref (i2 12), .ref (i2 13), .int 0, .int 0])), ((i2 11), hcI k 20 (fun _ => 0)), ((i2 12), hcI k 20 (fun _ => 0)), ((i2 13), hcI k 20 (fun _ => 0)), ((i2 2), .inr (1, [.ref (i2 14), .ref (i2 15), .ref (i2 16), .int 0])), ((i2 14), hcI k 10 (fun _ => 0)), ((i2 15), hcI k 10 (fun _ => 0)), ((i2 16), hcI k 10 (fun _ => 0)), ((q 20), .inr (4, [.ref (i3 0), .ref (i3 1), .ref (i3 2), .int (-1), .int 0])), ((i3 0), .inr (2, [.int 0, .int 0, .int 0, .int 0, .ref (i3 3), .ref (i3 4), .ref (i3 5), .ref (i3 6), .ref (i3 7), .ref (i3 8), .int 0, .int 0, .int 0, .ref (i3 9), .ref (i3 10), .int 0, .int 0])), ((i3 3), hcI k 4 (fun _ => 0)), ((i3 4), hcI k 8 (fun _ => 0)), ((i3 5), hcI k 8 (fun _ => 0)), ((i3 6), hcI k 8 (fun _ => 0)), ((i3 7), hcI k 8 (fun _ => 0)), ((i3 8), hcI k 4 (fun _ => 0)), ((i3 9), hcI k 4 (fun _ => 0)), ((i3 10), hcI k 4 (fun _ => 0)), ((i3 1), .inr (0, [.ref (i3 11), .ref (i3 12), .ref (i3 13), .int 0, .int 0])), ((i3 11), hcI k 20 (fun _ => 0)), ((i3 12), hcI k 20 (fun _ => 0)), ((i3 13), hcI k 20 (fun _ => 0)), ((i3 2), .inr (1, [.ref (i3 14), .ref (i3 15), .ref (i3 16), .int 0])), ((i3 14), hcI k 10 (fun _ => 0)), ((i3 15), hcI k 10 (fun _ => 0)), ((i3 16), hcI k 10 (fun _ => 0)), ((q 2), .inr (4, [.ref (qn 0), .ref (qn 1), .ref (qn 2), .int (-1), .int 0])), ((qn 0), .inr (2, [.int 0, .int 0, .int 0, .int 0, .ref (qn 3), .ref (qn 4), .ref (qn 5), .ref (qn 6), .ref (qn 7), .ref (qn 8), .int 0, .int 0, .int 0, .ref (qn 9), .ref (qn 10), .int 0, .int 0])), ((qn 3), hcI k 4 (fun _ => 0)), ((qn 4), hcI k 8 (fun _ => 0)), ((qn 5), hcI k 8 (fun _ => 0)), ((qn 6), hcI k 8 (fun _ => 0)), ((qn 7), hcI k 8 (fun _ => 0)), ((qn 8), hcI k 4 (fun _ => 0)), ((qn 9), hcI k 4 (fun _ => 0)), ((qn 10), hcI k 4 (fun _ => 0)), ((qn 1), .inr (0, [.ref (qn 11), .ref (qn 12), .ref (qn 13), .int 0, .int 0])), ((qn 11), hcI k 20 (fun _ => 0)), ((qn 12), hcI k 20 (fun _ => 0)), ((qn 13), hcI k 20 (fun _ => 0)), ((qn 2), .inr (1, [.ref (qn 14), .ref (qn 15), .ref (qn 16), .int 0])), ((qn 14), hcI k 10 (fun _ => 0)), ((qn 15), hcI k 10 (fun _ => 0)), ((qn 16), hcI k 10 (fun _ => 0))]) H := hP
        have hD : va_D A ([(h0, .inr (6, [.ref (q 0), .ref (q 1), .int 0, .ref (q 2), .ref (q 3), .ref (q 4), .ref (q 5), .ref (q 6), .ref (q 7), .ref (q 8), .ref (q 9), .ref (q 10)])), ((q 3), hcS k 4 (va_up (va_up (va_up (va_up (fun _ => none) 0 (some (q 17))) 1 (some (q 18))) 2 (some (q 19))) 3 (some (q 20)))), ((q 4), hcZ k 4 (fun _ => 0)), ((q 18), .inr (4, [.ref (i1 0), .ref (i1 1), .ref (i1 2), .int (-1), .int 0])), ((i1 0), .inr (2, [.int 0, .int 0, .int 0, .int 0, .ref (i1 3), .ref (i1 4), .ref (i1 5), .ref (i1 6), .ref (i1 7), .ref (i1 8), .int 0, .int 0, .int 0, .ref (i1 9), .ref (i1 10), .int 0, .int 0])), ((i1 3), hcI k 4 (fun _ => 0)), ((i1 4), hcI k 8 (fun _ => 0)), ((i1 5), hcI k 8 (fun _ => 0)), ((i1 6), hcI k 8 (fun _ => 0)), ((i1 7), hcI k 8 (fun _ => 0)), ((i1 8), hcI k 4 (fun _ => 0)), ((i1 9), hcI k 4 (fun _ => 0)), ((i1 10), hcI k 4 (fun _ => 0)), ((i1 1), .inr (0, [.ref (i1 11), .ref (i1 12), .ref (i1 13), .int 0, .int 0])), ((i1 11), hcI k 20 (fun _ => 0)), ((i1 12), hcI k 20 (fun _ => 0)), ((i1 13), hcI k 20 (fun _ => 0)), ((i1 2), .inr (1, [.ref (i1 14), .ref (i1 15), .ref (i1 16), .int 0])), ((i1 14), hcI k 10 (fun _ => 0)), ((i1 15), hcI k 10 (fun _ => 0)), ((i1 16), hcI k 10 (fun _ => 0)), ((q 19), .inr (4, [.ref (i2 0), .ref (i2 1), .ref (i2 2), .int (-1), .int 0])), ((i2 0), .inr (2, [.int 0, .int 0, .int 0, .int 0, .ref (i2 3), .ref (i2 4), .ref (i2 5), .ref (i2 6), .ref (i2 7), .ref (i2 8), .int 0, .int 0, .int 0, .ref (i2 9), .ref (i2 10), .int 0, .int 0])), ((i2 3), hcI k 4 (fun _ => 0)), ((i2 4), hcI k 8 (fun _ => 0)), ((i2 5), hcI k 8 (fun _ => 0)), ((i2 6), hcI k 8 (fun _ => 0)), ((i2 7), hcI k 8 (fun _ => 0)), ((i2 8), hcI k 4 (fun _ => 0)), ((i2 9), hcI k 4 (fun _ => 0)), ((i2 10), hcI k 4 (fun _ => 0)), ((i2 1), .inr (0, [.ref (i2 11), .ref (i2 12), .ref (i2 13), .int 0, .int 0])), ((i2 11), hcI k 20 (fun _ => 0)), ((i2 12), hcI k 20 (fun _ => 0)), ((i2 13), hcI k 20 (fun _ => 0)), ((i2 2), .inr (1, [.ref (i2 14), .ref (i2 15), .ref (i2 16), .int 0])), ((i2 14), hcI k 10 (fun _ => 0)), ((i2 15), hcI k 10 (fun _ => 0)), ((i2 16), hcI k 10 (fun _ => 0)), ((q 20), .inr (4, [.ref (i3 0), .ref (i3 1), .ref (i3 2), .int (-1), .int 0])), ((i3 0), .inr (2, [.int 0, .int 0, .int 0, .int 0, .ref (i3 3), .ref (i3 4), .ref (i3 5), .ref (i3 6), .ref (i3 7), .ref (i3 8), .int 0, .int 0, .int 0, .ref (i3 9), .ref (i3 10), .int 0, .int 0])), ((i3 3), hcI k 4 (fun _ => 0)), ((i3 4), hcI k 8 (fun _ => 0)), ((i3 5), hcI k 8 (fun _ => 0)), ((i3 6), hcI k 8 (fun _ => 0)), ((i3 7), hcI k 8 (fun _ => 0)), ((i3 8), hcI k 4 (fun _ => 0)), ((i3 9), hcI k 4 (fun _ => 0)), ((i3 10), hcI k 4 (fun _ => 0)), ((i3 1), .inr (0, [.ref (i3 11), .ref (i3 12), .ref (i3 13), .int 0, .int 0])), ((i3 11), hcI k 20 (fun _ => 0)), ((i3 12), hcI k 20 (fun _ => 0)), ((i3 13), hcI k 20 (fun _ => 0)), ((i3 2), .inr (1, [.ref (i3 14), .ref (i3 15), .ref (i3 16), .int 0])), ((i3 14), hcI k 10 (fun _ => 0)), ((i3 15), hcI k 10 (fun _ => 0)), ((i3 16), hcI k 10 (fun _ => 0)), ((q 2), .inr (4, [.ref (qn 0), .ref (qn 1), .ref (qn 2), .int (-1), .int 0])), ((qn 0), .inr (2, [.int 0, .int 0, .int 0, .int 0, .ref (qn 3), .ref (qn 4), .ref (qn 5), .ref (qn 6), .ref (qn 7), .ref (qn 8), .int 0, .int 0, .int 0, .ref (qn 9), .ref (qn 10), .int 0, .int 0])), ((qn 3), hcI k 4 (fun _ => 0)), ((qn 4), hcI k 8 (fun _ => 0)), ((qn 5), hcI k 8 (fun _ => 0)), ((qn 6), hcI k 8 (fun _ => 0)), ((qn 7), hcI k 8 (fun _ => 0)), ((qn 8), hcI k 4 (fun _ => 0)), ((qn 9), hcI k 4 (fun _ => 0)), ((qn 10), hcI k 4 (fun _ => 0)), ((qn 1), .inr (0, [.ref (qn 11), .ref (qn 12), .ref (qn 13), .int 0, .int 0])), ((qn 11), hcI k 20 (fun _ => 0)), ((qn 12), hcI k 20 (fun _ => 0)), ((qn 13), hcI k 20 (fun _ => 0)), ((qn 2), .inr (1, [.ref (qn 14), .ref (qn 15), .ref (qn 16), .int 0])), ((qn 14), hcI k 10 (fun _ => 0)), ((qn 15), hcI k 10 (fun _ => 0)), ((qn 16), hcI k 10 (fun _ => 0))]) := hD
        refine lv_aload_n hx hb dX8_image_24 rfl (lv_at hl 0 rfl) ?_
        refine va_get (D := D) (ci := 6) (v := .ref (q 4)) (C := RX8) (T := TX8) (N := 12) hx hb hts in8 hown hG.1 hP 0 rfl rfl 5 (by decide) (hts (.fieldLink RX8 37 "ChairCane" "imageMade" "[Z") (by decide +kernel)) (fun _ h9 => h9) rfl dX8_image_25 ?_
        refine lv_iload_n hx hb dX8_image_28 rfl (lv_at hl 1 rfl) ?_
        refine lv_iconst (v := 1) hx hb dX8_image_29 (by decide) ?_
        refine va_zast hx hb hG.1 hP hD hS 2 2 rfl rfl (by unfold vp_in; decide) dX8_image_30 (fun H locs hP hD hS => ?_)
        generalize upd (fun _ => 0) (Int32.toNatClampNeg (0)) (vp_nar .boolean (1)) = f_5 at hP hD
        have hP : va_P D vwCl ([(h0, .inr (6, [.ref (q 0), .ref (q 1), .int 0, .ref (q 2), .ref (q 3), .ref (q 4), .ref (q 5), .ref (q 6), .ref (q 7), .ref (q 8), .ref (q 9), .ref (q 10)])), ((q 3), hcS k 4 (va_up (va_up (va_up (va_up (fun _ => none) 0 (some (q 17))) 1 (some (q 18))) 2 (some (q 19))) 3 (some (q 20)))), ((q 4), hcZ k 4 f_5), ((q 18), .inr (4, [.ref (i1 0), .ref (i1 1), .ref (i1 2), .int (-1), .int 0])), ((i1 0), .inr (2, [.int 0, .int 0, .int 0, .int 0, .ref (i1 3), .ref (i1 4), .ref (i1 5), .ref (i1 6), .ref (i1 7), .ref (i1 8), .int 0, .int 0, .int 0, .ref (i1 9), .ref (i1 10), .int 0, .int 0])), ((i1 3), hcI k 4 (fun _ => 0)), ((i1 4), hcI k 8 (fun _ => 0)), ((i1 5), hcI k 8 (fun _ => 0)), ((i1 6), hcI k 8 (fun _ => 0)), ((i1 7), hcI k 8 (fun _ => 0)), ((i1 8), hcI k 4 (fun _ => 0)), ((i1 9), hcI k 4 (fun _ => 0)), ((i1 10), hcI k 4 (fun _ => 0)), ((i1 1), .inr (0, [.ref (i1 11), .ref (i1 12), .ref (i1 13), .int 0, .int 0])), ((i1 11), hcI k 20 (fun _ => 0)), ((i1 12), hcI k 20 (fun _ => 0)), ((i1 13), hcI k 20 (fun _ => 0)), ((i1 2), .inr (1, [.ref (i1 14), .ref (i1 15), .ref (i1 16), .int 0])), ((i1 14), hcI k 10 (fun _ => 0)), ((i1 15), hcI k 10 (fun _ => 0)), ((i1 16), hcI k 10 (fun _ => 0)), ((q 19), .inr (4, [.ref (i2 0), .ref (i2 1), .ref (i2 2), .int (-1), .int 0])), ((i2 0), .inr (2, [.int 0, .int 0, .int 0, .int 0, .ref (i2 3), .ref (i2 4), .ref (i2 5), .ref (i2 6), .ref (i2 7), .ref (i2 8), .int 0, .int 0, .int 0, .ref (i2 9), .ref (i2 10), .int 0, .int 0])), ((i2 3), hcI k 4 (fun _ => 0)), ((i2 4), hcI k 8 (fun _ => 0)), ((i2 5), hcI k 8 (fun _ => 0)), ((i2 6), hcI k 8 (fun _ => 0)), ((i2 7), hcI k 8 (fun _ => 0)), ((i2 8), hcI k 4 (fun _ => 0)), ((i2 9), hcI k 4 (fun _ => 0)), ((i2 10), hcI k 4 (fun _ => 0)), ((i2 1), .inr (0, [.ref (i2 11), .ref (i2 12), .ref (i2 13), .int 0, .int 0])), ((i2 11), hcI k 20 (fun _ => 0)), ((i2 12), hcI k 20 (fun _ => 0)), ((i2 13), hcI k 20 (fun _ => 0)), ((i2 2), .inr (1, [.ref (i2 14), .ref (i2 15), .ref (i2 16), .int 0])), ((i2 14), hcI k 10 (fun _ => 0)), ((i2 15), hcI k 10 (fun _ => 0)), ((i2 16), hcI k 10 (fun _ => 0)), ((q 20), .inr (4, [.ref (i3 0), .ref (i3 1), .ref (i3 2), .int (-1), .int 0])), ((i3 0), .inr (2, [.int 0, .int 0, .int 0, .int 0, .ref (i3 3), .ref (i3 4), .ref (i3 5), .ref (i3 6), .ref (i3 7), .ref (i3 8), .int 0, .int 0, .int 0, .ref (i3 9), .ref (i3 10), .int 0, .int 0])), ((i3 3), hcI k 4 (fun _ => 0)), ((i3 4), hcI k 8 (fun _ => 0)), ((i3 5), hcI k 8 (fun _ => 0)), ((i3 6), hcI k 8 (fun _ => 0)), ((i3 7), hcI k 8 (fun _ => 0)), ((i3 8), hcI k 4 (fun _ => 0)), ((i3 9), hcI k 4 (fun _ => 0)), ((i3 10), hcI k 4 (fun _ => 0)), ((i3 1), .inr (0, [.ref (i3 11), .ref (i3 12), .ref (i3 13), .int 0, .int 0])), ((i3 11), hcI k 20 (fun _ => 0)), ((i3 12), hcI k 20 (fun _ => 0)), ((i3 13), hcI k 20 (fun _ => 0)), ((i3 2), .inr (1, [.ref (i3 14), .ref (i3 15), .ref (i3 16), .int 0])), ((i3 14), hcI k 10 (fun _ => 0)), ((i3 15), hcI k 10 (fun _ => 0)), ((i3 16), hcI k 10 (fun _ => 0)), ((q 2), .inr (4, [.ref (qn 0), .ref (qn 1), .ref (qn 2), .int (-1), .int 0])), ((qn 0), .inr (2, [.int 0, .int 0, .int 0, .int 0, .ref (qn 3), .ref (qn 4), .ref (qn 5), .ref (qn 6), .ref (qn 7), .ref (qn 8), .int 0, .int 0, .int 0, .ref (qn 9), .ref (qn 10), .int 0, .int 0])), ((qn 3), hcI k 4 (fun _ => 0)), ((qn 4), hcI k 8 (fun _ => 0)), ((qn 5), hcI k 8 (fun _ => 0)), ((qn 6), hcI k 8 (fun _ => 0)), ((qn 7), hcI k 8 (fun _ => 0)), ((qn 8), hcI k 4 (fun _ => 0)), ((qn 9), hcI k 4 (fun _ => 0)), ((qn 10), hcI k 4 (fun _ => 0)), ((qn 1), .inr (0, [.ref (qn 11), .ref (qn 12), .ref (qn 13), .int 0, .int 0])), ((qn 11), hcI k 20 (fun _ => 0)), ((qn 12), hcI k 20 (fun _ => 0)), ((qn 13), hcI k 20 (fun _ => 0)), ((qn 2), .inr (1, [.ref (qn 14), .ref (qn 15), .ref (qn 16), .int 0])), ((qn 14), hcI k 10 (fun _ => 0)), ((qn 15), hcI k 10 (fun _ => 0)), ((qn 16), hcI k 10 (fun _ => 0))]) H := hP
        have hD : va_D A ([(h0, .inr (6, [.ref (q 0), .ref (q 1), .int 0, .ref (q 2), .ref (q 3), .ref (q 4), .ref (q 5), .ref (q 6), .ref (q 7), .ref (q 8), .ref (q 9), .ref (q 10)])), ((q 3), hcS k 4 (va_up (va_up (va_up (va_up (fun _ => none) 0 (some (q 17))) 1 (some (q 18))) 2 (some (q 19))) 3 (some (q 20)))), ((q 4), hcZ k 4 f_5), ((q 18), .inr (4, [.ref (i1 0), .ref (i1 1), .ref (i1 2), .int (-1), .int 0])), ((i1 0), .inr (2, [.int 0, .int 0, .int 0, .int 0, .ref (i1 3), .ref (i1 4), .ref (i1 5), .ref (i1 6), .ref (i1 7), .ref (i1 8), .int 0, .int 0, .int 0, .ref (i1 9), .ref (i1 10), .int 0, .int 0])), ((i1 3), hcI k 4 (fun _ => 0)), ((i1 4), hcI k 8 (fun _ => 0)), ((i1 5), hcI k 8 (fun _ => 0)), ((i1 6), hcI k 8 (fun _ => 0)), ((i1 7), hcI k 8 (fun _ => 0)), ((i1 8), hcI k 4 (fun _ => 0)), ((i1 9), hcI k 4 (fun _ => 0)), ((i1 10), hcI k 4 (fun _ => 0)), ((i1 1), .inr (0, [.ref (i1 11), .ref (i1 12), .ref (i1 13), .int 0, .int 0])), ((i1 11), hcI k 20 (fun _ => 0)), ((i1 12), hcI k 20 (fun _ => 0)), ((i1 13), hcI k 20 (fun _ => 0)), ((i1 2), .inr (1, [.ref (i1 14), .ref (i1 15), .ref (i1 16), .int 0])), ((i1 14), hcI k 10 (fun _ => 0)), ((i1 15), hcI k 10 (fun _ => 0)), ((i1 16), hcI k 10 (fun _ => 0)), ((q 19), .inr (4, [.ref (i2 0), .ref (i2 1), .ref (i2 2), .int (-1), .int 0])), ((i2 0), .inr (2, [.int 0, .int 0, .int 0, .int 0, .ref (i2 3), .ref (i2 4), .ref (i2 5), .ref (i2 6), .ref (i2 7), .ref (i2 8), .int 0, .int 0, .int 0, .ref (i2 9), .ref (i2 10), .int 0, .int 0])), ((i2 3), hcI k 4 (fun _ => 0)), ((i2 4), hcI k 8 (fun _ => 0)), ((i2 5), hcI k 8 (fun _ => 0)), ((i2 6), hcI k 8 (fun _ => 0)), ((i2 7), hcI k 8 (fun _ => 0)), ((i2 8), hcI k 4 (fun _ => 0)), ((i2 9), hcI k 4 (fun _ => 0)), ((i2 10), hcI k 4 (fun _ => 0)), ((i2 1), .inr (0, [.ref (i2 11), .ref (i2 12), .ref (i2 13), .int 0, .int 0])), ((i2 11), hcI k 20 (fun _ => 0)), ((i2 12), hcI k 20 (fun _ => 0)), ((i2 13), hcI k 20 (fun _ => 0)), ((i2 2), .inr (1, [.ref (i2 14), .ref (i2 15), .ref (i2 16), .int 0])), ((i2 14), hcI k 10 (fun _ => 0)), ((i2 15), hcI k 10 (fun _ => 0)), ((i2 16), hcI k 10 (fun _ => 0)), ((q 20), .inr (4, [.ref (i3 0), .ref (i3 1), .ref (i3 2), .int (-1), .int 0])), ((i3 0), .inr (2, [.int 0, .int 0, .int 0, .int 0, .ref (i3 3), .ref (i3 4), .ref (i3 5), .ref (i3 6), .ref (i3 7), .ref (i3 8), .int 0, .int 0, .int 0, .ref (i3 9), .ref (i3 10), .int 0, .int 0])), ((i3 3), hcI k 4 (fun _ => 0)), ((i3 4), hcI k 8 (fun _ => 0)), ((i3 5), hcI k 8 (fun _ => 0)), ((i3 6), hcI k 8 (fun _ => 0)), ((i3 7), hcI k 8 (fun _ => 0)), ((i3 8), hcI k 4 (fun _ => 0)), ((i3 9), hcI k 4 (fun _ => 0)), ((i3 10), hcI k 4 (fun _ => 0)), ((i3 1), .inr (0, [.ref (i3 11), .ref (i3 12), .ref (i3 13), .int 0, .int 0])), ((i3 11), hcI k 20 (fun _ => 0)), ((i3 12), hcI k 20 (fun _ => 0)), ((i3 13), hcI k 20 (fun _ => 0)), ((i3 2), .inr (1, [.ref (i3 14), .ref (i3 15), .ref (i3 16), .int 0])), ((i3 14), hcI k 10 (fun _ => 0)), ((i3 15), hcI k 10 (fun _ => 0)), ((i3 16), hcI k 10 (fun _ => 0)), ((q 2), .inr (4, [.ref (qn 0), .ref (qn 1), .ref (qn 2), .int (-1), .int 0])), ((qn 0), .inr (2, [.int 0, .int 0, .int 0, .int 0, .ref (qn 3), .ref (qn 4), .ref (qn 5), .ref (qn 6), .ref (qn 7), .ref (qn 8), .int 0, .int 0, .int 0, .ref (qn 9), .ref (qn 10), .int 0, .int 0])), ((qn 3), hcI k 4 (fun _ => 0)), ((qn 4), hcI k 8 (fun _ => 0)), ((qn 5), hcI k 8 (fun _ => 0)), ((qn 6), hcI k 8 (fun _ => 0)), ((qn 7), hcI k 8 (fun _ => 0)), ((qn 8), hcI k 4 (fun _ => 0)), ((qn 9), hcI k 4 (fun _ => 0)), ((qn 10), hcI k 4 (fun _ => 0)), ((qn 1), .inr (0, [.ref (qn 11), .ref (qn 12), .ref (qn 13), .int 0, .int 0])), ((qn 11), hcI k 20 (fun _ => 0)), ((qn 12), hcI k 20 (fun _ => 0)), ((qn 13), hcI k 20 (fun _ => 0)), ((qn 2), .inr (1, [.ref (qn 14), .ref (qn 15), .ref (qn 16), .int 0])), ((qn 14), hcI k 10 (fun _ => 0)), ((qn 15), hcI k 10 (fun _ => 0)), ((qn 16), hcI k 10 (fun _ => 0))]) := hD
        refine lv_aload_n hx hb dX8_image_31 rfl (lv_at hl 0 rfl) ?_
        refine va_get (D := D) (ci := 6) (v := .ref (q 2)) (C := RX8) (T := TX8) (N := 12) hx hb hts in8 hown hG.1 hP 0 rfl rfl 3 (by decide) (hts (.fieldLink RX8 29 "ChairCane" "now" "LChairCane$Standing;") (by decide +kernel)) (fun _ h9 => h9) rfl dX8_image_32 ?_
        refine va_get (D := D) (ci := 4) (v := .ref (qn 0)) (C := RX6) (T := TX6) (N := 5) hx hb hts in6 hown hG.1 hP 57 rfl rfl 0 (by decide) (hts (.fieldLink RX8 81 "ChairCane$Standing" "room" "LChairCane$Room;") (by decide +kernel)) (fun _ h9 => h9) rfl dX8_image_35 ?_
        refine va_get (D := D) (ci := 2) (v := .int 0) (C := RX3) (T := TX3) (N := 17) hx hb hts in3 hown hG.1 hP 58 rfl rfl 12 (by decide) (hts (.fieldLink RX8 154 "ChairCane$Room" "minute" "I") (by decide +kernel)) (fun _ h9 => h9) rfl dX8_image_38 ?_
        exact hc_end hx hb hr hlocks () (by decide) (hP.sub [] rfl) (hD.sub [] (by decide) rfl) hS dX8_image_41
      · refine lv_aload_n hx hb dX8_image_11 rfl (lv_at hl 0 rfl) ?_
        refine va_get (D := D) (ci := 6) (v := .ref (q 3)) (C := RX8) (T := TX8) (N := 12) hx hb hts in8 hown hG.1 hP 0 rfl rfl 4 (by decide) (hts (.fieldLink RX8 33 "ChairCane" "images" "[LChairCane$Standing;") (by decide +kernel)) (fun _ h9 => h9) rfl dX8_image_12 ?_
        refine lv_iload_n hx hb dX8_image_15 rfl (lv_at hl 1 rfl) ?_
        refine va_aldq hx hb hG.1 hP 19 5 rfl rfl (by unfold vp_in; decide) dX8_image_16 ?_
        refine W.eq (g2 := F0 m 17 ls [.ref (q 18)]) rfl ?_
        refine lv_aload_n hx hb dX8_image_17 rfl (lv_at hl 0 rfl) ?_
        refine va_get (D := D) (ci := 6) (v := .ref (q 2)) (C := RX8) (T := TX8) (N := 12) hx hb hts in8 hown hG.1 hP 0 rfl rfl 3 (by decide) (hts (.fieldLink RX8 29 "ChairCane" "now" "LChairCane$Standing;") (by decide +kernel)) (fun _ h9 => h9) rfl dX8_image_18 ?_
        refine hc_Vv (As := [.ref (q 2)]) (rest := []) (n := 1) (wr := [(h0, .inr (6, [.ref (q 0), .ref (q 1), .int 0, .ref (q 2), .ref (q 3), .ref (q 4), .ref (q 5), .ref (q 6), .ref (q 7), .ref (q 8), .ref (q 9), .ref (q 10)])), ((q 3), hcS k 4 (va_up (va_up (va_up (va_up (fun _ => none) 0 (some (q 17))) 1 (some (q 18))) 2 (some (q 19))) 3 (some (q 20)))), ((q 4), hcZ k 4 (fun _ => 0)), ((q 17), .inr (4, [.ref (i0 0), .ref (i0 1), .ref (i0 2), .int (-1), .int 0])), ((i0 0), .inr (2, [.int 0, .int 0, .int 0, .int 0, .ref (i0 3), .ref (i0 4), .ref (i0 5), .ref (i0 6), .ref (i0 7), .ref (i0 8), .int 0, .int 0, .int 0, .ref (i0 9), .ref (i0 10), .int 0, .int 0])), ((i0 3), hcI k 4 (fun _ => 0)), ((i0 4), hcI k 8 (fun _ => 0)), ((i0 5), hcI k 8 (fun _ => 0)), ((i0 6), hcI k 8 (fun _ => 0)), ((i0 7), hcI k 8 (fun _ => 0)), ((i0 8), hcI k 4 (fun _ => 0)), ((i0 9), hcI k 4 (fun _ => 0)), ((i0 10), hcI k 4 (fun _ => 0)), ((i0 1), .inr (0, [.ref (i0 11), .ref (i0 12), .ref (i0 13), .int 0, .int 0])), ((i0 11), hcI k 20 (fun _ => 0)), ((i0 12), hcI k 20 (fun _ => 0)), ((i0 13), hcI k 20 (fun _ => 0)), ((i0 2), .inr (1, [.ref (i0 14), .ref (i0 15), .ref (i0 16), .int 0])), ((i0 14), hcI k 10 (fun _ => 0)), ((i0 15), hcI k 10 (fun _ => 0)), ((i0 16), hcI k 10 (fun _ => 0)), ((q 19), .inr (4, [.ref (i2 0), .ref (i2 1), .ref (i2 2), .int (-1), .int 0])), ((i2 0), .inr (2, [.int 0, .int 0, .int 0, .int 0, .ref (i2 3), .ref (i2 4), .ref (i2 5), .ref (i2 6), .ref (i2 7), .ref (i2 8), .int 0, .int 0, .int 0, .ref (i2 9), .ref (i2 10), .int 0, .int 0])), ((i2 3), hcI k 4 (fun _ => 0)), ((i2 4), hcI k 8 (fun _ => 0)), ((i2 5), hcI k 8 (fun _ => 0)), ((i2 6), hcI k 8 (fun _ => 0)), ((i2 7), hcI k 8 (fun _ => 0)), ((i2 8), hcI k 4 (fun _ => 0)), ((i2 9), hcI k 4 (fun _ => 0)), ((i2 10), hcI k 4 (fun _ => 0)), ((i2 1), .inr (0, [.ref (i2 11), .ref (i2 12), .ref (i2 13), .int 0, .int 0])), ((i2 11), hcI k 20 (fun _ => 0)), ((i2 12), hcI k 20 (fun _ => 0)), ((i2 13), hcI k 20 (fun _ => 0)), ((i2 2), .inr (1, [.ref (i2 14), .ref (i2 15), .ref (i2 16), .int 0])), ((i2 14), hcI k 10 (fun _ => 0)), ((i2 15), hcI k 10 (fun _ => 0)), ((i2 16), hcI k 10 (fun _ => 0)), ((q 20), .inr (4, [.ref (i3 0), .ref (i3 1), .ref (i3 2), .int (-1), .int 0])), ((i3 0), .inr (2, [.int 0, .int 0, .int 0, .int 0, .ref (i3 3), .ref (i3 4), .ref (i3 5), .ref (i3 6), .ref (i3 7), .ref (i3 8), .int 0, .int 0, .int 0, .ref (i3 9), .ref (i3 10), .int 0, .int 0])), ((i3 3), hcI k 4 (fun _ => 0)), ((i3 4), hcI k 8 (fun _ => 0)), ((i3 5), hcI k 8 (fun _ => 0)), ((i3 6), hcI k 8 (fun _ => 0)), ((i3 7), hcI k 8 (fun _ => 0)), ((i3 8), hcI k 4 (fun _ => 0)), ((i3 9), hcI k 4 (fun _ => 0)), ((i3 10), hcI k 4 (fun _ => 0)), ((i3 1), .inr (0, [.ref (i3 11), .ref (i3 12), .ref (i3 13), .int 0, .int 0])), ((i3 11), hcI k 20 (fun _ => 0)), ((i3 12), hcI k 20 (fun _ => 0)), ((i3 13), hcI k 20 (fun _ => 0)), ((i3 2), .inr (1, [.ref (i3 14), .ref (i3 15), .ref (i3 16), .int 0])), ((i3 14), hcI k 10 (fun _ => 0)), ((i3 15), hcI k 10 (fun _ => 0)), ((i3 16), hcI k 10 (fun _ => 0))]) hx hb hml hown hts hG hA hP hD hS hl.1 [39, 40, 41, 42, 43, 44, 45, 46, 47, 48, 49, 50, 51, 52, 53, 54, 55, 56, 1, 2, 3, 4, 5, 6, 7, 8, 9, 10, 11, 12, 13, 14, 15, 16, 17, 18] [0, 19, 20, 21, 22, 23, 24, 25, 26, 27, 28, 29, 30, 31, 32, 33, 34, 35, 36, 37, 38, 57, 58, 59, 60, 61, 62, 63, 64, 65, 66, 67, 68, 69, 70, 71, 72, 73, 74, 75, 76, 77, 78, 79, 80, 81, 82, 83, 84, 85, 86, 87, 88, 89, 90, 91, 92] (c_X6_copyFrom l D k _ (q 18) (q 2) i1 qn) (ci := 4) (q0 := 39) rfl rfl gX8_image_X6_copyFrom rfl ⟨rfl, rfl, Nat.le_of_ble_eq_true rfl, Nat.le_of_ble_eq_true rfl⟩ (by decide +kernel) rfl rfl ⟨by decide, by decide, by decide⟩ ⟨rfl, rfl, Nat.le_of_ble_eq_true rfl, Nat.le_of_ble_eq_true rfl, Nat.le_of_ble_eq_true rfl⟩ dX8_image_21 (fun u_6 H locs hw hP hD hS => ?_)
        have hP : va_P D vwCl ([(h0, .inr (6, [.ref (q 0), .ref (q 1), .int 0, .ref (q 2), .ref (q 3), .ref (q 4), .ref (q 5), .ref (q 6), .ref (q 7), .ref (q 8), .ref (q 9), .ref (q 10)])), ((q 3), hcS k 4 (va_up (va_up (va_up (va_up (fun _ => none) 0 (some (q 17))) 1 (some (q 18))) 2 (some (q 19))) 3 (some (q 20)))), ((q 4), hcZ k 4 (fun _ => 0)), ((q 17), .inr (4, [.ref (i0 0), .ref (i0 1), .ref (i0 2), .int (-1), .int 0])), ((i0 0), .inr (2, [.int 0, .int 0, .int 0, .int 0, .ref (i0 3), .ref (i0 4), .ref (i0 5), .ref (i0 6), .ref (i0 7), .ref (i0 8), .int 0, .int 0, .int 0, .ref (i0 9), .ref (i0 10), .int 0, .int 0])), ((i0 3), hcI k 4 (fun _ => 0)), ((i0 4), hcI k 8 (fun _ => 0)), ((i0 5), hcI k 8 (fun _ => 0)), ((i0 6), hcI k 8 (fun _ => 0)), ((i0 7), hcI k 8 (fun _ => 0)), ((i0 8), hcI k 4 (fun _ => 0)), ((i0 9), hcI k 4 (fun _ => 0)), ((i0 10), hcI k 4 (fun _ => 0)), ((i0 1), .inr (0, [.ref (i0 11), .ref (i0 12), .ref (i0 13), .int 0, .int 0])), ((i0 11), hcI k 20 (fun _ => 0)), ((i0 12), hcI k 20 (fun _ => 0)), ((i0 13), hcI k 20 (fun _ => 0)), ((i0 2), .inr (1, [.ref (i0 14), .ref (i0 15), .ref (i0 16), .int 0])), ((i0 14), hcI k 10 (fun _ => 0)), ((i0 15), hcI k 10 (fun _ => 0)), ((i0 16), hcI k 10 (fun _ => 0)), ((q 19), .inr (4, [.ref (i2 0), .ref (i2 1), .ref (i2 2), .int (-1), .int 0])), ((i2 0), .inr (2, [.int 0, .int 0, .int 0, .int 0, .ref (i2 3), .ref (i2 4), .ref (i2 5), .ref (i2 6), .ref (i2 7), .ref (i2 8), .int 0, .int 0, .int 0, .ref (i2 9), .ref (i2 10), .int 0, .int 0])), ((i2 3), hcI k 4 (fun _ => 0)), ((i2 4), hcI k 8 (fun _ => 0)), ((i2 5), hcI k 8 (fun _ => 0)), ((i2 6), hcI k 8 (fun _ => 0)), ((i2 7), hcI k 8 (fun _ => 0)), ((i2 8), hcI k 4 (fun _ => 0)), ((i2 9), hcI k 4 (fun _ => 0)), ((i2 10), hcI k 4 (fun _ => 0)), ((i2 1), .inr (0, [.ref (i2 11), .ref (i2 12), .ref (i2 13), .int 0, .int 0])), ((i2 11), hcI k 20 (fun _ => 0)), ((i2 12), hcI k 20 (fun _ => 0)), ((i2 13), hcI k 20 (fun _ => 0)), ((i2 2), .inr (1, [.ref (i2 14), .ref (i2 15), .ref (i2 16), .int 0])), ((i2 14), hcI k 10 (fun _ => 0)), ((i2 15), hcI k 10 (fun _ => 0)), ((i2 16), hcI k 10 (fun _ => 0)), ((q 20), .inr (4, [.ref (i3 0), .ref (i3 1), .ref (i3 2), .int (-1), .int 0])), ((i3 0), .inr (2, [.int 0, .int 0, .int 0, .int 0, .ref (i3 3), .ref (i3 4), .ref (i3 5), .ref (i3 6), .ref (i3 7), .ref (i3 8), .int 0, .int 0, .int 0, .ref (i3 9), .ref (i3 10), .int 0, .int 0])), ((i3 3), hcI k 4 (fun _ => 0)), ((i3 4), hcI k 8 (fun _ => 0)), ((i3 5), hcI k 8 (fun _ => 0)), ((i3 6), hcI k 8 (fun _ => 0)), ((i3 7), hcI k 8 (fun _ => 0)), ((i3 8), hcI k 4 (fun _ => 0)), ((i3 9), hcI k 4 (fun _ => 0)), ((i3 10), hcI k 4 (fun _ => 0)), ((i3 1), .inr (0, [.ref (i3 11), .ref (i3 12), .ref (i3 13), .int 0, .int 0])), ((i3 11), hcI k 20 (fun _ => 0)), ((i3 12), hcI k 20 (fun _ => 0)), ((i3 13), hcI k 20 (fun _ => 0)), ((i3 2), .inr (1, [.ref (i3 14), .ref (i3 15), .ref (i3 16), .int 0])), ((i3 14), hcI k 10 (fun _ => 0)), ((i3 15), hcI k 10 (fun _ => 0)), ((i3 16), hcI k 10 (fun _ => 0)), ((q 2), .inr (4, [.ref (qn 0), .ref (qn 1), .ref (qn 2), .int (-1), .int 0])), ((qn 0), .inr (2, [.int 0, .int 0, .int 0, .int 0, .ref (qn 3), .ref (qn 4), .ref (qn 5), .ref (qn 6), .ref (qn 7), .ref (qn 8), .int 0, .int 0, .int 0, .ref (qn 9), .ref (qn 10), .int 0, .int 0])), ((qn 3), hcI k 4 (fun _ => 0)), ((qn 4), hcI k 8 (fun _ => 0)), ((qn 5), hcI k 8 (fun _ => 0)), ((qn 6), hcI k 8 (fun _ => 0)), ((qn 7), hcI k 8 (fun _ => 0)), ((qn 8), hcI k 4 (fun _ => 0)), ((qn 9), hcI k 4 (fun _ => 0)), ((qn 10), hcI k 4 (fun _ => 0)), ((qn 1), .inr (0, [.ref (qn 11), .ref (qn 12), .ref (qn 13), .int 0, .int 0])), ((qn 11), hcI k 20 (fun _ => 0)), ((qn 12), hcI k 20 (fun _ => 0)), ((qn 13), hcI k 20 (fun _ => 0)), ((qn 2), .inr (1, [.ref (qn 14), .ref (qn 15), .ref (qn 16), .int 0])), ((qn 14), hcI k 10 (fun _ => 0)), ((qn 15), hcI k 10 (fun _ => 0)), ((qn 16), hcI k 10 (fun _ => 0))]) H := hP
        have hD : va_D A ([(h0, .inr (6, [.ref (q 0), .ref (q 1), .int 0, .ref (q 2), .ref (q 3), .ref (q 4), .ref (q 5), .ref (q 6), .ref (q 7), .ref (q 8), .ref (q 9), .ref (q 10)])), ((q 3), hcS k 4 (va_up (va_up (va_up (va_up (fun _ => none) 0 (some (q 17))) 1 (some (q 18))) 2 (some (q 19))) 3 (some (q 20)))), ((q 4), hcZ k 4 (fun _ => 0)), ((q 17), .inr (4, [.ref (i0 0), .ref (i0 1), .ref (i0 2), .int (-1), .int 0])), ((i0 0), .inr (2, [.int 0, .int 0, .int 0, .int 0, .ref (i0 3), .ref (i0 4), .ref (i0 5), .ref (i0 6), .ref (i0 7), .ref (i0 8), .int 0, .int 0, .int 0, .ref (i0 9), .ref (i0 10), .int 0, .int 0])), ((i0 3), hcI k 4 (fun _ => 0)), ((i0 4), hcI k 8 (fun _ => 0)), ((i0 5), hcI k 8 (fun _ => 0)), ((i0 6), hcI k 8 (fun _ => 0)), ((i0 7), hcI k 8 (fun _ => 0)), ((i0 8), hcI k 4 (fun _ => 0)), ((i0 9), hcI k 4 (fun _ => 0)), ((i0 10), hcI k 4 (fun _ => 0)), ((i0 1), .inr (0, [.ref (i0 11), .ref (i0 12), .ref (i0 13), .int 0, .int 0])), ((i0 11), hcI k 20 (fun _ => 0)), ((i0 12), hcI k 20 (fun _ => 0)), ((i0 13), hcI k 20 (fun _ => 0)), ((i0 2), .inr (1, [.ref (i0 14), .ref (i0 15), .ref (i0 16), .int 0])), ((i0 14), hcI k 10 (fun _ => 0)), ((i0 15), hcI k 10 (fun _ => 0)), ((i0 16), hcI k 10 (fun _ => 0)), ((q 19), .inr (4, [.ref (i2 0), .ref (i2 1), .ref (i2 2), .int (-1), .int 0])), ((i2 0), .inr (2, [.int 0, .int 0, .int 0, .int 0, .ref (i2 3), .ref (i2 4), .ref (i2 5), .ref (i2 6), .ref (i2 7), .ref (i2 8), .int 0, .int 0, .int 0, .ref (i2 9), .ref (i2 10), .int 0, .int 0])), ((i2 3), hcI k 4 (fun _ => 0)), ((i2 4), hcI k 8 (fun _ => 0)), ((i2 5), hcI k 8 (fun _ => 0)), ((i2 6), hcI k 8 (fun _ => 0)), ((i2 7), hcI k 8 (fun _ => 0)), ((i2 8), hcI k 4 (fun _ => 0)), ((i2 9), hcI k 4 (fun _ => 0)), ((i2 10), hcI k 4 (fun _ => 0)), ((i2 1), .inr (0, [.ref (i2 11), .ref (i2 12), .ref (i2 13), .int 0, .int 0])), ((i2 11), hcI k 20 (fun _ => 0)), ((i2 12), hcI k 20 (fun _ => 0)), ((i2 13), hcI k 20 (fun _ => 0)), ((i2 2), .inr (1, [.ref (i2 14), .ref (i2 15), .ref (i2 16), .int 0])), ((i2 14), hcI k 10 (fun _ => 0)), ((i2 15), hcI k 10 (fun _ => 0)), ((i2 16), hcI k 10 (fun _ => 0)), ((q 20), .inr (4, [.ref (i3 0), .ref (i3 1), .ref (i3 2), .int (-1), .int 0])), ((i3 0), .inr (2, [.int 0, .int 0, .int 0, .int 0, .ref (i3 3), .ref (i3 4), .ref (i3 5), .ref (i3 6), .ref (i3 7), .ref (i3 8), .int 0, .int 0, .int 0, .ref (i3 9), .ref (i3 10), .int 0, .int 0])), ((i3 3), hcI k 4 (fun _ => 0)), ((i3 4), hcI k 8 (fun _ => 0)), ((i3 5), hcI k 8 (fun _ => 0)), ((i3 6), hcI k 8 (fun _ => 0)), ((i3 7), hcI k 8 (fun _ => 0)), ((i3 8), hcI k 4 (fun _ => 0)), ((i3 9), hcI k 4 (fun _ => 0)), ((i3 10), hcI k 4 (fun _ => 0)), ((i3 1), .inr (0, [.ref (i3 11), .ref (i3 12), .ref (i3 13), .int 0, .int 0])), ((i3 11), hcI k 20 (fun _ => 0)), ((i3 12), hcI k 20 (fun _ => 0)), ((i3 13), hcI k 20 (fun _ => 0)), ((i3 2), .inr (1, [.ref (i3 14), .ref (i3 15), .ref (i3 16), .int 0])), ((i3 14), hcI k 10 (fun _ => 0)), ((i3 15), hcI k 10 (fun _ => 0)), ((i3 16), hcI k 10 (fun _ => 0)), ((q 2), .inr (4, [.ref (qn 0), .ref (qn 1), .ref (qn 2), .int (-1), .int 0])), ((qn 0), .inr (2, [.int 0, .int 0, .int 0, .int 0, .ref (qn 3), .ref (qn 4), .ref (qn 5), .ref (qn 6), .ref (qn 7), .ref (qn 8), .int 0, .int 0, .int 0, .ref (qn 9), .ref (qn 10), .int 0, .int 0])), ((qn 3), hcI k 4 (fun _ => 0)), ((qn 4), hcI k 8 (fun _ => 0)), ((qn 5), hcI k 8 (fun _ => 0)), ((qn 6), hcI k 8 (fun _ => 0)), ((qn 7), hcI k 8 (fun _ => 0)), ((qn 8), hcI k 4 (fun _ => 0)), ((qn 9), hcI k 4 (fun _ => 0)), ((qn 10), hcI k 4 (fun _ => 0)), ((qn 1), .inr (0, [.ref (qn 11), .ref (qn 12), .ref (qn 13), .int 0, .int 0])), ((qn 11), hcI k 20 (fun _ => 0)), ((qn 12), hcI k 20 (fun _ => 0)), ((qn 13), hcI k 20 (fun _ => 0)), ((qn 2), .inr (1, [.ref (qn 14), .ref (qn 15), .ref (qn 16), .int 0])), ((qn 14), hcI k 10 (fun _ => 0)), ((qn 15), hcI k 10 (fun _ => 0)), ((qn 16), hcI k 10 (fun _ => 0))]) := hD
        refine lv_aload_n hx hb dX8_image_24 rfl (lv_at hl 0 rfl) ?_
        refine va_get (D := D) (ci := 6) (v := .ref (q 4)) (C := RX8) (T := TX8) (N := 12) hx hb hts in8 hown hG.1 hP 0 rfl rfl 5 (by decide) (hts (.fieldLink RX8 37 "ChairCane" "imageMade" "[Z") (by decide +kernel)) (fun _ h9 => h9) rfl dX8_image_25 ?_
        refine lv_iload_n hx hb dX8_image_28 rfl (lv_at hl 1 rfl) ?_
        refine lv_iconst (v := 1) hx hb dX8_image_29 (by decide) ?_
        refine va_zast hx hb hG.1 hP hD hS 2 2 rfl rfl (by unfold vp_in; decide) dX8_image_30 (fun H locs hP hD hS => ?_)
        generalize upd (fun _ => 0) (Int32.toNatClampNeg (1)) (vp_nar .boolean (1)) = f_8 at hP hD
        have hP : va_P D vwCl ([(h0, .inr (6, [.ref (q 0), .ref (q 1), .int 0, .ref (q 2), .ref (q 3), .ref (q 4), .ref (q 5), .ref (q 6), .ref (q 7), .ref (q 8), .ref (q 9), .ref (q 10)])), ((q 3), hcS k 4 (va_up (va_up (va_up (va_up (fun _ => none) 0 (some (q 17))) 1 (some (q 18))) 2 (some (q 19))) 3 (some (q 20)))), ((q 4), hcZ k 4 f_8), ((q 17), .inr (4, [.ref (i0 0), .ref (i0 1), .ref (i0 2), .int (-1), .int 0])), ((i0 0), .inr (2, [.int 0, .int 0, .int 0, .int 0, .ref (i0 3), .ref (i0 4), .ref (i0 5), .ref (i0 6), .ref (i0 7), .ref (i0 8), .int 0, .int 0, .int 0, .ref (i0 9), .ref (i0 10), .int 0, .int 0])), ((i0 3), hcI k 4 (fun _ => 0)), ((i0 4), hcI k 8 (fun _ => 0)), ((i0 5), hcI k 8 (fun _ => 0)), ((i0 6), hcI k 8 (fun _ => 0)), ((i0 7), hcI k 8 (fun _ => 0)), ((i0 8), hcI k 4 (fun _ => 0)), ((i0 9), hcI k 4 (fun _ => 0)), ((i0 10), hcI k 4 (fun _ => 0)), ((i0 1), .inr (0, [.ref (i0 11), .ref (i0 12), .ref (i0 13), .int 0, .int 0])), ((i0 11), hcI k 20 (fun _ => 0)), ((i0 12), hcI k 20 (fun _ => 0)), ((i0 13), hcI k 20 (fun _ => 0)), ((i0 2), .inr (1, [.ref (i0 14), .ref (i0 15), .ref (i0 16), .int 0])), ((i0 14), hcI k 10 (fun _ => 0)), ((i0 15), hcI k 10 (fun _ => 0)), ((i0 16), hcI k 10 (fun _ => 0)), ((q 19), .inr (4, [.ref (i2 0), .ref (i2 1), .ref (i2 2), .int (-1), .int 0])), ((i2 0), .inr (2, [.int 0, .int 0, .int 0, .int 0, .ref (i2 3), .ref (i2 4), .ref (i2 5), .ref (i2 6), .ref (i2 7), .ref (i2 8), .int 0, .int 0, .int 0, .ref (i2 9), .ref (i2 10), .int 0, .int 0])), ((i2 3), hcI k 4 (fun _ => 0)), ((i2 4), hcI k 8 (fun _ => 0)), ((i2 5), hcI k 8 (fun _ => 0)), ((i2 6), hcI k 8 (fun _ => 0)), ((i2 7), hcI k 8 (fun _ => 0)), ((i2 8), hcI k 4 (fun _ => 0)), ((i2 9), hcI k 4 (fun _ => 0)), ((i2 10), hcI k 4 (fun _ => 0)), ((i2 1), .inr (0, [.ref (i2 11), .ref (i2 12), .ref (i2 13), .int 0, .int 0])), ((i2 11), hcI k 20 (fun _ => 0)), ((i2 12), hcI k 20 (fun _ => 0)), ((i2 13), hcI k 20 (fun _ => 0)), ((i2 2), .inr (1, [.ref (i2 14), .ref (i2 15), .ref (i2 16), .int 0])), ((i2 14), hcI k 10 (fun _ => 0)), ((i2 15), hcI k 10 (fun _ => 0)), ((i2 16), hcI k 10 (fun _ => 0)), ((q 20), .inr (4, [.ref (i3 0), .ref (i3 1), .ref (i3 2), .int (-1), .int 0])), ((i3 0), .inr (2, [.int 0, .int 0, .int 0, .int 0, .ref (i3 3), .ref (i3 4), .ref (i3 5), .ref (i3 6), .ref (i3 7), .ref (i3 8), .int 0, .int 0, .int 0, .ref (i3 9), .ref (i3 10), .int 0, .int 0])), ((i3 3), hcI k 4 (fun _ => 0)), ((i3 4), hcI k 8 (fun _ => 0)), ((i3 5), hcI k 8 (fun _ => 0)), ((i3 6), hcI k 8 (fun _ => 0)), ((i3 7), hcI k 8 (fun _ => 0)), ((i3 8), hcI k 4 (fun _ => 0)), ((i3 9), hcI k 4 (fun _ => 0)), ((i3 10), hcI k 4 (fun _ => 0)), ((i3 1), .inr (0, [.ref (i3 11), .ref (i3 12), .ref (i3 13), .int 0, .int 0])), ((i3 11), hcI k 20 (fun _ => 0)), ((i3 12), hcI k 20 (fun _ => 0)), ((i3 13), hcI k 20 (fun _ => 0)), ((i3 2), .inr (1, [.ref (i3 14), .ref (i3 15), .ref (i3 16), .int 0])), ((i3 14), hcI k 10 (fun _ => 0)), ((i3 15), hcI k 10 (fun _ => 0)), ((i3 16), hcI k 10 (fun _ => 0)), ((q 2), .inr (4, [.ref (qn 0), .ref (qn 1), .ref (qn 2), .int (-1), .int 0])), ((qn 0), .inr (2, [.int 0, .int 0, .int 0, .int 0, .ref (qn 3), .ref (qn 4), .ref (qn 5), .ref (qn 6), .ref (qn 7), .ref (qn 8), .int 0, .int 0, .int 0, .ref (qn 9), .ref (qn 10), .int 0, .int 0])), ((qn 3), hcI k 4 (fun _ => 0)), ((qn 4), hcI k 8 (fun _ => 0)), ((qn 5), hcI k 8 (fun _ => 0)), ((qn 6), hcI k 8 (fun _ => 0)), ((qn 7), hcI k 8 (fun _ => 0)), ((qn 8), hcI k 4 (fun _ => 0)), ((qn 9), hcI k 4 (fun _ => 0)), ((qn 10), hcI k 4 (fun _ => 0)), ((qn 1), .inr (0, [.ref (qn 11), .ref (qn 12), .ref (qn 13), .int 0, .int 0])), ((qn 11), hcI k 20 (fun _ => 0)), ((qn 12), hcI k 20 (fun _ => 0)), ((qn 13), hcI k 20 (fun _ => 0)), ((qn 2), .inr (1, [.ref (qn 14), .ref (qn 15), .ref (qn 16), .int 0])), ((qn 14), hcI k 10 (fun _ => 0)), ((qn 15), hcI k 10 (fun _ => 0)), ((qn 16), hcI k 10 (fun _ => 0))]) H := hP
        have hD : va_D A ([(h0, .inr (6, [.ref (q 0), .ref (q 1), .int 0, .ref (q 2), .ref (q 3), .ref (q 4), .ref (q 5), .ref (q 6), .ref (q 7), .ref (q 8), .ref (q 9), .ref (q 10)])), ((q 3), hcS k 4 (va_up (va_up (va_up (va_up (fun _ => none) 0 (some (q 17))) 1 (some (q 18))) 2 (some (q 19))) 3 (some (q 20)))), ((q 4), hcZ k 4 f_8), ((q 17), .inr (4, [.ref (i0 0), .ref (i0 1), .ref (i0 2), .int (-1), .int 0])), ((i0 0), .inr (2, [.int 0, .int 0, .int 0, .int 0, .ref (i0 3), .ref (i0 4), .ref (i0 5), .ref (i0 6), .ref (i0 7), .ref (i0 8), .int 0, .int 0, .int 0, .ref (i0 9), .ref (i0 10), .int 0, .int 0])), ((i0 3), hcI k 4 (fun _ => 0)), ((i0 4), hcI k 8 (fun _ => 0)), ((i0 5), hcI k 8 (fun _ => 0)), ((i0 6), hcI k 8 (fun _ => 0)), ((i0 7), hcI k 8 (fun _ => 0)), ((i0 8), hcI k 4 (fun _ => 0)), ((i0 9), hcI k 4 (fun _ => 0)), ((i0 10), hcI k 4 (fun _ => 0)), ((i0 1), .inr (0, [.ref (i0 11), .ref (i0 12), .ref (i0 13), .int 0, .int 0])), ((i0 11), hcI k 20 (fun _ => 0)), ((i0 12), hcI k 20 (fun _ => 0)), ((i0 13), hcI k 20 (fun _ => 0)), ((i0 2), .inr (1, [.ref (i0 14), .ref (i0 15), .ref (i0 16), .int 0])), ((i0 14), hcI k 10 (fun _ => 0)), ((i0 15), hcI k 10 (fun _ => 0)), ((i0 16), hcI k 10 (fun _ => 0)), ((q 19), .inr (4, [.ref (i2 0), .ref (i2 1), .ref (i2 2), .int (-1), .int 0])), ((i2 0), .inr (2, [.int 0, .int 0, .int 0, .int 0, .ref (i2 3), .ref (i2 4), .ref (i2 5), .ref (i2 6), .ref (i2 7), .ref (i2 8), .int 0, .int 0, .int 0, .ref (i2 9), .ref (i2 10), .int 0, .int 0])), ((i2 3), hcI k 4 (fun _ => 0)), ((i2 4), hcI k 8 (fun _ => 0)), ((i2 5), hcI k 8 (fun _ => 0)), ((i2 6), hcI k 8 (fun _ => 0)), ((i2 7), hcI k 8 (fun _ => 0)), ((i2 8), hcI k 4 (fun _ => 0)), ((i2 9), hcI k 4 (fun _ => 0)), ((i2 10), hcI k 4 (fun _ => 0)), ((i2 1), .inr (0, [.ref (i2 11), .ref (i2 12), .ref (i2 13), .int 0, .int 0])), ((i2 11), hcI k 20 (fun _ => 0)), ((i2 12), hcI k 20 (fun _ => 0)), ((i2 13), hcI k 20 (fun _ => 0)), ((i2 2), .inr (1, [.ref (i2 14), .ref (i2 15), .ref (i2 16), .int 0])), ((i2 14), hcI k 10 (fun _ => 0)), ((i2 15), hcI k 10 (fun _ => 0)), ((i2 16), hcI k 10 (fun _ => 0)), ((q 20), .inr (4, [.ref (i3 0), .ref (i3 1), .ref (i3 2), .int (-1), .int 0])), ((i3 0), .inr (2, [.int 0, .int 0, .int 0, .int 0, .ref (i3 3), .ref (i3 4), .ref (i3 5), .ref (i3 6), .ref (i3 7), .ref (i3 8), .int 0, .int 0, .int 0, .ref (i3 9), .ref (i3 10), .int 0, .int 0])), ((i3 3), hcI k 4 (fun _ => 0)), ((i3 4), hcI k 8 (fun _ => 0)), ((i3 5), hcI k 8 (fun _ => 0)), ((i3 6), hcI k 8 (fun _ => 0)), ((i3 7), hcI k 8 (fun _ => 0)), ((i3 8), hcI k 4 (fun _ => 0)), ((i3 9), hcI k 4 (fun _ => 0)), ((i3 10), hcI k 4 (fun _ => 0)), ((i3 1), .inr (0, [.ref (i3 11), .ref (i3 12), .ref (i3 13), .int 0, .int 0])), ((i3 11), hcI k 20 (fun _ => 0)), ((i3 12), hcI k 20 (fun _ => 0)), ((i3 13), hcI k 20 (fun _ => 0)), ((i3 2), .inr (1, [.ref (i3 14), .ref (i3 15), .ref (i3 16), .int 0])), ((i3 14), hcI k 10 (fun _ => 0)), ((i3 15), hcI k 10 (fun _ => 0)), ((i3 16), hcI k 10 (fun _ => 0)), ((q 2), .inr (4, [.ref (qn 0), .ref (qn 1), .ref (qn 2), .int (-1), .int 0])), ((qn 0), .inr (2, [.int 0, .int 0, .int 0, .int 0, .ref (qn 3), .ref (qn 4), .ref (qn 5), .ref (qn 6), .ref (qn 7), .ref (qn 8), .int 0, .int 0, .int 0, .ref (qn 9), .ref (qn 10), .int 0, .int 0])), ((qn 3), hcI k 4 (fun _ => 0)), ((qn 4), hcI k 8 (fun _ => 0)), ((qn 5), hcI k 8 (fun _ => 0)), ((qn 6), hcI k 8 (fun _ => 0)), ((qn 7), hcI k 8 (fun _ => 0)), ((qn 8), hcI k 4 (fun _ => 0)), ((qn 9), hcI k 4 (fun _ => 0)), ((qn 10), hcI k 4 (fun _ => 0)), ((qn 1), .inr (0, [.ref (qn 11), .ref (qn 12), .ref (qn 13), .int 0, .int 0])), ((qn 11), hcI k 20 (fun _ => 0)), ((qn 12), hcI k 20 (fun _ => 0)), ((qn 13), hcI k 20 (fun _ => 0)), ((qn 2), .inr (1, [.ref (qn 14), .ref (qn 15), .ref (qn 16), .int 0])), ((qn 14), hcI k 10 (fun _ => 0)), ((qn 15), hcI k 10 (fun _ => 0)), ((qn 16), hcI k 10 (fun _ => 0))]) := hD
        refine lv_aload_n hx hb dX8_image_31 rfl (lv_at hl 0 rfl) ?_
        refine va_get (D := D) (ci := 6) (v := .ref (q 2)) (C := RX8) (T := TX8) (N := 12) hx hb hts in8 hown hG.1 hP 0 rfl rfl 3 (by decide) (hts (.fieldLink RX8 29 "ChairCane" "now" "LChairCane$Standing;") (by decide +kernel)) (fun _ h9 => h9) rfl dX8_image_32 ?_
        refine va_get (D := D) (ci := 4) (v := .ref (qn 0)) (C := RX6) (T := TX6) (N := 5) hx hb hts in6 hown hG.1 hP 57 rfl rfl 0 (by decide) (hts (.fieldLink RX8 81 "ChairCane$Standing" "room" "LChairCane$Room;") (by decide +kernel)) (fun _ h9 => h9) rfl dX8_image_35 ?_
        refine va_get (D := D) (ci := 2) (v := .int 0) (C := RX3) (T := TX3) (N := 17) hx hb hts in3 hown hG.1 hP 58 rfl rfl 12 (by decide) (hts (.fieldLink RX8 154 "ChairCane$Room" "minute" "I") (by decide +kernel)) (fun _ h9 => h9) rfl dX8_image_38 ?_
        exact hc_end hx hb hr hlocks () (by decide) (hP.sub [] rfl) (hD.sub [] (by decide) rfl) hS dX8_image_41
      · refine lv_aload_n hx hb dX8_image_11 rfl (lv_at hl 0 rfl) ?_
        refine va_get (D := D) (ci := 6) (v := .ref (q 3)) (C := RX8) (T := TX8) (N := 12) hx hb hts in8 hown hG.1 hP 0 rfl rfl 4 (by decide) (hts (.fieldLink RX8 33 "ChairCane" "images" "[LChairCane$Standing;") (by decide +kernel)) (fun _ h9 => h9) rfl dX8_image_12 ?_
        refine lv_iload_n hx hb dX8_image_15 rfl (lv_at hl 1 rfl) ?_
        refine va_aldq hx hb hG.1 hP 19 5 rfl rfl (by unfold vp_in; decide) dX8_image_16 ?_
        refine W.eq (g2 := F0 m 17 ls [.ref (q 19)]) rfl ?_
        refine lv_aload_n hx hb dX8_image_17 rfl (lv_at hl 0 rfl) ?_
        refine va_get (D := D) (ci := 6) (v := .ref (q 2)) (C := RX8) (T := TX8) (N := 12) hx hb hts in8 hown hG.1 hP 0 rfl rfl 3 (by decide) (hts (.fieldLink RX8 29 "ChairCane" "now" "LChairCane$Standing;") (by decide +kernel)) (fun _ h9 => h9) rfl dX8_image_18 ?_
        refine hc_Vv (As := [.ref (q 2)]) (rest := []) (n := 1) (wr := [(h0, .inr (6, [.ref (q 0), .ref (q 1), .int 0, .ref (q 2), .ref (q 3), .ref (q 4), .ref (q 5), .ref (q 6), .ref (q 7), .ref (q 8), .ref (q 9), .ref (q 10)])), ((q 3), hcS k 4 (va_up (va_up (va_up (va_up (fun _ => none) 0 (some (q 17))) 1 (some (q 18))) 2 (some (q 19))) 3 (some (q 20)))), ((q 4), hcZ k 4 (fun _ => 0)), ((q 17), .inr (4, [.ref (i0 0), .ref (i0 1), .ref (i0 2), .int (-1), .int 0])), ((i0 0), .inr (2, [.int 0, .int 0, .int 0, .int 0, .ref (i0 3), .ref (i0 4), .ref (i0 5), .ref (i0 6), .ref (i0 7), .ref (i0 8), .int 0, .int 0, .int 0, .ref (i0 9), .ref (i0 10), .int 0, .int 0])), ((i0 3), hcI k 4 (fun _ => 0)), ((i0 4), hcI k 8 (fun _ => 0)), ((i0 5), hcI k 8 (fun _ => 0)), ((i0 6), hcI k 8 (fun _ => 0)), ((i0 7), hcI k 8 (fun _ => 0)), ((i0 8), hcI k 4 (fun _ => 0)), ((i0 9), hcI k 4 (fun _ => 0)), ((i0 10), hcI k 4 (fun _ => 0)), ((i0 1), .inr (0, [.ref (i0 11), .ref (i0 12), .ref (i0 13), .int 0, .int 0])), ((i0 11), hcI k 20 (fun _ => 0)), ((i0 12), hcI k 20 (fun _ => 0)), ((i0 13), hcI k 20 (fun _ => 0)), ((i0 2), .inr (1, [.ref (i0 14), .ref (i0 15), .ref (i0 16), .int 0])), ((i0 14), hcI k 10 (fun _ => 0)), ((i0 15), hcI k 10 (fun _ => 0)), ((i0 16), hcI k 10 (fun _ => 0)), ((q 18), .inr (4, [.ref (i1 0), .ref (i1 1), .ref (i1 2), .int (-1), .int 0])), ((i1 0), .inr (2, [.int 0, .int 0, .int 0, .int 0, .ref (i1 3), .ref (i1 4), .ref (i1 5), .ref (i1 6), .ref (i1 7), .ref (i1 8), .int 0, .int 0, .int 0, .ref (i1 9), .ref (i1 10), .int 0, .int 0])), ((i1 3), hcI k 4 (fun _ => 0)), ((i1 4), hcI k 8 (fun _ => 0)), ((i1 5), hcI k 8 (fun _ => 0)), ((i1 6), hcI k 8 (fun _ => 0)), ((i1 7), hcI k 8 (fun _ => 0)), ((i1 8), hcI k 4 (fun _ => 0)), ((i1 9), hcI k 4 (fun _ => 0)), ((i1 10), hcI k 4 (fun _ => 0)), ((i1 1), .inr (0, [.ref (i1 11), .ref (i1 12), .ref (i1 13), .int 0, .int 0])), ((i1 11), hcI k 20 (fun _ => 0)), ((i1 12), hcI k 20 (fun _ => 0)), ((i1 13), hcI k 20 (fun _ => 0)), ((i1 2), .inr (1, [.ref (i1 14), .ref (i1 15), .ref (i1 16), .int 0])), ((i1 14), hcI k 10 (fun _ => 0)), ((i1 15), hcI k 10 (fun _ => 0)), ((i1 16), hcI k 10 (fun _ => 0)), ((q 20), .inr (4, [.ref (i3 0), .ref (i3 1), .ref (i3 2), .int (-1), .int 0])), ((i3 0), .inr (2, [.int 0, .int 0, .int 0, .int 0, .ref (i3 3), .ref (i3 4), .ref (i3 5), .ref (i3 6), .ref (i3 7), .ref (i3 8), .int 0, .int 0, .int 0, .ref (i3 9), .ref (i3 10), .int 0, .int 0])), ((i3 3), hcI k 4 (fun _ => 0)), ((i3 4), hcI k 8 (fun _ => 0)), ((i3 5), hcI k 8 (fun _ => 0)), ((i3 6), hcI k 8 (fun _ => 0)), ((i3 7), hcI k 8 (fun _ => 0)), ((i3 8), hcI k 4 (fun _ => 0)), ((i3 9), hcI k 4 (fun _ => 0)), ((i3 10), hcI k 4 (fun _ => 0)), ((i3 1), .inr (0, [.ref (i3 11), .ref (i3 12), .ref (i3 13), .int 0, .int 0])), ((i3 11), hcI k 20 (fun _ => 0)), ((i3 12), hcI k 20 (fun _ => 0)), ((i3 13), hcI k 20 (fun _ => 0)), ((i3 2), .inr (1, [.ref (i3 14), .ref (i3 15), .ref (i3 16), .int 0])), ((i3 14), hcI k 10 (fun _ => 0)), ((i3 15), hcI k 10 (fun _ => 0)), ((i3 16), hcI k 10 (fun _ => 0))]) hx hb hml hown hts hG hA hP hD hS hl.1 [57, 58, 59, 60, 61, 62, 63, 64, 65, 66, 67, 68, 69, 70, 71, 72, 73, 74, 1, 2, 3, 4, 5, 6, 7, 8, 9, 10, 11, 12, 13, 14, 15, 16, 17, 18] [0, 19, 20, 21, 22, 23, 24, 25, 26, 27, 28, 29, 30, 31, 32, 33, 34, 35, 36, 37, 38, 39, 40, 41, 42, 43, 44, 45, 46, 47, 48, 49, 50, 51, 52, 53, 54, 55, 56, 75, 76, 77, 78, 79, 80, 81, 82, 83, 84, 85, 86, 87, 88, 89, 90, 91, 92] (c_X6_copyFrom l D k _ (q 19) (q 2) i2 qn) (ci := 4) (q0 := 57) rfl rfl gX8_image_X6_copyFrom rfl ⟨rfl, rfl, Nat.le_of_ble_eq_true rfl, Nat.le_of_ble_eq_true rfl⟩ (by decide +kernel) rfl rfl ⟨by decide, by decide, by decide⟩ ⟨rfl, rfl, Nat.le_of_ble_eq_true rfl, Nat.le_of_ble_eq_true rfl, Nat.le_of_ble_eq_true rfl⟩ dX8_image_21 (fun u_9 H locs hw hP hD hS => ?_)
        have hP : va_P D vwCl ([(h0, .inr (6, [.ref (q 0), .ref (q 1), .int 0, .ref (q 2), .ref (q 3), .ref (q 4), .ref (q 5), .ref (q 6), .ref (q 7), .ref (q 8), .ref (q 9), .ref (q 10)])), ((q 3), hcS k 4 (va_up (va_up (va_up (va_up (fun _ => none) 0 (some (q 17))) 1 (some (q 18))) 2 (some (q 19))) 3 (some (q 20)))), ((q 4), hcZ k 4 (fun _ => 0)), ((q 17), .inr (4, [.ref (i0 0), .ref (i0 1), .ref (i0 2), .int (-1), .int 0])), ((i0 0), .inr (2, [.int 0, .int 0, .int 0, .int 0, .ref (i0 3), .ref (i0 4), .ref (i0 5), .ref (i0 6), .ref (i0 7), .ref (i0 8), .int 0, .int 0, .int 0, .ref (i0 9), .ref (i0 10), .int 0, .int 0])), ((i0 3), hcI k 4 (fun _ => 0)), ((i0 4), hcI k 8 (fun _ => 0)), ((i0 5), hcI k 8 (fun _ => 0)), ((i0 6), hcI k 8 (fun _ => 0)), ((i0 7), hcI k 8 (fun _ => 0)), ((i0 8), hcI k 4 (fun _ => 0)), ((i0 9), hcI k 4 (fun _ => 0)), ((i0 10), hcI k 4 (fun _ => 0)), ((i0 1), .inr (0, [.ref (i0 11), .ref (i0 12), .ref (i0 13), .int 0, .int 0])), ((i0 11), hcI k 20 (fun _ => 0)), ((i0 12), hcI k 20 (fun _ => 0)), ((i0 13), hcI k 20 (fun _ => 0)), ((i0 2), .inr (1, [.ref (i0 14), .ref (i0 15), .ref (i0 16), .int 0])), ((i0 14), hcI k 10 (fun _ => 0)), ((i0 15), hcI k 10 (fun _ => 0)), ((i0 16), hcI k 10 (fun _ => 0)), ((q 18), .inr (4, [.ref (i1 0), .ref (i1 1), .ref (i1 2), .int (-1), .int 0])), ((i1 0), .inr (2, [.int 0, .int 0, .int 0, .int 0, .ref (i1 3), .ref (i1 4), .ref (i1 5), .ref (i1 6), .ref (i1 7), .ref (i1 8), .int 0, .int 0, .int 0, .ref (i1 9), .ref (i1 10), .int 0, .int 0])), ((i1 3), hcI k 4 (fun _ => 0)), ((i1 4), hcI k 8 (fun _ => 0)), ((i1 5), hcI k 8 (fun _ => 0)), ((i1 6), hcI k 8 (fun _ => 0)), ((i1 7), hcI k 8 (fun _ => 0)), ((i1 8), hcI k 4 (fun _ => 0)), ((i1 9), hcI k 4 (fun _ => 0)), ((i1 10), hcI k 4 (fun _ => 0)), ((i1 1), .inr (0, [.ref (i1 11), .ref (i1 12), .ref (i1 13), .int 0, .int 0])), ((i1 11), hcI k 20 (fun _ => 0)), ((i1 12), hcI k 20 (fun _ => 0)), ((i1 13), hcI k 20 (fun _ => 0)), ((i1 2), .inr (1, [.ref (i1 14), .ref (i1 15), .ref (i1 16), .int 0])), ((i1 14), hcI k 10 (fun _ => 0)), ((i1 15), hcI k 10 (fun _ => 0)), ((i1 16), hcI k 10 (fun _ => 0)), ((q 20), .inr (4, [.ref (i3 0), .ref (i3 1), .ref (i3 2), .int (-1), .int 0])), ((i3 0), .inr (2, [.int 0, .int 0, .int 0, .int 0, .ref (i3 3), .ref (i3 4), .ref (i3 5), .ref (i3 6), .ref (i3 7), .ref (i3 8), .int 0, .int 0, .int 0, .ref (i3 9), .ref (i3 10), .int 0, .int 0])), ((i3 3), hcI k 4 (fun _ => 0)), ((i3 4), hcI k 8 (fun _ => 0)), ((i3 5), hcI k 8 (fun _ => 0)), ((i3 6), hcI k 8 (fun _ => 0)), ((i3 7), hcI k 8 (fun _ => 0)), ((i3 8), hcI k 4 (fun _ => 0)), ((i3 9), hcI k 4 (fun _ => 0)), ((i3 10), hcI k 4 (fun _ => 0)), ((i3 1), .inr (0, [.ref (i3 11), .ref (i3 12), .ref (i3 13), .int 0, .int 0])), ((i3 11), hcI k 20 (fun _ => 0)), ((i3 12), hcI k 20 (fun _ => 0)), ((i3 13), hcI k 20 (fun _ => 0)), ((i3 2), .inr (1, [.ref (i3 14), .ref (i3 15), .ref (i3 16), .int 0])), ((i3 14), hcI k 10 (fun _ => 0)), ((i3 15), hcI k 10 (fun _ => 0)), ((i3 16), hcI k 10 (fun _ => 0)), ((q 2), .inr (4, [.ref (qn 0), .ref (qn 1), .ref (qn 2), .int (-1), .int 0])), ((qn 0), .inr (2, [.int 0, .int 0, .int 0, .int 0, .ref (qn 3), .ref (qn 4), .ref (qn 5), .ref (qn 6), .ref (qn 7), .ref (qn 8), .int 0, .int 0, .int 0, .ref (qn 9), .ref (qn 10), .int 0, .int 0])), ((qn 3), hcI k 4 (fun _ => 0)), ((qn 4), hcI k 8 (fun _ => 0)), ((qn 5), hcI k 8 (fun _ => 0)), ((qn 6), hcI k 8 (fun _ => 0)), ((qn 7), hcI k 8 (fun _ => 0)), ((qn 8), hcI k 4 (fun _ => 0)), ((qn 9), hcI k 4 (fun _ => 0)), ((qn 10), hcI k 4 (fun _ => 0)), ((qn 1), .inr (0, [.ref (qn 11), .ref (qn 12), .ref (qn 13), .int 0, .int 0])), ((qn 11), hcI k 20 (fun _ => 0)), ((qn 12), hcI k 20 (fun _ => 0)), ((qn 13), hcI k 20 (fun _ => 0)), ((qn 2), .inr (1, [.ref (qn 14), .ref (qn 15), .ref (qn 16), .int 0])), ((qn 14), hcI k 10 (fun _ => 0)), ((qn 15), hcI k 10 (fun _ => 0)), ((qn 16), hcI k 10 (fun _ => 0))]) H := hP
        have hD : va_D A ([(h0, .inr (6, [.ref (q 0), .ref (q 1), .int 0, .ref (q 2), .ref (q 3), .ref (q 4), .ref (q 5), .ref (q 6), .ref (q 7), .ref (q 8), .ref (q 9), .ref (q 10)])), ((q 3), hcS k 4 (va_up (va_up (va_up (va_up (fun _ => none) 0 (some (q 17))) 1 (some (q 18))) 2 (some (q 19))) 3 (some (q 20)))), ((q 4), hcZ k 4 (fun _ => 0)), ((q 17), .inr (4, [.ref (i0 0), .ref (i0 1), .ref (i0 2), .int (-1), .int 0])), ((i0 0), .inr (2, [.int 0, .int 0, .int 0, .int 0, .ref (i0 3), .ref (i0 4), .ref (i0 5), .ref (i0 6), .ref (i0 7), .ref (i0 8), .int 0, .int 0, .int 0, .ref (i0 9), .ref (i0 10), .int 0, .int 0])), ((i0 3), hcI k 4 (fun _ => 0)), ((i0 4), hcI k 8 (fun _ => 0)), ((i0 5), hcI k 8 (fun _ => 0)), ((i0 6), hcI k 8 (fun _ => 0)), ((i0 7), hcI k 8 (fun _ => 0)), ((i0 8), hcI k 4 (fun _ => 0)), ((i0 9), hcI k 4 (fun _ => 0)), ((i0 10), hcI k 4 (fun _ => 0)), ((i0 1), .inr (0, [.ref (i0 11), .ref (i0 12), .ref (i0 13), .int 0, .int 0])), ((i0 11), hcI k 20 (fun _ => 0)), ((i0 12), hcI k 20 (fun _ => 0)), ((i0 13), hcI k 20 (fun _ => 0)), ((i0 2), .inr (1, [.ref (i0 14), .ref (i0 15), .ref (i0 16), .int 0])), ((i0 14), hcI k 10 (fun _ => 0)), ((i0 15), hcI k 10 (fun _ => 0)), ((i0 16), hcI k 10 (fun _ => 0)), ((q 18), .inr (4, [.ref (i1 0), .ref (i1 1), .ref (i1 2), .int (-1), .int 0])), ((i1 0), .inr (2, [.int 0, .int 0, .int 0, .int 0, .ref (i1 3), .ref (i1 4), .ref (i1 5), .ref (i1 6), .ref (i1 7), .ref (i1 8), .int 0, .int 0, .int 0, .ref (i1 9), .ref (i1 10), .int 0, .int 0])), ((i1 3), hcI k 4 (fun _ => 0)), ((i1 4), hcI k 8 (fun _ => 0)), ((i1 5), hcI k 8 (fun _ => 0)), ((i1 6), hcI k 8 (fun _ => 0)), ((i1 7), hcI k 8 (fun _ => 0)), ((i1 8), hcI k 4 (fun _ => 0)), ((i1 9), hcI k 4 (fun _ => 0)), ((i1 10), hcI k 4 (fun _ => 0)), ((i1 1), .inr (0, [.ref (i1 11), .ref (i1 12), .ref (i1 13), .int 0, .int 0])), ((i1 11), hcI k 20 (fun _ => 0)), ((i1 12), hcI k 20 (fun _ => 0)), ((i1 13), hcI k 20 (fun _ => 0)), ((i1 2), .inr (1, [.ref (i1 14), .ref (i1 15), .ref (i1 16), .int 0])), ((i1 14), hcI k 10 (fun _ => 0)), ((i1 15), hcI k 10 (fun _ => 0)), ((i1 16), hcI k 10 (fun _ => 0)), ((q 20), .inr (4, [.ref (i3 0), .ref (i3 1), .ref (i3 2), .int (-1), .int 0])), ((i3 0), .inr (2, [.int 0, .int 0, .int 0, .int 0, .ref (i3 3), .ref (i3 4), .ref (i3 5), .ref (i3 6), .ref (i3 7), .ref (i3 8), .int 0, .int 0, .int 0, .ref (i3 9), .ref (i3 10), .int 0, .int 0])), ((i3 3), hcI k 4 (fun _ => 0)), ((i3 4), hcI k 8 (fun _ => 0)), ((i3 5), hcI k 8 (fun _ => 0)), ((i3 6), hcI k 8 (fun _ => 0)), ((i3 7), hcI k 8 (fun _ => 0)), ((i3 8), hcI k 4 (fun _ => 0)), ((i3 9), hcI k 4 (fun _ => 0)), ((i3 10), hcI k 4 (fun _ => 0)), ((i3 1), .inr (0, [.ref (i3 11), .ref (i3 12), .ref (i3 13), .int 0, .int 0])), ((i3 11), hcI k 20 (fun _ => 0)), ((i3 12), hcI k 20 (fun _ => 0)), ((i3 13), hcI k 20 (fun _ => 0)), ((i3 2), .inr (1, [.ref (i3 14), .ref (i3 15), .ref (i3 16), .int 0])), ((i3 14), hcI k 10 (fun _ => 0)), ((i3 15), hcI k 10 (fun _ => 0)), ((i3 16), hcI k 10 (fun _ => 0)), ((q 2), .inr (4, [.ref (qn 0), .ref (qn 1), .ref (qn 2), .int (-1), .int 0])), ((qn 0), .inr (2, [.int 0, .int 0, .int 0, .int 0, .ref (qn 3), .ref (qn 4), .ref (qn 5), .ref (qn 6), .ref (qn 7), .ref (qn 8), .int 0, .int 0, .int 0, .ref (qn 9), .ref (qn 10), .int 0, .int 0])), ((qn 3), hcI k 4 (fun _ => 0)), ((qn 4), hcI k 8 (fun _ => 0)), ((qn 5), hcI k 8 (fun _ => 0)), ((qn 6), hcI k 8 (fun _ => 0)), ((qn 7), hcI k 8 (fun _ => 0)), ((qn 8), hcI k 4 (fun _ => 0)), ((qn 9), hcI k 4 (fun _ => 0)), ((qn 10), hcI k 4 (fun _ => 0)), ((qn 1), .inr (0, [.ref (qn 11), .ref (qn 12), .ref (qn 13), .int 0, .int 0])), ((qn 11), hcI k 20 (fun _ => 0)), ((qn 12), hcI k 20 (fun _ => 0)), ((qn 13), hcI k 20 (fun _ => 0)), ((qn 2), .inr (1, [.ref (qn 14), .ref (qn 15), .ref (qn 16), .int 0])), ((qn 14), hcI k 10 (fun _ => 0)), ((qn 15), hcI k 10 (fun _ => 0)), ((qn 16), hcI k 10 (fun _ => 0))]) := hD
        refine lv_aload_n hx hb dX8_image_24 rfl (lv_at hl 0 rfl) ?_
        refine va_get (D := D) (ci := 6) (v := .ref (q 4)) (C := RX8) (T := TX8) (N := 12) hx hb hts in8 hown hG.1 hP 0 rfl rfl 5 (by decide) (hts (.fieldLink RX8 37 "ChairCane" "imageMade" "[Z") (by decide +kernel)) (fun _ h9 => h9) rfl dX8_image_25 ?_
        refine lv_iload_n hx hb dX8_image_28 rfl (lv_at hl 1 rfl) ?_
        refine lv_iconst (v := 1) hx hb dX8_image_29 (by decide) ?_
        refine va_zast hx hb hG.1 hP hD hS 2 2 rfl rfl (by unfold vp_in; decide) dX8_image_30 (fun H locs hP hD hS => ?_)
        generalize upd (fun _ => 0) (Int32.toNatClampNeg (2)) (vp_nar .boolean (1)) = f_11 at hP hD
        have hP : va_P D vwCl ([(h0, .inr (6, [.ref (q 0), .ref (q 1), .int 0, .ref (q 2), .ref (q 3), .ref (q 4), .ref (q 5), .ref (q 6), .ref (q 7), .ref (q 8), .ref (q 9), .ref (q 10)])), ((q 3), hcS k 4 (va_up (va_up (va_up (va_up (fun _ => none) 0 (some (q 17))) 1 (some (q 18))) 2 (some (q 19))) 3 (some (q 20)))), ((q 4), hcZ k 4 f_11), ((q 17), .inr (4, [.ref (i0 0), .ref (i0 1), .ref (i0 2), .int (-1), .int 0])), ((i0 0), .inr (2, [.int 0, .int 0, .int 0, .int 0, .ref (i0 3), .ref (i0 4), .ref (i0 5), .ref (i0 6), .ref (i0 7), .ref (i0 8), .int 0, .int 0, .int 0, .ref (i0 9), .ref (i0 10), .int 0, .int 0])), ((i0 3), hcI k 4 (fun _ => 0)), ((i0 4), hcI k 8 (fun _ => 0)), ((i0 5), hcI k 8 (fun _ => 0)), ((i0 6), hcI k 8 (fun _ => 0)), ((i0 7), hcI k 8 (fun _ => 0)), ((i0 8), hcI k 4 (fun _ => 0)), ((i0 9), hcI k 4 (fun _ => 0)), ((i0 10), hcI k 4 (fun _ => 0)), ((i0 1), .inr (0, [.ref (i0 11), .ref (i0 12), .ref (i0 13), .int 0, .int 0])), ((i0 11), hcI k 20 (fun _ => 0)), ((i0 12), hcI k 20 (fun _ => 0)), ((i0 13), hcI k 20 (fun _ => 0)), ((i0 2), .inr (1, [.ref (i0 14), .ref (i0 15), .ref (i0 16), .int 0])), ((i0 14), hcI k 10 (fun _ => 0)), ((i0 15), hcI k 10 (fun _ => 0)), ((i0 16), hcI k 10 (fun _ => 0)), ((q 18), .inr (4, [.ref (i1 0), .ref (i1 1), .ref (i1 2), .int (-1), .int 0])), ((i1 0), .inr (2, [.int 0, .int 0, .int 0, .int 0, .ref (i1 3), .ref (i1 4), .ref (i1 5), .ref (i1 6), .ref (i1 7), .ref (i1 8), .int 0, .int 0, .int 0, .ref (i1 9), .ref (i1 10), .int 0, .int 0])), ((i1 3), hcI k 4 (fun _ => 0)), ((i1 4), hcI k 8 (fun _ => 0)), ((i1 5), hcI k 8 (fun _ => 0)), ((i1 6), hcI k 8 (fun _ => 0)), ((i1 7), hcI k 8 (fun _ => 0)), ((i1 8), hcI k 4 (fun _ => 0)), ((i1 9), hcI k 4 (fun _ => 0)), ((i1 10), hcI k 4 (fun _ => 0)), ((i1 1), .inr (0, [.ref (i1 11), .ref (i1 12), .ref (i1 13), .int 0, .int 0])), ((i1 11), hcI k 20 (fun _ => 0)), ((i1 12), hcI k 20 (fun _ => 0)), ((i1 13), hcI k 20 (fun _ => 0)), ((i1 2), .inr (1, [.ref (i1 14), .ref (i1 15), .ref (i1 16), .int 0])), ((i1 14), hcI k 10 (fun _ => 0)), ((i1 15), hcI k 10 (fun _ => 0)), ((i1 16), hcI k 10 (fun _ => 0)), ((q 20), .inr (4, [.ref (i3 0), .ref (i3 1), .ref (i3 2), .int (-1), .int 0])), ((i3 0), .inr (2, [.int 0, .int 0, .int 0, .int 0, .ref (i3 3), .ref (i3 4), .ref (i3 5), .ref (i3 6), .ref (i3 7), .ref (i3 8), .int 0, .int 0, .int 0, .ref (i3 9), .ref (i3 10), .int 0, .int 0])), ((i3 3), hcI k 4 (fun _ => 0)), ((i3 4), hcI k 8 (fun _ => 0)), ((i3 5), hcI k 8 (fun _ => 0)), ((i3 6), hcI k 8 (fun _ => 0)), ((i3 7), hcI k 8 (fun _ => 0)), ((i3 8), hcI k 4 (fun _ => 0)), ((i3 9), hcI k 4 (fun _ => 0)), ((i3 10), hcI k 4 (fun _ => 0)), ((i3 1), .inr (0, [.ref (i3 11), .ref (i3 12), .ref (i3 13), .int 0, .int 0])), ((i3 11), hcI k 20 (fun _ => 0)), ((i3 12), hcI k 20 (fun _ => 0)), ((i3 13), hcI k 20 (fun _ => 0)), ((i3 2), .inr (1, [.ref (i3 14), .ref (i3 15), .ref (i3 16), .int 0])), ((i3 14), hcI k 10 (fun _ => 0)), ((i3 15), hcI k 10 (fun _ => 0)), ((i3 16), hcI k 10 (fun _ => 0)), ((q 2), .inr (4, [.ref (qn 0), .ref (qn 1), .ref (qn 2), .int (-1), .int 0])), ((qn 0), .inr (2, [.int 0, .int 0, .int 0, .int 0, .ref (qn 3), .ref (qn 4), .ref (qn 5), .ref (qn 6), .ref (qn 7), .ref (qn 8), .int 0, .int 0, .int 0, .ref (qn 9), .ref (qn 10), .int 0, .int 0])), ((qn 3), hcI k 4 (fun _ => 0)), ((qn 4), hcI k 8 (fun _ => 0)), ((qn 5), hcI k 8 (fun _ => 0)), ((qn 6), hcI k 8 (fun _ => 0)), ((qn 7), hcI k 8 (fun _ => 0)), ((qn 8), hcI k 4 (fun _ => 0)), ((qn 9), hcI k 4 (fun _ => 0)), ((qn 10), hcI k 4 (fun _ => 0)), ((qn 1), .inr (0, [.ref (qn 11), .ref (qn 12), .ref (qn 13), .int 0, .int 0])), ((qn 11), hcI k 20 (fun _ => 0)), ((qn 12), hcI k 20 (fun _ => 0)), ((qn 13), hcI k 20 (fun _ => 0)), ((qn 2), .inr (1, [.ref (qn 14), .ref (qn 15), .ref (qn 16), .int 0])), ((qn 14), hcI k 10 (fun _ => 0)), ((qn 15), hcI k 10 (fun _ => 0)), ((qn 16), hcI k 10 (fun _ => 0))]) H := hP
        have hD : va_D A ([(h0, .inr (6, [.ref (q 0), .ref (q 1), .int 0, .ref (q 2), .ref (q 3), .ref (q 4), .ref (q 5), .ref (q 6), .ref (q 7), .ref (q 8), .ref (q 9), .ref (q 10)])), ((q 3), hcS k 4 (va_up (va_up (va_up (va_up (fun _ => none) 0 (some (q 17))) 1 (some (q 18))) 2 (some (q 19))) 3 (some (q 20)))), ((q 4), hcZ k 4 f_11), ((q 17), .inr (4, [.ref (i0 0), .ref (i0 1), .ref (i0 2), .int (-1), .int 0])), ((i0 0), .inr (2, [.int 0, .int 0, .int 0, .int 0, .ref (i0 3), .ref (i0 4), .ref (i0 5), .ref (i0 6), .ref (i0 7), .ref (i0 8), .int 0, .int 0, .int 0, .ref (i0 9), .ref (i0 10), .int 0, .int 0])), ((i0 3), hcI k 4 (fun _ => 0)), ((i0 4), hcI k 8 (fun _ => 0)), ((i0 5), hcI k 8 (fun _ => 0)), ((i0 6), hcI k 8 (fun _ => 0)), ((i0 7), hcI k 8 (fun _ => 0)), ((i0 8), hcI k 4 (fun _ => 0)), ((i0 9), hcI k 4 (fun _ => 0)), ((i0 10), hcI k 4 (fun _ => 0)), ((i0 1), .inr (0, [.ref (i0 11), .ref (i0 12), .ref (i0 13), .int 0, .int 0])), ((i0 11), hcI k 20 (fun _ => 0)), ((i0 12), hcI k 20 (fun _ => 0)), ((i0 13), hcI k 20 (fun _ => 0)), ((i0 2), .inr (1, [.ref (i0 14), .ref (i0 15), .ref (i0 16), .int 0])), ((i0 14), hcI k 10 (fun _ => 0)), ((i0 15), hcI k 10 (fun _ => 0)), ((i0 16), hcI k 10 (fun _ => 0)), ((q 18), .inr (4, [.ref (i1 0), .ref (i1 1), .ref (i1 2), .int (-1), .int 0])), ((i1 0), .inr (2, [.int 0, .int 0, .int 0, .int 0, .ref (i1 3), .ref (i1 4), .ref (i1 5), .ref (i1 6), .ref (i1 7), .ref (i1 8), .int 0, .int 0, .int 0, .ref (i1 9), .ref (i1 10), .int 0, .int 0])), ((i1 3), hcI k 4 (fun _ => 0)), ((i1 4), hcI k 8 (fun _ => 0)), ((i1 5), hcI k 8 (fun _ => 0)), ((i1 6), hcI k 8 (fun _ => 0)), ((i1 7), hcI k 8 (fun _ => 0)), ((i1 8), hcI k 4 (fun _ => 0)), ((i1 9), hcI k 4 (fun _ => 0)), ((i1 10), hcI k 4 (fun _ => 0)), ((i1 1), .inr (0, [.ref (i1 11), .ref (i1 12), .ref (i1 13), .int 0, .int 0])), ((i1 11), hcI k 20 (fun _ => 0)), ((i1 12), hcI k 20 (fun _ => 0)), ((i1 13), hcI k 20 (fun _ => 0)), ((i1 2), .inr (1, [.ref (i1 14), .ref (i1 15), .ref (i1 16), .int 0])), ((i1 14), hcI k 10 (fun _ => 0)), ((i1 15), hcI k 10 (fun _ => 0)), ((i1 16), hcI k 10 (fun _ => 0)), ((q 20), .inr (4, [.ref (i3 0), .ref (i3 1), .ref (i3 2), .int (-1), .int 0])), ((i3 0), .inr (2, [.int 0, .int 0, .int 0, .int 0, .ref (i3 3), .ref (i3 4), .ref (i3 5), .ref (i3 6), .ref (i3 7), .ref (i3 8), .int 0, .int 0, .int 0, .ref (i3 9), .ref (i3 10), .int 0, .int 0])), ((i3 3), hcI k 4 (fun _ => 0)), ((i3 4), hcI k 8 (fun _ => 0)), ((i3 5), hcI k 8 (fun _ => 0)), ((i3 6), hcI k 8 (fun _ => 0)), ((i3 7), hcI k 8 (fun _ => 0)), ((i3 8), hcI k 4 (fun _ => 0)), ((i3 9), hcI k 4 (fun _ => 0)), ((i3 10), hcI k 4 (fun _ => 0)), ((i3 1), .inr (0, [.ref (i3 11), .ref (i3 12), .ref (i3 13), .int 0, .int 0])), ((i3 11), hcI k 20 (fun _ => 0)), ((i3 12), hcI k 20 (fun _ => 0)), ((i3 13), hcI k 20 (fun _ => 0)), ((i3 2), .inr (1, [.ref (i3 14), .ref (i3 15), .ref (i3 16), .int 0])), ((i3 14), hcI k 10 (fun _ => 0)), ((i3 15), hcI k 10 (fun _ => 0)), ((i3 16), hcI k 10 (fun _ => 0)), ((q 2), .inr (4, [.ref (qn 0), .ref (qn 1), .ref (qn 2), .int (-1), .int 0])), ((qn 0), .inr (2, [.int 0, .int 0, .int 0, .int 0, .ref (qn 3), .ref (qn 4), .ref (qn 5), .ref (qn 6), .ref (qn 7), .ref (qn 8), .int 0, .int 0, .int 0, .ref (qn 9), .ref (qn 10), .int 0, .int 0])), ((qn 3), hcI k 4 (fun _ => 0)), ((qn 4), hcI k 8 (fun _ => 0)), ((qn 5), hcI k 8 (fun _ => 0)), ((qn 6), hcI k 8 (fun _ => 0)), ((qn 7), hcI k 8 (fun _ => 0)), ((qn 8), hcI k 4 (fun _ => 0)), ((qn 9), hcI k 4 (fun _ => 0)), ((qn 10), hcI k 4 (fun _ => 0)), ((qn 1), .inr (0, [.ref (qn 11), .ref (qn 12), .ref (qn 13), .int 0, .int 0])), ((qn 11), hcI k 20 (fun _ => 0)), ((qn 12), hcI k 20 (fun _ => 0)), ((qn 13), hcI k 20 (fun _ => 0)), ((qn 2), .inr (1, [.ref (qn 14), .ref (qn 15), .ref (qn 16), .int 0])), ((qn 14), hcI k 10 (fun _ => 0)), ((qn 15), hcI k 10 (fun _ => 0)), ((qn 16), hcI k 10 (fun _ => 0))]) := hD
        refine lv_aload_n hx hb dX8_image_31 rfl (lv_at hl 0 rfl) ?_
        refine va_get (D := D) (ci := 6) (v := .ref (q 2)) (C := RX8) (T := TX8) (N := 12) hx hb hts in8 hown hG.1 hP 0 rfl rfl 3 (by decide) (hts (.fieldLink RX8 29 "ChairCane" "now" "LChairCane$Standing;") (by decide +kernel)) (fun _ h9 => h9) rfl dX8_image_32 ?_
        refine va_get (D := D) (ci := 4) (v := .ref (qn 0)) (C := RX6) (T := TX6) (N := 5) hx hb hts in6 hown hG.1 hP 57 rfl rfl 0 (by decide) (hts (.fieldLink RX8 81 "ChairCane$Standing" "room" "LChairCane$Room;") (by decide +kernel)) (fun _ h9 => h9) rfl dX8_image_35 ?_
        refine va_get (D := D) (ci := 2) (v := .int 0) (C := RX3) (T := TX3) (N := 17) hx hb hts in3 hown hG.1 hP 58 rfl rfl 12 (by decide) (hts (.fieldLink RX8 154 "ChairCane$Room" "minute" "I") (by decide +kernel)) (fun _ h9 => h9) rfl dX8_image_38 ?_
        exact hc_end hx hb hr hlocks () (by decide) (hP.sub [] rfl) (hD.sub [] (by decide) rfl) hS dX8_image_41
      · refine lv_aload_n hx hb dX8_image_11 rfl (lv_at hl 0 rfl) ?_
        refine va_get (D := D) (ci := 6) (v := .ref (q 3)) (C := RX8) (T := TX8) (N := 12) hx hb hts in8 hown hG.1 hP 0 rfl rfl 4 (by decide) (hts (.fieldLink RX8 33 "ChairCane" "images" "[LChairCane$Standing;") (by decide +kernel)) (fun _ h9 => h9) rfl dX8_image_12 ?_
        refine lv_iload_n hx hb dX8_image_15 rfl (lv_at hl 1 rfl) ?_
        refine va_aldq hx hb hG.1 hP 19 5 rfl rfl (by unfold vp_in; decide) dX8_image_16 ?_
        refine W.eq (g2 := F0 m 17 ls [.ref (q 20)]) rfl ?_
        refine lv_aload_n hx hb dX8_image_17 rfl (lv_at hl 0 rfl) ?_
        refine va_get (D := D) (ci := 6) (v := .ref (q 2)) (C := RX8) (T := TX8) (N := 12) hx hb hts in8 hown hG.1 hP 0 rfl rfl 3 (by decide) (hts (.fieldLink RX8 29 "ChairCane" "now" "LChairCane$Standing;") (by decide +kernel)) (fun _ h9 => h9) rfl dX8_image_18 ?_
        refine hc_Vv (As := [.ref (q 2)]) (rest := []) (n := 1) (wr := [(h0, .inr (6, [.ref (q 0), .ref (q 1), .int 0, .ref (q 2), .ref (q 3), .ref (q 4), .ref (q 5), .ref (q 6), .ref (q 7), .ref (q 8), .ref (q 9), .ref (q 10)])), ((q 3), hcS k 4 (va_up (va_up (va_up (va_up (fun _ => none) 0 (some (q 17))) 1 (some (q 18))) 2 (some (q 19))) 3 (some (q 20)))), ((q 4), hcZ k 4 (fun _ => 0)), ((q 17), .inr (4, [.ref (i0 0), .ref (i0 1), .ref (i0 2), .int (-1), .int 0])), ((i0 0), .inr (2, [.int 0, .int 0, .int 0, .int 0, .ref (i0 3), .ref (i0 4), .ref (i0 5), .ref (i0 6), .ref (i0 7), .ref (i0 8), .int 0, .int 0, .int 0, .ref (i0 9), .ref (i0 10), .int 0, .int 0])), ((i0 3), hcI k 4 (fun _ => 0)), ((i0 4), hcI k 8 (fun _ => 0)), ((i0 5), hcI k 8 (fun _ => 0)), ((i0 6), hcI k 8 (fun _ => 0)), ((i0 7), hcI k 8 (fun _ => 0)), ((i0 8), hcI k 4 (fun _ => 0)), ((i0 9), hcI k 4 (fun _ => 0)), ((i0 10), hcI k 4 (fun _ => 0)), ((i0 1), .inr (0, [.ref (i0 11), .ref (i0 12), .ref (i0 13), .int 0, .int 0])), ((i0 11), hcI k 20 (fun _ => 0)), ((i0 12), hcI k 20 (fun _ => 0)), ((i0 13), hcI k 20 (fun _ => 0)), ((i0 2), .inr (1, [.ref (i0 14), .ref (i0 15), .ref (i0 16), .int 0])), ((i0 14), hcI k 10 (fun _ => 0)), ((i0 15), hcI k 10 (fun _ => 0)), ((i0 16), hcI k 10 (fun _ => 0)), ((q 18), .inr (4, [.ref (i1 0), .ref (i1 1), .ref (i1 2), .int (-1), .int 0])), ((i1 0), .inr (2, [.int 0, .int 0, .int 0, .int 0, .ref (i1 3), .ref (i1 4), .ref (i1 5), .ref (i1 6), .ref (i1 7), .ref (i1 8), .int 0, .int 0, .int 0, .ref (i1 9), .ref (i1 10), .int 0, .int 0])), ((i1 3), hcI k 4 (fun _ => 0)), ((i1 4), hcI k 8 (fun _ => 0)), ((i1 5), hcI k 8 (fun _ => 0)), ((i1 6), hcI k 8 (fun _ => 0)), ((i1 7), hcI k 8 (fun _ => 0)), ((i1 8), hcI k 4 (fun _ => 0)), ((i1 9), hcI k 4 (fun _ => 0)), ((i1 10), hcI k 4 (fun _ => 0)), ((i1 1), .inr (0, [.ref (i1 11), .ref (i1 12), .ref (i1 13), .int 0, .int 0])), ((i1 11), hcI k 20 (fun _ => 0)), ((i1 12), hcI k 20 (fun _ => 0)), ((i1 13), hcI k 20 (fun _ => 0)), ((i1 2), .inr (1, [.ref (i1 14), .ref (i1 15), .ref (i1 16), .int 0])), ((i1 14), hcI k 10 (fun _ => 0)), ((i1 15), hcI k 10 (fun _ => 0)), ((i1 16), hcI k 10 (fun _ => 0)), ((q 19), .inr (4, [.ref (i2 0), .ref (i2 1), .ref (i2 2), .int (-1), .int 0])), ((i2 0), .inr (2, [.int 0, .int 0, .int 0, .int 0, .ref (i2 3), .ref (i2 4), .ref (i2 5), .ref (i2 6), .ref (i2 7), .ref (i2 8), .int 0, .int 0, .int 0, .ref (i2 9), .ref (i2 10), .int 0, .int 0])), ((i2 3), hcI k 4 (fun _ => 0)), ((i2 4), hcI k 8 (fun _ => 0)), ((i2 5), hcI k 8 (fun _ => 0)), ((i2 6), hcI k 8 (fun _ => 0)), ((i2 7), hcI k 8 (fun _ => 0)), ((i2 8), hcI k 4 (fun _ => 0)), ((i2 9), hcI k 4 (fun _ => 0)), ((i2 10), hcI k 4 (fun _ => 0)), ((i2 1), .inr (0, [.ref (i2 11), .ref (i2 12), .ref (i2 13), .int 0, .int 0])), ((i2 11), hcI k 20 (fun _ => 0)), ((i2 12), hcI k 20 (fun _ => 0)), ((i2 13), hcI k 20 (fun _ => 0)), ((i2 2), .inr (1, [.ref (i2 14), .ref (i2 15), .ref (i2 16), .int 0])), ((i2 14), hcI k 10 (fun _ => 0)), ((i2 15), hcI k 10 (fun _ => 0)), ((i2 16), hcI k 10 (fun _ => 0))]) hx hb hml hown hts hG hA hP hD hS hl.1 [75, 76, 77, 78, 79, 80, 81, 82, 83, 84, 85, 86, 87, 88, 89, 90, 91, 92, 1, 2, 3, 4, 5, 6, 7, 8, 9, 10, 11, 12, 13, 14, 15, 16, 17, 18] [0, 19, 20, 21, 22, 23, 24, 25, 26, 27, 28, 29, 30, 31, 32, 33, 34, 35, 36, 37, 38, 39, 40, 41, 42, 43, 44, 45, 46, 47, 48, 49, 50, 51, 52, 53, 54, 55, 56, 57, 58, 59, 60, 61, 62, 63, 64, 65, 66, 67, 68, 69, 70, 71, 72, 73, 74] (c_X6_copyFrom l D k _ (q 20) (q 2) i3 qn) (ci := 4) (q0 := 75) rfl rfl gX8_image_X6_copyFrom rfl ⟨rfl, rfl, Nat.le_of_ble_eq_true rfl, Nat.le_of_ble_eq_true rfl⟩ (by decide +kernel) rfl rfl ⟨by decide, by decide, by decide⟩ ⟨rfl, rfl, Nat.le_of_ble_eq_true rfl, Nat.le_of_ble_eq_true rfl, Nat.le_of_ble_eq_true rfl⟩ dX8_image_21 (fun u_12 H locs hw hP hD hS => ?_)
        have hP : va_P D vwCl ([(h0, .inr (6, [.ref (q 0), .ref (q 1), .int 0, .ref (q 2), .ref (q 3), .ref (q 4), .ref (q 5), .ref (q 6), .ref (q 7), .ref (q 8), .ref (q 9), .ref (q 10)])), ((q 3), hcS k 4 (va_up (va_up (va_up (va_up (fun _ => none) 0 (some (q 17))) 1 (some (q 18))) 2 (some (q 19))) 3 (some (q 20)))), ((q 4), hcZ k 4 (fun _ => 0)), ((q 17), .inr (4, [.ref (i0 0), .ref (i0 1), .ref (i0 2), .int (-1), .int 0])), ((i0 0), .inr (2, [.int 0, .int 0, .int 0, .int 0, .ref (i0 3), .ref (i0 4), .ref (i0 5), .ref (i0 6), .ref (i0 7), .ref (i0 8), .int 0, .int 0, .int 0, .ref (i0 9), .ref (i0 10), .int 0, .int 0])), ((i0 3), hcI k 4 (fun _ => 0)), ((i0 4), hcI k 8 (fun _ => 0)), ((i0 5), hcI k 8 (fun _ => 0)), ((i0 6), hcI k 8 (fun _ => 0)), ((i0 7), hcI k 8 (fun _ => 0)), ((i0 8), hcI k 4 (fun _ => 0)), ((i0 9), hcI k 4 (fun _ => 0)), ((i0 10), hcI k 4 (fun _ => 0)), ((i0 1), .inr (0, [.ref (i0 11), .ref (i0 12), .ref (i0 13), .int 0, .int 0])), ((i0 11), hcI k 20 (fun _ => 0)), ((i0 12), hcI k 20 (fun _ => 0)), ((i0 13), hcI k 20 (fun _ => 0)), ((i0 2), .inr (1, [.ref (i0 14), .ref (i0 15), .ref (i0 16), .int 0])), ((i0 14), hcI k 10 (fun _ => 0)), ((i0 15), hcI k 10 (fun _ => 0)), ((i0 16), hcI k 10 (fun _ => 0)), ((q 18), .inr (4, [.ref (i1 0), .ref (i1 1), .ref (i1 2), .int (-1), .int 0])), ((i1 0), .inr (2, [.int 0, .int 0, .int 0, .int 0, .ref (i1 3), .ref (i1 4), .ref (i1 5), .ref (i1 6), .ref (i1 7), .ref (i1 8), .int 0, .int 0, .int 0, .ref (i1 9), .ref (i1 10), .int 0, .int 0])), ((i1 3), hcI k 4 (fun _ => 0)), ((i1 4), hcI k 8 (fun _ => 0)), ((i1 5), hcI k 8 (fun _ => 0)), ((i1 6), hcI k 8 (fun _ => 0)), ((i1 7), hcI k 8 (fun _ => 0)), ((i1 8), hcI k 4 (fun _ => 0)), ((i1 9), hcI k 4 (fun _ => 0)), ((i1 10), hcI k 4 (fun _ => 0)), ((i1 1), .inr (0, [.ref (i1 11), .ref (i1 12), .ref (i1 13), .int 0, .int 0])), ((i1 11), hcI k 20 (fun _ => 0)), ((i1 12), hcI k 20 (fun _ => 0)), ((i1 13), hcI k 20 (fun _ => 0)), ((i1 2), .inr (1, [.ref (i1 14), .ref (i1 15), .ref (i1 16), .int 0])), ((i1 14), hcI k 10 (fun _ => 0)), ((i1 15), hcI k 10 (fun _ => 0)), ((i1 16), hcI k 10 (fun _ => 0)), ((q 19), .inr (4, [.ref (i2 0), .ref (i2 1), .ref (i2 2), .int (-1), .int 0])), ((i2 0), .inr (2, [.int 0, .int 0, .int 0, .int 0, .ref (i2 3), .ref (i2 4), .ref (i2 5), .ref (i2 6), .ref (i2 7), .ref (i2 8), .int 0, .int 0, .int 0, .ref (i2 9), .ref (i2 10), .int 0, .int 0])), ((i2 3), hcI k 4 (fun _ => 0)), ((i2 4), hcI k 8 (fun _ => 0)), ((i2 5), hcI k 8 (fun _ => 0)), ((i2 6), hcI k 8 (fun _ => 0)), ((i2 7), hcI k 8 (fun _ => 0)), ((i2 8), hcI k 4 (fun _ => 0)), ((i2 9), hcI k 4 (fun _ => 0)), ((i2 10), hcI k 4 (fun _ => 0)), ((i2 1), .inr (0, [.ref (i2 11), .ref (i2 12), .ref (i2 13), .int 0, .int 0])), ((i2 11), hcI k 20 (fun _ => 0)), ((i2 12), hcI k 20 (fun _ => 0)), ((i2 13), hcI k 20 (fun _ => 0)), ((i2 2), .inr (1, [.ref (i2 14), .ref (i2 15), .ref (i2 16), .int 0])), ((i2 14), hcI k 10 (fun _ => 0)), ((i2 15), hcI k 10 (fun _ => 0)), ((i2 16), hcI k 10 (fun _ => 0)), ((q 2), .inr (4, [.ref (qn 0), .ref (qn 1), .ref (qn 2), .int (-1), .int 0])), ((qn 0), .inr (2, [.int 0, .int 0, .int 0, .int 0, .ref (qn 3), .ref (qn 4), .ref (qn 5), .ref (qn 6), .ref (qn 7), .ref (qn 8), .int 0, .int 0, .int 0, .ref (qn 9), .ref (qn 10), .int 0, .int 0])), ((qn 3), hcI k 4 (fun _ => 0)), ((qn 4), hcI k 8 (fun _ => 0)), ((qn 5), hcI k 8 (fun _ => 0)), ((qn 6), hcI k 8 (fun _ => 0)), ((qn 7), hcI k 8 (fun _ => 0)), ((qn 8), hcI k 4 (fun _ => 0)), ((qn 9), hcI k 4 (fun _ => 0)), ((qn 10), hcI k 4 (fun _ => 0)), ((qn 1), .inr (0, [.ref (qn 11), .ref (qn 12), .ref (qn 13), .int 0, .int 0])), ((qn 11), hcI k 20 (fun _ => 0)), ((qn 12), hcI k 20 (fun _ => 0)), ((qn 13), hcI k 20 (fun _ => 0)), ((qn 2), .inr (1, [.ref (qn 14), .ref (qn 15), .ref (qn 16), .int 0])), ((qn 14), hcI k 10 (fun _ => 0)), ((qn 15), hcI k 10 (fun _ => 0)), ((qn 16), hcI k 10 (fun _ => 0))]) H := hP
        have hD : va_D A ([(h0, .inr (6, [.ref (q 0), .ref (q 1), .int 0, .ref (q 2), .ref (q 3), .ref (q 4), .ref (q 5), .ref (q 6), .ref (q 7), .ref (q 8), .ref (q 9), .ref (q 10)])), ((q 3), hcS k 4 (va_up (va_up (va_up (va_up (fun _ => none) 0 (some (q 17))) 1 (some (q 18))) 2 (some (q 19))) 3 (some (q 20)))), ((q 4), hcZ k 4 (fun _ => 0)), ((q 17), .inr (4, [.ref (i0 0), .ref (i0 1), .ref (i0 2), .int (-1), .int 0])), ((i0 0), .inr (2, [.int 0, .int 0, .int 0, .int 0, .ref (i0 3), .ref (i0 4), .ref (i0 5), .ref (i0 6), .ref (i0 7), .ref (i0 8), .int 0, .int 0, .int 0, .ref (i0 9), .ref (i0 10), .int 0, .int 0])), ((i0 3), hcI k 4 (fun _ => 0)), ((i0 4), hcI k 8 (fun _ => 0)), ((i0 5), hcI k 8 (fun _ => 0)), ((i0 6), hcI k 8 (fun _ => 0)), ((i0 7), hcI k 8 (fun _ => 0)), ((i0 8), hcI k 4 (fun _ => 0)), ((i0 9), hcI k 4 (fun _ => 0)), ((i0 10), hcI k 4 (fun _ => 0)), ((i0 1), .inr (0, [.ref (i0 11), .ref (i0 12), .ref (i0 13), .int 0, .int 0])), ((i0 11), hcI k 20 (fun _ => 0)), ((i0 12), hcI k 20 (fun _ => 0)), ((i0 13), hcI k 20 (fun _ => 0)), ((i0 2), .inr (1, [.ref (i0 14), .ref (i0 15), .ref (i0 16), .int 0])), ((i0 14), hcI k 10 (fun _ => 0)), ((i0 15), hcI k 10 (fun _ => 0)), ((i0 16), hcI k 10 (fun _ => 0)), ((q 18), .inr (4, [.ref (i1 0), .ref (i1 1), .ref (i1 2), .int (-1), .int 0])), ((i1 0), .inr (2, [.int 0, .int 0, .int 0, .int 0, .ref (i1 3), .ref (i1 4), .ref (i1 5), .ref (i1 6), .ref (i1 7), .ref (i1 8), .int 0, .int 0, .int 0, .ref (i1 9), .ref (i1 10), .int 0, .int 0])), ((i1 3), hcI k 4 (fun _ => 0)), ((i1 4), hcI k 8 (fun _ => 0)), ((i1 5), hcI k 8 (fun _ => 0)), ((i1 6), hcI k 8 (fun _ => 0)), ((i1 7), hcI k 8 (fun _ => 0)), ((i1 8), hcI k 4 (fun _ => 0)), ((i1 9), hcI k 4 (fun _ => 0)), ((i1 10), hcI k 4 (fun _ => 0)), ((i1 1), .inr (0, [.ref (i1 11), .ref (i1 12), .ref (i1 13), .int 0, .int 0])), ((i1 11), hcI k 20 (fun _ => 0)), ((i1 12), hcI k 20 (fun _ => 0)), ((i1 13), hcI k 20 (fun _ => 0)), ((i1 2), .inr (1, [.ref (i1 14), .ref (i1 15), .ref (i1 16), .int 0])), ((i1 14), hcI k 10 (fun _ => 0)), ((i1 15), hcI k 10 (fun _ => 0)), ((i1 16), hcI k 10 (fun _ => 0)), ((q 19), .inr (4, [.ref (i2 0), .ref (i2 1), .ref (i2 2), .int (-1), .int 0])), ((i2 0), .inr (2, [.int 0, .int 0, .int 0, .int 0, .ref (i2 3), .ref (i2 4), .ref (i2 5), .ref (i2 6), .ref (i2 7), .ref (i2 8), .int 0, .int 0, .int 0, .ref (i2 9), .ref (i2 10), .int 0, .int 0])), ((i2 3), hcI k 4 (fun _ => 0)), ((i2 4), hcI k 8 (fun _ => 0)), ((i2 5), hcI k 8 (fun _ => 0)), ((i2 6), hcI k 8 (fun _ => 0)), ((i2 7), hcI k 8 (fun _ => 0)), ((i2 8), hcI k 4 (fun _ => 0)), ((i2 9), hcI k 4 (fun _ => 0)), ((i2 10), hcI k 4 (fun _ => 0)), ((i2 1), .inr (0, [.ref (i2 11), .ref (i2 12), .ref (i2 13), .int 0, .int 0])), ((i2 11), hcI k 20 (fun _ => 0)), ((i2 12), hcI k 20 (fun _ => 0)), ((i2 13), hcI k 20 (fun _ => 0)), ((i2 2), .inr (1, [.ref (i2 14), .ref (i2 15), .ref (i2 16), .int 0])), ((i2 14), hcI k 10 (fun _ => 0)), ((i2 15), hcI k 10 (fun _ => 0)), ((i2 16), hcI k 10 (fun _ => 0)), ((q 2), .inr (4, [.ref (qn 0), .ref (qn 1), .ref (qn 2), .int (-1), .int 0])), ((qn 0), .inr (2, [.int 0, .int 0, .int 0, .int 0, .ref (qn 3), .ref (qn 4), .ref (qn 5), .ref (qn 6), .ref (qn 7), .ref (qn 8), .int 0, .int 0, .int 0, .ref (qn 9), .ref (qn 10), .int 0, .int 0])), ((qn 3), hcI k 4 (fun _ => 0)), ((qn 4), hcI k 8 (fun _ => 0)), ((qn 5), hcI k 8 (fun _ => 0)), ((qn 6), hcI k 8 (fun _ => 0)), ((qn 7), hcI k 8 (fun _ => 0)), ((qn 8), hcI k 4 (fun _ => 0)), ((qn 9), hcI k 4 (fun _ => 0)), ((qn 10), hcI k 4 (fun _ => 0)), ((qn 1), .inr (0, [.ref (qn 11), .ref (qn 12), .ref (qn 13), .int 0, .int 0])), ((qn 11), hcI k 20 (fun _ => 0)), ((qn 12), hcI k 20 (fun _ => 0)), ((qn 13), hcI k 20 (fun _ => 0)), ((qn 2), .inr (1, [.ref (qn 14), .ref (qn 15), .ref (qn 16), .int 0])), ((qn 14), hcI k 10 (fun _ => 0)), ((qn 15), hcI k 10 (fun _ => 0)), ((qn 16), hcI k 10 (fun _ => 0))]) := hD
        refine lv_aload_n hx hb dX8_image_24 rfl (lv_at hl 0 rfl) ?_
        refine va_get (D := D) (ci := 6) (v := .ref (q 4)) (C := RX8) (T := TX8) (N := 12) hx hb hts in8 hown hG.1 hP 0 rfl rfl 5 (by decide) (hts (.fieldLink RX8 37 "ChairCane" "imageMade" "[Z") (by decide +kernel)) (fun _ h9 => h9) rfl dX8_image_25 ?_
        refine lv_iload_n hx hb dX8_image_28 rfl (lv_at hl 1 rfl) ?_
        refine lv_iconst (v := 1) hx hb dX8_image_29 (by decide) ?_
        refine va_zast hx hb hG.1 hP hD hS 2 2 rfl rfl (by unfold vp_in; decide) dX8_image_30 (fun H locs hP hD hS => ?_)
        generalize upd (fun _ => 0) (Int32.toNatClampNeg (3)) (vp_nar .boolean (1)) = f_14 at hP hD
        have hP : va_P D vwCl ([(h0, .inr (6, [.ref (q 0), .ref (q 1), .int 0, .ref (q 2), .ref (q 3), .ref (q 4), .ref (q 5), .ref (q 6), .ref (q 7), .ref (q 8), .ref (q 9), .ref (q 10)])), ((q 3), hcS k 4 (va_up (va_up (va_up (va_up (fun _ => none) 0 (some (q 17))) 1 (some (q 18))) 2 (some (q 19))) 3 (some (q 20)))), ((q 4), hcZ k 4 f_14), ((q 17), .inr (4, [.ref (i0 0), .ref (i0 1), .ref (i0 2), .int (-1), .int 0])), ((i0 0), .inr (2, [.int 0, .int 0, .int 0, .int 0, .ref (i0 3), .ref (i0 4), .ref (i0 5), .ref (i0 6), .ref (i0 7), .ref (i0 8), .int 0, .int 0, .int 0, .ref (i0 9), .ref (i0 10), .int 0, .int 0])), ((i0 3), hcI k 4 (fun _ => 0)), ((i0 4), hcI k 8 (fun _ => 0)), ((i0 5), hcI k 8 (fun _ => 0)), ((i0 6), hcI k 8 (fun _ => 0)), ((i0 7), hcI k 8 (fun _ => 0)), ((i0 8), hcI k 4 (fun _ => 0)), ((i0 9), hcI k 4 (fun _ => 0)), ((i0 10), hcI k 4 (fun _ => 0)), ((i0 1), .inr (0, [.ref (i0 11), .ref (i0 12), .ref (i0 13), .int 0, .int 0])), ((i0 11), hcI k 20 (fun _ => 0)), ((i0 12), hcI k 20 (fun _ => 0)), ((i0 13), hcI k 20 (fun _ => 0)), ((i0 2), .inr (1, [.ref (i0 14), .ref (i0 15), .ref (i0 16), .int 0])), ((i0 14), hcI k 10 (fun _ => 0)), ((i0 15), hcI k 10 (fun _ => 0)), ((i0 16), hcI k 10 (fun _ => 0)), ((q 18), .inr (4, [.ref (i1 0), .ref (i1 1), .ref (i1 2), .int (-1), .int 0])), ((i1 0), .inr (2, [.int 0, .int 0, .int 0, .int 0, .ref (i1 3), .ref (i1 4), .ref (i1 5), .ref (i1 6), .ref (i1 7), .ref (i1 8), .int 0, .int 0, .int 0, .ref (i1 9), .ref (i1 10), .int 0, .int 0])), ((i1 3), hcI k 4 (fun _ => 0)), ((i1 4), hcI k 8 (fun _ => 0)), ((i1 5), hcI k 8 (fun _ => 0)), ((i1 6), hcI k 8 (fun _ => 0)), ((i1 7), hcI k 8 (fun _ => 0)), ((i1 8), hcI k 4 (fun _ => 0)), ((i1 9), hcI k 4 (fun _ => 0)), ((i1 10), hcI k 4 (fun _ => 0)), ((i1 1), .inr (0, [.ref (i1 11), .ref (i1 12), .ref (i1 13), .int 0, .int 0])), ((i1 11), hcI k 20 (fun _ => 0)), ((i1 12), hcI k 20 (fun _ => 0)), ((i1 13), hcI k 20 (fun _ => 0)), ((i1 2), .inr (1, [.ref (i1 14), .ref (i1 15), .ref (i1 16), .int 0])), ((i1 14), hcI k 10 (fun _ => 0)), ((i1 15), hcI k 10 (fun _ => 0)), ((i1 16), hcI k 10 (fun _ => 0)), ((q 19), .inr (4, [.ref (i2 0), .ref (i2 1), .ref (i2 2), .int (-1), .int 0])), ((i2 0), .inr (2, [.int 0, .int 0, .int 0, .int 0, .ref (i2 3), .ref (i2 4), .ref (i2 5), .ref (i2 6), .ref (i2 7), .ref (i2 8), .int 0, .int 0, .int 0, .ref (i2 9), .ref (i2 10), .int 0, .int 0])), ((i2 3), hcI k 4 (fun _ => 0)), ((i2 4), hcI k 8 (fun _ => 0)), ((i2 5), hcI k 8 (fun _ => 0)), ((i2 6), hcI k 8 (fun _ => 0)), ((i2 7), hcI k 8 (fun _ => 0)), ((i2 8), hcI k 4 (fun _ => 0)), ((i2 9), hcI k 4 (fun _ => 0)), ((i2 10), hcI k 4 (fun _ => 0)), ((i2 1), .inr (0, [.ref (i2 11), .ref (i2 12), .ref (i2 13), .int 0, .int 0])), ((i2 11), hcI k 20 (fun _ => 0)), ((i2 12), hcI k 20 (fun _ => 0)), ((i2 13), hcI k 20 (fun _ => 0)), ((i2 2), .inr (1, [.ref (i2 14), .ref (i2 15), .ref (i2 16), .int 0])), ((i2 14), hcI k 10 (fun _ => 0)), ((i2 15), hcI k 10 (fun _ => 0)), ((i2 16), hcI k 10 (fun _ => 0)), ((q 2), .inr (4, [.ref (qn 0), .ref (qn 1), .ref (qn 2), .int (-1), .int 0])), ((qn 0), .inr (2, [.int 0, .int 0, .int 0, .int 0, .ref (qn 3), .ref (qn 4), .ref (qn 5), .ref (qn 6), .ref (qn 7), .ref (qn 8), .int 0, .int 0, .int 0, .ref (qn 9), .ref (qn 10), .int 0, .int 0])), ((qn 3), hcI k 4 (fun _ => 0)), ((qn 4), hcI k 8 (fun _ => 0)), ((qn 5), hcI k 8 (fun _ => 0)), ((qn 6), hcI k 8 (fun _ => 0)), ((qn 7), hcI k 8 (fun _ => 0)), ((qn 8), hcI k 4 (fun _ => 0)), ((qn 9), hcI k 4 (fun _ => 0)), ((qn 10), hcI k 4 (fun _ => 0)), ((qn 1), .inr (0, [.ref (qn 11), .ref (qn 12), .ref (qn 13), .int 0, .int 0])), ((qn 11), hcI k 20 (fun _ => 0)), ((qn 12), hcI k 20 (fun _ => 0)), ((qn 13), hcI k 20 (fun _ => 0)), ((qn 2), .inr (1, [.ref (qn 14), .ref (qn 15), .ref (qn 16), .int 0])), ((qn 14), hcI k 10 (fun _ => 0)), ((qn 15), hcI k 10 (fun _ => 0)), ((qn 16), hcI k 10 (fun _ => 0))]) H := hP
        have hD : va_D A ([(h0, .inr (6, [.ref (q 0), .ref (q 1), .int 0, .ref (q 2), .ref (q 3), .ref (q 4), .ref (q 5), .ref (q 6), .ref (q 7), .ref (q 8), .ref (q 9), .ref (q 10)])), ((q 3), hcS k 4 (va_up (va_up (va_up (va_up (fun _ => none) 0 (some (q 17))) 1 (some (q 18))) 2 (some (q 19))) 3 (some (q 20)))), ((q 4), hcZ k 4 f_14), ((q 17), .inr (4, [.ref (i0 0), .ref (i0 1), .ref (i0 2), .int (-1), .int 0])), ((i0 0), .inr (2, [.int 0, .int 0, .int 0, .int 0, .ref (i0 3), .ref (i0 4), .ref (i0 5), .ref (i0 6), .ref (i0 7), .ref (i0 8), .int 0, .int 0, .int 0, .ref (i0 9), .ref (i0 10), .int 0, .int 0])), ((i0 3), hcI k 4 (fun _ => 0)), ((i0 4), hcI k 8 (fun _ => 0)), ((i0 5), hcI k 8 (fun _ => 0)), ((i0 6), hcI k 8 (fun _ => 0)), ((i0 7), hcI k 8 (fun _ => 0)), ((i0 8), hcI k 4 (fun _ => 0)), ((i0 9), hcI k 4 (fun _ => 0)), ((i0 10), hcI k 4 (fun _ => 0)), ((i0 1), .inr (0, [.ref (i0 11), .ref (i0 12), .ref (i0 13), .int 0, .int 0])), ((i0 11), hcI k 20 (fun _ => 0)), ((i0 12), hcI k 20 (fun _ => 0)), ((i0 13), hcI k 20 (fun _ => 0)), ((i0 2), .inr (1, [.ref (i0 14), .ref (i0 15), .ref (i0 16), .int 0])), ((i0 14), hcI k 10 (fun _ => 0)), ((i0 15), hcI k 10 (fun _ => 0)), ((i0 16), hcI k 10 (fun _ => 0)), ((q 18), .inr (4, [.ref (i1 0), .ref (i1 1), .ref (i1 2), .int (-1), .int 0])), ((i1 0), .inr (2, [.int 0, .int 0, .int 0, .int 0, .ref (i1 3), .ref (i1 4), .ref (i1 5), .ref (i1 6), .ref (i1 7), .ref (i1 8), .int 0, .int 0, .int 0, .ref (i1 9), .ref (i1 10), .int 0, .int 0])), ((i1 3), hcI k 4 (fun _ => 0)), ((i1 4), hcI k 8 (fun _ => 0)), ((i1 5), hcI k 8 (fun _ => 0)), ((i1 6), hcI k 8 (fun _ => 0)), ((i1 7), hcI k 8 (fun _ => 0)), ((i1 8), hcI k 4 (fun _ => 0)), ((i1 9), hcI k 4 (fun _ => 0)), ((i1 10), hcI k 4 (fun _ => 0)), ((i1 1), .inr (0, [.ref (i1 11), .ref (i1 12), .ref (i1 13), .int 0, .int 0])), ((i1 11), hcI k 20 (fun _ => 0)), ((i1 12), hcI k 20 (fun _ => 0)), ((i1 13), hcI k 20 (fun _ => 0)), ((i1 2), .inr (1, [.ref (i1 14), .ref (i1 15), .ref (i1 16), .int 0])), ((i1 14), hcI k 10 (fun _ => 0)), ((i1 15), hcI k 10 (fun _ => 0)), ((i1 16), hcI k 10 (fun _ => 0)), ((q 19), .inr (4, [.ref (i2 0), .ref (i2 1), .ref (i2 2), .int (-1), .int 0])), ((i2 0), .inr (2, [.int 0, .int 0, .int 0, .int 0, .ref (i2 3), .ref (i2 4), .ref (i2 5), .ref (i2 6), .ref (i2 7), .ref (i2 8), .int 0, .int 0, .int 0, .ref (i2 9), .ref (i2 10), .int 0, .int 0])), ((i2 3), hcI k 4 (fun _ => 0)), ((i2 4), hcI k 8 (fun _ => 0)), ((i2 5), hcI k 8 (fun _ => 0)), ((i2 6), hcI k 8 (fun _ => 0)), ((i2 7), hcI k 8 (fun _ => 0)), ((i2 8), hcI k 4 (fun _ => 0)), ((i2 9), hcI k 4 (fun _ => 0)), ((i2 10), hcI k 4 (fun _ => 0)), ((i2 1), .inr (0, [.ref (i2 11), .ref (i2 12), .ref (i2 13), .int 0, .int 0])), ((i2 11), hcI k 20 (fun _ => 0)), ((i2 12), hcI k 20 (fun _ => 0)), ((i2 13), hcI k 20 (fun _ => 0)), ((i2 2), .inr (1, [.ref (i2 14), .ref (i2 15), .ref (i2 16), .int 0])), ((i2 14), hcI k 10 (fun _ => 0)), ((i2 15), hcI k 10 (fun _ => 0)), ((i2 16), hcI k 10 (fun _ => 0)), ((q 2), .inr (4, [.ref (qn 0), .ref (qn 1), .ref (qn 2), .int (-1), .int 0])), ((qn 0), .inr (2, [.int 0, .int 0, .int 0, .int 0, .ref (qn 3), .ref (qn 4), .ref (qn 5), .ref (qn 6), .ref (qn 7), .ref (qn 8), .int 0, .int 0, .int 0, .ref (qn 9), .ref (qn 10), .int 0, .int 0])), ((qn 3), hcI k 4 (fun _ => 0)), ((qn 4), hcI k 8 (fun _ => 0)), ((qn 5), hcI k 8 (fun _ => 0)), ((qn 6), hcI k 8 (fun _ => 0)), ((qn 7), hcI k 8 (fun _ => 0)), ((qn 8), hcI k 4 (fun _ => 0)), ((qn 9), hcI k 4 (fun _ => 0)), ((qn 10), hcI k 4 (fun _ => 0)), ((qn 1), .inr (0, [.ref (qn 11), .ref (qn 12), .ref (qn 13), .int 0, .int 0])), ((qn 11), hcI k 20 (fun _ => 0)), ((qn 12), hcI k 20 (fun _ => 0)), ((qn 13), hcI k 20 (fun _ => 0)), ((qn 2), .inr (1, [.ref (qn 14), .ref (qn 15), .ref (qn 16), .int 0])), ((qn 14), hcI k 10 (fun _ => 0)), ((qn 15), hcI k 10 (fun _ => 0)), ((qn 16), hcI k 10 (fun _ => 0))]) := hD
        refine lv_aload_n hx hb dX8_image_31 rfl (lv_at hl 0 rfl) ?_
        refine va_get (D := D) (ci := 6) (v := .ref (q 2)) (C := RX8) (T := TX8) (N := 12) hx hb hts in8 hown hG.1 hP 0 rfl rfl 3 (by decide) (hts (.fieldLink RX8 29 "ChairCane" "now" "LChairCane$Standing;") (by decide +kernel)) (fun _ h9 => h9) rfl dX8_image_32 ?_
        refine va_get (D := D) (ci := 4) (v := .ref (qn 0)) (C := RX6) (T := TX6) (N := 5) hx hb hts in6 hown hG.1 hP 57 rfl rfl 0 (by decide) (hts (.fieldLink RX8 81 "ChairCane$Standing" "room" "LChairCane$Room;") (by decide +kernel)) (fun _ h9 => h9) rfl dX8_image_35 ?_
        refine va_get (D := D) (ci := 2) (v := .int 0) (C := RX3) (T := TX3) (N := 17) hx hb hts in3 hown hG.1 hP 58 rfl rfl 12 (by decide) (hts (.fieldLink RX8 154 "ChairCane$Room" "minute" "I") (by decide +kernel)) (fun _ h9 => h9) rfl dX8_image_38 ?_
        exact hc_end hx hb hr hlocks () (by decide) (hP.sub [] rfl) (hD.sub [] (by decide) rfl) hS dX8_image_41
    · refine lv_iconst (v := (-1)) hx hb dX8_image_9 (by decide) ?_
      exact hc_end hx hb hr hlocks () (by unfold spImg; split <;> rename_i h <;> first | rfl | exact h | exact h.symm | (exfalso; simp only [sp_lt, sp_le, sp_eq, sp0, spm1, sp1, sp3, sp4, sp12] at h c_1 c_2 <;> omega)) (hP.sub [] rfl) (hD.sub [] (by decide) rfl) hS dX8_image_10
set_option maxHeartbeats 4000000 in
set_option maxRecDepth 100000 in
theorem c_X8_back (l : Launch) (D : va_G) (k : Nat → ClassId) (sz : Nat) (h0 : Nat) (q qt qn i0 i1 i2 i3 : Nat → Nat) (x1 : Int32) : CtI l yX8_back wsX8_back (rmK 4 0 0) [.ref h0, .int x1] D k sz ([(h0, .inr (6, [.ref (q 0), .ref (q 1), .int 0, .ref (q 2), .ref (q 3), .ref (q 4), .ref (q 5), .ref (q 6), .ref (q 7), .ref (q 8), .ref (q 9), .ref (q 10)])), ((q 4), hcZ k 4 (fun _ => 0))]) (fun (r : Int32) (_ : Unit) => r = (-1)) (fun _ : Unit => []) 0 0 := by
  refine CtI.mk (cc := cX8_back) (maxL := 2) (ret := (some .int)) (by decide) rfl (Nat.le_of_ble_eq_true rfl) ?_
  intro p e s m below meth c A ls E hP hD hS hl
  obtain ⟨hx, hb, hr, hml, hown, hts, hlocks, hin, hG, hA⟩ := E
  have hown : s.vm.findClass RX8 = some m.cls := hown
  have in0 : ∀ w ∈ u_ws RX0 TX0 5, w ∈ wsX8_back := fun _ h => List.mem_cons_of_mem _ (List.mem_append_left _ (List.mem_append_right _ h))
  have in2 : ∀ w ∈ u_ws RX2 TX2 4, w ∈ wsX8_back := fun _ h => List.mem_cons_of_mem _ (List.mem_append_right _ h)
  have in3 : ∀ w ∈ u_ws RX3 TX3 17, w ∈ wsX8_back := fun _ h => List.mem_cons_of_mem _ (List.mem_append_left _ (List.mem_append_left _ (List.mem_append_right _ h)))
  have in6 : ∀ w ∈ u_ws RX6 TX6 5, w ∈ wsX8_back := fun _ h => List.mem_cons_of_mem _ (List.mem_append_left _ (List.mem_append_left _ (List.mem_append_left _ (List.mem_append_right _ h))))
  have in8 : ∀ w ∈ u_ws RX8 TX8 12, w ∈ wsX8_back := fun _ h => List.mem_cons_of_mem _ (List.mem_append_left _ (List.mem_append_left _ (List.mem_append_left _ (List.mem_append_left _ (List.mem_append_right _ h)))))
  have hl : lv_has ls 2 [(0, .ref h0), (1, .int x1)] := hl
  refine lv_iload_n hx hb dX8_back_0 rfl (lv_at hl 1 rfl) ?_
  refine lv_if_lt (tgt := 18) hx hb dX8_back_1 (by decide) (fun c_1 => ?_) (fun c_1 => ?_)
  · refine lv_iconst (v := (-1)) hx hb dX8_back_18 (by decide) ?_
    exact hc_end hx hb hr hlocks () rfl (hP.sub [] rfl) (hD.sub [] (by decide) rfl) hS dX8_back_19
  · refine lv_iload_n hx hb dX8_back_4 rfl (lv_at hl 1 rfl) ?_
    refine lv_iconst (v := 4) hx hb dX8_back_5 (by decide) ?_
    refine lv_icmp_ge (tgt := 18) hx hb dX8_back_6 (by decide) (fun c_2 => ?_) (fun c_2 => ?_)
    · refine lv_iconst (v := (-1)) hx hb dX8_back_18 (by decide) ?_
      exact hc_end hx hb hr hlocks () rfl (hP.sub [] rfl) (hD.sub [] (by decide) rfl) hS dX8_back_19
    · rcases sp_c4 c_1 c_2 with rfl | rfl | rfl | rfl
      · refine lv_aload_n hx hb dX8_back_9 rfl (lv_at hl 0 rfl) ?_
        refine va_get (D := D) (ci := 6) (v := .ref (q 4)) (C := RX8) (T := TX8) (N := 12) hx hb hts in8 hown hG.1 hP 0 rfl rfl 5 (by decide) (hts (.fieldLink RX8 37 "ChairCane" "imageMade" "[Z") (by decide +kernel)) (fun _ h9 => h9) rfl dX8_back_10 ?_
        refine lv_iload_n hx hb dX8_back_13 rfl (lv_at hl 1 rfl) ?_
        refine va_zald hx hb hG.1 hP 1 2 rfl rfl (by unfold vp_in; decide) dX8_back_14 ?_
        refine hc_is (z := 0) rfl ?_
        refine lv_if_ne (tgt := 20) hx hb dX8_back_15 (by decide) (fun h => absurd h (by decide)) (fun _ => ?_)
        refine lv_iconst (v := (-1)) hx hb dX8_back_18 (by decide) ?_
        exact hc_end hx hb hr hlocks () (by decide) (hP.sub [] rfl) (hD.sub [] (by decide) rfl) hS dX8_back_19
      · refine lv_aload_n hx hb dX8_back_9 rfl (lv_at hl 0 rfl) ?_
        refine va_get (D := D) (ci := 6) (v := .ref (q 4)) (C := RX8) (T := TX8) (N := 12) hx hb hts in8 hown hG.1 hP 0 rfl rfl 5 (by decide) (hts (.fieldLink RX8 37 "ChairCane" "imageMade" "[Z") (by decide +kernel)) (fun _ h9 => h9) rfl dX8_back_10 ?_
        refine lv_iload_n hx hb dX8_back_13 rfl (lv_at hl 1 rfl) ?_
        refine va_zald hx hb hG.1 hP 1 2 rfl rfl (by unfold vp_in; decide) dX8_back_14 ?_
        refine hc_is (z := 0) rfl ?_
        refine lv_if_ne (tgt := 20) hx hb dX8_back_15 (by decide) (fun h => absurd h (by decide)) (fun _ => ?_)
        refine lv_iconst (v := (-1)) hx hb dX8_back_18 (by decide) ?_
        exact hc_end hx hb hr hlocks () (by decide) (hP.sub [] rfl) (hD.sub [] (by decide) rfl) hS dX8_back_19
      · refine lv_aload_n hx hb dX8_back_9 rfl (lv_at hl 0 rfl) ?_
        refine va_get (D := D) (ci := 6) (v := .ref (q 4)) (C := RX8) (T := TX8) (N := 12) hx hb hts in8 hown hG.1 hP 0 rfl rfl 5 (by decide) (hts (.fieldLink RX8 37 "ChairCane" "imageMade" "[Z") (by decide +kernel)) (fun _ h9 => h9) rfl dX8_back_10 ?_
        refine lv_iload_n hx hb dX8_back_13 rfl (lv_at hl 1 rfl) ?_
        refine va_zald hx hb hG.1 hP 1 2 rfl rfl (by unfold vp_in; decide) dX8_back_14 ?_
        refine hc_is (z := 0) rfl ?_
        refine lv_if_ne (tgt := 20) hx hb dX8_back_15 (by decide) (fun h => absurd h (by decide)) (fun _ => ?_)
        refine lv_iconst (v := (-1)) hx hb dX8_back_18 (by decide) ?_
        exact hc_end hx hb hr hlocks () (by decide) (hP.sub [] rfl) (hD.sub [] (by decide) rfl) hS dX8_back_19
      · refine lv_aload_n hx hb dX8_back_9 rfl (lv_at hl 0 rfl) ?_
        refine va_get (D := D) (ci := 6) (v := .ref (q 4)) (C := RX8) (T := TX8) (N := 12) hx hb hts in8 hown hG.1 hP 0 rfl rfl 5 (by decide) (hts (.fieldLink RX8 37 "ChairCane" "imageMade" "[Z") (by decide +kernel)) (fun _ h9 => h9) rfl dX8_back_10 ?_
        refine lv_iload_n hx hb dX8_back_13 rfl (lv_at hl 1 rfl) ?_
        refine va_zald hx hb hG.1 hP 1 2 rfl rfl (by unfold vp_in; decide) dX8_back_14 ?_
        refine hc_is (z := 0) rfl ?_
        refine lv_if_ne (tgt := 20) hx hb dX8_back_15 (by decide) (fun h => absurd h (by decide)) (fun _ => ?_)
        refine lv_iconst (v := (-1)) hx hb dX8_back_18 (by decide) ?_
        exact hc_end hx hb hr hlocks () (by decide) (hP.sub [] rfl) (hD.sub [] (by decide) rfl) hS dX8_back_19
