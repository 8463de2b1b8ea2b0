/-! the class: more, as functions -/
theorem dX8_beginAnew_0 : decode cX8_beginAnew 0 = .ok (.aload_n 0, 1) := by decide +kernel
theorem dX8_beginAnew_1 : decode cX8_beginAnew 1 = .ok (.getfield 44, 3) := by decide +kernel
theorem dX8_beginAnew_4 : decode cX8_beginAnew 4 = .ok (.aload_n 0, 1) := by decide +kernel
theorem dX8_beginAnew_5 : decode cX8_beginAnew 5 = .ok (.getfield 29, 3) := by decide +kernel
theorem dX8_beginAnew_8 : decode cX8_beginAnew 8 = .ok (.getfield 81, 3) := by decide +kernel
theorem dX8_beginAnew_11 : decode cX8_beginAnew 11 = .ok (.invokevirtual 84, 3) := by decide +kernel
theorem dX8_beginAnew_14 : decode cX8_beginAnew 14 = .ok (.aload_n 0, 1) := by decide +kernel
theorem dX8_beginAnew_15 : decode cX8_beginAnew 15 = .ok (.getfield 44, 3) := by decide +kernel
theorem dX8_beginAnew_18 : decode cX8_beginAnew 18 = .ok (.invokevirtual 279, 3) := by decide +kernel
theorem dX8_beginAnew_21 : decode cX8_beginAnew 21 = .ok (.return_, 1) := by decide +kernel
theorem dX8_count_0 : decode cX8_count 0 = .ok (.aload_n 0, 1) := by decide +kernel
theorem dX8_count_1 : decode cX8_count 1 = .ok (.getfield 29, 3) := by decide +kernel
theorem dX8_count_4 : decode cX8_count 4 = .ok (.getfield 81, 3) := by decide +kernel
theorem dX8_count_7 : decode cX8_count 7 = .ok (.astore_n 2, 1) := by decide +kernel
theorem dX8_count_8 : decode cX8_count 8 = .ok (.iload_n 1, 1) := by decide +kernel
theorem dX8_count_9 : decode cX8_count 9 = .ok (.tableswitch 153 0 12 #[67, 72, 77, 82, 87, 95, 100, 105, 110, 115, 126, 137, 145], 67) := by decide +kernel
theorem dX8_count_76 : decode cX8_count 76 = .ok (.aload_n 2, 1) := by decide +kernel
theorem dX8_count_77 : decode cX8_count 77 = .ok (.getfield 247, 3) := by decide +kernel
theorem dX8_count_80 : decode cX8_count 80 = .ok (.ireturn, 1) := by decide +kernel
theorem dX8_count_81 : decode cX8_count 81 = .ok (.aload_n 2, 1) := by decide +kernel
theorem dX8_count_82 : decode cX8_count 82 = .ok (.getfield 315, 3) := by decide +kernel
theorem dX8_count_85 : decode cX8_count 85 = .ok (.ireturn, 1) := by decide +kernel
theorem dX8_count_86 : decode cX8_count 86 = .ok (.aload_n 2, 1) := by decide +kernel
theorem dX8_count_87 : decode cX8_count 87 = .ok (.getfield 104, 3) := by decide +kernel
theorem dX8_count_90 : decode cX8_count 90 = .ok (.ireturn, 1) := by decide +kernel
theorem dX8_count_91 : decode cX8_count 91 = .ok (.aload_n 0, 1) := by decide +kernel
theorem dX8_count_92 : decode cX8_count 92 = .ok (.getfield 22, 3) := by decide +kernel
theorem dX8_count_95 : decode cX8_count 95 = .ok (.ireturn, 1) := by decide +kernel
theorem dX8_count_96 : decode cX8_count 96 = .ok (.aload_n 0, 1) := by decide +kernel
theorem dX8_count_97 : decode cX8_count 97 = .ok (.getfield 29, 3) := by decide +kernel
theorem dX8_count_100 : decode cX8_count 100 = .ok (.getfield 112, 3) := by decide +kernel
theorem dX8_count_103 : decode cX8_count 103 = .ok (.ireturn, 1) := by decide +kernel
theorem dX8_count_104 : decode cX8_count 104 = .ok (.aload_n 2, 1) := by decide +kernel
theorem dX8_count_105 : decode cX8_count 105 = .ok (.getfield 154, 3) := by decide +kernel
theorem dX8_count_108 : decode cX8_count 108 = .ok (.ireturn, 1) := by decide +kernel
theorem dX8_count_109 : decode cX8_count 109 = .ok (.aload_n 2, 1) := by decide +kernel
theorem dX8_count_110 : decode cX8_count 110 = .ok (.getfield 200, 3) := by decide +kernel
theorem dX8_count_113 : decode cX8_count 113 = .ok (.ireturn, 1) := by decide +kernel
theorem dX8_count_114 : decode cX8_count 114 = .ok (.aload_n 2, 1) := by decide +kernel
theorem dX8_count_115 : decode cX8_count 115 = .ok (.getfield 179, 3) := by decide +kernel
theorem dX8_count_118 : decode cX8_count 118 = .ok (.ireturn, 1) := by decide +kernel
theorem dX8_count_119 : decode cX8_count 119 = .ok (.aload_n 2, 1) := by decide +kernel
theorem dX8_count_120 : decode cX8_count 120 = .ok (.invokevirtual 224, 3) := by decide +kernel
theorem dX8_count_123 : decode cX8_count 123 = .ok (.ireturn, 1) := by decide +kernel
theorem dX8_count_124 : decode cX8_count 124 = .ok (.aload_n 0, 1) := by decide +kernel
theorem dX8_count_125 : decode cX8_count 125 = .ok (.getfield 29, 3) := by decide +kernel
theorem dX8_count_128 : decode cX8_count 128 = .ok (.getfield 97, 3) := by decide +kernel
theorem dX8_count_131 : decode cX8_count 131 = .ok (.getfield 244, 3) := by decide +kernel
theorem dX8_count_134 : decode cX8_count 134 = .ok (.ireturn, 1) := by decide +kernel
theorem dX8_count_135 : decode cX8_count 135 = .ok (.aload_n 0, 1) := by decide +kernel
theorem dX8_count_136 : decode cX8_count 136 = .ok (.getfield 29, 3) := by decide +kernel
theorem dX8_count_139 : decode cX8_count 139 = .ok (.getfield 88, 3) := by decide +kernel
theorem dX8_count_142 : decode cX8_count 142 = .ok (.getfield 187, 3) := by decide +kernel
theorem dX8_count_145 : decode cX8_count 145 = .ok (.ireturn, 1) := by decide +kernel
theorem dX8_count_146 : decode cX8_count 146 = .ok (.aload_n 0, 1) := by decide +kernel
theorem dX8_count_147 : decode cX8_count 147 = .ok (.getfield 29, 3) := by decide +kernel
theorem dX8_count_150 : decode cX8_count 150 = .ok (.getfield 292, 3) := by decide +kernel
theorem dX8_count_153 : decode cX8_count 153 = .ok (.ireturn, 1) := by decide +kernel
theorem dX8_count_154 : decode cX8_count 154 = .ok (.aload_n 0, 1) := by decide +kernel
theorem dX8_count_155 : decode cX8_count 155 = .ok (.getfield 10, 3) := by decide +kernel
theorem dX8_count_158 : decode cX8_count 158 = .ok (.getfield 65, 3) := by decide +kernel
theorem dX8_count_161 : decode cX8_count 161 = .ok (.ireturn, 1) := by decide +kernel
theorem dX8_count_162 : decode cX8_count 162 = .ok (.iconst (-1), 1) := by decide +kernel
theorem dX8_count_163 : decode cX8_count 163 = .ok (.ireturn, 1) := by decide +kernel
theorem dX8_look_0 : decode cX8_look 0 = .ok (.aload_n 0, 1) := by decide +kernel
theorem dX8_look_1 : decode cX8_look 1 = .ok (.getfield 29, 3) := by decide +kernel
theorem dX8_look_4 : decode cX8_look 4 = .ok (.getfield 81, 3) := by decide +kernel
theorem dX8_look_7 : decode cX8_look 7 = .ok (.astore_n 3, 1) := by decide +kernel
theorem dX8_look_8 : decode cX8_look 8 = .ok (.aload_n 3, 1) := by decide +kernel
theorem dX8_look_9 : decode cX8_look 9 = .ok (.getfield 150, 3) := by decide +kernel
theorem dX8_look_12 : decode cX8_look 12 = .ok (.ifCond .eq 22, 3) := by decide +kernel
theorem dX8_look_15 : decode cX8_look 15 = .ok (.iload_n 1, 1) := by decide +kernel
theorem dX8_look_16 : decode cX8_look 16 = .ok (.ifCond .lt 18, 3) := by decide +kernel
theorem dX8_look_19 : decode cX8_look 19 = .ok (.iload_n 1, 1) := by decide +kernel
theorem dX8_look_20 : decode cX8_look 20 = .ok (.bipush 60, 2) := by decide +kernel
theorem dX8_look_22 : decode cX8_look 22 = .ok (.if_icmp .gt 12, 3) := by decide +kernel
theorem dX8_look_25 : decode cX8_look 25 = .ok (.iload_n 2, 1) := by decide +kernel
theorem dX8_look_26 : decode cX8_look 26 = .ok (.ifCond .lt 8, 3) := by decide +kernel
theorem dX8_look_29 : decode cX8_look 29 = .ok (.iload_n 2, 1) := by decide +kernel
theorem dX8_look_30 : decode cX8_look 30 = .ok (.iconst 1, 1) := by decide +kernel
theorem dX8_look_31 : decode cX8_look 31 = .ok (.if_icmp .le 5, 3) := by decide +kernel
theorem dX8_look_34 : decode cX8_look 34 = .ok (.iconst (-1), 1) := by decide +kernel
theorem dX8_look_35 : decode cX8_look 35 = .ok (.ireturn, 1) := by decide +kernel
theorem dX8_look_36 : decode cX8_look 36 = .ok (.aload_n 0, 1) := by decide +kernel
theorem dX8_look_37 : decode cX8_look 37 = .ok (.iload_n 1, 1) := by decide +kernel
theorem dX8_look_38 : decode cX8_look 38 = .ok (.invokevirtual 258, 3) := by decide +kernel
theorem dX8_look_41 : decode cX8_look 41 = .ok (.ifCond .ne 6, 3) := by decide +kernel
theorem dX8_look_44 : decode cX8_look 44 = .ok (.bipush (-2), 2) := by decide +kernel
theorem dX8_look_46 : decode cX8_look 46 = .ok (.ireturn, 1) := by decide +kernel
theorem dX8_look_47 : decode cX8_look 47 = .ok (.iconst (-1), 1) := by decide +kernel
theorem dX8_look_48 : decode cX8_look 48 = .ok (.istore 4, 2) := by decide +kernel
theorem dX8_look_50 : decode cX8_look 50 = .ok (.iconst 0, 1) := by decide +kernel
theorem dX8_look_51 : decode cX8_look 51 = .ok (.istore 5, 2) := by decide +kernel
theorem dX8_look_53 : decode cX8_look 53 = .ok (.iconst 0, 1) := by decide +kernel
theorem dX8_look_54 : decode cX8_look 54 = .ok (.istore 6, 2) := by decide +kernel
theorem dX8_look_56 : decode cX8_look 56 = .ok (.iload 6, 2) := by decide +kernel
theorem dX8_look_58 : decode cX8_look 58 = .ok (.aload_n 3, 1) := by decide +kernel
theorem dX8_look_59 : decode cX8_look 59 = .ok (.getfield 104, 3) := by decide +kernel
theorem dX8_look_62 : decode cX8_look 62 = .ok (.if_icmp .ge 38, 3) := by decide +kernel
theorem dX8_look_65 : decode cX8_look 65 = .ok (.aload_n 0, 1) := by decide +kernel
theorem dX8_look_66 : decode cX8_look 66 = .ok (.iload 6, 2) := by decide +kernel
theorem dX8_look_68 : decode cX8_look 68 = .ok (.invokevirtual 261, 3) := by decide +kernel
theorem dX8_look_71 : decode cX8_look 71 = .ok (.istore 7, 2) := by decide +kernel
theorem dX8_look_73 : decode cX8_look 73 = .ok (.iload 4, 2) := by decide +kernel
theorem dX8_look_75 : decode cX8_look 75 = .ok (.iconst (-1), 1) := by decide +kernel
theorem dX8_look_76 : decode cX8_look 76 = .ok (.if_icmp .eq 10, 3) := by decide +kernel
theorem dX8_look_79 : decode cX8_look 79 = .ok (.iload 7, 2) := by decide +kernel
theorem dX8_look_81 : decode cX8_look 81 = .ok (.iload 5, 2) := by decide +kernel
theorem dX8_look_83 : decode cX8_look 83 = .ok (.if_icmp .ge 11, 3) := by decide +kernel
theorem dX8_look_86 : decode cX8_look 86 = .ok (.iload 6, 2) := by decide +kernel
theorem dX8_look_88 : decode cX8_look 88 = .ok (.istore 4, 2) := by decide +kernel
theorem dX8_look_90 : decode cX8_look 90 = .ok (.iload 7, 2) := by decide +kernel
theorem dX8_look_92 : decode cX8_look 92 = .ok (.istore 5, 2) := by decide +kernel
theorem dX8_look_94 : decode cX8_look 94 = .ok (.iinc 6 1, 3) := by decide +kernel
theorem dX8_look_97 : decode cX8_look 97 = .ok (.goto (-41), 3) := by decide +kernel
theorem dX8_look_100 : decode cX8_look 100 = .ok (.iload 4, 2) := by decide +kernel
theorem dX8_look_102 : decode cX8_look 102 = .ok (.iconst (-1), 1) := by decide +kernel
theorem dX8_look_103 : decode cX8_look 103 = .ok (.if_icmp .ne 6, 3) := by decide +kernel
theorem dX8_look_106 : decode cX8_look 106 = .ok (.bipush (-2), 2) := by decide +kernel
theorem dX8_look_108 : decode cX8_look 108 = .ok (.ireturn, 1) := by decide +kernel
theorem dX8_look_109 : decode cX8_look 109 = .ok (.iload_n 2, 1) := by decide +kernel
theorem dX8_look_110 : decode cX8_look 110 = .ok (.ifCond .ne 8, 3) := by decide +kernel
theorem dX8_look_113 : decode cX8_look 113 = .ok (.iload 4, 2) := by decide +kernel
theorem dX8_look_115 : decode cX8_look 115 = .ok (.goto 5, 3) := by decide +kernel
theorem dX8_look_118 : decode cX8_look 118 = .ok (.iload 5, 2) := by decide +kernel
theorem dX8_look_120 : decode cX8_look 120 = .ok (.ireturn, 1) := by decide +kernel
theorem dX8_mostAlike_0 : decode cX8_mostAlike 0 = .ok (.iload_n 1, 1) := by decide +kernel
theorem dX8_mostAlike_1 : decode cX8_mostAlike 1 = .ok (.iconst 3, 1) := by decide +kernel
theorem dX8_mostAlike_2 : decode cX8_mostAlike 2 = .ok (.imul, 1) := by decide +kernel
theorem dX8_mostAlike_3 : decode cX8_mostAlike 3 = .ok (.istore_n 2, 1) := by decide +kernel
theorem dX8_mostAlike_4 : decode cX8_mostAlike 4 = .ok (.aload_n 0, 1) := by decide +kernel
theorem dX8_mostAlike_5 : decode cX8_mostAlike 5 = .ok (.getfield 61, 3) := by decide +kernel
theorem dX8_mostAlike_8 : decode cX8_mostAlike 8 = .ok (.iload_n 2, 1) := by decide +kernel
theorem dX8_mostAlike_9 : decode cX8_mostAlike 9 = .ok (.iaload, 1) := by decide +kernel
theorem dX8_mostAlike_10 : decode cX8_mostAlike 10 = .ok (.aload_n 0, 1) := by decide +kernel
theorem dX8_mostAlike_11 : decode cX8_mostAlike 11 = .ok (.getfield 61, 3) := by decide +kernel
theorem dX8_mostAlike_14 : decode cX8_mostAlike 14 = .ok (.iload_n 2, 1) := by decide +kernel
theorem dX8_mostAlike_15 : decode cX8_mostAlike 15 = .ok (.iconst 1, 1) := by decide +kernel
theorem dX8_mostAlike_16 : decode cX8_mostAlike 16 = .ok (.iadd, 1) := by decide +kernel
theorem dX8_mostAlike_17 : decode cX8_mostAlike 17 = .ok (.iaload, 1) := by decide +kernel
theorem dX8_mostAlike_18 : decode cX8_mostAlike 18 = .ok (.aload_n 0, 1) := by decide +kernel
theorem dX8_mostAlike_19 : decode cX8_mostAlike 19 = .ok (.getfield 61, 3) := by decide +kernel
theorem dX8_mostAlike_22 : decode cX8_mostAlike 22 = .ok (.iload_n 2, 1) := by decide +kernel
theorem dX8_mostAlike_23 : decode cX8_mostAlike 23 = .ok (.iconst 2, 1) := by decide +kernel
theorem dX8_mostAlike_24 : decode cX8_mostAlike 24 = .ok (.iadd, 1) := by decide +kernel
theorem dX8_mostAlike_25 : decode cX8_mostAlike 25 = .ok (.iaload, 1) := by decide +kernel
theorem dX8_mostAlike_26 : decode cX8_mostAlike 26 = .ok (.invokestatic 273, 3) := by decide +kernel
theorem dX8_mostAlike_29 : decode cX8_mostAlike 29 = .ok (.invokestatic 273, 3) := by decide +kernel
theorem dX8_mostAlike_32 : decode cX8_mostAlike 32 = .ok (.ireturn, 1) := by decide +kernel
theorem dX8_note_0 : decode cX8_note 0 = .ok (.iload_n 1, 1) := by decide +kernel
theorem dX8_note_1 : decode cX8_note 1 = .ok (.iconst (-1), 1) := by decide +kernel
theorem dX8_note_2 : decode cX8_note 2 = .ok (.if_icmp .ne 15, 3) := by decide +kernel
theorem dX8_note_5 : decode cX8_note 5 = .ok (.aload_n 0, 1) := by decide +kernel
theorem dX8_note_6 : decode cX8_note 6 = .ok (.getfield 29, 3) := by decide +kernel
theorem dX8_note_9 : decode cX8_note 9 = .ok (.getfield 97, 3) := by decide +kernel
theorem dX8_note_12 : decode cX8_note 12 = .ok (.invokevirtual 101, 3) := by decide +kernel
theorem dX8_note_15 : decode cX8_note 15 = .ok (.iconst 0, 1) := by decide +kernel
theorem dX8_note_16 : decode cX8_note 16 = .ok (.ireturn, 1) := by decide +kernel
theorem dX8_note_17 : decode cX8_note 17 = .ok (.iload_n 1, 1) := by decide +kernel
theorem dX8_note_18 : decode cX8_note 18 = .ok (.ifCond .lt 32, 3) := by decide +kernel
theorem dX8_note_21 : decode cX8_note 21 = .ok (.iload_n 1, 1) := by decide +kernel
theorem dX8_note_22 : decode cX8_note 22 = .ok (.bipush 60, 2) := by decide +kernel
theorem dX8_note_24 : decode cX8_note 24 = .ok (.if_icmp .gt 26, 3) := by decide +kernel
theorem dX8_note_27 : decode cX8_note 27 = .ok (.aload_n 0, 1) := by decide +kernel
theorem dX8_note_28 : decode cX8_note 28 = .ok (.getfield 29, 3) := by decide +kernel
theorem dX8_note_31 : decode cX8_note 31 = .ok (.getfield 81, 3) := by decide +kernel
theorem dX8_note_34 : decode cX8_note 34 = .ok (.iload_n 2, 1) := by decide +kernel
theorem dX8_note_35 : decode cX8_note 35 = .ok (.invokevirtual 138, 3) := by decide +kernel
theorem dX8_note_38 : decode cX8_note 38 = .ok (.ifCond .eq 12, 3) := by decide +kernel
theorem dX8_note_41 : decode cX8_note 41 = .ok (.iload_n 3, 1) := by decide +kernel
theorem dX8_note_42 : decode cX8_note 42 = .ok (.ifCond .lt 8, 3) := by decide +kernel
theorem dX8_note_45 : decode cX8_note 45 = .ok (.iload_n 3, 1) := by decide +kernel
theorem dX8_note_46 : decode cX8_note 46 = .ok (.iconst 3, 1) := by decide +kernel
theorem dX8_note_47 : decode cX8_note 47 = .ok (.if_icmp .lt 6, 3) := by decide +kernel
theorem dX8_note_50 : decode cX8_note 50 = .ok (.bipush (-2), 2) := by decide +kernel
theorem dX8_note_52 : decode cX8_note 52 = .ok (.ireturn, 1) := by decide +kernel
theorem dX8_note_53 : decode cX8_note 53 = .ok (.aload_n 0, 1) := by decide +kernel
theorem dX8_note_54 : decode cX8_note 54 = .ok (.getfield 29, 3) := by decide +kernel
theorem dX8_note_57 : decode cX8_note 57 = .ok (.getfield 97, 3) := by decide +kernel
theorem dX8_note_60 : decode cX8_note 60 = .ok (.iload_n 1, 1) := by decide +kernel
theorem dX8_note_61 : decode cX8_note 61 = .ok (.iload_n 2, 1) := by decide +kernel
theorem dX8_note_62 : decode cX8_note 62 = .ok (.iload_n 3, 1) := by decide +kernel
theorem dX8_note_63 : decode cX8_note 63 = .ok (.invokevirtual 240, 3) := by decide +kernel
theorem dX8_note_66 : decode cX8_note 66 = .ok (.ifCond .eq 16, 3) := by decide +kernel
theorem dX8_note_69 : decode cX8_note 69 = .ok (.aload_n 0, 1) := by decide +kernel
theorem dX8_note_70 : decode cX8_note 70 = .ok (.getfield 29, 3) := by decide +kernel
theorem dX8_note_73 : decode cX8_note 73 = .ok (.getfield 97, 3) := by decide +kernel
theorem dX8_note_76 : decode cX8_note 76 = .ok (.getfield 244, 3) := by decide +kernel
theorem dX8_note_79 : decode cX8_note 79 = .ok (.goto 5, 3) := by decide +kernel
theorem dX8_note_82 : decode cX8_note 82 = .ok (.bipush (-2), 2) := by decide +kernel
theorem dX8_note_84 : decode cX8_note 84 = .ok (.ireturn, 1) := by decide +kernel
theorem dX8_notesHold_0 : decode cX8_notesHold 0 = .ok (.aload_n 0, 1) := by decide +kernel
theorem dX8_notesHold_1 : decode cX8_notesHold 1 = .ok (.getfield 29, 3) := by decide +kernel
theorem dX8_notesHold_4 : decode cX8_notesHold 4 = .ok (.getfield 97, 3) := by decide +kernel
theorem dX8_notesHold_7 : decode cX8_notesHold 7 = .ok (.astore 4, 2) := by decide +kernel
theorem dX8_notesHold_9 : decode cX8_notesHold 9 = .ok (.aload 4, 2) := by decide +kernel
theorem dX8_notesHold_11 : decode cX8_notesHold 11 = .ok (.invokevirtual 282, 3) := by decide +kernel
theorem dX8_notesHold_14 : decode cX8_notesHold 14 = .ok (.bipush 60, 2) := by decide +kernel
theorem dX8_notesHold_16 : decode cX8_notesHold 16 = .ok (.invokestatic 285, 3) := by decide +kernel
theorem dX8_notesHold_19 : decode cX8_notesHold 19 = .ok (.istore 5, 2) := by decide +kernel
theorem dX8_notesHold_21 : decode cX8_notesHold 21 = .ok (.aload_n 0, 1) := by decide +kernel
theorem dX8_notesHold_22 : decode cX8_notesHold 22 = .ok (.invokevirtual 270, 3) := by decide +kernel
theorem dX8_notesHold_25 : decode cX8_notesHold 25 = .ok (.aload_n 0, 1) := by decide +kernel
theorem dX8_notesHold_26 : decode cX8_notesHold 26 = .ok (.getfield 44, 3) := by decide +kernel
theorem dX8_notesHold_29 : decode cX8_notesHold 29 = .ok (.iload_n 2, 1) := by decide +kernel
theorem dX8_notesHold_30 : decode cX8_notesHold 30 = .ok (.invokevirtual 122, 3) := by decide +kernel
theorem dX8_notesHold_33 : decode cX8_notesHold 33 = .ok (.ifCond .eq 24, 3) := by decide +kernel
theorem dX8_notesHold_36 : decode cX8_notesHold 36 = .ok (.aload_n 0, 1) := by decide +kernel
theorem dX8_notesHold_37 : decode cX8_notesHold 37 = .ok (.getfield 44, 3) := by decide +kernel
theorem dX8_notesHold_40 : decode cX8_notesHold 40 = .ok (.iload_n 3, 1) := by decide +kernel
theorem dX8_notesHold_41 : decode cX8_notesHold 41 = .ok (.invokevirtual 115, 3) := by decide +kernel
theorem dX8_notesHold_44 : decode cX8_notesHold 44 = .ok (.ifCond .eq 13, 3) := by decide +kernel
theorem dX8_notesHold_47 : decode cX8_notesHold 47 = .ok (.aload_n 0, 1) := by decide +kernel
theorem dX8_notesHold_48 : decode cX8_notesHold 48 = .ok (.getfield 44, 3) := by decide +kernel
theorem dX8_notesHold_51 : decode cX8_notesHold 51 = .ok (.getfield 128, 3) := by decide +kernel
theorem dX8_notesHold_54 : decode cX8_notesHold 54 = .ok (.iload_n 2, 1) := by decide +kernel
theorem dX8_notesHold_55 : decode cX8_notesHold 55 = .ok (.iload_n 3, 1) := by decide +kernel
theorem dX8_notesHold_56 : decode cX8_notesHold 56 = .ok (.iastore, 1) := by decide +kernel
theorem dX8_notesHold_57 : decode cX8_notesHold 57 = .ok (.iconst 0, 1) := by decide +kernel
theorem dX8_notesHold_58 : decode cX8_notesHold 58 = .ok (.istore 6, 2) := by decide +kernel
theorem dX8_notesHold_60 : decode cX8_notesHold 60 = .ok (.iload 6, 2) := by decide +kernel
theorem dX8_notesHold_62 : decode cX8_notesHold 62 = .ok (.iload 5, 2) := by decide +kernel
theorem dX8_notesHold_64 : decode cX8_notesHold 64 = .ok (.if_icmp .gt 34, 3) := by decide +kernel
theorem dX8_notesHold_67 : decode cX8_notesHold 67 = .ok (.aload 4, 2) := by decide +kernel
theorem dX8_notesHold_69 : decode cX8_notesHold 69 = .ok (.iload 6, 2) := by decide +kernel
theorem dX8_notesHold_71 : decode cX8_notesHold 71 = .ok (.aload_n 0, 1) := by decide +kernel
theorem dX8_notesHold_72 : decode cX8_notesHold 72 = .ok (.getfield 44, 3) := by decide +kernel
theorem dX8_notesHold_75 : decode cX8_notesHold 75 = .ok (.invokevirtual 288, 3) := by decide +kernel
theorem dX8_notesHold_78 : decode cX8_notesHold 78 = .ok (.ifCond .ne 5, 3) := by decide +kernel
theorem dX8_notesHold_81 : decode cX8_notesHold 81 = .ok (.iconst 0, 1) := by decide +kernel
theorem dX8_notesHold_82 : decode cX8_notesHold 82 = .ok (.ireturn, 1) := by decide +kernel
theorem dX8_notesHold_83 : decode cX8_notesHold 83 = .ok (.aload_n 0, 1) := by decide +kernel
theorem dX8_notesHold_84 : decode cX8_notesHold 84 = .ok (.getfield 44, 3) := by decide +kernel
theorem dX8_notesHold_87 : decode cX8_notesHold 87 = .ok (.aload_n 1, 1) := by decide +kernel
theorem dX8_notesHold_88 : decode cX8_notesHold 88 = .ok (.invokevirtual 164, 3) := by decide +kernel
theorem dX8_notesHold_91 : decode cX8_notesHold 91 = .ok (.pop, 1) := by decide +kernel
theorem dX8_notesHold_92 : decode cX8_notesHold 92 = .ok (.iinc 6 1, 3) := by decide +kernel
theorem dX8_notesHold_95 : decode cX8_notesHold 95 = .ok (.goto (-35), 3) := by decide +kernel
theorem dX8_notesHold_98 : decode cX8_notesHold 98 = .ok (.iconst 1, 1) := by decide +kernel
theorem dX8_notesHold_99 : decode cX8_notesHold 99 = .ok (.ireturn, 1) := by decide +kernel
theorem dX8_playToasts_0 : decode cX8_playToasts 0 = .ok (.aload_n 0, 1) := by decide +kernel
theorem dX8_playToasts_1 : decode cX8_playToasts 1 = .ok (.invokevirtual 160, 3) := by decide +kernel
theorem dX8_playToasts_4 : decode cX8_playToasts 4 = .ok (.astore 4, 2) := by decide +kernel
theorem dX8_playToasts_6 : decode cX8_playToasts 6 = .ok (.iload_n 3, 1) := by decide +kernel
theorem dX8_playToasts_7 : decode cX8_playToasts 7 = .ok (.istore 5, 2) := by decide +kernel
theorem dX8_playToasts_9 : decode cX8_playToasts 9 = .ok (.aload_n 0, 1) := by decide +kernel
theorem dX8_playToasts_10 : decode cX8_playToasts 10 = .ok (.getfield 44, 3) := by decide +kernel
theorem dX8_playToasts_13 : decode cX8_playToasts 13 = .ok (.aload_n 0, 1) := by decide +kernel
theorem dX8_playToasts_14 : decode cX8_playToasts 14 = .ok (.getfield 29, 3) := by decide +kernel
theorem dX8_playToasts_17 : decode cX8_playToasts 17 = .ok (.getfield 81, 3) := by decide +kernel
theorem dX8_playToasts_20 : decode cX8_playToasts 20 = .ok (.invokevirtual 84, 3) := by decide +kernel
theorem dX8_playToasts_23 : decode cX8_playToasts 23 = .ok (.iconst 0, 1) := by decide +kernel
theorem dX8_playToasts_24 : decode cX8_playToasts 24 = .ok (.istore 6, 2) := by decide +kernel
theorem dX8_playToasts_26 : decode cX8_playToasts 26 = .ok (.iload 6, 2) := by decide +kernel
theorem dX8_playToasts_28 : decode cX8_playToasts 28 = .ok (.iload_n 1, 1) := by decide +kernel
theorem dX8_playToasts_29 : decode cX8_playToasts 29 = .ok (.if_icmp .ge 75, 3) := by decide +kernel
theorem dX8_playToasts_32 : decode cX8_playToasts 32 = .ok (.iload 5, 2) := by decide +kernel
theorem dX8_playToasts_34 : decode cX8_playToasts 34 = .ok (.invokestatic 299, 3) := by decide +kernel
theorem dX8_playToasts_37 : decode cX8_playToasts 37 = .ok (.istore 5, 2) := by decide +kernel
theorem dX8_playToasts_39 : decode cX8_playToasts 39 = .ok (.iload 5, 2) := by decide +kernel
theorem dX8_playToasts_41 : decode cX8_playToasts 41 = .ok (.invokestatic 302, 3) := by decide +kernel
theorem dX8_playToasts_44 : decode cX8_playToasts 44 = .ok (.bipush 100, 2) := by decide +kernel
theorem dX8_playToasts_46 : decode cX8_playToasts 46 = .ok (.irem, 1) := by decide +kernel
theorem dX8_playToasts_47 : decode cX8_playToasts 47 = .ok (.iload_n 2, 1) := by decide +kernel
theorem dX8_playToasts_48 : decode cX8_playToasts 48 = .ok (.if_icmp .ge 40, 3) := by decide +kernel
theorem dX8_playToasts_51 : decode cX8_playToasts 51 = .ok (.aload_n 0, 1) := by decide +kernel
theorem dX8_playToasts_52 : decode cX8_playToasts 52 = .ok (.getfield 44, 3) := by decide +kernel
theorem dX8_playToasts_55 : decode cX8_playToasts 55 = .ok (.getfield 104, 3) := by decide +kernel
theorem dX8_playToasts_58 : decode cX8_playToasts 58 = .ok (.ifCond .le 30, 3) := by decide +kernel
theorem dX8_playToasts_61 : decode cX8_playToasts 61 = .ok (.iload 5, 2) := by decide +kernel
theorem dX8_playToasts_63 : decode cX8_playToasts 63 = .ok (.invokestatic 299, 3) := by decide +kernel
theorem dX8_playToasts_66 : decode cX8_playToasts 66 = .ok (.istore 5, 2) := by decide +kernel
theorem dX8_playToasts_68 : decode cX8_playToasts 68 = .ok (.aload_n 0, 1) := by decide +kernel
theorem dX8_playToasts_69 : decode cX8_playToasts 69 = .ok (.getfield 44, 3) := by decide +kernel
theorem dX8_playToasts_72 : decode cX8_playToasts 72 = .ok (.iload 5, 2) := by decide +kernel
theorem dX8_playToasts_74 : decode cX8_playToasts 74 = .ok (.invokestatic 302, 3) := by decide +kernel
theorem dX8_playToasts_77 : decode cX8_playToasts 77 = .ok (.aload_n 0, 1) := by decide +kernel
theorem dX8_playToasts_78 : decode cX8_playToasts 78 = .ok (.getfield 44, 3) := by decide +kernel
theorem dX8_playToasts_81 : decode cX8_playToasts 81 = .ok (.getfield 104, 3) := by decide +kernel
theorem dX8_playToasts_84 : decode cX8_playToasts 84 = .ok (.irem, 1) := by decide +kernel
theorem dX8_playToasts_85 : decode cX8_playToasts 85 = .ok (.invokevirtual 305, 3) := by decide +kernel
theorem dX8_playToasts_88 : decode cX8_playToasts 88 = .ok (.aload_n 0, 1) := by decide +kernel
theorem dX8_playToasts_89 : decode cX8_playToasts 89 = .ok (.getfield 44, 3) := by decide +kernel
theorem dX8_playToasts_92 : decode cX8_playToasts 92 = .ok (.aload 4, 2) := by decide +kernel
theorem dX8_playToasts_94 : decode cX8_playToasts 94 = .ok (.invokevirtual 164, 3) := by decide +kernel
theorem dX8_playToasts_97 : decode cX8_playToasts 97 = .ok (.pop, 1) := by decide +kernel
theorem dX8_playToasts_98 : decode cX8_playToasts 98 = .ok (.iinc 6 1, 3) := by decide +kernel
theorem dX8_playToasts_101 : decode cX8_playToasts 101 = .ok (.goto (-75), 3) := by decide +kernel
theorem dX8_playToasts_104 : decode cX8_playToasts 104 = .ok (.iload 5, 2) := by decide +kernel
theorem dX8_playToasts_106 : decode cX8_playToasts 106 = .ok (.ireturn, 1) := by decide +kernel
theorem dX8_playTwo_0 : decode cX8_playTwo 0 = .ok (.aload_n 0, 1) := by decide +kernel
theorem dX8_playTwo_1 : decode cX8_playTwo 1 = .ok (.invokevirtual 160, 3) := by decide +kernel
theorem dX8_playTwo_4 : decode cX8_playTwo 4 = .ok (.astore 5, 2) := by decide +kernel
theorem dX8_playTwo_6 : decode cX8_playTwo 6 = .ok (.iconst 0, 1) := by decide +kernel
theorem dX8_playTwo_7 : decode cX8_playTwo 7 = .ok (.istore 6, 2) := by decide +kernel
theorem dX8_playTwo_9 : decode cX8_playTwo 9 = .ok (.iconst 0, 1) := by decide +kernel
theorem dX8_playTwo_10 : decode cX8_playTwo 10 = .ok (.istore 7, 2) := by decide +kernel
theorem dX8_playTwo_12 : decode cX8_playTwo 12 = .ok (.aload_n 0, 1) := by decide +kernel
theorem dX8_playTwo_13 : decode cX8_playTwo 13 = .ok (.getfield 44, 3) := by decide +kernel
theorem dX8_playTwo_16 : decode cX8_playTwo 16 = .ok (.aload_n 0, 1) := by decide +kernel
theorem dX8_playTwo_17 : decode cX8_playTwo 17 = .ok (.getfield 29, 3) := by decide +kernel
theorem dX8_playTwo_20 : decode cX8_playTwo 20 = .ok (.getfield 81, 3) := by decide +kernel
theorem dX8_playTwo_23 : decode cX8_playTwo 23 = .ok (.invokevirtual 84, 3) := by decide +kernel
theorem dX8_playTwo_26 : decode cX8_playTwo 26 = .ok (.aload_n 0, 1) := by decide +kernel
theorem dX8_playTwo_27 : decode cX8_playTwo 27 = .ok (.getfield 44, 3) := by decide +kernel
theorem dX8_playTwo_30 : decode cX8_playTwo 30 = .ok (.iconst 1, 1) := by decide +kernel
theorem dX8_playTwo_31 : decode cX8_playTwo 31 = .ok (.iload_n 1, 1) := by decide +kernel
theorem dX8_playTwo_32 : decode cX8_playTwo 32 = .ok (.ishl, 1) := by decide +kernel
theorem dX8_playTwo_33 : decode cX8_playTwo 33 = .ok (.iconst 1, 1) := by decide +kernel
theorem dX8_playTwo_34 : decode cX8_playTwo 34 = .ok (.iload_n 2, 1) := by decide +kernel
theorem dX8_playTwo_35 : decode cX8_playTwo 35 = .ok (.ishl, 1) := by decide +kernel
theorem dX8_playTwo_36 : decode cX8_playTwo 36 = .ok (.ior, 1) := by decide +kernel
theorem dX8_playTwo_37 : decode cX8_playTwo 37 = .ok (.putfield 231, 3) := by decide +kernel
theorem dX8_playTwo_40 : decode cX8_playTwo 40 = .ok (.aload_n 0, 1) := by decide +kernel
theorem dX8_playTwo_41 : decode cX8_playTwo 41 = .ok (.getfield 44, 3) := by decide +kernel
theorem dX8_playTwo_44 : decode cX8_playTwo 44 = .ok (.iload 4, 2) := by decide +kernel
theorem dX8_playTwo_46 : decode cX8_playTwo 46 = .ok (.iconst 1, 1) := by decide +kernel
theorem dX8_playTwo_47 : decode cX8_playTwo 47 = .ok (.ishr, 1) := by decide +kernel
theorem dX8_playTwo_48 : decode cX8_playTwo 48 = .ok (.iload_n 1, 1) := by decide +kernel
theorem dX8_playTwo_49 : decode cX8_playTwo 49 = .ok (.ishl, 1) := by decide +kernel
theorem dX8_playTwo_50 : decode cX8_playTwo 50 = .ok (.iload 4, 2) := by decide +kernel
theorem dX8_playTwo_52 : decode cX8_playTwo 52 = .ok (.iconst 1, 1) := by decide +kernel
theorem dX8_playTwo_53 : decode cX8_playTwo 53 = .ok (.iand, 1) := by decide +kernel
theorem dX8_playTwo_54 : decode cX8_playTwo 54 = .ok (.iload_n 2, 1) := by decide +kernel
theorem dX8_playTwo_55 : decode cX8_playTwo 55 = .ok (.ishl, 1) := by decide +kernel
theorem dX8_playTwo_56 : decode cX8_playTwo 56 = .ok (.ior, 1) := by decide +kernel
theorem dX8_playTwo_57 : decode cX8_playTwo 57 = .ok (.putfield 234, 3) := by decide +kernel
theorem dX8_playTwo_60 : decode cX8_playTwo 60 = .ok (.iconst 0, 1) := by decide +kernel
theorem dX8_playTwo_61 : decode cX8_playTwo 61 = .ok (.istore 8, 2) := by decide +kernel
theorem dX8_playTwo_63 : decode cX8_playTwo 63 = .ok (.iload 8, 2) := by decide +kernel
theorem dX8_playTwo_65 : decode cX8_playTwo 65 = .ok (.iload_n 3, 1) := by decide +kernel
theorem dX8_playTwo_66 : decode cX8_playTwo 66 = .ok (.if_icmp .ge 45, 3) := by decide +kernel
theorem dX8_playTwo_69 : decode cX8_playTwo 69 = .ok (.aload_n 0, 1) := by decide +kernel
theorem dX8_playTwo_70 : decode cX8_playTwo 70 = .ok (.getfield 44, 3) := by decide +kernel
theorem dX8_playTwo_73 : decode cX8_playTwo 73 = .ok (.aload 5, 2) := by decide +kernel
theorem dX8_playTwo_75 : decode cX8_playTwo 75 = .ok (.invokevirtual 164, 3) := by decide +kernel
theorem dX8_playTwo_78 : decode cX8_playTwo 78 = .ok (.pop, 1) := by decide +kernel
theorem dX8_playTwo_79 : decode cX8_playTwo 79 = .ok (.iload 6, 2) := by decide +kernel
theorem dX8_playTwo_81 : decode cX8_playTwo 81 = .ok (.aload_n 0, 1) := by decide +kernel
theorem dX8_playTwo_82 : decode cX8_playTwo 82 = .ok (.getfield 44, 3) := by decide +kernel
theorem dX8_playTwo_85 : decode cX8_playTwo 85 = .ok (.iload_n 1, 1) := by decide +kernel
theorem dX8_playTwo_86 : decode cX8_playTwo 86 = .ok (.invokevirtual 237, 3) := by decide +kernel
theorem dX8_playTwo_89 : decode cX8_playTwo 89 = .ok (.iadd, 1) := by decide +kernel
theorem dX8_playTwo_90 : decode cX8_playTwo 90 = .ok (.istore 6, 2) := by decide +kernel
theorem dX8_playTwo_92 : decode cX8_playTwo 92 = .ok (.iload 7, 2) := by decide +kernel
theorem dX8_playTwo_94 : decode cX8_playTwo 94 = .ok (.aload_n 0, 1) := by decide +kernel
theorem dX8_playTwo_95 : decode cX8_playTwo 95 = .ok (.getfield 44, 3) := by decide +kernel
theorem dX8_playTwo_98 : decode cX8_playTwo 98 = .ok (.iload_n 2, 1) := by decide +kernel
theorem dX8_playTwo_99 : decode cX8_playTwo 99 = .ok (.invokevirtual 237, 3) := by decide +kernel
theorem dX8_playTwo_102 : decode cX8_playTwo 102 = .ok (.iadd, 1) := by decide +kernel
theorem dX8_playTwo_103 : decode cX8_playTwo 103 = .ok (.istore 7, 2) := by decide +kernel
theorem dX8_playTwo_105 : decode cX8_playTwo 105 = .ok (.iinc 8 1, 3) := by decide +kernel
theorem dX8_playTwo_108 : decode cX8_playTwo 108 = .ok (.goto (-45), 3) := by decide +kernel
theorem dX8_playTwo_111 : decode cX8_playTwo 111 = .ok (.aload_n 0, 1) := by decide +kernel
theorem dX8_playTwo_112 : decode cX8_playTwo 112 = .ok (.getfield 51, 3) := by decide +kernel
theorem dX8_playTwo_115 : decode cX8_playTwo 115 = .ok (.iload 4, 2) := by decide +kernel
theorem dX8_playTwo_117 : decode cX8_playTwo 117 = .ok (.aload_n 0, 1) := by decide +kernel
theorem dX8_playTwo_118 : decode cX8_playTwo 118 = .ok (.getfield 44, 3) := by decide +kernel
theorem dX8_playTwo_121 : decode cX8_playTwo 121 = .ok (.iload_n 1, 1) := by decide +kernel
theorem dX8_playTwo_122 : decode cX8_playTwo 122 = .ok (.invokevirtual 147, 3) := by decide +kernel
theorem dX8_playTwo_125 : decode cX8_playTwo 125 = .ok (.iconst 2, 1) := by decide +kernel
theorem dX8_playTwo_126 : decode cX8_playTwo 126 = .ok (.if_icmp .ne 11, 3) := by decide +kernel
theorem dX8_playTwo_129 : decode cX8_playTwo 129 = .ok (.iload 6, 2) := by decide +kernel
theorem dX8_playTwo_131 : decode cX8_playTwo 131 = .ok (.bipush 10, 2) := by decide +kernel
theorem dX8_playTwo_133 : decode cX8_playTwo 133 = .ok (.isub, 1) := by decide +kernel
theorem dX8_playTwo_134 : decode cX8_playTwo 134 = .ok (.goto 5, 3) := by decide +kernel
theorem dX8_playTwo_137 : decode cX8_playTwo 137 = .ok (.iload 6, 2) := by decide +kernel
theorem dX8_playTwo_139 : decode cX8_playTwo 139 = .ok (.iastore, 1) := by decide +kernel
theorem dX8_playTwo_140 : decode cX8_playTwo 140 = .ok (.aload_n 0, 1) := by decide +kernel
theorem dX8_playTwo_141 : decode cX8_playTwo 141 = .ok (.getfield 55, 3) := by decide +kernel
theorem dX8_playTwo_144 : decode cX8_playTwo 144 = .ok (.iload 4, 2) := by decide +kernel
theorem dX8_playTwo_146 : decode cX8_playTwo 146 = .ok (.aload_n 0, 1) := by decide +kernel
theorem dX8_playTwo_147 : decode cX8_playTwo 147 = .ok (.getfield 44, 3) := by decide +kernel
theorem dX8_playTwo_150 : decode cX8_playTwo 150 = .ok (.iload_n 2, 1) := by decide +kernel
theorem dX8_playTwo_151 : decode cX8_playTwo 151 = .ok (.invokevirtual 147, 3) := by decide +kernel
theorem dX8_playTwo_154 : decode cX8_playTwo 154 = .ok (.iconst 2, 1) := by decide +kernel
theorem dX8_playTwo_155 : decode cX8_playTwo 155 = .ok (.if_icmp .ne 11, 3) := by decide +kernel
theorem dX8_playTwo_158 : decode cX8_playTwo 158 = .ok (.iload 7, 2) := by decide +kernel
theorem dX8_playTwo_160 : decode cX8_playTwo 160 = .ok (.bipush 10, 2) := by decide +kernel
theorem dX8_playTwo_162 : decode cX8_playTwo 162 = .ok (.isub, 1) := by decide +kernel
theorem dX8_playTwo_163 : decode cX8_playTwo 163 = .ok (.goto 5, 3) := by decide +kernel
theorem dX8_playTwo_166 : decode cX8_playTwo 166 = .ok (.iload 7, 2) := by decide +kernel
theorem dX8_playTwo_168 : decode cX8_playTwo 168 = .ok (.iastore, 1) := by decide +kernel
theorem dX8_playTwo_169 : decode cX8_playTwo 169 = .ok (.return_, 1) := by decide +kernel
theorem dX8_rests_0 : decode cX8_rests 0 = .ok (.aload_n 0, 1) := by decide +kernel
theorem dX8_rests_1 : decode cX8_rests 1 = .ok (.getfield 29, 3) := by decide +kernel
theorem dX8_rests_4 : decode cX8_rests 4 = .ok (.getfield 81, 3) := by decide +kernel
theorem dX8_rests_7 : decode cX8_rests 7 = .ok (.astore 5, 2) := by decide +kernel
theorem dX8_rests_9 : decode cX8_rests 9 = .ok (.aload 5, 2) := by decide +kernel
theorem dX8_rests_11 : decode cX8_rests 11 = .ok (.iload_n 1, 1) := by decide +kernel
theorem dX8_rests_12 : decode cX8_rests 12 = .ok (.invokevirtual 221, 3) := by decide +kernel
theorem dX8_rests_15 : decode cX8_rests 15 = .ok (.ifCond .eq 17, 3) := by decide +kernel
theorem dX8_rests_18 : decode cX8_rests 18 = .ok (.aload 5, 2) := by decide +kernel
theorem dX8_rests_20 : decode cX8_rests 20 = .ok (.iload_n 2, 1) := by decide +kernel
theorem dX8_rests_21 : decode cX8_rests 21 = .ok (.invokevirtual 221, 3) := by decide +kernel
theorem dX8_rests_24 : decode cX8_rests 24 = .ok (.ifCond .eq 8, 3) := by decide +kernel
theorem dX8_rests_27 : decode cX8_rests 27 = .ok (.iload_n 1, 1) := by decide +kernel
theorem dX8_rests_28 : decode cX8_rests 28 = .ok (.iload_n 2, 1) := by decide +kernel
theorem dX8_rests_29 : decode cX8_rests 29 = .ok (.if_icmp .ne 5, 3) := by decide +kernel
theorem dX8_rests_32 : decode cX8_rests 32 = .ok (.iconst (-1), 1) := by decide +kernel
theorem dX8_rests_33 : decode cX8_rests 33 = .ok (.ireturn, 1) := by decide +kernel
theorem dX8_rests_34 : decode cX8_rests 34 = .ok (.iload_n 3, 1) := by decide +kernel
theorem dX8_rests_35 : decode cX8_rests 35 = .ok (.iconst 1, 1) := by decide +kernel
theorem dX8_rests_36 : decode cX8_rests 36 = .ok (.if_icmp .lt 20, 3) := by decide +kernel
theorem dX8_rests_39 : decode cX8_rests 39 = .ok (.iload_n 3, 1) := by decide +kernel
theorem dX8_rests_40 : decode cX8_rests 40 = .ok (.bipush 20, 2) := by decide +kernel
theorem dX8_rests_42 : decode cX8_rests 42 = .ok (.if_icmp .gt 14, 3) := by decide +kernel
theorem dX8_rests_45 : decode cX8_rests 45 = .ok (.iload 4, 2) := by decide +kernel
theorem dX8_rests_47 : decode cX8_rests 47 = .ok (.ifCond .lt 9, 3) := by decide +kernel
theorem dX8_rests_50 : decode cX8_rests 50 = .ok (.iload 4, 2) := by decide +kernel
theorem dX8_rests_52 : decode cX8_rests 52 = .ok (.iconst 2, 1) := by decide +kernel
theorem dX8_rests_53 : decode cX8_rests 53 = .ok (.if_icmp .le 5, 3) := by decide +kernel
theorem dX8_rests_56 : decode cX8_rests 56 = .ok (.iconst (-1), 1) := by decide +kernel
theorem dX8_rests_57 : decode cX8_rests 57 = .ok (.ireturn, 1) := by decide +kernel
theorem dX8_rests_58 : decode cX8_rests 58 = .ok (.iconst 0, 1) := by decide +kernel
theorem dX8_rests_59 : decode cX8_rests 59 = .ok (.istore 6, 2) := by decide +kernel
theorem dX8_rests_61 : decode cX8_rests 61 = .ok (.iload 6, 2) := by decide +kernel
theorem dX8_rests_63 : decode cX8_rests 63 = .ok (.iconst 4, 1) := by decide +kernel
theorem dX8_rests_64 : decode cX8_rests 64 = .ok (.if_icmp .ge 18, 3) := by decide +kernel
theorem dX8_rests_67 : decode cX8_rests 67 = .ok (.aload_n 0, 1) := by decide +kernel
theorem dX8_rests_68 : decode cX8_rests 68 = .ok (.iload_n 1, 1) := by decide +kernel
theorem dX8_rests_69 : decode cX8_rests 69 = .ok (.iload_n 2, 1) := by decide +kernel
theorem dX8_rests_70 : decode cX8_rests 70 = .ok (.iload_n 3, 1) := by decide +kernel
theorem dX8_rests_71 : decode cX8_rests 71 = .ok (.iload 6, 2) := by decide +kernel
theorem dX8_rests_73 : decode cX8_rests 73 = .ok (.invokevirtual 227, 3) := by decide +kernel
theorem dX8_rests_76 : decode cX8_rests 76 = .ok (.iinc 6 1, 3) := by decide +kernel
theorem dX8_rests_79 : decode cX8_rests 79 = .ok (.goto (-18), 3) := by decide +kernel
theorem dX8_rests_82 : decode cX8_rests 82 = .ok (.iconst 0, 1) := by decide +kernel
theorem dX8_rests_83 : decode cX8_rests 83 = .ok (.istore 6, 2) := by decide +kernel
theorem dX8_rests_85 : decode cX8_rests 85 = .ok (.iconst (-1), 1) := by decide +kernel
theorem dX8_rests_86 : decode cX8_rests 86 = .ok (.istore 7, 2) := by decide +kernel
theorem dX8_rests_88 : decode cX8_rests 88 = .ok (.iconst 3, 1) := by decide +kernel
theorem dX8_rests_89 : decode cX8_rests 89 = .ok (.istore 8, 2) := by decide +kernel
theorem dX8_rests_91 : decode cX8_rests 91 = .ok (.iload 8, 2) := by decide +kernel
theorem dX8_rests_93 : decode cX8_rests 93 = .ok (.ifCond .lt 54, 3) := by decide +kernel
theorem dX8_rests_96 : decode cX8_rests 96 = .ok (.aload_n 0, 1) := by decide +kernel
theorem dX8_rests_97 : decode cX8_rests 97 = .ok (.getfield 51, 3) := by decide +kernel
theorem dX8_rests_100 : decode cX8_rests 100 = .ok (.iload 8, 2) := by decide +kernel
theorem dX8_rests_102 : decode cX8_rests 102 = .ok (.iaload, 1) := by decide +kernel
theorem dX8_rests_103 : decode cX8_rests 103 = .ok (.aload_n 0, 1) := by decide +kernel
theorem dX8_rests_104 : decode cX8_rests 104 = .ok (.getfield 51, 3) := by decide +kernel
theorem dX8_rests_107 : decode cX8_rests 107 = .ok (.iload 8, 2) := by decide +kernel
theorem dX8_rests_109 : decode cX8_rests 109 = .ok (.iconst 2, 1) := by decide +kernel
theorem dX8_rests_110 : decode cX8_rests 110 = .ok (.ixor, 1) := by decide +kernel
theorem dX8_rests_111 : decode cX8_rests 111 = .ok (.iaload, 1) := by decide +kernel
theorem dX8_rests_112 : decode cX8_rests 112 = .ok (.if_icmp .lt 29, 3) := by decide +kernel
theorem dX8_rests_115 : decode cX8_rests 115 = .ok (.aload_n 0, 1) := by decide +kernel
theorem dX8_rests_116 : decode cX8_rests 116 = .ok (.getfield 55, 3) := by decide +kernel
theorem dX8_rests_119 : decode cX8_rests 119 = .ok (.iload 8, 2) := by decide +kernel
theorem dX8_rests_121 : decode cX8_rests 121 = .ok (.iaload, 1) := by decide +kernel
theorem dX8_rests_122 : decode cX8_rests 122 = .ok (.aload_n 0, 1) := by decide +kernel
theorem dX8_rests_123 : decode cX8_rests 123 = .ok (.getfield 55, 3) := by decide +kernel
theorem dX8_rests_126 : decode cX8_rests 126 = .ok (.iload 8, 2) := by decide +kernel
theorem dX8_rests_128 : decode cX8_rests 128 = .ok (.iconst 1, 1) := by decide +kernel
theorem dX8_rests_129 : decode cX8_rests 129 = .ok (.ixor, 1) := by decide +kernel
theorem dX8_rests_130 : decode cX8_rests 130 = .ok (.iaload, 1) := by decide +kernel
theorem dX8_rests_131 : decode cX8_rests 131 = .ok (.if_icmp .lt 10, 3) := by decide +kernel
theorem dX8_rests_134 : decode cX8_rests 134 = .ok (.iinc 6 1, 3) := by decide +kernel
theorem dX8_rests_137 : decode cX8_rests 137 = .ok (.iload 8, 2) := by decide +kernel
theorem dX8_rests_139 : decode cX8_rests 139 = .ok (.istore 7, 2) := by decide +kernel
theorem dX8_rests_141 : decode cX8_rests 141 = .ok (.iinc 8 (-1), 3) := by decide +kernel
theorem dX8_rests_144 : decode cX8_rests 144 = .ok (.goto (-53), 3) := by decide +kernel
theorem dX8_rests_147 : decode cX8_rests 147 = .ok (.iload 4, 2) := by decide +kernel
theorem dX8_rests_149 : decode cX8_rests 149 = .ok (.ifCond .ne 6, 3) := by decide +kernel
theorem dX8_rests_152 : decode cX8_rests 152 = .ok (.iload 6, 2) := by decide +kernel
theorem dX8_rests_154 : decode cX8_rests 154 = .ok (.ireturn, 1) := by decide +kernel
theorem dX8_rests_155 : decode cX8_rests 155 = .ok (.iload 7, 2) := by decide +kernel
theorem dX8_rests_157 : decode cX8_rests 157 = .ok (.iconst (-1), 1) := by decide +kernel
theorem dX8_rests_158 : decode cX8_rests 158 = .ok (.if_icmp .ne 6, 3) := by decide +kernel
theorem dX8_rests_161 : decode cX8_rests 161 = .ok (.bipush (-2), 2) := by decide +kernel
theorem dX8_rests_163 : decode cX8_rests 163 = .ok (.ireturn, 1) := by decide +kernel
theorem dX8_rests_164 : decode cX8_rests 164 = .ok (.iload 4, 2) := by decide +kernel
theorem dX8_rests_166 : decode cX8_rests 166 = .ok (.iconst 1, 1) := by decide +kernel
theorem dX8_rests_167 : decode cX8_rests 167 = .ok (.if_icmp .ne 10, 3) := by decide +kernel
theorem dX8_rests_170 : decode cX8_rests 170 = .ok (.iload 7, 2) := by decide +kernel
theorem dX8_rests_172 : decode cX8_rests 172 = .ok (.iconst 1, 1) := by decide +kernel
theorem dX8_rests_173 : decode cX8_rests 173 = .ok (.ishr, 1) := by decide +kernel
theorem dX8_rests_174 : decode cX8_rests 174 = .ok (.goto 7, 3) := by decide +kernel
theorem dX8_rests_177 : decode cX8_rests 177 = .ok (.iload 7, 2) := by decide +kernel
theorem dX8_rests_179 : decode cX8_rests 179 = .ok (.iconst 1, 1) := by decide +kernel
theorem dX8_rests_180 : decode cX8_rests 180 = .ok (.iand, 1) := by decide +kernel
theorem dX8_rests_181 : decode cX8_rests 181 = .ok (.ireturn, 1) := by decide +kernel
theorem dX8_ruled_0 : decode cX8_ruled 0 = .ok (.aload_n 0, 1) := by decide +kernel
theorem dX8_ruled_1 : decode cX8_ruled 1 = .ok (.getfield 29, 3) := by decide +kernel
theorem dX8_ruled_4 : decode cX8_ruled 4 = .ok (.getfield 81, 3) := by decide +kernel
theorem dX8_ruled_7 : decode cX8_ruled 7 = .ok (.getfield 150, 3) := by decide +kernel
theorem dX8_ruled_10 : decode cX8_ruled 10 = .ok (.ifCond .eq 12, 3) := by decide +kernel
theorem dX8_ruled_13 : decode cX8_ruled 13 = .ok (.iload_n 1, 1) := by decide +kernel
theorem dX8_ruled_14 : decode cX8_ruled 14 = .ok (.ifCond .lt 8, 3) := by decide +kernel
theorem dX8_ruled_17 : decode cX8_ruled 17 = .ok (.iload_n 1, 1) := by decide +kernel
theorem dX8_ruled_18 : decode cX8_ruled 18 = .ok (.iconst 1, 1) := by decide +kernel
theorem dX8_ruled_19 : decode cX8_ruled 19 = .ok (.if_icmp .le 6, 3) := by decide +kernel
theorem dX8_ruled_22 : decode cX8_ruled 22 = .ok (.bipush (-3), 2) := by decide +kernel
theorem dX8_ruled_24 : decode cX8_ruled 24 = .ok (.ireturn, 1) := by decide +kernel
theorem dX8_ruled_25 : decode cX8_ruled 25 = .ok (.iconst 0, 1) := by decide +kernel
theorem dX8_ruled_26 : decode cX8_ruled 26 = .ok (.istore_n 2, 1) := by decide +kernel
theorem dX8_ruled_27 : decode cX8_ruled 27 = .ok (.bipush (-2), 2) := by decide +kernel
theorem dX8_ruled_29 : decode cX8_ruled 29 = .ok (.istore_n 3, 1) := by decide +kernel
theorem dX8_ruled_30 : decode cX8_ruled 30 = .ok (.aload_n 0, 1) := by decide +kernel
theorem dX8_ruled_31 : decode cX8_ruled 31 = .ok (.getfield 22, 3) := by decide +kernel
theorem dX8_ruled_34 : decode cX8_ruled 34 = .ok (.iconst 1, 1) := by decide +kernel
theorem dX8_ruled_35 : decode cX8_ruled 35 = .ok (.isub, 1) := by decide +kernel
theorem dX8_ruled_36 : decode cX8_ruled 36 = .ok (.istore 4, 2) := by decide +kernel
theorem dX8_ruled_38 : decode cX8_ruled 38 = .ok (.iload 4, 2) := by decide +kernel
theorem dX8_ruled_40 : decode cX8_ruled 40 = .ok (.iconst (-1), 1) := by decide +kernel
theorem dX8_ruled_41 : decode cX8_ruled 41 = .ok (.if_icmp .lt 30, 3) := by decide +kernel
theorem dX8_ruled_44 : decode cX8_ruled 44 = .ok (.aload_n 0, 1) := by decide +kernel
theorem dX8_ruled_45 : decode cX8_ruled 45 = .ok (.aload_n 0, 1) := by decide +kernel
theorem dX8_ruled_46 : decode cX8_ruled 46 = .ok (.iload 4, 2) := by decide +kernel
theorem dX8_ruled_48 : decode cX8_ruled 48 = .ok (.invokevirtual 254, 3) := by decide +kernel
theorem dX8_ruled_51 : decode cX8_ruled 51 = .ok (.iconst (-1), 1) := by decide +kernel
theorem dX8_ruled_52 : decode cX8_ruled 52 = .ok (.iconst (-1), 1) := by decide +kernel
theorem dX8_ruled_53 : decode cX8_ruled 53 = .ok (.invokevirtual 250, 3) := by decide +kernel
theorem dX8_ruled_56 : decode cX8_ruled 56 = .ok (.ifCond .eq 9, 3) := by decide +kernel
theorem dX8_ruled_59 : decode cX8_ruled 59 = .ok (.iinc 2 1, 3) := by decide +kernel
theorem dX8_ruled_62 : decode cX8_ruled 62 = .ok (.iload 4, 2) := by decide +kernel
theorem dX8_ruled_64 : decode cX8_ruled 64 = .ok (.istore_n 3, 1) := by decide +kernel
theorem dX8_ruled_65 : decode cX8_ruled 65 = .ok (.iinc 4 (-1), 3) := by decide +kernel
theorem dX8_ruled_68 : decode cX8_ruled 68 = .ok (.goto (-30), 3) := by decide +kernel
theorem dX8_ruled_71 : decode cX8_ruled 71 = .ok (.iload_n 1, 1) := by decide +kernel
theorem dX8_ruled_72 : decode cX8_ruled 72 = .ok (.ifCond .ne 7, 3) := by decide +kernel
theorem dX8_ruled_75 : decode cX8_ruled 75 = .ok (.iload_n 2, 1) := by decide +kernel
theorem dX8_ruled_76 : decode cX8_ruled 76 = .ok (.goto 4, 3) := by decide +kernel
theorem dX8_ruled_79 : decode cX8_ruled 79 = .ok (.iload_n 3, 1) := by decide +kernel
theorem dX8_ruled_80 : decode cX8_ruled 80 = .ok (.ireturn, 1) := by decide +kernel
theorem dX8_seed_0 : decode cX8_seed 0 = .ok (.iload_n 1, 1) := by decide +kernel
theorem dX8_seed_1 : decode cX8_seed 1 = .ok (.ifCond .ge 5, 3) := by decide +kernel
theorem dX8_seed_4 : decode cX8_seed 4 = .ok (.iconst (-1), 1) := by decide +kernel
theorem dX8_seed_5 : decode cX8_seed 5 = .ok (.ireturn, 1) := by decide +kernel
theorem dX8_seed_6 : decode cX8_seed 6 = .ok (.aload_n 0, 1) := by decide +kernel
theorem dX8_seed_7 : decode cX8_seed 7 = .ok (.getfield 29, 3) := by decide +kernel
theorem dX8_seed_10 : decode cX8_seed 10 = .ok (.getfield 292, 3) := by decide +kernel
theorem dX8_seed_13 : decode cX8_seed 13 = .ok (.istore_n 2, 1) := by decide +kernel
theorem dX8_seed_14 : decode cX8_seed 14 = .ok (.aload_n 0, 1) := by decide +kernel
theorem dX8_seed_15 : decode cX8_seed 15 = .ok (.getfield 29, 3) := by decide +kernel
theorem dX8_seed_18 : decode cX8_seed 18 = .ok (.iload_n 1, 1) := by decide +kernel
theorem dX8_seed_19 : decode cX8_seed 19 = .ok (.putfield 292, 3) := by decide +kernel
theorem dX8_seed_22 : decode cX8_seed 22 = .ok (.iload_n 2, 1) := by decide +kernel
theorem dX8_seed_23 : decode cX8_seed 23 = .ok (.ireturn, 1) := by decide +kernel
theorem dX8_strung_0 : decode cX8_strung 0 = .ok (.aload_n 0, 1) := by decide +kernel
theorem dX8_strung_1 : decode cX8_strung 1 = .ok (.getfield 29, 3) := by decide +kernel
theorem dX8_strung_4 : decode cX8_strung 4 = .ok (.getfield 81, 3) := by decide +kernel
theorem dX8_strung_7 : decode cX8_strung 7 = .ok (.astore_n 2, 1) := by decide +kernel
theorem dX8_strung_8 : decode cX8_strung 8 = .ok (.aload_n 2, 1) := by decide +kernel
theorem dX8_strung_9 : decode cX8_strung 9 = .ok (.iload_n 1, 1) := by decide +kernel
theorem dX8_strung_10 : decode cX8_strung 10 = .ok (.invokevirtual 122, 3) := by decide +kernel
theorem dX8_strung_13 : decode cX8_strung 13 = .ok (.ifCond .ne 5, 3) := by decide +kernel
theorem dX8_strung_16 : decode cX8_strung 16 = .ok (.iconst (-1), 1) := by decide +kernel
theorem dX8_strung_17 : decode cX8_strung 17 = .ok (.ireturn, 1) := by decide +kernel
theorem dX8_strung_18 : decode cX8_strung 18 = .ok (.iconst 0, 1) := by decide +kernel
theorem dX8_strung_19 : decode cX8_strung 19 = .ok (.istore_n 3, 1) := by decide +kernel
theorem dX8_strung_20 : decode cX8_strung 20 = .ok (.iconst 0, 1) := by decide +kernel
theorem dX8_strung_21 : decode cX8_strung 21 = .ok (.istore 4, 2) := by decide +kernel
theorem dX8_strung_23 : decode cX8_strung 23 = .ok (.iload 4, 2) := by decide +kernel
theorem dX8_strung_25 : decode cX8_strung 25 = .ok (.aload_n 2, 1) := by decide +kernel
theorem dX8_strung_26 : decode cX8_strung 26 = .ok (.getfield 247, 3) := by decide +kernel
theorem dX8_strung_29 : decode cX8_strung 29 = .ok (.if_icmp .ge 30, 3) := by decide +kernel
theorem dX8_strung_32 : decode cX8_strung 32 = .ok (.aload_n 0, 1) := by decide +kernel
theorem dX8_strung_33 : decode cX8_strung 33 = .ok (.aload_n 0, 1) := by decide +kernel
theorem dX8_strung_34 : decode cX8_strung 34 = .ok (.invokevirtual 160, 3) := by decide +kernel
theorem dX8_strung_37 : decode cX8_strung 37 = .ok (.iload_n 1, 1) := by decide +kernel
theorem dX8_strung_38 : decode cX8_strung 38 = .ok (.iload 4, 2) := by decide +kernel
theorem dX8_strung_40 : decode cX8_strung 40 = .ok (.invokevirtual 250, 3) := by decide +kernel
theorem dX8_strung_43 : decode cX8_strung 43 = .ok (.ifCond .eq 10, 3) := by decide +kernel
theorem dX8_strung_46 : decode cX8_strung 46 = .ok (.iload_n 3, 1) := by decide +kernel
theorem dX8_strung_47 : decode cX8_strung 47 = .ok (.iconst 1, 1) := by decide +kernel
theorem dX8_strung_48 : decode cX8_strung 48 = .ok (.iload 4, 2) := by decide +kernel
theorem dX8_strung_50 : decode cX8_strung 50 = .ok (.ishl, 1) := by decide +kernel
theorem dX8_strung_51 : decode cX8_strung 51 = .ok (.ior, 1) := by decide +kernel
theorem dX8_strung_52 : decode cX8_strung 52 = .ok (.istore_n 3, 1) := by decide +kernel
theorem dX8_strung_53 : decode cX8_strung 53 = .ok (.iinc 4 1, 3) := by decide +kernel
theorem dX8_strung_56 : decode cX8_strung 56 = .ok (.goto (-33), 3) := by decide +kernel
theorem dX8_strung_59 : decode cX8_strung 59 = .ok (.iload_n 3, 1) := by decide +kernel
theorem dX8_strung_60 : decode cX8_strung 60 = .ok (.ireturn, 1) := by decide +kernel
theorem dX8_tallyStates_0 : decode cX8_tallyStates 0 = .ok (.iconst 0, 1) := by decide +kernel
theorem dX8_tallyStates_1 : decode cX8_tallyStates 1 = .ok (.istore_n 2, 1) := by decide +kernel
theorem dX8_tallyStates_2 : decode cX8_tallyStates 2 = .ok (.aload_n 0, 1) := by decide +kernel
theorem dX8_tallyStates_3 : decode cX8_tallyStates 3 = .ok (.getfield 61, 3) := by decide +kernel
theorem dX8_tallyStates_6 : decode cX8_tallyStates 6 = .ok (.iconst 0, 1) := by decide +kernel
theorem dX8_tallyStates_7 : decode cX8_tallyStates 7 = .ok (.invokestatic 264, 3) := by decide +kernel
theorem dX8_tallyStates_10 : decode cX8_tallyStates 10 = .ok (.iconst (-1), 1) := by decide +kernel
theorem dX8_tallyStates_11 : decode cX8_tallyStates 11 = .ok (.istore_n 3, 1) := by decide +kernel
theorem dX8_tallyStates_12 : decode cX8_tallyStates 12 = .ok (.iload_n 3, 1) := by decide +kernel
theorem dX8_tallyStates_13 : decode cX8_tallyStates 13 = .ok (.aload_n 0, 1) := by decide +kernel
theorem dX8_tallyStates_14 : decode cX8_tallyStates 14 = .ok (.getfield 22, 3) := by decide +kernel
theorem dX8_tallyStates_17 : decode cX8_tallyStates 17 = .ok (.if_icmp .ge 88, 3) := by decide +kernel
theorem dX8_tallyStates_20 : decode cX8_tallyStates 20 = .ok (.aload_n 0, 1) := by decide +kernel
theorem dX8_tallyStates_21 : decode cX8_tallyStates 21 = .ok (.iload_n 3, 1) := by decide +kernel
theorem dX8_tallyStates_22 : decode cX8_tallyStates 22 = .ok (.invokevirtual 254, 3) := by decide +kernel
theorem dX8_tallyStates_25 : decode cX8_tallyStates 25 = .ok (.astore 4, 2) := by decide +kernel
theorem dX8_tallyStates_27 : decode cX8_tallyStates 27 = .ok (.aload_n 0, 1) := by decide +kernel
theorem dX8_tallyStates_28 : decode cX8_tallyStates 28 = .ok (.aload 4, 2) := by decide +kernel
theorem dX8_tallyStates_30 : decode cX8_tallyStates 30 = .ok (.iconst (-1), 1) := by decide +kernel
theorem dX8_tallyStates_31 : decode cX8_tallyStates 31 = .ok (.iconst (-1), 1) := by decide +kernel
theorem dX8_tallyStates_32 : decode cX8_tallyStates 32 = .ok (.invokevirtual 250, 3) := by decide +kernel
theorem dX8_tallyStates_35 : decode cX8_tallyStates 35 = .ok (.ifCond .eq 64, 3) := by decide +kernel
theorem dX8_tallyStates_38 : decode cX8_tallyStates 38 = .ok (.iinc 2 1, 3) := by decide +kernel
theorem dX8_tallyStates_41 : decode cX8_tallyStates 41 = .ok (.aload_n 0, 1) := by decide +kernel
theorem dX8_tallyStates_42 : decode cX8_tallyStates 42 = .ok (.invokevirtual 270, 3) := by decide +kernel
theorem dX8_tallyStates_45 : decode cX8_tallyStates 45 = .ok (.aload_n 0, 1) := by decide +kernel
theorem dX8_tallyStates_46 : decode cX8_tallyStates 46 = .ok (.getfield 44, 3) := by decide +kernel
theorem dX8_tallyStates_49 : decode cX8_tallyStates 49 = .ok (.iload_n 1, 1) := by decide +kernel
theorem dX8_tallyStates_50 : decode cX8_tallyStates 50 = .ok (.aload 4, 2) := by decide +kernel
theorem dX8_tallyStates_52 : decode cX8_tallyStates 52 = .ok (.invokevirtual 193, 3) := by decide +kernel
theorem dX8_tallyStates_55 : decode cX8_tallyStates 55 = .ok (.iconst 0, 1) := by decide +kernel
theorem dX8_tallyStates_56 : decode cX8_tallyStates 56 = .ok (.istore 5, 2) := by decide +kernel
theorem dX8_tallyStates_58 : decode cX8_tallyStates 58 = .ok (.iload 5, 2) := by decide +kernel
theorem dX8_tallyStates_60 : decode cX8_tallyStates 60 = .ok (.aload_n 0, 1) := by decide +kernel
theorem dX8_tallyStates_61 : decode cX8_tallyStates 61 = .ok (.getfield 44, 3) := by decide +kernel
theorem dX8_tallyStates_64 : decode cX8_tallyStates 64 = .ok (.getfield 104, 3) := by decide +kernel
theorem dX8_tallyStates_67 : decode cX8_tallyStates 67 = .ok (.if_icmp .ge 32, 3) := by decide +kernel
theorem dX8_tallyStates_70 : decode cX8_tallyStates 70 = .ok (.aload_n 0, 1) := by decide +kernel
theorem dX8_tallyStates_71 : decode cX8_tallyStates 71 = .ok (.getfield 61, 3) := by decide +kernel
theorem dX8_tallyStates_74 : decode cX8_tallyStates 74 = .ok (.iload 5, 2) := by decide +kernel
theorem dX8_tallyStates_76 : decode cX8_tallyStates 76 = .ok (.iconst 3, 1) := by decide +kernel
theorem dX8_tallyStates_77 : decode cX8_tallyStates 77 = .ok (.imul, 1) := by decide +kernel
theorem dX8_tallyStates_78 : decode cX8_tallyStates 78 = .ok (.aload_n 0, 1) := by decide +kernel
theorem dX8_tallyStates_79 : decode cX8_tallyStates 79 = .ok (.getfield 44, 3) := by decide +kernel
theorem dX8_tallyStates_82 : decode cX8_tallyStates 82 = .ok (.iload 5, 2) := by decide +kernel
theorem dX8_tallyStates_84 : decode cX8_tallyStates 84 = .ok (.invokevirtual 147, 3) := by decide +kernel
theorem dX8_tallyStates_87 : decode cX8_tallyStates 87 = .ok (.iadd, 1) := by decide +kernel
theorem dX8_tallyStates_88 : decode cX8_tallyStates 88 = .ok (.dup2, 1) := by decide +kernel
theorem dX8_tallyStates_89 : decode cX8_tallyStates 89 = .ok (.iaload, 1) := by decide +kernel
theorem dX8_tallyStates_90 : decode cX8_tallyStates 90 = .ok (.iconst 1, 1) := by decide +kernel
theorem dX8_tallyStates_91 : decode cX8_tallyStates 91 = .ok (.iadd, 1) := by decide +kernel
theorem dX8_tallyStates_92 : decode cX8_tallyStates 92 = .ok (.iastore, 1) := by decide +kernel
theorem dX8_tallyStates_93 : decode cX8_tallyStates 93 = .ok (.iinc 5 1, 3) := by decide +kernel
theorem dX8_tallyStates_96 : decode cX8_tallyStates 96 = .ok (.goto (-38), 3) := by decide +kernel
theorem dX8_tallyStates_99 : decode cX8_tallyStates 99 = .ok (.iinc 3 1, 3) := by decide +kernel
theorem dX8_tallyStates_102 : decode cX8_tallyStates 102 = .ok (.goto (-90), 3) := by decide +kernel
theorem dX8_tallyStates_105 : decode cX8_tallyStates 105 = .ok (.iload_n 2, 1) := by decide +kernel
theorem dX8_tallyStates_106 : decode cX8_tallyStates 106 = .ok (.ireturn, 1) := by decide +kernel
theorem dX8_toasts_0 : decode cX8_toasts 0 = .ok (.aload_n 0, 1) := by decide +kernel
theorem dX8_toasts_1 : decode cX8_toasts 1 = .ok (.getfield 29, 3) := by decide +kernel
theorem dX8_toasts_4 : decode cX8_toasts 4 = .ok (.getfield 81, 3) := by decide +kernel
theorem dX8_toasts_7 : decode cX8_toasts 7 = .ok (.getfield 150, 3) := by decide +kernel
theorem dX8_toasts_10 : decode cX8_toasts 10 = .ok (.ifCond .eq 25, 3) := by decide +kernel
theorem dX8_toasts_13 : decode cX8_toasts 13 = .ok (.iload_n 1, 1) := by decide +kernel
theorem dX8_toasts_14 : decode cX8_toasts 14 = .ok (.iconst 1, 1) := by decide +kernel
theorem dX8_toasts_15 : decode cX8_toasts 15 = .ok (.if_icmp .lt 20, 3) := by decide +kernel
theorem dX8_toasts_18 : decode cX8_toasts 18 = .ok (.iload_n 1, 1) := by decide +kernel
theorem dX8_toasts_19 : decode cX8_toasts 19 = .ok (.bipush 10, 2) := by decide +kernel
theorem dX8_toasts_21 : decode cX8_toasts 21 = .ok (.if_icmp .gt 14, 3) := by decide +kernel
theorem dX8_toasts_24 : decode cX8_toasts 24 = .ok (.iload_n 2, 1) := by decide +kernel
theorem dX8_toasts_25 : decode cX8_toasts 25 = .ok (.iconst 1, 1) := by decide +kernel
theorem dX8_toasts_26 : decode cX8_toasts 26 = .ok (.if_icmp .lt 9, 3) := by decide +kernel
theorem dX8_toasts_29 : decode cX8_toasts 29 = .ok (.iload_n 2, 1) := by decide +kernel
theorem dX8_toasts_30 : decode cX8_toasts 30 = .ok (.bipush 60, 2) := by decide +kernel
theorem dX8_toasts_32 : decode cX8_toasts 32 = .ok (.if_icmp .le 5, 3) := by decide +kernel
theorem dX8_toasts_35 : decode cX8_toasts 35 = .ok (.iconst (-1), 1) := by decide +kernel
theorem dX8_toasts_36 : decode cX8_toasts 36 = .ok (.ireturn, 1) := by decide +kernel
theorem dX8_toasts_37 : decode cX8_toasts 37 = .ok (.iload_n 3, 1) := by decide +kernel
theorem dX8_toasts_38 : decode cX8_toasts 38 = .ok (.ifCond .lt 20, 3) := by decide +kernel
theorem dX8_toasts_41 : decode cX8_toasts 41 = .ok (.iload_n 3, 1) := by decide +kernel
theorem dX8_toasts_42 : decode cX8_toasts 42 = .ok (.bipush 100, 2) := by decide +kernel
theorem dX8_toasts_44 : decode cX8_toasts 44 = .ok (.if_icmp .gt 14, 3) := by decide +kernel
theorem dX8_toasts_47 : decode cX8_toasts 47 = .ok (.iload 4, 2) := by decide +kernel
theorem dX8_toasts_49 : decode cX8_toasts 49 = .ok (.ifCond .lt 9, 3) := by decide +kernel
theorem dX8_toasts_52 : decode cX8_toasts 52 = .ok (.iload 4, 2) := by decide +kernel
theorem dX8_toasts_54 : decode cX8_toasts 54 = .ok (.iconst 1, 1) := by decide +kernel
theorem dX8_toasts_55 : decode cX8_toasts 55 = .ok (.if_icmp .le 5, 3) := by decide +kernel
theorem dX8_toasts_58 : decode cX8_toasts 58 = .ok (.iconst (-1), 1) := by decide +kernel
theorem dX8_toasts_59 : decode cX8_toasts 59 = .ok (.ireturn, 1) := by decide +kernel
theorem dX8_toasts_60 : decode cX8_toasts 60 = .ok (.aload_n 0, 1) := by decide +kernel
theorem dX8_toasts_61 : decode cX8_toasts 61 = .ok (.getfield 29, 3) := by decide +kernel
theorem dX8_toasts_64 : decode cX8_toasts 64 = .ok (.getfield 292, 3) := by decide +kernel
theorem dX8_toasts_67 : decode cX8_toasts 67 = .ok (.istore 5, 2) := by decide +kernel
theorem dX8_toasts_69 : decode cX8_toasts 69 = .ok (.iconst 0, 1) := by decide +kernel
theorem dX8_toasts_70 : decode cX8_toasts 70 = .ok (.istore 6, 2) := by decide +kernel
theorem dX8_toasts_72 : decode cX8_toasts 72 = .ok (.iconst 0, 1) := by decide +kernel
theorem dX8_toasts_73 : decode cX8_toasts 73 = .ok (.istore 7, 2) := by decide +kernel
theorem dX8_toasts_75 : decode cX8_toasts 75 = .ok (.iload 7, 2) := by decide +kernel
theorem dX8_toasts_77 : decode cX8_toasts 77 = .ok (.iload_n 1, 1) := by decide +kernel
theorem dX8_toasts_78 : decode cX8_toasts 78 = .ok (.if_icmp .ge 49, 3) := by decide +kernel
theorem dX8_toasts_81 : decode cX8_toasts 81 = .ok (.aload_n 0, 1) := by decide +kernel
theorem dX8_toasts_82 : decode cX8_toasts 82 = .ok (.iload_n 2, 1) := by decide +kernel
theorem dX8_toasts_83 : decode cX8_toasts 83 = .ok (.iload_n 3, 1) := by decide +kernel
theorem dX8_toasts_84 : decode cX8_toasts 84 = .ok (.iload 5, 2) := by decide +kernel
theorem dX8_toasts_86 : decode cX8_toasts 86 = .ok (.invokevirtual 295, 3) := by decide +kernel
theorem dX8_toasts_89 : decode cX8_toasts 89 = .ok (.istore 5, 2) := by decide +kernel
theorem dX8_toasts_91 : decode cX8_toasts 91 = .ok (.iload 6, 2) := by decide +kernel
theorem dX8_toasts_93 : decode cX8_toasts 93 = .ok (.iload 4, 2) := by decide +kernel
theorem dX8_toasts_95 : decode cX8_toasts 95 = .ok (.ifCond .ne 13, 3) := by decide +kernel
theorem dX8_toasts_98 : decode cX8_toasts 98 = .ok (.aload_n 0, 1) := by decide +kernel
theorem dX8_toasts_99 : decode cX8_toasts 99 = .ok (.getfield 44, 3) := by decide +kernel
theorem dX8_toasts_102 : decode cX8_toasts 102 = .ok (.getfield 179, 3) := by decide +kernel
theorem dX8_toasts_105 : decode cX8_toasts 105 = .ok (.goto 10, 3) := by decide +kernel
theorem dX8_toasts_108 : decode cX8_toasts 108 = .ok (.aload_n 0, 1) := by decide +kernel
theorem dX8_toasts_109 : decode cX8_toasts 109 = .ok (.getfield 44, 3) := by decide +kernel
theorem dX8_toasts_112 : decode cX8_toasts 112 = .ok (.getfield 200, 3) := by decide +kernel
theorem dX8_toasts_115 : decode cX8_toasts 115 = .ok (.invokestatic 182, 3) := by decide +kernel
theorem dX8_toasts_118 : decode cX8_toasts 118 = .ok (.iadd, 1) := by decide +kernel
theorem dX8_toasts_119 : decode cX8_toasts 119 = .ok (.istore 6, 2) := by decide +kernel
theorem dX8_toasts_121 : decode cX8_toasts 121 = .ok (.iinc 7 1, 3) := by decide +kernel
theorem dX8_toasts_124 : decode cX8_toasts 124 = .ok (.goto (-49), 3) := by decide +kernel
theorem dX8_toasts_127 : decode cX8_toasts 127 = .ok (.iload 6, 2) := by decide +kernel
theorem dX8_toasts_129 : decode cX8_toasts 129 = .ok (.ireturn, 1) := by decide +kernel
set_option maxRecDepth 20000 in
theorem ggX8_beginAnew_X3_copyFrom : GoodIn wsX8_beginAnew wsX3_copyFrom := good_rp ([8, 9, 10, 11, 12, 13, 14, 15, 16, 17, 18, 19, 20, 21, 22, 23, 24, 25, 26, 27, 28, 62, 63, 64, 65, 66, 67, 68, 69, 70, 71, 72, 73, 74, 75, 76, 77, 78] : List Nat) rfl (by decide +kernel)
set_option maxRecDepth 20000 in
theorem gX8_beginAnew_X3_copyFrom : GoodIn wsX8_beginAnew (wsV RX8 84 RX3 yX3_copyFrom wsX3_copyFrom) := goodIn_app (good_rp ([4, 5, 6, 7] : List Nat) rfl (by decide +kernel)) ggX8_beginAnew_X3_copyFrom
set_option maxRecDepth 20000 in
theorem ggX8_beginAnew_X3_restart : GoodIn wsX8_beginAnew wsX3_restart := good_rp ([32, 13, 22, 14, 15, 16, 17, 25, 26, 27, 28, 33, 34, 35, 7, 36, 23, 24, 12, 19, 20, 21, 37, 38, 39, 40, 41, 42, 43, 44, 62, 63, 64, 65, 66, 67, 68, 69, 70, 71, 72, 73, 74, 75, 76, 77, 78] : List Nat) rfl (by decide +kernel)
set_option maxRecDepth 20000 in
theorem gX8_beginAnew_X3_restart : GoodIn wsX8_beginAnew (wsV RX8 279 RX3 yX3_restart wsX3_restart) := goodIn_app (good_rp ([29, 30, 31, 7] : List Nat) rfl (by decide +kernel)) ggX8_beginAnew_X3_restart
set_option maxRecDepth 20000 in
theorem ggX8_count_X3_givesInAll : GoodIn wsX8_count wsX3_givesInAll := good_rp ([22, 23, 24, 25, 26, 21, 27, 28, 29, 30, 31, 32, 33, 51, 52, 53, 54, 55, 56, 57, 58, 59, 60, 61, 62, 63, 64, 65, 66, 67] : List Nat) rfl (by decide +kernel)
set_option maxRecDepth 20000 in
theorem gX8_count_X3_givesInAll : GoodIn wsX8_count (wsV RX8 224 RX3 yX3_givesInAll wsX3_givesInAll) := goodIn_app (good_rp ([18, 19, 20, 21] : List Nat) rfl (by decide +kernel)) ggX8_count_X3_givesInAll
set_option maxRecDepth 20000 in
theorem ggX8_look_X8_mostAlike : GoodIn wsX8_look wsX8_mostAlike := good_rp ([170, 10, 171, 40, 29, 41, 172, 173, 174, 175, 176, 177, 178, 179, 180, 181, 182, 183] : List Nat) rfl (by decide +kernel)
set_option maxRecDepth 20000 in
theorem gX8_look_X8_mostAlike : GoodIn wsX8_look (wsV RX8 261 RX8 yX8_mostAlike wsX8_mostAlike) := goodIn_app (good_rp ([167, 168, 169, 8] : List Nat) rfl (by decide +kernel)) ggX8_look_X8_mostAlike
set_option maxRecDepth 20000 in
theorem ggX8_look_X8_tallyStates : GoodIn wsX8_look wsX8_tallyStates := good_rp ([9, 10, 11, 12, 4, 13, 14, 15, 16, 17, 18, 19, 8, 20, 21, 22, 23, 24, 25, 1, 26, 27, 28, 29, 30, 31, 32, 33, 34, 35, 36, 37, 38, 39, 40, 41, 42, 43, 44, 45, 2, 46, 47, 48, 49, 50, 51, 52, 53, 54, 55, 56, 57, 58, 59, 60, 61, 62, 63, 64, 65, 66, 67, 68, 69, 70, 71, 72, 73, 74, 75, 76, 77, 78, 79, 80, 81, 82, 83, 84, 85, 86, 87, 88, 89, 90, 91, 92, 93, 94, 95, 96, 97, 98, 99, 100, 101, 102, 103, 104, 105, 106, 107, 108, 109, 110, 111, 112, 113, 114, 115, 116, 117, 118, 119, 120, 121, 122, 123, 124, 125, 126, 127, 128, 129, 130, 131, 132, 133, 134, 135, 136, 137, 138, 139, 140, 141, 142, 143, 144, 145, 146, 147, 148, 149, 150, 151, 152, 153, 154, 155, 156, 157, 158, 159, 160, 161, 162, 163, 164, 165, 166, 172, 173, 174, 175, 176, 177, 178, 179, 180, 181, 182, 183, 189, 190, 191, 192, 193, 194, 195, 196, 197, 198, 199, 200, 201, 202, 203, 204, 205, 184, 185, 186, 187, 188, 206, 207, 208, 209, 210, 211, 212, 213, 214, 215, 216, 217] : List Nat) rfl (by decide +kernel)
set_option maxRecDepth 20000 in
theorem gX8_look_X8_tallyStates : GoodIn wsX8_look (wsV RX8 258 RX8 yX8_tallyStates wsX8_tallyStates) := goodIn_app (good_rp ([5, 6, 7, 8] : List Nat) rfl (by decide +kernel)) ggX8_look_X8_tallyStates
set_option maxRecDepth 20000 in
theorem ggX8_note_X2_add : GoodIn wsX8_note wsX2_add := good_rp ([20, 10, 21, 22, 23, 41, 42, 43, 44] : List Nat) rfl (by decide +kernel)
set_option maxRecDepth 20000 in
theorem gX8_note_X2_add : GoodIn wsX8_note (wsV RX8 240 RX2 yX2_add wsX2_add) := goodIn_app (good_rp ([17, 18, 19, 8] : List Nat) rfl (by decide +kernel)) ggX8_note_X2_add
set_option maxRecDepth 20000 in
theorem ggX8_note_X2_forget : GoodIn wsX8_note wsX2_forget := good_rp ([9, 10, 41, 42, 43, 44] : List Nat) rfl (by decide +kernel)
set_option maxRecDepth 20000 in
theorem gX8_note_X2_forget : GoodIn wsX8_note (wsV RX8 101 RX2 yX2_forget wsX2_forget) := goodIn_app (good_rp ([5, 6, 7, 8] : List Nat) rfl (by decide +kernel)) ggX8_note_X2_forget
set_option maxRecDepth 20000 in
theorem ggX8_note_X3_hasSitter : GoodIn wsX8_note wsX3_hasSitter := good_rp ([15, 16, 45, 46, 47, 48, 49, 50, 51, 52, 53, 54, 55, 56, 57, 58, 59, 60, 61] : List Nat) rfl (by decide +kernel)
set_option maxRecDepth 20000 in
theorem gX8_note_X3_hasSitter : GoodIn wsX8_note (wsV RX8 138 RX3 yX3_hasSitter wsX3_hasSitter) := goodIn_app (good_rp ([11, 12, 13, 14] : List Nat) rfl (by decide +kernel)) ggX8_note_X3_hasSitter
set_option maxRecDepth 20000 in
theorem ggX8_notesHold_X2_agree : GoodIn wsX8_notesHold wsX2_agree := good_rp ([77, 14, 15, 78, 79, 80, 81, 82, 28, 83, 47, 46, 84, 85, 86, 87, 33, 177, 178, 179, 180, 160, 161, 162, 163, 164, 165, 166, 167, 168, 169, 170, 171, 172, 173, 174, 175, 176] : List Nat) rfl (by decide +kernel)
set_option maxRecDepth 20000 in
theorem gX8_notesHold_X2_agree : GoodIn wsX8_notesHold (wsV RX8 288 RX2 yX2_agree wsX2_agree) := goodIn_app (good_rp ([74, 75, 76, 12] : List Nat) rfl (by decide +kernel)) ggX8_notesHold_X2_agree
set_option maxRecDepth 20000 in
theorem ggX8_notesHold_X2_lastMinute : GoodIn wsX8_notesHold wsX2_lastMinute := good_rp ([13, 14, 15, 16, 17, 5, 18, 177, 178, 179, 180] : List Nat) rfl (by decide +kernel)
set_option maxRecDepth 20000 in
theorem gX8_notesHold_X2_lastMinute : GoodIn wsX8_notesHold (wsV RX8 282 RX2 yX2_lastMinute wsX2_lastMinute) := goodIn_app (good_rp ([9, 10, 11, 12] : List Nat) rfl (by decide +kernel)) ggX8_notesHold_X2_lastMinute
set_option maxRecDepth 20000 in
theorem ggX8_notesHold_X3_hasChair : GoodIn wsX8_notesHold wsX3_hasChair := good_rp ([69, 32, 160, 161, 162, 163, 164, 165, 166, 167, 168, 169, 170, 171, 172, 173, 174, 175, 176] : List Nat) rfl (by decide +kernel)
set_option maxRecDepth 20000 in
theorem gX8_notesHold_X3_hasChair : GoodIn wsX8_notesHold (wsV RX8 122 RX3 yX3_hasChair wsX3_hasChair) := goodIn_app (good_rp ([66, 67, 68, 28] : List Nat) rfl (by decide +kernel)) ggX8_notesHold_X3_hasChair
set_option maxRecDepth 20000 in
theorem ggX8_notesHold_X3_hasStrand : GoodIn wsX8_notesHold wsX3_hasStrand := good_rp ([73, 31, 160, 161, 162, 163, 164, 165, 166, 167, 168, 169, 170, 171, 172, 173, 174, 175, 176] : List Nat) rfl (by decide +kernel)
set_option maxRecDepth 20000 in
theorem gX8_notesHold_X3_hasStrand : GoodIn wsX8_notesHold (wsV RX8 115 RX3 yX3_hasStrand wsX3_hasStrand) := goodIn_app (good_rp ([70, 71, 72, 28] : List Nat) rfl (by decide +kernel)) ggX8_notesHold_X3_hasStrand
set_option maxRecDepth 20000 in
theorem ggX8_notesHold_X3_passMinute : GoodIn wsX8_notesHold wsX3_passMinute := good_rp ([91, 33, 49, 92, 48, 93, 94, 95, 28, 96, 40, 41, 46, 44, 42, 45, 97, 98, 99, 100, 47, 62, 63, 64, 65, 101, 102, 103, 104, 105, 106, 107, 108, 109, 110, 111, 112, 113, 114, 115, 116, 117, 118, 119, 120, 39, 43, 84, 85, 86, 87, 121, 122, 123, 124, 125, 126, 127, 128, 129, 130, 131, 132, 133, 134, 135, 136, 137, 138, 139, 140, 141, 142, 54, 55, 56, 57, 58, 59, 60, 61, 160, 161, 162, 163, 164, 165, 166, 167, 168, 169, 170, 171, 172, 173, 174, 175, 176, 181, 182, 183, 184, 185, 186, 187, 188] : List Nat) rfl (by decide +kernel)
set_option maxRecDepth 20000 in
theorem gX8_notesHold_X3_passMinute : GoodIn wsX8_notesHold (wsV RX8 164 RX3 yX3_passMinute wsX3_passMinute) := goodIn_app (good_rp ([88, 89, 90, 28] : List Nat) rfl (by decide +kernel)) ggX8_notesHold_X3_passMinute
set_option maxRecDepth 20000 in
theorem ggX8_notesHold_X8_beginAnew : GoodIn wsX8_notesHold wsX8_beginAnew := good_rp ([23, 7, 1, 24, 25, 26, 27, 28, 29, 30, 31, 32, 33, 34, 35, 36, 37, 38, 39, 40, 41, 42, 43, 44, 45, 46, 47, 48, 49, 50, 51, 52, 53, 54, 55, 56, 57, 58, 59, 60, 61, 62, 63, 64, 65, 143, 144, 145, 146, 147, 148, 149, 150, 151, 152, 153, 154, 155, 156, 157, 158, 159, 160, 161, 162, 163, 164, 165, 166, 167, 168, 169, 170, 171, 172, 173, 174, 175, 176] : List Nat) rfl (by decide +kernel)
set_option maxRecDepth 20000 in
theorem gX8_notesHold_X8_beginAnew : GoodIn wsX8_notesHold (wsV RX8 270 RX8 yX8_beginAnew wsX8_beginAnew) := goodIn_app (good_rp ([19, 20, 21, 22] : List Nat) rfl (by decide +kernel)) ggX8_notesHold_X8_beginAnew
set_option maxRecDepth 20000 in
theorem ggX8_playToasts_X3_copyFrom : GoodIn wsX8_playToasts wsX3_copyFrom := good_rp ([21, 22, 23, 24, 25, 26, 27, 28, 29, 30, 31, 32, 33, 34, 35, 36, 37, 38, 39, 40, 41, 144, 145, 146, 147, 148, 149, 150, 151, 152, 153, 154, 155, 156, 157, 158, 159, 160] : List Nat) rfl (by decide +kernel)
set_option maxRecDepth 20000 in
theorem gX8_playToasts_X3_copyFrom : GoodIn wsX8_playToasts (wsV RX8 84 RX3 yX3_copyFrom wsX3_copyFrom) := goodIn_app (good_rp ([17, 18, 19, 20] : List Nat) rfl (by decide +kernel)) ggX8_playToasts_X3_copyFrom
set_option maxRecDepth 20000 in
theorem ggX8_playToasts_X3_passMinute : GoodIn wsX8_playToasts wsX3_passMinute := good_rp ([91, 25, 41, 92, 40, 60, 61, 62, 20, 63, 32, 33, 38, 36, 34, 37, 64, 65, 66, 67, 39, 56, 57, 58, 59, 93, 94, 95, 96, 97, 98, 99, 100, 101, 102, 103, 104, 105, 106, 107, 108, 109, 110, 111, 112, 31, 35, 113, 114, 115, 116, 76, 77, 78, 79, 117, 118, 119, 120, 121, 122, 123, 124, 125, 126, 68, 69, 70, 71, 72, 73, 74, 75, 80, 81, 82, 83, 84, 85, 86, 87, 144, 145, 146, 147, 148, 149, 150, 151, 152, 153, 154, 155, 156, 157, 158, 159, 160, 161, 162, 163, 164, 165, 166, 167, 168] : List Nat) rfl (by decide +kernel)
set_option maxRecDepth 20000 in
theorem gX8_playToasts_X3_passMinute : GoodIn wsX8_playToasts (wsV RX8 164 RX3 yX3_passMinute wsX3_passMinute) := goodIn_app (good_rp ([88, 89, 90, 20] : List Nat) rfl (by decide +kernel)) ggX8_playToasts_X3_passMinute
set_option maxRecDepth 20000 in
theorem ggX8_playToasts_X3_turn : GoodIn wsX8_playToasts wsX3_turn := good_rp ([55, 56, 57, 58, 20, 59, 25, 38, 60, 61, 62, 63, 32, 33, 36, 34, 37, 64, 65, 66, 67, 39, 68, 69, 70, 71, 72, 73, 74, 75, 31, 76, 77, 78, 79, 35, 80, 81, 82, 83, 84, 85, 86, 87, 144, 145, 146, 147, 148, 149, 150, 151, 152, 153, 154, 155, 156, 157, 158, 159, 160] : List Nat) rfl (by decide +kernel)
set_option maxRecDepth 20000 in
theorem gX8_playToasts_X3_turn : GoodIn wsX8_playToasts (wsV RX8 305 RX3 yX3_turn wsX3_turn) := goodIn_app (good_rp ([52, 53, 54, 20] : List Nat) rfl (by decide +kernel)) ggX8_playToasts_X3_turn
set_option maxRecDepth 20000 in
theorem ggX8_playToasts_X8_drawOf : GoodIn wsX8_playToasts wsX8_drawOf := good_rp ([50, 51] : List Nat) rfl (by decide +kernel)
set_option maxRecDepth 20000 in
theorem gX8_playToasts_X8_drawOf : GoodIn wsX8_playToasts (va_wsS RX8 302 yX8_drawOf wsX8_drawOf) := goodIn_app (good_rp ([48, 49, 8] : List Nat) rfl (by decide +kernel)) ggX8_playToasts_X8_drawOf
set_option maxRecDepth 20000 in
theorem ggX8_playToasts_X8_nextDrawn : GoodIn wsX8_playToasts wsX8_nextDrawn := good_rp ([44, 45, 46, 47] : List Nat) rfl (by decide +kernel)
set_option maxRecDepth 20000 in
theorem gX8_playToasts_X8_nextDrawn : GoodIn wsX8_playToasts (va_wsS RX8 299 yX8_nextDrawn wsX8_nextDrawn) := goodIn_app (good_rp ([42, 43, 8] : List Nat) rfl (by decide +kernel)) ggX8_playToasts_X8_nextDrawn
set_option maxRecDepth 20000 in
theorem ggX8_playToasts_X8_ruleInForce : GoodIn wsX8_playToasts wsX8_ruleInForce := good_rp ([9, 2, 10, 11, 12, 13, 8, 14, 15, 16, 127, 128, 129, 130, 131, 132, 133, 134, 135, 136, 137, 138, 139, 140, 141, 142, 143] : List Nat) rfl (by decide +kernel)
set_option maxRecDepth 20000 in
theorem gX8_playToasts_X8_ruleInForce : GoodIn wsX8_playToasts (wsV RX8 160 RX8 yX8_ruleInForce wsX8_ruleInForce) := goodIn_app (good_rp ([5, 6, 7, 8] : List Nat) rfl (by decide +kernel)) ggX8_playToasts_X8_ruleInForce
set_option maxRecDepth 20000 in
theorem ggX8_playTwo_X3_copyFrom : GoodIn wsX8_playTwo wsX3_copyFrom := good_rp ([24, 25, 26, 27, 28, 29, 30, 31, 32, 33, 34, 35, 36, 37, 38, 39, 40, 41, 42, 43, 44, 141, 142, 143, 144, 145, 146, 147, 148, 149, 150, 151, 152, 153, 154, 155, 156, 157] : List Nat) rfl (by decide +kernel)
set_option maxRecDepth 20000 in
theorem gX8_playTwo_X3_copyFrom : GoodIn wsX8_playTwo (wsV RX8 84 RX3 yX3_copyFrom wsX3_copyFrom) := goodIn_app (good_rp ([20, 21, 22, 23] : List Nat) rfl (by decide +kernel)) ggX8_playTwo_X3_copyFrom
set_option maxRecDepth 20000 in
theorem ggX8_playTwo_X3_passMinute : GoodIn wsX8_playTwo wsX3_passMinute := good_rp ([48, 28, 44, 49, 43, 50, 51, 52, 23, 53, 35, 36, 41, 39, 37, 40, 54, 55, 56, 57, 42, 58, 59, 60, 61, 62, 63, 64, 65, 66, 67, 68, 69, 70, 71, 72, 73, 74, 75, 76, 77, 78, 79, 80, 81, 34, 38, 82, 83, 84, 85, 86, 87, 88, 89, 90, 91, 92, 93, 94, 95, 96, 97, 98, 99, 100, 101, 102, 103, 104, 105, 106, 107, 108, 109, 110, 111, 112, 113, 114, 115, 141, 142, 143, 144, 145, 146, 147, 148, 149, 150, 151, 152, 153, 154, 155, 156, 157, 158, 159, 160, 161, 162, 163, 164, 165] : List Nat) rfl (by decide +kernel)
set_option maxRecDepth 20000 in
theorem gX8_playTwo_X3_passMinute : GoodIn wsX8_playTwo (wsV RX8 164 RX3 yX3_passMinute wsX3_passMinute) := goodIn_app (good_rp ([45, 46, 47, 23] : List Nat) rfl (by decide +kernel)) ggX8_playTwo_X3_passMinute
set_option maxRecDepth 20000 in
theorem ggX8_playTwo_X3_stateOf : GoodIn wsX8_playTwo wsX3_stateOf := good_rp ([123, 42, 41, 82, 83, 84, 23, 85, 28, 141, 142, 143, 144, 145, 146, 147, 148, 149, 150, 151, 152, 153, 154, 155, 156, 157] : List Nat) rfl (by decide +kernel)
set_option maxRecDepth 20000 in
theorem gX8_playTwo_X3_stateOf : GoodIn wsX8_playTwo (wsV RX8 147 RX3 yX3_stateOf wsX3_stateOf) := goodIn_app (good_rp ([120, 121, 122, 23] : List Nat) rfl (by decide +kernel)) ggX8_playTwo_X3_stateOf
set_option maxRecDepth 20000 in
theorem ggX8_playTwo_X3_worthTo : GoodIn wsX8_playTwo wsX3_worthTo := good_rp ([119, 58, 59, 60, 23, 61, 28, 41, 86, 87, 88, 89, 35, 36, 39, 38, 37, 141, 142, 143, 144, 145, 146, 147, 148, 149, 150, 151, 152, 153, 154, 155, 156, 157] : List Nat) rfl (by decide +kernel)
set_option maxRecDepth 20000 in
theorem gX8_playTwo_X3_worthTo : GoodIn wsX8_playTwo (wsV RX8 237 RX3 yX3_worthTo wsX3_worthTo) := goodIn_app (good_rp ([116, 117, 118, 23] : List Nat) rfl (by decide +kernel)) ggX8_playTwo_X3_worthTo
set_option maxRecDepth 20000 in
theorem ggX8_playTwo_X8_ruleInForce : GoodIn wsX8_playTwo wsX8_ruleInForce := good_rp ([12, 2, 13, 14, 15, 16, 11, 17, 18, 19, 124, 125, 126, 127, 128, 129, 130, 131, 132, 133, 134, 135, 136, 137, 138, 139, 140] : List Nat) rfl (by decide +kernel)
set_option maxRecDepth 20000 in
theorem gX8_playTwo_X8_ruleInForce : GoodIn wsX8_playTwo (wsV RX8 160 RX8 yX8_ruleInForce wsX8_ruleInForce) := goodIn_app (good_rp ([8, 9, 10, 11] : List Nat) rfl (by decide +kernel)) ggX8_playTwo_X8_ruleInForce
set_option maxRecDepth 20000 in
theorem ggX8_rests_X3_isUp : GoodIn wsX8_rests wsX3_isUp := good_rp ([9, 10, 11, 146, 147, 148, 149, 150, 151, 152, 153, 154, 155, 156, 157, 158, 159, 160, 161, 162] : List Nat) rfl (by decide +kernel)
set_option maxRecDepth 20000 in
theorem gX8_rests_X3_isUp : GoodIn wsX8_rests (wsV RX8 221 RX3 yX3_isUp wsX3_isUp) := goodIn_app (good_rp ([5, 6, 7, 8] : List Nat) rfl (by decide +kernel)) ggX8_rests_X3_isUp
set_option maxRecDepth 20000 in
theorem ggX8_rests_X8_playTwo : GoodIn wsX8_rests wsX8_playTwo := good_rp ([16, 17, 1, 2, 18, 19, 3, 4, 20, 21, 22, 15, 23, 24, 25, 26, 27, 28, 29, 30, 31, 32, 33, 8, 34, 35, 36, 37, 10, 38, 39, 40, 41, 42, 43, 44, 45, 46, 47, 48, 49, 50, 11, 51, 52, 53, 54, 55, 56, 57, 58, 59, 60, 61, 62, 6, 7, 9, 63, 64, 65, 66, 67, 68, 69, 70, 71, 72, 73, 74, 75, 76, 77, 78, 79, 80, 81, 82, 83, 84, 85, 86, 87, 88, 89, 90, 91, 92, 93, 94, 95, 96, 97, 98, 99, 100, 101, 102, 103, 104, 105, 106, 107, 108, 109, 110, 111, 112, 113, 114, 115, 116, 117, 118, 119, 120, 121, 122, 123, 124, 125, 126, 127, 128, 129, 130, 131, 132, 133, 134, 135, 136, 137, 138, 139, 140, 141, 142, 143, 144, 145, 146, 147, 148, 149, 150, 151, 152, 153, 154, 155, 156, 157, 158, 159, 160, 161, 162, 163, 164, 165, 166, 167, 168, 169, 170] : List Nat) rfl (by decide +kernel)
set_option maxRecDepth 20000 in
theorem gX8_rests_X8_playTwo : GoodIn wsX8_rests (wsV RX8 227 RX8 yX8_playTwo wsX8_playTwo) := goodIn_app (good_rp ([12, 13, 14, 15] : List Nat) rfl (by decide +kernel)) ggX8_rests_X8_playTwo
set_option maxRecDepth 20000 in
theorem ggX8_ruled_X8_notesHold : GoodIn wsX8_ruled wsX8_notesHold := good_rp ([14, 1, 15, 16, 17, 18, 19, 20, 21, 22, 23, 24, 25, 26, 27, 28, 29, 30, 31, 32, 33, 34, 8, 35, 2, 36, 37, 38, 39, 40, 41, 42, 43, 44, 45, 46, 47, 48, 49, 50, 51, 52, 53, 54, 55, 56, 57, 58, 59, 60, 61, 62, 63, 64, 65, 66, 67, 68, 69, 70, 71, 72, 73, 74, 75, 76, 77, 78, 79, 80, 81, 82, 83, 84, 85, 86, 87, 88, 89, 90, 91, 92, 93, 94, 95, 96, 97, 98, 99, 100, 101, 102, 103, 104, 105, 106, 107, 108, 109, 110, 111, 112, 113, 114, 115, 116, 117, 118, 119, 120, 121, 122, 123, 124, 125, 126, 127, 128, 129, 130, 131, 132, 133, 134, 135, 136, 137, 138, 139, 140, 141, 142, 143, 144, 145, 146, 147, 148, 149, 150, 151, 152, 153, 154, 155, 156, 157, 158, 159, 160, 161, 162, 163, 164, 165, 166, 167, 168, 169, 170, 171, 172, 173, 174, 175, 176, 177, 178, 179, 180, 181, 182, 183, 184, 185, 186, 187, 188, 189, 190, 191, 192, 193, 194, 195, 196, 197, 198, 199] : List Nat) rfl (by decide +kernel)
set_option maxRecDepth 20000 in
theorem gX8_ruled_X8_notesHold : GoodIn wsX8_ruled (wsV RX8 250 RX8 yX8_notesHold wsX8_notesHold) := goodIn_app (good_rp ([11, 12, 13, 8] : List Nat) rfl (by decide +kernel)) ggX8_ruled_X8_notesHold
set_option maxRecDepth 20000 in
theorem ggX8_ruled_X8_ruleAt : GoodIn wsX8_ruled wsX8_ruleAt := good_rp ([9, 4, 10, 154, 155, 156, 157, 158, 159, 160, 161, 162, 163, 164, 165] : List Nat) rfl (by decide +kernel)
set_option maxRecDepth 20000 in
theorem gX8_ruled_X8_ruleAt : GoodIn wsX8_ruled (wsV RX8 254 RX8 yX8_ruleAt wsX8_ruleAt) := goodIn_app (good_rp ([5, 6, 7, 8] : List Nat) rfl (by decide +kernel)) ggX8_ruled_X8_ruleAt
set_option maxRecDepth 20000 in
theorem ggX8_strung_X3_hasChair : GoodIn wsX8_strung wsX3_hasChair := good_rp ([8, 9, 176, 177, 178, 179, 180, 181, 182, 183, 184, 185, 186, 187, 188, 189, 190, 191, 192] : List Nat) rfl (by decide +kernel)
set_option maxRecDepth 20000 in
theorem gX8_strung_X3_hasChair : GoodIn wsX8_strung (wsV RX8 122 RX3 yX3_hasChair wsX3_hasChair) := goodIn_app (good_rp ([4, 5, 6, 7] : List Nat) rfl (by decide +kernel)) ggX8_strung_X3_hasChair
set_option maxRecDepth 20000 in
theorem ggX8_strung_X8_notesHold : GoodIn wsX8_strung wsX8_notesHold := good_rp ([25, 1, 26, 27, 28, 29, 30, 31, 32, 33, 34, 35, 36, 37, 38, 39, 40, 41, 42, 43, 44, 45, 13, 46, 2, 47, 48, 49, 7, 50, 51, 52, 9, 53, 54, 55, 56, 57, 58, 59, 60, 61, 62, 63, 64, 65, 66, 67, 68, 69, 70, 71, 72, 73, 74, 75, 76, 77, 78, 79, 80, 81, 82, 83, 84, 85, 4, 5, 6, 8, 86, 87, 88, 89, 90, 91, 92, 93, 94, 95, 96, 97, 98, 99, 100, 101, 102, 103, 104, 105, 106, 107, 108, 109, 110, 111, 112, 113, 114, 115, 116, 117, 118, 119, 120, 121, 122, 123, 124, 125, 126, 127, 128, 129, 130, 131, 132, 133, 134, 135, 136, 137, 138, 139, 140, 141, 142, 143, 144, 145, 146, 147, 148, 149, 150, 151, 152, 153, 154, 155, 156, 157, 158, 159, 160, 161, 162, 163, 164, 165, 166, 167, 168, 169, 170, 171, 172, 173, 174, 175, 176, 177, 178, 179, 180, 181, 182, 183, 184, 185, 186, 187, 188, 189, 190, 191, 192, 193, 194, 195, 196, 197, 198, 199, 200, 201, 202, 203, 204] : List Nat) rfl (by decide +kernel)
set_option maxRecDepth 20000 in
theorem gX8_strung_X8_notesHold : GoodIn wsX8_strung (wsV RX8 250 RX8 yX8_notesHold wsX8_notesHold) := goodIn_app (good_rp ([22, 23, 24, 13] : List Nat) rfl (by decide +kernel)) ggX8_strung_X8_notesHold
set_option maxRecDepth 20000 in
theorem ggX8_strung_X8_ruleInForce : GoodIn wsX8_strung wsX8_ruleInForce := good_rp ([14, 1, 15, 16, 17, 18, 13, 19, 20, 21, 159, 160, 161, 162, 163, 164, 165, 166, 167, 168, 169, 170, 171, 172, 173, 174, 175] : List Nat) rfl (by decide +kernel)
set_option maxRecDepth 20000 in
theorem gX8_strung_X8_ruleInForce : GoodIn wsX8_strung (wsV RX8 160 RX8 yX8_ruleInForce wsX8_ruleInForce) := goodIn_app (good_rp ([10, 11, 12, 13] : List Nat) rfl (by decide +kernel)) ggX8_strung_X8_ruleInForce
set_option maxRecDepth 20000 in
theorem ggX8_tallyStates_J7_fill_53178 : GoodIn wsX8_tallyStates wsJ7_fill_53178 := good_rp ([8] : List Nat) rfl (by decide +kernel)
set_option maxRecDepth 20000 in
theorem gX8_tallyStates_J7_fill_53178 : GoodIn wsX8_tallyStates (va_wsS RX8 264 yJ7_fill_53178 wsJ7_fill_53178) := goodIn_app (good_rp ([5, 6, 7] : List Nat) rfl (by decide +kernel)) ggX8_tallyStates_J7_fill_53178
set_option maxRecDepth 20000 in
theorem ggX8_tallyStates_X3_passMinutes : GoodIn wsX8_tallyStates wsX3_passMinutes := good_rp ([159, 160, 102, 103, 44, 104, 49, 65, 105, 64, 106, 107, 108, 109, 56, 57, 62, 60, 58, 61, 110, 111, 112, 113, 63, 75, 76, 77, 78, 114, 115, 116, 117, 118, 119, 120, 121, 122, 123, 124, 125, 126, 127, 128, 129, 130, 131, 132, 133, 55, 59, 97, 98, 99, 100, 134, 135, 136, 137, 138, 139, 140, 141, 142, 143, 144, 145, 146, 147, 148, 149, 150, 151, 152, 153, 154, 155, 70, 71, 72, 73, 74, 6, 7, 8, 174, 175, 176, 177, 178, 179, 180, 181, 182, 183, 184, 185, 186, 187, 188, 189, 190, 200, 201, 202, 203, 204, 205, 206, 207] : List Nat) rfl (by decide +kernel)
set_option maxRecDepth 20000 in
theorem gX8_tallyStates_X3_passMinutes : GoodIn wsX8_tallyStates (wsV RX8 193 RX3 yX3_passMinutes wsX3_passMinutes) := goodIn_app (good_rp ([156, 157, 158, 44] : List Nat) rfl (by decide +kernel)) ggX8_tallyStates_X3_passMinutes
set_option maxRecDepth 20000 in
theorem ggX8_tallyStates_X3_stateOf : GoodIn wsX8_tallyStates wsX3_stateOf := good_rp ([96, 63, 62, 97, 98, 99, 44, 100, 49, 174, 175, 176, 177, 178, 179, 180, 181, 182, 183, 184, 185, 186, 187, 188, 189, 190] : List Nat) rfl (by decide +kernel)
set_option maxRecDepth 20000 in
theorem gX8_tallyStates_X3_stateOf : GoodIn wsX8_tallyStates (wsV RX8 147 RX3 yX3_stateOf wsX3_stateOf) := goodIn_app (good_rp ([161, 94, 95, 44] : List Nat) rfl (by decide +kernel)) ggX8_tallyStates_X3_stateOf
set_option maxRecDepth 20000 in
theorem ggX8_tallyStates_X8_beginAnew : GoodIn wsX8_tallyStates wsX8_beginAnew := good_rp ([39, 3, 19, 40, 41, 42, 43, 44, 45, 46, 47, 48, 49, 50, 51, 52, 53, 54, 55, 56, 57, 58, 59, 60, 61, 62, 63, 64, 65, 66, 67, 68, 69, 70, 71, 72, 73, 74, 6, 7, 8, 75, 76, 77, 78, 162, 163, 164, 165, 166, 167, 168, 169, 170, 171, 172, 173, 191, 192, 193, 194, 195, 174, 175, 176, 177, 178, 179, 180, 181, 182, 183, 184, 185, 186, 187, 188, 189, 190] : List Nat) rfl (by decide +kernel)
set_option maxRecDepth 20000 in
theorem gX8_tallyStates_X8_beginAnew : GoodIn wsX8_tallyStates (wsV RX8 270 RX8 yX8_beginAnew wsX8_beginAnew) := goodIn_app (good_rp ([36, 37, 38, 12] : List Nat) rfl (by decide +kernel)) ggX8_tallyStates_X8_beginAnew
set_option maxRecDepth 20000 in
theorem ggX8_tallyStates_X8_notesHold : GoodIn wsX8_tallyStates wsX8_notesHold := good_rp ([18, 19, 20, 21, 22, 23, 24, 3, 25, 26, 27, 28, 29, 30, 31, 32, 33, 34, 35, 36, 37, 38, 12, 39, 40, 41, 42, 43, 44, 45, 46, 47, 48, 49, 50, 51, 52, 53, 54, 55, 56, 57, 58, 59, 60, 61, 62, 63, 64, 65, 66, 67, 68, 69, 70, 71, 72, 73, 74, 6, 7, 8, 75, 76, 77, 78, 79, 80, 81, 82, 83, 84, 85, 86, 87, 88, 89, 90, 91, 92, 93, 94, 95, 96, 97, 98, 99, 100, 101, 102, 103, 104, 105, 106, 107, 108, 109, 110, 111, 112, 113, 114, 115, 116, 117, 118, 119, 120, 121, 122, 123, 124, 125, 126, 127, 128, 129, 130, 131, 132, 133, 134, 135, 136, 137, 138, 139, 140, 141, 142, 143, 144, 145, 146, 147, 148, 149, 150, 151, 152, 153, 154, 155, 162, 163, 164, 165, 166, 167, 168, 169, 170, 171, 172, 173, 191, 192, 193, 194, 195, 174, 175, 176, 177, 178, 179, 180, 181, 182, 183, 184, 185, 186, 187, 188, 189, 190, 196, 197, 198, 199, 200, 201, 202, 203, 204, 205, 206, 207] : List Nat) rfl (by decide +kernel)
set_option maxRecDepth 20000 in
theorem gX8_tallyStates_X8_notesHold : GoodIn wsX8_tallyStates (wsV RX8 250 RX8 yX8_notesHold wsX8_notesHold) := goodIn_app (good_rp ([15, 16, 17, 12] : List Nat) rfl (by decide +kernel)) ggX8_tallyStates_X8_notesHold
set_option maxRecDepth 20000 in
theorem ggX8_tallyStates_X8_ruleAt : GoodIn wsX8_tallyStates wsX8_ruleAt := good_rp ([13, 2, 14, 162, 163, 164, 165, 166, 167, 168, 169, 170, 171, 172, 173] : List Nat) rfl (by decide +kernel)
set_option maxRecDepth 20000 in
theorem gX8_tallyStates_X8_ruleAt : GoodIn wsX8_tallyStates (wsV RX8 254 RX8 yX8_ruleAt wsX8_ruleAt) := goodIn_app (good_rp ([9, 10, 11, 12] : List Nat) rfl (by decide +kernel)) ggX8_tallyStates_X8_ruleAt
set_option maxRecDepth 20000 in
theorem ggX8_toasts_J6_bitCount_0f7a4 : GoodIn wsX8_toasts wsJ6_bitCount_0f7a4 := good_rp ([128, 129, 130, 131] : List Nat) rfl (by decide +kernel)
set_option maxRecDepth 20000 in
theorem gX8_toasts_J6_bitCount_0f7a4 : GoodIn wsX8_toasts (va_wsS RX8 182 yJ6_bitCount_0f7a4 wsJ6_bitCount_0f7a4) := goodIn_app (good_rp ([135, 126, 127] : List Nat) rfl (by decide +kernel)) ggX8_toasts_J6_bitCount_0f7a4
set_option maxRecDepth 20000 in
theorem ggX8_toasts_X8_playToasts : GoodIn wsX8_toasts wsX8_playToasts := good_rp ([12, 5, 1, 2, 13, 14, 15, 16, 11, 17, 18, 19, 20, 21, 22, 23, 24, 25, 26, 27, 28, 29, 30, 31, 32, 33, 34, 35, 36, 37, 38, 39, 40, 41, 42, 43, 44, 45, 46, 47, 48, 49, 50, 51, 52, 53, 54, 55, 56, 57, 58, 59, 60, 61, 62, 63, 64, 65, 66, 67, 68, 69, 70, 71, 72, 73, 74, 75, 76, 77, 78, 79, 80, 81, 82, 83, 84, 85, 86, 87, 88, 89, 90, 91, 92, 93, 94, 95, 96, 97, 98, 99, 100, 101, 102, 103, 104, 105, 106, 107, 108, 109, 110, 111, 112, 113, 114, 115, 116, 117, 118, 119, 120, 121, 122, 123, 124, 125, 126, 127, 128, 129, 130, 131, 132, 133, 134, 136, 137, 138, 139, 140, 141, 142, 143, 144, 145, 146, 147, 148, 149, 150, 151, 152, 153, 154, 155, 156, 157, 158, 159, 160, 161, 162, 163, 164, 165, 166, 167, 168, 169, 170, 171, 172, 173, 174, 175, 176, 177] : List Nat) rfl (by decide +kernel)
set_option maxRecDepth 20000 in
theorem gX8_toasts_X8_playToasts : GoodIn wsX8_toasts (wsV RX8 295 RX8 yX8_playToasts wsX8_playToasts) := goodIn_app (good_rp ([8, 9, 10, 11] : List Nat) rfl (by decide +kernel)) ggX8_toasts_X8_playToasts
def b_X8_playTwo_168 (F : Nat)  (xi : Nat → Int32) (xrr : Nat → Option Nat) (si : Nat → Int32) (rm : OB)  (y0 : Int32) (y1 : Int32) (tm : OB) (xpr : Nat → Int32) (xqr : Nat → Int32) (rz : Nat → OB) : Option (OB × (Nat → Int32) × (Nat → Int32) × (Nat → OB)) :=
  if ib y1 4 then (some (tm, xpr, (upd xqr (Int32.toNatClampNeg y1) y0), rz)) else none
def b_X8_playTwo_139 (F : Nat)  (xi : Nat → Int32) (xrr : Nat → Option Nat) (si : Nat → Int32) (rm : OB)  (v2 : Int32) (v4 : Int32) (v7 : Int32) (y0 : Int32) (y1 : Int32) (tm : OB) (xpr : Nat → Int32) (xqr : Nat → Int32) (rz : Nat → OB) : Option (OB × (Nat → Int32) × (Nat → Int32) × (Nat → OB)) :=
  if ib y1 4 then (Option.bind (f_X3_stateOf F v2 tm) (fun q3 => (if q3 = 2 then (b_X8_playTwo_168 F xi xrr si rm (v7 - 10) v4 tm (upd xpr (Int32.toNatClampNeg y1) y0) xqr rz) else (b_X8_playTwo_168 F xi xrr si rm v7 v4 tm (upd xpr (Int32.toNatClampNeg y1) y0) xqr rz)))) else none
def b_X8_playTwo_63 (F : Nat)  (xi : Nat → Int32) (xrr : Nat → Option Nat) (si : Nat → Int32) (rm : OB)  (k63 : (Int32 × Int32 × Int32 × Int32 × Int32 × Int32 × Int32 × Int32 × OB × (Nat → Int32) × (Nat → Int32) × (Nat → OB)) → Option (OB × (Nat → Int32) × (Nat → Int32) × (Nat → OB))) (a63 : (Int32 × Int32 × Int32 × Int32 × Int32 × Int32 × Int32 × Int32 × OB × (Nat → Int32) × (Nat → Int32) × (Nat → OB))) : Option (OB × (Nat → Int32) × (Nat → Int32) × (Nat → OB)) :=
  if a63.2.2.1 ≤ a63.2.2.2.2.2.2.2.1 then (Option.bind (f_X3_stateOf F a63.1 a63.2.2.2.2.2.2.2.2.1) (fun q6 => (if q6 = 2 then (b_X8_playTwo_139 F xi xrr si rm a63.2.1 a63.2.2.2.1 a63.2.2.2.2.2.2.1 (a63.2.2.2.2.2.1 - 10) a63.2.2.2.1 a63.2.2.2.2.2.2.2.2.1 a63.2.2.2.2.2.2.2.2.2.1 a63.2.2.2.2.2.2.2.2.2.2.1 a63.2.2.2.2.2.2.2.2.2.2.2) else (b_X8_playTwo_139 F xi xrr si rm a63.2.1 a63.2.2.2.1 a63.2.2.2.2.2.2.1 a63.2.2.2.2.2.1 a63.2.2.2.1 a63.2.2.2.2.2.2.2.2.1 a63.2.2.2.2.2.2.2.2.2.1 a63.2.2.2.2.2.2.2.2.2.2.1 a63.2.2.2.2.2.2.2.2.2.2.2)))) else (Option.bind (f_X3_passMinute F a63.2.2.2.2.1 a63.2.2.2.2.2.2.2.2.1 a63.2.2.2.2.2.2.2.2.2.2.2) (fun q8 => (Option.bind (f_X3_worthTo F a63.1 q8.2.1) (fun q9 => (Option.bind (f_X3_worthTo F a63.2.1 q8.2.1) (fun q10 => (k63 (a63.1, a63.2.1, a63.2.2.1, a63.2.2.2.1, a63.2.2.2.2.1, (a63.2.2.2.2.2.1 + q9), (a63.2.2.2.2.2.2.1 + q10), (a63.2.2.2.2.2.2.2.1 + 1), q8.2.1, a63.2.2.2.2.2.2.2.2.2.1, a63.2.2.2.2.2.2.2.2.2.2.1, q8.2.2))))))))
def f_X8_playTwo (F : Nat)  (x1 : Int32) (x2 : Int32) (x3 : Int32) (x4 : Int32) (xi : Nat → Int32) (xrr : Nat → Option Nat) (si : Nat → Int32) (rm : OB) (tm : OB) (xpr : Nat → Int32) (xqr : Nat → Int32) (rz : Nat → OB) : Option (OB × (Nat → Int32) × (Nat → Int32) × (Nat → OB)) :=
  Option.bind (f_X8_ruleInForce F xi xrr si) (fun q11 => (Option.bind (f_X3_copyFrom F tm rm) (fun q12 => (lp (b_X8_playTwo_63 F xi xrr si rm) F (x1, x2, x3, x4, q11, 0, 0, 0, ((uF (uF q12.1 15 ((1 <<< (x1 &&& 31)) ||| (1 <<< (x2 &&& 31)))) 16 (((x4 >>> (1 &&& 31)) <<< (x1 &&& 31)) ||| ((x4 &&& 1) <<< (x2 &&& 31)))), q12.2.1, q12.2.2), xpr, xqr, rz)))))
set_option maxHeartbeats 4000000 in
set_option maxRecDepth 100000 in
theorem c_X8_playTwo (l : Launch) (D : va_G) (k : Nat → ClassId) (sz : Nat)  (xo : Nat → Nat) (ta : Nat → Nat) (xr : Nat) (sa : Nat → Nat) (xm : Nat) (xg : Nat) (tr : Nat → Nat) (xs : Nat) (xp : Nat) (xq : Nat) (xe : Nat) (xt : Nat) (xa : Nat → Nat) (ca : Nat → Nat) (na : Nat → Nat) (ra : Nat → Nat) (F : Nat)  (x1 : Int32) (x2 : Int32) (x3 : Int32) (x4 : Int32) (xi : Nat → Int32) (xrr : Nat → Option Nat) (si : Nat → Int32) (rm : OB) (tm : OB) (xpr : Nat → Int32) (xqr : Nat → Int32) (rz : Nat → OB) (hq : ∀ i, i < 6 → xrr i = some (ra (6 * i))) {res : OB × (Nat → Int32) × (Nat → Int32) × (Nat → OB)} (h : f_X8_playTwo F x1 x2 x3 x4 xi xrr si rm tm xpr xqr rz = some res) : CtV l yX8_playTwo wsX8_playTwo (rmK 6 0 0) [.ref (xo 0), .int x1, .int x2, .int x3, .int x4] D k sz ([((xo 0), .inr (6, [.ref (ta 0), .ref xr, .int (xi 2), .ref (sa 0), .ref xm, .ref xg, .ref (tr 0), .ref xs, .ref xp, .ref xq, .ref xe, .ref xt]))] ++ ([(xr, hcR k 6 xrr)] ++ ([((sa 0), .inr (4, [.ref (xa 0), .ref (ca 0), .ref (na 0), .int (si 3), .int (si 4)]))] ++ (rmW k xa rm ++ (rmW k tr tm ++ ([(xp, hcI k 4 xpr)] ++ ([(xq, hcI k 4 xqr)] ++ (RU k ra rz)))))))) (fun (_ : Unit) => True) (fun _ : Unit => [((xo 0), .inr (6, [.ref (ta 0), .ref xr, .int (xi 2), .ref (sa 0), .ref xm, .ref xg, .ref (tr 0), .ref xs, .ref xp, .ref xq, .ref xe, .ref xt]))] ++ ([(xr, hcR k 6 xrr)] ++ ([((sa 0), .inr (4, [.ref (xa 0), .ref (ca 0), .ref (na 0), .int (si 3), .int (si 4)]))] ++ (rmW k xa rm ++ (rmW k tr res.1 ++ ([(xp, hcI k 4 res.2.1)] ++ ([(xq, hcI k 4 res.2.2.1)] ++ (RU k ra res.2.2.2)))))))) 0 0 := by
  refine CtV.mk (cc := cX8_playTwo) (maxL := 9) (ret := none) (by decide) rfl (Nat.le_of_ble_eq_true rfl) ?_
  intro p e s m below meth c A ls E hP hD hS hl
  obtain ⟨hx, hb, hr, hml, hown, hts, hlocks, hin, hG, hA⟩ := E
  have hown : s.vm.findClass RX8 = some m.cls := hown
  have in3 : ∀ w ∈ u_ws RX3 TX3 17, w ∈ wsX8_playTwo := fun _ h => List.mem_cons_of_mem _ (List.mem_append_left _ (List.mem_append_right _ h))
  have in4 : ∀ w ∈ u_ws RX4 TX4 8, w ∈ wsX8_playTwo := fun _ h => List.mem_cons_of_mem _ (List.mem_append_right _ h)
  have in6 : ∀ w ∈ u_ws RX6 TX6 5, w ∈ wsX8_playTwo := fun _ h => List.mem_cons_of_mem _ (List.mem_append_left _ (List.mem_append_left _ (List.mem_append_right _ h)))
  have in8 : ∀ w ∈ u_ws RX8 TX8 12, w ∈ wsX8_playTwo := fun _ h => List.mem_cons_of_mem _ (List.mem_append_left _ (List.mem_append_left _ (List.mem_append_left _ (List.mem_append_right _ h))))
  have hl : lv_has ls 9 [(0, .ref (xo 0)), (1, .int x1), (2, .int x2), (3, .int x3), (4, .int x4)] := hl
  have B168 : ∀ (y0 : Int32) (y1 : Int32) (tm : OB) (xpr : Nat → Int32) (xqr : Nat → Int32) (rz : Nat → OB) (H : Heap) (locs : List Loc) (ls : Array Slot), b_X8_playTwo_168 F xi xrr si rm y0 y1 tm xpr xqr rz = some res → va_P D vwCl ([((xo 0), .inr (6, [.ref (ta 0), .ref xr, .int (xi 2), .ref (sa 0), .ref xm, .ref xg, .ref (tr 0), .ref xs, .ref xp, .ref xq, .ref xe, .ref xt]))] ++ ([(xr, hcR k 6 xrr)] ++ ([((sa 0), .inr (4, [.ref (xa 0), .ref (ca 0), .ref (na 0), .int (si 3), .int (si 4)]))] ++ (rmW k xa rm ++ (rmW k tr tm ++ ([(xp, hcI k 4 xpr)] ++ ([(xq, hcI k 4 xqr)] ++ (RU k ra rz)))))))) H → va_D A ([((xo 0), .inr (6, [.ref (ta 0), .ref xr, .int (xi 2), .ref (sa 0), .ref xm, .ref xg, .ref (tr 0), .ref xs, .ref xp, .ref xq, .ref xe, .ref xt]))] ++ ([(xr, hcR k 6 xrr)] ++ ([((sa 0), .inr (4, [.ref (xa 0), .ref (ca 0), .ref (na 0), .int (si 3), .int (si 4)]))] ++ (rmW k xa rm ++ (rmW k tr tm ++ ([(xp, hcI k 4 xpr)] ++ ([(xq, hcI k 4 xqr)] ++ (RU k ra rz)))))))) → va_S A s.heap H locs → lv_has ls 9 [] → W p l e (rmK 6 0 0) s m (List.toArray [.ref (xo 0), .int x1, .int x2, .int x3, .int x4]) below meth c H locs 0 0 (MQ below (va_Qv (fun (_ : Unit) => True) (hcB D (fun _ : Unit => [((xo 0), .inr (6, [.ref (ta 0), .ref xr, .int (xi 2), .ref (sa 0), .ref xm, .ref xg, .ref (tr 0), .ref xs, .ref xp, .ref xq, .ref xe, .ref xt]))] ++ ([(xr, hcR k 6 xrr)] ++ ([((sa 0), .inr (4, [.ref (xa 0), .ref (ca 0), .ref (na 0), .int (si 3), .int (si 4)]))] ++ (rmW k xa rm ++ (rmW k tr res.1 ++ ([(xp, hcI k 4 res.2.1)] ++ ([(xq, hcI k 4 res.2.2.1)] ++ (RU k ra res.2.2.2)))))))) A) A) (List.toArray [.ref (xo 0), .int x1, .int x2, .int x3, .int x4]) s 0 0 A) (F0 m 168 ls [.int y0, .int y1, .ref xq]) := by
    intro y0 y1 tm xpr xqr rz H locs ls h hP hD hS hl
    obtain ⟨g1, h⟩ := fw_g h
    refine va_iast hx hb hG.1 hP hD hS 22 0 rfl rfl (ib_vp g1) dX8_playTwo_168 (fun H locs hP hD hS => ?_)
    exact fw_endV (wp := fun b : OB × (Nat → Int32) × (Nat → Int32) × (Nat → OB) => [((xo 0), .inr (6, [.ref (ta 0), .ref xr, .int (xi 2), .ref (sa 0), .ref xm, .ref xg, .ref (tr 0), .ref xs, .ref xp, .ref xq, .ref xe, .ref xt]))] ++ ([(xr, hcR k 6 xrr)] ++ ([((sa 0), .inr (4, [.ref (xa 0), .ref (ca 0), .ref (na 0), .int (si 3), .int (si 4)]))] ++ (rmW k xa rm ++ (rmW k tr b.1 ++ ([(xp, hcI k 4 b.2.1)] ++ ([(xq, hcI k 4 b.2.2.1)] ++ (RU k ra b.2.2.2)))))))) hx hb hr hlocks h hP hD hS dX8_playTwo_169
  have B139 : ∀ (v2 : Int32) (v4 : Int32) (v7 : Int32) (y0 : Int32) (y1 : Int32) (tm : OB) (xpr : Nat → Int32) (xqr : Nat → Int32) (rz : Nat → OB) (H : Heap) (locs : List Loc) (ls : Array Slot), b_X8_playTwo_139 F xi xrr si rm v2 v4 v7 y0 y1 tm xpr xqr rz = some res → va_P D vwCl ([((xo 0), .inr (6, [.ref (ta 0), .ref xr, .int (xi 2), .ref (sa 0), .ref xm, .ref xg, .ref (tr 0), .ref xs, .ref xp, .ref xq, .ref xe, .ref xt]))] ++ ([(xr, hcR k 6 xrr)] ++ ([((sa 0), .inr (4, [.ref (xa 0), .ref (ca 0), .ref (na 0), .int (si 3), .int (si 4)]))] ++ (rmW k xa rm ++ (rmW k tr tm ++ ([(xp, hcI k 4 xpr)] ++ ([(xq, hcI k 4 xqr)] ++ (RU k ra rz)))))))) H → va_D A ([((xo 0), .inr (6, [.ref (ta 0), .ref xr, .int (xi 2), .ref (sa 0), .ref xm, .ref xg, .ref (tr 0), .ref xs, .ref xp, .ref xq, .ref xe, .ref xt]))] ++ ([(xr, hcR k 6 xrr)] ++ ([((sa 0), .inr (4, [.ref (xa 0), .ref (ca 0), .ref (na 0), .int (si 3), .int (si 4)]))] ++ (rmW k xa rm ++ (rmW k tr tm ++ ([(xp, hcI k 4 xpr)] ++ ([(xq, hcI k 4 xqr)] ++ (RU k ra rz)))))))) → va_S A s.heap H locs → lv_has ls 9 [(0, .ref (xo 0)), (2, .int v2), (4, .int v4), (7, .int v7)] → W p l e (rmK 6 0 0) s m (List.toArray [.ref (xo 0), .int x1, .int x2, .int x3, .int x4]) below meth c H locs 0 0 (MQ below (va_Qv (fun (_ : Unit) => True) (hcB D (fun _ : Unit => [((xo 0), .inr (6, [.ref (ta 0), .ref xr, .int (xi 2), .ref (sa 0), .ref xm, .ref xg, .ref (tr 0), .ref xs, .ref xp, .ref xq, .ref xe, .ref xt]))] ++ ([(xr, hcR k 6 xrr)] ++ ([((sa 0), .inr (4, [.ref (xa 0), .ref (ca 0), .ref (na 0), .int (si 3), .int (si 4)]))] ++ (rmW k xa rm ++ (rmW k tr res.1 ++ ([(xp, hcI k 4 res.2.1)] ++ ([(xq, hcI k 4 res.2.2.1)] ++ (RU k ra res.2.2.2)))))))) A) A) (List.toArray [.ref (xo 0), .int x1, .int x2, .int x3, .int x4]) s 0 0 A) (F0 m 139 ls [.int y0, .int y1, .ref xp]) := by
    intro v2 v4 v7 y0 y1 tm xpr xqr rz H locs ls h hP hD hS hl
    obtain ⟨g2, h⟩ := fw_g h
    refine va_iast hx hb hG.1 hP hD hS 21 0 rfl rfl (ib_vp g2) dX8_playTwo_139 (fun H locs hP hD hS => ?_)
    refine lv_aload_n hx hb dX8_playTwo_140 rfl (lv_at hl 0 rfl) ?_
    refine va_get (D := D) (ci := 6) (v := .ref xq) (C := RX8) (T := TX8) (N := 12) hx hb hts in8 hown hG.1 hP 0 rfl rfl 9 (by decide) (hts (.fieldLink RX8 55 "ChairCane" "payOfOther" "[I") (by decide +kernel)) (fun _ h9 => h9) rfl dX8_playTwo_141 ?_
    refine lv_iload hx hb dX8_playTwo_144 (lv_at hl 2 rfl) ?_
    refine lv_aload_n hx hb dX8_playTwo_146 rfl (lv_at hl 0 rfl) ?_
    refine va_get (D := D) (ci := 6) (v := .ref (tr 0)) (C := RX8) (T := TX8) (N := 12) hx hb hts in8 hown hG.1 hP 0 rfl rfl 6 (by decide) (hts (.fieldLink RX8 44 "ChairCane" "trial" "LChairCane$Room;") (by decide +kernel)) (fun _ h9 => h9) rfl dX8_playTwo_147 ?_
    refine lv_iload_n hx hb dX8_playTwo_150 rfl (lv_at hl 1 rfl) ?_
    have hP : va_P D vwCl ([((xo 0), .inr (6, [.ref (ta 0), .ref xr, .int (xi 2), .ref (sa 0), .ref xm, .ref xg, .ref (tr 0), .ref xs, .ref xp, .ref xq, .ref xe, .ref xt]))] ++ ([(xr, hcR k 6 xrr)] ++ ([((sa 0), .inr (4, [.ref (xa 0), .ref (ca 0), .ref (na 0), .int (si 3), .int (si 4)]))] ++ (rmW k xa rm ++ (rmW k tr tm ++ ([(xp, hcI k 4 (upd xpr (Int32.toNatClampNeg y1) y0))] ++ ([(xq, hcI k 4 xqr)] ++ (RU k ra rz)))))))) H := hP
    have hD : va_D A ([((xo 0), .inr (6, [.ref (ta 0), .ref xr, .int (xi 2), .ref (sa 0), .ref xm, .ref xg, .ref (tr 0), .ref xs, .ref xp, .ref xq, .ref xe, .ref xt]))] ++ ([(xr, hcR k 6 xrr)] ++ ([((sa 0), .inr (4, [.ref (xa 0), .ref (ca 0), .ref (na 0), .int (si 3), .int (si 4)]))] ++ (rmW k xa rm ++ (rmW k tr tm ++ ([(xp, hcI k 4 (upd xpr (Int32.toNatClampNeg y1) y0))] ++ ([(xq, hcI k 4 xqr)] ++ (RU k ra rz)))))))) := hD
    refine fw_Vi (As := [.int v2]) (rest := [.int v4, .ref xq]) (n := 1) (wr := [((xo 0), .inr (6, [.ref (ta 0), .ref xr, .int (xi 2), .ref (sa 0), .ref xm, .ref xg, .ref (tr 0), .ref xs, .ref xp, .ref xq, .ref xe, .ref xt]))] ++ ([(xr, hcR k 6 xrr)] ++ ([((sa 0), .inr (4, [.ref (xa 0), .ref (ca 0), .ref (na 0), .int (si 3), .int (si 4)]))] ++ (rmW k xa rm ++ ([(xp, hcI k 4 (upd xpr (Int32.toNatClampNeg y1) y0))] ++ ([(xq, hcI k 4 xqr)] ++ (RU k ra rz))))))) (rv := fun b : Int32 => b) (wp := fun b : Int32 => rmW k tr tm) h hx hb hml hown hts hG hA hP hD hS hl.1 [12, 13, 14, 15, 16, 17, 18, 19, 20] [0, 1, 2, 3, 4, 5, 6, 7, 8, 9, 10, 11, 21, 22, 23, 24, 25, 26, 27, 28, 29, 30, 31, 32, 33, 34, 35, 36, 37, 38, 39, 40, 41, 42, 43, 44, 45, 46, 47, 48, 49, 50, 51, 52, 53, 54, 55, 56, 57, 58] (fun q hq9 => c_X3_stateOf l D k _  tr F v2 tm  hq9) (ci := 2) (q0 := 12) rfl rfl gX8_playTwo_X3_stateOf rfl ⟨rfl, rfl, Nat.le_of_ble_eq_true rfl, Nat.le_of_ble_eq_true rfl⟩ (by decide +kernel) rfl rfl ⟨by decide, by decide, by decide⟩ ⟨rfl, rfl, Nat.le_of_ble_eq_true rfl, Nat.le_of_ble_eq_true rfl, Nat.le_of_ble_eq_true rfl⟩ dX8_playTwo_151 (fun q3 H locs h hP hD hS => ?_)
    have hP : va_P D vwCl ([((xo 0), .inr (6, [.ref (ta 0), .ref xr, .int (xi 2), .ref (sa 0), .ref xm, .ref xg, .ref (tr 0), .ref xs, .ref xp, .ref xq, .ref xe, .ref xt]))] ++ ([(xr, hcR k 6 xrr)] ++ ([((sa 0), .inr (4, [.ref (xa 0), .ref (ca 0), .ref (na 0), .int (si 3), .int (si 4)]))] ++ (rmW k xa rm ++ ([(xp, hcI k 4 (upd xpr (Int32.toNatClampNeg y1) y0))] ++ ([(xq, hcI k 4 xqr)] ++ (RU k ra rz ++ (rmW k tr tm)))))))) H := hP
    have hD : va_D A ([((xo 0), .inr (6, [.ref (ta 0), .ref xr, .int (xi 2), .ref (sa 0), .ref xm, .ref xg, .ref (tr 0), .ref xs, .ref xp, .ref xq, .ref xe, .ref xt]))] ++ ([(xr, hcR k 6 xrr)] ++ ([((sa 0), .inr (4, [.ref (xa 0), .ref (ca 0), .ref (na 0), .int (si 3), .int (si 4)]))] ++ (rmW k xa rm ++ ([(xp, hcI k 4 (upd xpr (Int32.toNatClampNeg y1) y0))] ++ ([(xq, hcI k 4 xqr)] ++ (RU k ra rz ++ (rmW k tr tm)))))))) := hD
    refine hc_is (z := q3) rfl ?_
    refine lv_iconst (v := 2) hx hb dX8_playTwo_154 (by decide) ?_
    refine lv_icmp_ne (tgt := 166) hx hb dX8_playTwo_155 (by decide) (fun c4 => ?_) (fun c4 => ?_)
    · have h := fw_f c4 h
      refine lv_iload hx hb dX8_playTwo_166 (lv_at hl 3 rfl) ?_
      exact B168 _ _ _ _ _ _ _ _ _ h (hP.sub [0, 1, 2, 3, 4, 5, 6, 7, 8, 9, 10, 11, 50, 51, 52, 53, 54, 55, 56, 57, 58, 12, 13, 14, 15, 16, 17, 18, 19, 20, 21, 22, 23, 24, 25, 26, 27, 28, 29, 30, 31, 32, 33, 34, 35, 36, 37, 38, 39, 40, 41, 42, 43, 44, 45, 46, 47, 48, 49] rfl) (hD.sub [0, 1, 2, 3, 4, 5, 6, 7, 8, 9, 10, 11, 50, 51, 52, 53, 54, 55, 56, 57, 58, 12, 13, 14, 15, 16, 17, 18, 19, 20, 21, 22, 23, 24, 25, 26, 27, 28, 29, 30, 31, 32, 33, 34, 35, 36, 37, 38, 39, 40, 41, 42, 43, 44, 45, 46, 47, 48, 49] (by decide) rfl) hS (lv_sub hl [] rfl)
    · have h := fw_t c4 h
      refine lv_iload hx hb dX8_playTwo_158 (lv_at hl 3 rfl) ?_
      refine lv_bipush (v := 10) hx hb dX8_playTwo_160 (by decide) ?_
      refine lv_isub hx hb dX8_playTwo_162 ?_
      refine lv_goto (tgt := 168) hx hb dX8_playTwo_163 (by decide) ?_
      exact B168 _ _ _ _ _ _ _ _ _ h (hP.sub [0, 1, 2, 3, 4, 5, 6, 7, 8, 9, 10, 11, 50, 51, 52, 53, 54, 55, 56, 57, 58, 12, 13, 14, 15, 16, 17, 18, 19, 20, 21, 22, 23, 24, 25, 26, 27, 28, 29, 30, 31, 32, 33, 34, 35, 36, 37, 38, 39, 40, 41, 42, 43, 44, 45, 46, 47, 48, 49] rfl) (hD.sub [0, 1, 2, 3, 4, 5, 6, 7, 8, 9, 10, 11, 50, 51, 52, 53, 54, 55, 56, 57, 58, 12, 13, 14, 15, 16, 17, 18, 19, 20, 21, 22, 23, 24, 25, 26, 27, 28, 29, 30, 31, 32, 33, 34, 35, 36, 37, 38, 39, 40, 41, 42, 43, 44, 45, 46, 47, 48, 49] (by decide) rfl) hS (lv_sub hl [] rfl)
  have B63 : ∀ a63 : (Int32 × Int32 × Int32 × Int32 × Int32 × Int32 × Int32 × Int32 × OB × (Nat → Int32) × (Nat → Int32) × (Nat → OB)), lp (b_X8_playTwo_63 F xi xrr si rm) F a63 = some res → ∀ (H : Heap) (locs : List Loc) (ls : Array Slot), va_P D vwCl ([((xo 0), .inr (6, [.ref (ta 0), .ref xr, .int (xi 2), .ref (sa 0), .ref xm, .ref xg, .ref (tr 0), .ref xs, .ref xp, .ref xq, .ref xe, .ref xt]))] ++ ([(xr, hcR k 6 xrr)] ++ ([((sa 0), .inr (4, [.ref (xa 0), .ref (ca 0), .ref (na 0), .int (si 3), .int (si 4)]))] ++ (rmW k xa rm ++ (rmW k tr a63.2.2.2.2.2.2.2.2.1 ++ ([(xp, hcI k 4 a63.2.2.2.2.2.2.2.2.2.1)] ++ ([(xq, hcI k 4 a63.2.2.2.2.2.2.2.2.2.2.1)] ++ (RU k ra a63.2.2.2.2.2.2.2.2.2.2.2)))))))) H → va_D A ([((xo 0), .inr (6, [.ref (ta 0), .ref xr, .int (xi 2), .ref (sa 0), .ref xm, .ref xg, .ref (tr 0), .ref xs, .ref xp, .ref xq, .ref xe, .ref xt]))] ++ ([(xr, hcR k 6 xrr)] ++ ([((sa 0), .inr (4, [.ref (xa 0), .ref (ca 0), .ref (na 0), .int (si 3), .int (si 4)]))] ++ (rmW k xa rm ++ (rmW k tr a63.2.2.2.2.2.2.2.2.1 ++ ([(xp, hcI k 4 a63.2.2.2.2.2.2.2.2.2.1)] ++ ([(xq, hcI k 4 a63.2.2.2.2.2.2.2.2.2.2.1)] ++ (RU k ra a63.2.2.2.2.2.2.2.2.2.2.2)))))))) → va_S A s.heap H locs → lv_has ls 9 [(0, .ref (xo 0)), (1, .int a63.1), (2, .int a63.2.1), (3, .int a63.2.2.1), (4, .int a63.2.2.2.1), (5, va_rf (rAd ra a63.2.2.2.2.1)), (6, .int a63.2.2.2.2.2.1), (7, .int a63.2.2.2.2.2.2.1), (8, .int a63.2.2.2.2.2.2.2.1)] → W p l e (rmK 6 0 0) s m (List.toArray [.ref (xo 0), .int x1, .int x2, .int x3, .int x4]) below meth c H locs 0 0 (MQ below (va_Qv (fun (_ : Unit) => True) (hcB D (fun _ : Unit => [((xo 0), .inr (6, [.ref (ta 0), .ref xr, .int (xi 2), .ref (sa 0), .ref xm, .ref xg, .ref (tr 0), .ref xs, .ref xp, .ref xq, .ref xe, .ref xt]))] ++ ([(xr, hcR k 6 xrr)] ++ ([((sa 0), .inr (4, [.ref (xa 0), .ref (ca 0), .ref (na 0), .int (si 3), .int (si 4)]))] ++ (rmW k xa rm ++ (rmW k tr res.1 ++ ([(xp, hcI k 4 res.2.1)] ++ ([(xq, hcI k 4 res.2.2.1)] ++ (RU k ra res.2.2.2)))))))) A) A) (List.toArray [.ref (xo 0), .int x1, .int x2, .int x3, .int x4]) s 0 0 A) (F0 m 63 ls []) := by
    refine lp_W ?_ F
    intro k63 hk63 a63 h H locs ls hP hD hS hl
    have hc63 : ∀ (v1 : Int32) (v2 : Int32) (v3 : Int32) (v4 : Int32) (v5 : Int32) (v6 : Int32) (v7 : Int32) (v8 : Int32) (tm : OB) (xpr : Nat → Int32) (xqr : Nat → Int32) (rz : Nat → OB), k63 (v1, v2, v3, v4, v5, v6, v7, v8, tm, xpr, xqr, rz) = some res → ∀ (H : Heap) (locs : List Loc) (ls : Array Slot), va_P D vwCl ([((xo 0), .inr (6, [.ref (ta 0), .ref xr, .int (xi 2), .ref (sa 0), .ref xm, .ref xg, .ref (tr 0), .ref xs, .ref xp, .ref xq, .ref xe, .ref xt]))] ++ ([(xr, hcR k 6 xrr)] ++ ([((sa 0), .inr (4, [.ref (xa 0), .ref (ca 0), .ref (na 0), .int (si 3), .int (si 4)]))] ++ (rmW k xa rm ++ (rmW k tr tm ++ ([(xp, hcI k 4 xpr)] ++ ([(xq, hcI k 4 xqr)] ++ (RU k ra rz)))))))) H → va_D A ([((xo 0), .inr (6, [.ref (ta 0), .ref xr, .int (xi 2), .ref (sa 0), .ref xm, .ref xg, .ref (tr 0), .ref xs, .ref xp, .ref xq, .ref xe, .ref xt]))] ++ ([(xr, hcR k 6 xrr)] ++ ([((sa 0), .inr (4, [.ref (xa 0), .ref (ca 0), .ref (na 0), .int (si 3), .int (si 4)]))] ++ (rmW k xa rm ++ (rmW k tr tm ++ ([(xp, hcI k 4 xpr)] ++ ([(xq, hcI k 4 xqr)] ++ (RU k ra rz)))))))) → va_S A s.heap H locs → lv_has ls 9 [(0, .ref (xo 0)), (1, .int v1), (2, .int v2), (3, .int v3), (4, .int v4), (5, va_rf (rAd ra v5)), (6, .int v6), (7, .int v7), (8, .int v8)] → W p l e (rmK 6 0 0) s m (List.toArray [.ref (xo 0), .int x1, .int x2, .int x3, .int x4]) below meth c H locs 0 0 (MQ below (va_Qv (fun (_ : Unit) => True) (hcB D (fun _ : Unit => [((xo 0), .inr (6, [.ref (ta 0), .ref xr, .int (xi 2), .ref (sa 0), .ref xm, .ref xg, .ref (tr 0), .ref xs, .ref xp, .ref xq, .ref xe, .ref xt]))] ++ ([(xr, hcR k 6 xrr)] ++ ([((sa 0), .inr (4, [.ref (xa 0), .ref (ca 0), .ref (na 0), .int (si 3), .int (si 4)]))] ++ (rmW k xa rm ++ (rmW k tr res.1 ++ ([(xp, hcI k 4 res.2.1)] ++ ([(xq, hcI k 4 res.2.2.1)] ++ (RU k ra res.2.2.2)))))))) A) A) (List.toArray [.ref (xo 0), .int x1, .int x2, .int x3, .int x4]) s 0 0 A) (F0 m 63 ls []) := fun v1 v2 v3 v4 v5 v6 v7 v8 tm xpr xqr rz => hk63 (v1, v2, v3, v4, v5, v6, v7, v8, tm, xpr, xqr, rz)
    refine lv_iload hx hb dX8_playTwo_63 (lv_at hl 8 rfl) ?_
    refine lv_iload_n hx hb dX8_playTwo_65 rfl (lv_at hl 3 rfl) ?_
    refine lv_icmp_ge (tgt := 111) hx hb dX8_playTwo_66 (by decide) (fun c5 => ?_) (fun c5 => ?_)
    · have h := fw_t c5 h
      refine lv_aload_n hx hb dX8_playTwo_111 rfl (lv_at hl 0 rfl) ?_
      refine va_get (D := D) (ci := 6) (v := .ref xp) (C := RX8) (T := TX8) (N := 12) hx hb hts in8 hown hG.1 hP 0 rfl rfl 8 (by decide) (hts (.fieldLink RX8 51 "ChairCane" "payOfOne" "[I") (by decide +kernel)) (fun _ h9 => h9) rfl dX8_playTwo_112 ?_
      refine lv_iload hx hb dX8_playTwo_115 (lv_at hl 4 rfl) ?_
      refine lv_aload_n hx hb dX8_playTwo_117 rfl (lv_at hl 0 rfl) ?_
      refine va_get (D := D) (ci := 6) (v := .ref (tr 0)) (C := RX8) (T := TX8) (N := 12) hx hb hts in8 hown hG.1 hP 0 rfl rfl 6 (by decide) (hts (.fieldLink RX8 44 "ChairCane" "trial" "LChairCane$Room;") (by decide +kernel)) (fun _ h9 => h9) rfl dX8_playTwo_118 ?_
      refine lv_iload_n hx hb dX8_playTwo_121 rfl (lv_at hl 1 rfl) ?_
      refine fw_Vi (As := [.int a63.1]) (rest := [.int a63.2.2.2.1, .ref xp]) (n := 1) (wr := [((xo 0), .inr (6, [.ref (ta 0), .ref xr, .int (xi 2), .ref (sa 0), .ref xm, .ref xg, .ref (tr 0), .ref xs, .ref xp, .ref xq, .ref xe, .ref xt]))] ++ ([(xr, hcR k 6 xrr)] ++ ([((sa 0), .inr (4, [.ref (xa 0), .ref (ca 0), .ref (na 0), .int (si 3), .int (si 4)]))] ++ (rmW k xa rm ++ ([(xp, hcI k 4 a63.2.2.2.2.2.2.2.2.2.1)] ++ ([(xq, hcI k 4 a63.2.2.2.2.2.2.2.2.2.2.1)] ++ (RU k ra a63.2.2.2.2.2.2.2.2.2.2.2))))))) (rv := fun b : Int32 => b) (wp := fun b : Int32 => rmW k tr a63.2.2.2.2.2.2.2.2.1) h hx hb hml hown hts hG hA hP hD hS hl.1 [12, 13, 14, 15, 16, 17, 18, 19, 20] [0, 1, 2, 3, 4, 5, 6, 7, 8, 9, 10, 11, 21, 22, 23, 24, 25, 26, 27, 28, 29, 30, 31, 32, 33, 34, 35, 36, 37, 38, 39, 40, 41, 42, 43, 44, 45, 46, 47, 48, 49, 50, 51, 52, 53, 54, 55, 56, 57, 58] (fun q hq9 => c_X3_stateOf l D k _  tr F a63.1 a63.2.2.2.2.2.2.2.2.1  hq9) (ci := 2) (q0 := 12) rfl rfl gX8_playTwo_X3_stateOf rfl ⟨rfl, rfl, Nat.le_of_ble_eq_true rfl, Nat.le_of_ble_eq_true rfl⟩ (by decide +kernel) rfl rfl ⟨by decide, by decide, by decide⟩ ⟨rfl, rfl, Nat.le_of_ble_eq_true rfl, Nat.le_of_ble_eq_true rfl, Nat.le_of_ble_eq_true rfl⟩ dX8_playTwo_122 (fun q6 H locs h hP hD hS => ?_)
      have hP : va_P D vwCl ([((xo 0), .inr (6, [.ref (ta 0), .ref xr, .int (xi 2), .ref (sa 0), .ref xm, .ref xg, .ref (tr 0), .ref xs, .ref xp, .ref xq, .ref xe, .ref xt]))] ++ ([(xr, hcR k 6 xrr)] ++ ([((sa 0), .inr (4, [.ref (xa 0), .ref (ca 0), .ref (na 0), .int (si 3), .int (si 4)]))] ++ (rmW k xa rm ++ ([(xp, hcI k 4 a63.2.2.2.2.2.2.2.2.2.1)] ++ ([(xq, hcI k 4 a63.2.2.2.2.2.2.2.2.2.2.1)] ++ (RU k ra a63.2.2.2.2.2.2.2.2.2.2.2 ++ (rmW k tr a63.2.2.2.2.2.2.2.2.1)))))))) H := hP
      have hD : va_D A ([((xo 0), .inr (6, [.ref (ta 0), .ref xr, .int (xi 2), .ref (sa 0), .ref xm, .ref xg, .ref (tr 0), .ref xs, .ref xp, .ref xq, .ref xe, .ref xt]))] ++ ([(xr, hcR k 6 xrr)] ++ ([((sa 0), .inr (4, [.ref (xa 0), .ref (ca 0), .ref (na 0), .int (si 3), .int (si 4)]))] ++ (rmW k xa rm ++ ([(xp, hcI k 4 a63.2.2.2.2.2.2.2.2.2.1)] ++ ([(xq, hcI k 4 a63.2.2.2.2.2.2.2.2.2.2.1)] ++ (RU k ra a63.2.2.2.2.2.2.2.2.2.2.2 ++ (rmW k tr a63.2.2.2.2.2.2.2.2.1)))))))) := hD
      refine hc_is (z := q6) rfl ?_
      refine lv_iconst (v := 2) hx hb dX8_playTwo_125 (by decide) ?_
      refine lv_icmp_ne (tgt := 137) hx hb dX8_playTwo_126 (by decide) (fun c7 => ?_) (fun c7 => ?_)
      · have h := fw_f c7 h
        refine lv_iload hx hb dX8_playTwo_137 (lv_at hl 6 rfl) ?_
        exact B139 _ _ _ _ _ _ _ _ _ _ _ _ h (hP.sub [0, 1, 2, 3, 4, 5, 6, 7, 8, 9, 10, 11, 50, 51, 52, 53, 54, 55, 56, 57, 58, 12, 13, 14, 15, 16, 17, 18, 19, 20, 21, 22, 23, 24, 25, 26, 27, 28, 29, 30, 31, 32, 33, 34, 35, 36, 37, 38, 39, 40, 41, 42, 43, 44, 45, 46, 47, 48, 49] rfl) (hD.sub [0, 1, 2, 3, 4, 5, 6, 7, 8, 9, 10, 11, 50, 51, 52, 53, 54, 55, 56, 57, 58, 12, 13, 14, 15, 16, 17, 18, 19, 20, 21, 22, 23, 24, 25, 26, 27, 28, 29, 30, 31, 32, 33, 34, 35, 36, 37, 38, 39, 40, 41, 42, 43, 44, 45, 46, 47, 48, 49] (by decide) rfl) hS (lv_sub hl [0, 2, 4, 7] rfl)
      · have h := fw_t c7 h
        refine lv_iload hx hb dX8_playTwo_129 (lv_at hl 6 rfl) ?_
        refine lv_bipush (v := 10) hx hb dX8_playTwo_131 (by decide) ?_
        refine lv_isub hx hb dX8_playTwo_133 ?_
        refine lv_goto (tgt := 139) hx hb dX8_playTwo_134 (by decide) ?_
        exact B139 _ _ _ _ _ _ _ _ _ _ _ _ h (hP.sub [0, 1, 2, 3, 4, 5, 6, 7, 8, 9, 10, 11, 50, 51, 52, 53, 54, 55, 56, 57, 58, 12, 13, 14, 15, 16, 17, 18, 19, 20, 21, 22, 23, 24, 25, 26, 27, 28, 29, 30, 31, 32, 33, 34, 35, 36, 37, 38, 39, 40, 41, 42, 43, 44, 45, 46, 47, 48, 49] rfl) (hD.sub [0, 1, 2, 3, 4, 5, 6, 7, 8, 9, 10, 11, 50, 51, 52, 53, 54, 55, 56, 57, 58, 12, 13, 14, 15, 16, 17, 18, 19, 20, 21, 22, 23, 24, 25, 26, 27, 28, 29, 30, 31, 32, 33, 34, 35, 36, 37, 38, 39, 40, 41, 42, 43, 44, 45, 46, 47, 48, 49] (by decide) rfl) hS (lv_sub hl [0, 2, 4, 7] rfl)
    · have h := fw_f c5 h
      refine lv_aload_n hx hb dX8_playTwo_69 rfl (lv_at hl 0 rfl) ?_
      refine va_get (D := D) (ci := 6) (v := .ref (tr 0)) (C := RX8) (T := TX8) (N := 12) hx hb hts in8 hown hG.1 hP 0 rfl rfl 6 (by decide) (hts (.fieldLink RX8 44 "ChairCane" "trial" "LChairCane$Room;") (by decide +kernel)) (fun _ h9 => h9) rfl dX8_playTwo_70 ?_
      refine lv_aloadO hx hb dX8_playTwo_73 (lv_at hl 5 rfl) ?_
      refine fw_Vi (As := [va_rf (rAd ra a63.2.2.2.2.1)]) (rest := []) (n := 1) (wr := [((xo 0), .inr (6, [.ref (ta 0), .ref xr, .int (xi 2), .ref (sa 0), .ref xm, .ref xg, .ref (tr 0), .ref xs, .ref xp, .ref xq, .ref xe, .ref xt]))] ++ ([(xr, hcR k 6 xrr)] ++ ([((sa 0), .inr (4, [.ref (xa 0), .ref (ca 0), .ref (na 0), .int (si 3), .int (si 4)]))] ++ (rmW k xa rm ++ ([(xp, hcI k 4 a63.2.2.2.2.2.2.2.2.2.1)] ++ ([(xq, hcI k 4 a63.2.2.2.2.2.2.2.2.2.2.1)])))))) (rv := fun b : Int32 × OB × (Nat → OB) => b.1) (wp := fun b : Int32 × OB × (Nat → OB) => rmW k tr b.2.1 ++ (RU k ra b.2.2)) h hx hb hml hown hts hG hA hP hD hS hl.1 [12, 13, 14, 15, 16, 17, 18, 19, 20, 23, 24, 25, 26, 27, 28, 29, 30, 31, 32, 33, 34, 35, 36, 37, 38, 39, 40, 41, 42, 43, 44, 45, 46, 47, 48, 49, 50, 51, 52, 53, 54, 55, 56, 57, 58] [0, 1, 2, 3, 4, 5, 6, 7, 8, 9, 10, 11, 21, 22] (fun q hq9 => c_X3_passMinute l D k _  tr ra F a63.2.2.2.2.1 a63.2.2.2.2.2.2.2.2.1 a63.2.2.2.2.2.2.2.2.2.2.2  hq9) (ci := 2) (q0 := 12) rfl rfl gX8_playTwo_X3_passMinute rfl ⟨rfl, rfl, Nat.le_of_ble_eq_true rfl, Nat.le_of_ble_eq_true rfl⟩ (by decide +kernel) rfl rfl ⟨by decide, by decide, by decide⟩ ⟨rfl, rfl, Nat.le_of_ble_eq_true rfl, Nat.le_of_ble_eq_true rfl, Nat.le_of_ble_eq_true rfl⟩ dX8_playTwo_75 (fun q8 H locs h hP hD hS => ?_)
      have hP : va_P D vwCl ([((xo 0), .inr (6, [.ref (ta 0), .ref xr, .int (xi 2), .ref (sa 0), .ref xm, .ref xg, .ref (tr 0), .ref xs, .ref xp, .ref xq, .ref xe, .ref xt]))] ++ ([(xr, hcR k 6 xrr)] ++ ([((sa 0), .inr (4, [.ref (xa 0), .ref (ca 0), .ref (na 0), .int (si 3), .int (si 4)]))] ++ (rmW k xa rm ++ ([(xp, hcI k 4 a63.2.2.2.2.2.2.2.2.2.1)] ++ ([(xq, hcI k 4 a63.2.2.2.2.2.2.2.2.2.2.1)] ++ (rmW k tr q8.2.1 ++ (RU k ra q8.2.2)))))))) H := hP
      have hD : va_D A ([((xo 0), .inr (6, [.ref (ta 0), .ref xr, .int (xi 2), .ref (sa 0), .ref xm, .ref xg, .ref (tr 0), .ref xs, .ref xp, .ref xq, .ref xe, .ref xt]))] ++ ([(xr, hcR k 6 xrr)] ++ ([((sa 0), .inr (4, [.ref (xa 0), .ref (ca 0), .ref (na 0), .int (si 3), .int (si 4)]))] ++ (rmW k xa rm ++ ([(xp, hcI k 4 a63.2.2.2.2.2.2.2.2.2.1)] ++ ([(xq, hcI k 4 a63.2.2.2.2.2.2.2.2.2.2.1)] ++ (rmW k tr q8.2.1 ++ (RU k ra q8.2.2)))))))) := hD
      refine hc_is (z := q8.1) rfl ?_
      refine lv_pop hx hb dX8_playTwo_78 rfl ?_
      refine lv_iload hx hb dX8_playTwo_79 (lv_at hl 6 rfl) ?_
      refine lv_aload_n hx hb dX8_playTwo_81 rfl (lv_at hl 0 rfl) ?_
      refine va_get (D := D) (ci := 6) (v := .ref (tr 0)) (C := RX8) (T := TX8) (N := 12) hx hb hts in8 hown hG.1 hP 0 rfl rfl 6 (by decide) (hts (.fieldLink RX8 44 "ChairCane" "trial" "LChairCane$Room;") (by decide +kernel)) (fun _ h9 => h9) rfl dX8_playTwo_82 ?_
      refine lv_iload_n hx hb dX8_playTwo_85 rfl (lv_at hl 1 rfl) ?_
      refine fw_Vi (As := [.int a63.1]) (rest := [.int a63.2.2.2.2.2.1]) (n := 1) (wr := [((xo 0), .inr (6, [.ref (ta 0), .ref xr, .int (xi 2), .ref (sa 0), .ref xm, .ref xg, .ref (tr 0), .ref xs, .ref xp, .ref xq, .ref xe, .ref xt]))] ++ ([(xr, hcR k 6 xrr)] ++ ([((sa 0), .inr (4, [.ref (xa 0), .ref (ca 0), .ref (na 0), .int (si 3), .int (si 4)]))] ++ (rmW k xa rm ++ ([(xp, hcI k 4 a63.2.2.2.2.2.2.2.2.2.1)] ++ ([(xq, hcI k 4 a63.2.2.2.2.2.2.2.2.2.2.1)] ++ (RU k ra q8.2.2))))))) (rv := fun b : Int32 => b) (wp := fun b : Int32 => rmW k tr q8.2.1) h hx hb hml hown hts hG hA hP hD hS hl.1 [14, 15, 16, 17, 18, 19, 20, 21, 22] [0, 1, 2, 3, 4, 5, 6, 7, 8, 9, 10, 11, 12, 13, 23, 24, 25, 26, 27, 28, 29, 30, 31, 32, 33, 34, 35, 36, 37, 38, 39, 40, 41, 42, 43, 44, 45, 46, 47, 48, 49, 50, 51, 52, 53, 54, 55, 56, 57, 58] (fun q hq9 => c_X3_worthTo l D k _  tr F a63.1 q8.2.1  hq9) (ci := 2) (q0 := 14) rfl rfl gX8_playTwo_X3_worthTo rfl ⟨rfl, rfl, Nat.le_of_ble_eq_true rfl, Nat.le_of_ble_eq_true rfl⟩ (by decide +kernel) rfl rfl ⟨by decide, by decide, by decide⟩ ⟨rfl, rfl, Nat.le_of_ble_eq_true rfl, Nat.le_of_ble_eq_true rfl, Nat.le_of_ble_eq_true rfl⟩ dX8_playTwo_86 (fun q9 H locs h hP hD hS => ?_)
      have hP : va_P D vwCl ([((xo 0), .inr (6, [.ref (ta 0), .ref xr, .int (xi 2), .ref (sa 0), .ref xm, .ref xg, .ref (tr 0), .ref xs, .ref xp, .ref xq, .ref xe, .ref xt]))] ++ ([(xr, hcR k 6 xrr)] ++ ([((sa 0), .inr (4, [.ref (xa 0), .ref (ca 0), .ref (na 0), .int (si 3), .int (si 4)]))] ++ (rmW k xa rm ++ ([(xp, hcI k 4 a63.2.2.2.2.2.2.2.2.2.1)] ++ ([(xq, hcI k 4 a63.2.2.2.2.2.2.2.2.2.2.1)] ++ (RU k ra q8.2.2 ++ (rmW k tr q8.2.1)))))))) H := hP
      have hD : va_D A ([((xo 0), .inr (6, [.ref (ta 0), .ref xr, .int (xi 2), .ref (sa 0), .ref xm, .ref xg, .ref (tr 0), .ref xs, .ref xp, .ref xq, .ref xe, .ref xt]))] ++ ([(xr, hcR k 6 xrr)] ++ ([((sa 0), .inr (4, [.ref (xa 0), .ref (ca 0), .ref (na 0), .int (si 3), .int (si 4)]))] ++ (rmW k xa rm ++ ([(xp, hcI k 4 a63.2.2.2.2.2.2.2.2.2.1)] ++ ([(xq, hcI k 4 a63.2.2.2.2.2.2.2.2.2.2.1)] ++ (RU k ra q8.2.2 ++ (rmW k tr q8.2.1)))))))) := hD
      refine hc_is (z := q9) rfl ?_
      refine lv_iadd hx hb dX8_playTwo_89 ?_
      refine lv_istore (lv' := [(6, .int (a63.2.2.2.2.2.1 + q9)), (0, .ref (xo 0)), (1, .int a63.1), (2, .int a63.2.1), (3, .int a63.2.2.1), (4, .int a63.2.2.2.1), (5, va_rf (rAd ra a63.2.2.2.2.1)), (7, .int a63.2.2.2.2.2.2.1), (8, .int a63.2.2.2.2.2.2.2.1)]) hx hb dX8_playTwo_90 hl (by decide) (by cases rAd ra a63.2.2.2.2.1 <;> rfl) (fun ls hl => ?_)
      refine lv_iload hx hb dX8_playTwo_92 (lv_at hl 7 rfl) ?_
      refine lv_aload_n hx hb dX8_playTwo_94 rfl (lv_at hl 1 rfl) ?_
      refine va_get (D := D) (ci := 6) (v := .ref (tr 0)) (C := RX8) (T := TX8) (N := 12) hx hb hts in8 hown hG.1 hP 0 rfl rfl 6 (by decide) (hts (.fieldLink RX8 44 "ChairCane" "trial" "LChairCane$Room;") (by decide +kernel)) (fun _ h9 => h9) rfl dX8_playTwo_95 ?_
      refine lv_iload_n hx hb dX8_playTwo_98 rfl (lv_at hl 3 rfl) ?_
      refine fw_Vi (As := [.int a63.2.1]) (rest := [.int a63.2.2.2.2.2.2.1]) (n := 1) (wr := [((xo 0), .inr (6, [.ref (ta 0), .ref xr, .int (xi 2), .ref (sa 0), .ref xm, .ref xg, .ref (tr 0), .ref xs, .ref xp, .ref xq, .ref xe, .ref xt]))] ++ ([(xr, hcR k 6 xrr)] ++ ([((sa 0), .inr (4, [.ref (xa 0), .ref (ca 0), .ref (na 0), .int (si 3), .int (si 4)]))] ++ (rmW k xa rm ++ ([(xp, hcI k 4 a63.2.2.2.2.2.2.2.2.2.1)] ++ ([(xq, hcI k 4 a63.2.2.2.2.2.2.2.2.2.2.1)] ++ (RU k ra q8.2.2))))))) (rv := fun b : Int32 => b) (wp := fun b : Int32 => rmW k tr q8.2.1) h hx hb hml hown hts hG hA hP hD hS hl.1 [50, 51, 52, 53, 54, 55, 56, 57, 58] [0, 1, 2, 3, 4, 5, 6, 7, 8, 9, 10, 11, 12, 13, 14, 15, 16, 17, 18, 19, 20, 21, 22, 23, 24, 25, 26, 27, 28, 29, 30, 31, 32, 33, 34, 35, 36, 37, 38, 39, 40, 41, 42, 43, 44, 45, 46, 47, 48, 49] (fun q hq9 => c_X3_worthTo l D k _  tr F a63.2.1 q8.2.1  hq9) (ci := 2) (q0 := 50) rfl rfl gX8_playTwo_X3_worthTo rfl ⟨rfl, rfl, Nat.le_of_ble_eq_true rfl, Nat.le_of_ble_eq_true rfl⟩ (by decide +kernel) rfl rfl ⟨by decide, by decide, by decide⟩ ⟨rfl, rfl, Nat.le_of_ble_eq_true rfl, Nat.le_of_ble_eq_true rfl, Nat.le_of_ble_eq_true rfl⟩ dX8_playTwo_99 (fun q10 H locs h hP hD hS => ?_)
      have hP : va_P D vwCl ([((xo 0), .inr (6, [.ref (ta 0), .ref xr, .int (xi 2), .ref (sa 0), .ref xm, .ref xg, .ref (tr 0), .ref xs, .ref xp, .ref xq, .ref xe, .ref xt]))] ++ ([(xr, hcR k 6 xrr)] ++ ([((sa 0), .inr (4, [.ref (xa 0), .ref (ca 0), .ref (na 0), .int (si 3), .int (si 4)]))] ++ (rmW k xa rm ++ ([(xp, hcI k 4 a63.2.2.2.2.2.2.2.2.2.1)] ++ ([(xq, hcI k 4 a63.2.2.2.2.2.2.2.2.2.2.1)] ++ (RU k ra q8.2.2 ++ (rmW k tr q8.2.1)))))))) H := hP
      have hD : va_D A ([((xo 0), .inr (6, [.ref (ta 0), .ref xr, .int (xi 2), .ref (sa 0), .ref xm, .ref xg, .ref (tr 0), .ref xs, .ref xp, .ref xq, .ref xe, .ref xt]))] ++ ([(xr, hcR k 6 xrr)] ++ ([((sa 0), .inr (4, [.ref (xa 0), .ref (ca 0), .ref (na 0), .int (si 3), .int (si 4)]))] ++ (rmW k xa rm ++ ([(xp, hcI k 4 a63.2.2.2.2.2.2.2.2.2.1)] ++ ([(xq, hcI k 4 a63.2.2.2.2.2.2.2.2.2.2.1)] ++ (RU k ra q8.2.2 ++ (rmW k tr q8.2.1)))))))) := hD
      refine hc_is (z := q10) rfl ?_
      refine lv_iadd hx hb dX8_playTwo_102 ?_
      refine lv_istore (lv' := [(7, .int (a63.2.2.2.2.2.2.1 + q10)), (6, .int (a63.2.2.2.2.2.1 + q9)), (0, .ref (xo 0)), (1, .int a63.1), (2, .int a63.2.1), (3, .int a63.2.2.1), (4, .int a63.2.2.2.1), (5, va_rf (rAd ra a63.2.2.2.2.1)), (8, .int a63.2.2.2.2.2.2.2.1)]) hx hb dX8_playTwo_103 hl (by decide) (by cases rAd ra a63.2.2.2.2.1 <;> rfl) (fun ls hl => ?_)
      refine lv_iinc (v := (a63.2.2.2.2.2.2.2.1 + 1)) (lv' := [(8, .int (a63.2.2.2.2.2.2.2.1 + 1)), (7, .int (a63.2.2.2.2.2.2.1 + q10)), (6, .int (a63.2.2.2.2.2.1 + q9)), (0, .ref (xo 0)), (1, .int a63.1), (2, .int a63.2.1), (3, .int a63.2.2.1), (4, .int a63.2.2.2.1), (5, va_rf (rAd ra a63.2.2.2.2.1))]) hx hb dX8_playTwo_105 hl (k := 8) rfl rfl (by decide) (by cases rAd ra a63.2.2.2.2.1 <;> rfl) (fun ls hl => ?_)
      refine lv_goto (tgt := 63) hx hb dX8_playTwo_108 (by decide) ?_
      exact hc63 _ _ _ _ _ _ _ _ _ _ _ _ h _ _ _ (hP.sub [0, 1, 2, 3, 4, 5, 6, 7, 8, 9, 10, 11, 50, 51, 52, 53, 54, 55, 56, 57, 58, 12, 13, 14, 15, 16, 17, 18, 19, 20, 21, 22, 23, 24, 25, 26, 27, 28, 29, 30, 31, 32, 33, 34, 35, 36, 37, 38, 39, 40, 41, 42, 43, 44, 45, 46, 47, 48, 49] rfl) (hD.sub [0, 1, 2, 3, 4, 5, 6, 7, 8, 9, 10, 11, 50, 51, 52, 53, 54, 55, 56, 57, 58, 12, 13, 14, 15, 16, 17, 18, 19, 20, 21, 22, 23, 24, 25, 26, 27, 28, 29, 30, 31, 32, 33, 34, 35, 36, 37, 38, 39, 40, 41, 42, 43, 44, 45, 46, 47, 48, 49] (by decide) rfl) hS (lv_sub hl [3, 4, 5, 6, 7, 8, 2, 1, 0] rfl)
  have C63 : ∀ (v1 : Int32) (v2 : Int32) (v3 : Int32) (v4 : Int32) (v5 : Int32) (v6 : Int32) (v7 : Int32) (v8 : Int32) (tm : OB) (xpr : Nat → Int32) (xqr : Nat → Int32) (rz : Nat → OB), lp (b_X8_playTwo_63 F xi xrr si rm) F (v1, v2, v3, v4, v5, v6, v7, v8, tm, xpr, xqr, rz) = some res → ∀ (H : Heap) (locs : List Loc) (ls : Array Slot), va_P D vwCl ([((xo 0), .inr (6, [.ref (ta 0), .ref xr, .int (xi 2), .ref (sa 0), .ref xm, .ref xg, .ref (tr 0), .ref xs, .ref xp, .ref xq, .ref xe, .ref xt]))] ++ ([(xr, hcR k 6 xrr)] ++ ([((sa 0), .inr (4, [.ref (xa 0), .ref (ca 0), .ref (na 0), .int (si 3), .int (si 4)]))] ++ (rmW k xa rm ++ (rmW k tr tm ++ ([(xp, hcI k 4 xpr)] ++ ([(xq, hcI k 4 xqr)] ++ (RU k ra rz)))))))) H → va_D A ([((xo 0), .inr (6, [.ref (ta 0), .ref xr, .int (xi 2), .ref (sa 0), .ref xm, .ref xg, .ref (tr 0), .ref xs, .ref xp, .ref xq, .ref xe, .ref xt]))] ++ ([(xr, hcR k 6 xrr)] ++ ([((sa 0), .inr (4, [.ref (xa 0), .ref (ca 0), .ref (na 0), .int (si 3), .int (si 4)]))] ++ (rmW k xa rm ++ (rmW k tr tm ++ ([(xp, hcI k 4 xpr)] ++ ([(xq, hcI k 4 xqr)] ++ (RU k ra rz)))))))) → va_S A s.heap H locs → lv_has ls 9 [(0, .ref (xo 0)), (1, .int v1), (2, .int v2), (3, .int v3), (4, .int v4), (5, va_rf (rAd ra v5)), (6, .int v6), (7, .int v7), (8, .int v8)] → W p l e (rmK 6 0 0) s m (List.toArray [.ref (xo 0), .int x1, .int x2, .int x3, .int x4]) below meth c H locs 0 0 (MQ below (va_Qv (fun (_ : Unit) => True) (hcB D (fun _ : Unit => [((xo 0), .inr (6, [.ref (ta 0), .ref xr, .int (xi 2), .ref (sa 0), .ref xm, .ref xg, .ref (tr 0), .ref xs, .ref xp, .ref xq, .ref xe, .ref xt]))] ++ ([(xr, hcR k 6 xrr)] ++ ([((sa 0), .inr (4, [.ref (xa 0), .ref (ca 0), .ref (na 0), .int (si 3), .int (si 4)]))] ++ (rmW k xa rm ++ (rmW k tr res.1 ++ ([(xp, hcI k 4 res.2.1)] ++ ([(xq, hcI k 4 res.2.2.1)] ++ (RU k ra res.2.2.2)))))))) A) A) (List.toArray [.ref (xo 0), .int x1, .int x2, .int x3, .int x4]) s 0 0 A) (F0 m 63 ls []) := fun v1 v2 v3 v4 v5 v6 v7 v8 tm xpr xqr rz => B63 (v1, v2, v3, v4, v5, v6, v7, v8, tm, xpr, xqr, rz)
  refine lv_aload_n hx hb dX8_playTwo_0 rfl (lv_at hl 0 rfl) ?_
  refine fw_Vq (As := []) (rest := []) (n := 0) (wr := rmW k xa rm ++ (rmW k tr tm ++ ([(xp, hcI k 4 xpr)] ++ ([(xq, hcI k 4 xqr)] ++ (RU k ra rz))))) (rv := fun b : Int32 => rAd ra b) (wp := fun b : Int32 => [((xo 0), .inr (6, [.ref (ta 0), .ref xr, .int (xi 2), .ref (sa 0), .ref xm, .ref xg, .ref (tr 0), .ref xs, .ref xp, .ref xq, .ref xe, .ref xt]))] ++ ([(xr, hcR k 6 xrr)] ++ ([((sa 0), .inr (4, [.ref (xa 0), .ref (ca 0), .ref (na 0), .int (si 3), .int (si 4)]))]))) h hx hb hml hown hts hG hA hP hD hS hl.1 [0, 1, 2] [3, 4, 5, 6, 7, 8, 9, 10, 11, 12, 13, 14, 15, 16, 17, 18, 19, 20, 21, 22, 23, 24, 25, 26, 27, 28, 29, 30, 31, 32, 33, 34, 35, 36, 37, 38, 39, 40, 41, 42, 43, 44, 45, 46, 47, 48, 49, 50, 51, 52, 53, 54, 55, 56, 57, 58] (fun q hq9 => c_X8_ruleInForce l D k _  xo ta xr sa xm xg tr xs xp xq xe xt xa ca na ra F  xi xrr si hq hq9) (ci := 6) (q0 := 0) rfl rfl gX8_playTwo_X8_ruleInForce rfl ⟨rfl, rfl, Nat.le_of_ble_eq_true rfl, Nat.le_of_ble_eq_true rfl⟩ (by decide +kernel) rfl rfl ⟨by decide, by decide, by decide⟩ ⟨rfl, rfl, Nat.le_of_ble_eq_true rfl, Nat.le_of_ble_eq_true rfl, Nat.le_of_ble_eq_true rfl⟩ dX8_playTwo_1 (fun q11 H locs h hP hD hS => ?_)
  have hP : va_P D vwCl (rmW k xa rm ++ (rmW k tr tm ++ ([(xp, hcI k 4 xpr)] ++ ([(xq, hcI k 4 xqr)] ++ (RU k ra rz ++ ([((xo 0), .inr (6, [.ref (ta 0), .ref xr, .int (xi 2), .ref (sa 0), .ref xm, .ref xg, .ref (tr 0), .ref xs, .ref xp, .ref xq, .ref xe, .ref xt]))] ++ ([(xr, hcR k 6 xrr)] ++ ([((sa 0), .inr (4, [.ref (xa 0), .ref (ca 0), .ref (na 0), .int (si 3), .int (si 4)]))])))))))) H := hP
  have hD : va_D A (rmW k xa rm ++ (rmW k tr tm ++ ([(xp, hcI k 4 xpr)] ++ ([(xq, hcI k 4 xqr)] ++ (RU k ra rz ++ ([((xo 0), .inr (6, [.ref (ta 0), .ref xr, .int (xi 2), .ref (sa 0), .ref xm, .ref xg, .ref (tr 0), .ref xs, .ref xp, .ref xq, .ref xe, .ref xt]))] ++ ([(xr, hcR k 6 xrr)] ++ ([((sa 0), .inr (4, [.ref (xa 0), .ref (ca 0), .ref (na 0), .int (si 3), .int (si 4)]))])))))))) := hD
  refine hc_isV (z := va_rf (rAd ra q11)) rfl ?_
  refine lv_astoreO (lv' := [(5, va_rf (rAd ra q11)), (0, .ref (xo 0)), (1, .int x1), (2, .int x2), (3, .int x3), (4, .int x4)]) hx hb dX8_playTwo_4 hl (by decide) (by cases rAd ra q11 <;> rfl) (fun ls hl => ?_)
  refine lv_iconst (v := 0) hx hb dX8_playTwo_6 (by decide) ?_
  refine lv_istore (lv' := [(6, .int 0), (5, va_rf (rAd ra q11)), (0, .ref (xo 0)), (1, .int x1), (2, .int x2), (3, .int x3), (4, .int x4)]) hx hb dX8_playTwo_7 hl (by decide) (by cases rAd ra q11 <;> rfl) (fun ls hl => ?_)
  refine lv_iconst (v := 0) hx hb dX8_playTwo_9 (by decide) ?_
  refine lv_istore (lv' := [(7, .int 0), (6, .int 0), (5, va_rf (rAd ra q11)), (0, .ref (xo 0)), (1, .int x1), (2, .int x2), (3, .int x3), (4, .int x4)]) hx hb dX8_playTwo_10 hl (by decide) (by cases rAd ra q11 <;> rfl) (fun ls hl => ?_)
  refine lv_aload_n hx hb dX8_playTwo_12 rfl (lv_at hl 3 rfl) ?_
  refine va_get (D := D) (ci := 6) (v := .ref (tr 0)) (C := RX8) (T := TX8) (N := 12) hx hb hts in8 hown hG.1 hP 56 rfl rfl 6 (by decide) (hts (.fieldLink RX8 44 "ChairCane" "trial" "LChairCane$Room;") (by decide +kernel)) (fun _ h9 => h9) rfl dX8_playTwo_13 ?_
  refine lv_aload_n hx hb dX8_playTwo_16 rfl (lv_at hl 3 rfl) ?_
  refine va_get (D := D) (ci := 6) (v := .ref (sa 0)) (C := RX8) (T := TX8) (N := 12) hx hb hts in8 hown hG.1 hP 56 rfl rfl 3 (by decide) (hts (.fieldLink RX8 29 "ChairCane" "now" "LChairCane$Standing;") (by decide +kernel)) (fun _ h9 => h9) rfl dX8_playTwo_17 ?_
  refine va_get (D := D) (ci := 4) (v := .ref (xa 0)) (C := RX6) (T := TX6) (N := 5) hx hb hts in6 hown hG.1 hP 58 rfl rfl 0 (by decide) (hts (.fieldLink RX8 81 "ChairCane$Standing" "room" "LChairCane$Room;") (by decide +kernel)) (fun _ h9 => h9) rfl dX8_playTwo_20 ?_
  refine fw_Vv (As := [.ref (xa 0)]) (rest := []) (n := 1) (wr := [(xp, hcI k 4 xpr)] ++ ([(xq, hcI k 4 xqr)] ++ (RU k ra rz ++ ([((xo 0), .inr (6, [.ref (ta 0), .ref xr, .int (xi 2), .ref (sa 0), .ref xm, .ref xg, .ref (tr 0), .ref xs, .ref xp, .ref xq, .ref xe, .ref xt]))] ++ ([(xr, hcR k 6 xrr)] ++ ([((sa 0), .inr (4, [.ref (xa 0), .ref (ca 0), .ref (na 0), .int (si 3), .int (si 4)]))])))))) (wp := fun b : OB => rmW k tr b ++ (rmW k xa rm)) h hx hb hml hown hts hG hA hP hD hS hl.1 [9, 10, 11, 12, 13, 14, 15, 16, 17, 0, 1, 2, 3, 4, 5, 6, 7, 8] [18, 19, 20, 21, 22, 23, 24, 25, 26, 27, 28, 29, 30, 31, 32, 33, 34, 35, 36, 37, 38, 39, 40, 41, 42, 43, 44, 45, 46, 47, 48, 49, 50, 51, 52, 53, 54, 55, 56, 57, 58] (fun q hq9 => c_X3_copyFrom l D k _  tr xa F  tm rm  hq9) (ci := 2) (q0 := 9) rfl rfl gX8_playTwo_X3_copyFrom rfl ⟨rfl, rfl, Nat.le_of_ble_eq_true rfl, Nat.le_of_ble_eq_true rfl⟩ (by decide +kernel) rfl rfl ⟨by decide, by decide, by decide⟩ ⟨rfl, rfl, Nat.le_of_ble_eq_true rfl, Nat.le_of_ble_eq_true rfl, Nat.le_of_ble_eq_true rfl⟩ dX8_playTwo_23 (fun q12 H locs h hP hD hS => ?_)
  have hP : va_P D vwCl ([(xp, hcI k 4 xpr)] ++ ([(xq, hcI k 4 xqr)] ++ (RU k ra rz ++ ([((xo 0), .inr (6, [.ref (ta 0), .ref xr, .int (xi 2), .ref (sa 0), .ref xm, .ref xg, .ref (tr 0), .ref xs, .ref xp, .ref xq, .ref xe, .ref xt]))] ++ ([(xr, hcR k 6 xrr)] ++ ([((sa 0), .inr (4, [.ref (xa 0), .ref (ca 0), .ref (na 0), .int (si 3), .int (si 4)]))] ++ (rmW k tr q12 ++ (rmW k xa rm)))))))) H := hP
  have hD : va_D A ([(xp, hcI k 4 xpr)] ++ ([(xq, hcI k 4 xqr)] ++ (RU k ra rz ++ ([((xo 0), .inr (6, [.ref (ta 0), .ref xr, .int (xi 2), .ref (sa 0), .ref xm, .ref xg, .ref (tr 0), .ref xs, .ref xp, .ref xq, .ref xe, .ref xt]))] ++ ([(xr, hcR k 6 xrr)] ++ ([((sa 0), .inr (4, [.ref (xa 0), .ref (ca 0), .ref (na 0), .int (si 3), .int (si 4)]))] ++ (rmW k tr q12 ++ (rmW k xa rm)))))))) := hD
  refine lv_aload_n hx hb dX8_playTwo_26 rfl (lv_at hl 3 rfl) ?_
  refine va_get (D := D) (ci := 6) (v := .ref (tr 0)) (C := RX8) (T := TX8) (N := 12) hx hb hts in8 hown hG.1 hP 38 rfl rfl 6 (by decide) (hts (.fieldLink RX8 44 "ChairCane" "trial" "LChairCane$Room;") (by decide +kernel)) (fun _ h9 => h9) rfl dX8_playTwo_27 ?_
  refine lv_iconst (v := 1) hx hb dX8_playTwo_30 (by decide) ?_
  refine lv_iload_n hx hb dX8_playTwo_31 rfl (lv_at hl 4 rfl) ?_
  refine lv_ishl hx hb dX8_playTwo_32 ?_
  refine lv_iconst (v := 1) hx hb dX8_playTwo_33 (by decide) ?_
  refine lv_iload_n hx hb dX8_playTwo_34 rfl (lv_at hl 5 rfl) ?_
  refine lv_ishl hx hb dX8_playTwo_35 ?_
  refine lv_ior hx hb dX8_playTwo_36 ?_
  refine va_put (D := D) (ci := 2) (v := .int ((1 <<< (x1 &&& 31)) ||| (1 <<< (x2 &&& 31)))) (C := RX3) (T := TX3) (N := 17) hx hb hts in3 tyX3 tyX3_ok nmX3 hown hG.1 hP hD hS 41 rfl rfl 15 (by decide) (hts (.fieldLink RX8 231 "ChairCane$Room" "held" "I") (by decide +kernel)) (fun _ h9 => h9) rfl (tyX3_ok 15 (by decide)) rfl rfl (Nat.le_of_ble_eq_true rfl) dX8_playTwo_37 (fun H locs hP hD hS => ?_)
  refine lv_aload_n hx hb dX8_playTwo_40 rfl (lv_at hl 3 rfl) ?_
  refine va_get (D := D) (ci := 6) (v := .ref (tr 0)) (C := RX8) (T := TX8) (N := 12) hx hb hts in8 hown hG.1 hP 38 rfl rfl 6 (by decide) (hts (.fieldLink RX8 44 "ChairCane" "trial" "LChairCane$Room;") (by decide +kernel)) (fun _ h9 => h9) rfl dX8_playTwo_41 ?_
  refine lv_iload hx hb dX8_playTwo_44 (lv_at hl 7 rfl) ?_
  refine lv_iconst (v := 1) hx hb dX8_playTwo_46 (by decide) ?_
  refine lv_ishr hx hb dX8_playTwo_47 ?_
  refine lv_iload_n hx hb dX8_playTwo_48 rfl (lv_at hl 4 rfl) ?_
  refine lv_ishl hx hb dX8_playTwo_49 ?_
  refine lv_iload hx hb dX8_playTwo_50 (lv_at hl 7 rfl) ?_
  refine lv_iconst (v := 1) hx hb dX8_playTwo_52 (by decide) ?_
  refine lv_iand hx hb dX8_playTwo_53 ?_
  refine lv_iload_n hx hb dX8_playTwo_54 rfl (lv_at hl 5 rfl) ?_
  refine lv_ishl hx hb dX8_playTwo_55 ?_
  refine lv_ior hx hb dX8_playTwo_56 ?_
  refine va_put (D := D) (ci := 2) (v := .int (((x4 >>> (1 &&& 31)) <<< (x1 &&& 31)) ||| ((x4 &&& 1) <<< (x2 &&& 31)))) (C := RX3) (T := TX3) (N := 17) hx hb hts in3 tyX3 tyX3_ok nmX3 hown hG.1 hP hD hS 41 rfl rfl 16 (by decide) (hts (.fieldLink RX8 234 "ChairCane$Room" "heldDown" "I") (by decide +kernel)) (fun _ h9 => h9) rfl (tyX3_ok 16 (by decide)) rfl rfl (Nat.le_of_ble_eq_true rfl) dX8_playTwo_57 (fun H locs hP hD hS => ?_)
  refine lv_iconst (v := 0) hx hb dX8_playTwo_60 (by decide) ?_
  refine lv_istore (lv' := [(8, .int 0), (7, .int 0), (6, .int 0), (5, va_rf (rAd ra q11)), (0, .ref (xo 0)), (1, .int x1), (2, .int x2), (3, .int x3), (4, .int x4)]) hx hb dX8_playTwo_61 hl (by decide) (by cases rAd ra q11 <;> rfl) (fun ls hl => ?_)
  exact C63 _ _ _ _ _ _ _ _ _ _ _ _ h _ _ _ (hP.sub [38, 39, 40, 50, 51, 52, 53, 54, 55, 56, 57, 58, 41, 42, 43, 44, 45, 46, 47, 48, 49, 0, 1, 2, 3, 4, 5, 6, 7, 8, 9, 10, 11, 12, 13, 14, 15, 16, 17, 18, 19, 20, 21, 22, 23, 24, 25, 26, 27, 28, 29, 30, 31, 32, 33, 34, 35, 36, 37] rfl) (hD.sub [38, 39, 40, 50, 51, 52, 53, 54, 55, 56, 57, 58, 41, 42, 43, 44, 45, 46, 47, 48, 49, 0, 1, 2, 3, 4, 5, 6, 7, 8, 9, 10, 11, 12, 13, 14, 15, 16, 17, 18, 19, 20, 21, 22, 23, 24, 25, 26, 27, 28, 29, 30, 31, 32, 33, 34, 35, 36, 37] (by decide) rfl) hS (lv_sub hl [4, 5, 6, 7, 8, 3, 2, 1, 0] rfl)
def b_X8_rests_32 (F : Nat)  (xi : Nat → Int32) (xrr : Nat → Option Nat) (si : Nat → Int32) (rm : OB)  (tm : OB) (xpr : Nat → Int32) (xqr : Nat → Int32) (rz : Nat → OB) : Option (Int32 × OB × (Nat → Int32) × (Nat → Int32) × (Nat → OB)) :=
  some ((-1), tm, xpr, xqr, rz)
def b_X8_rests_56 (F : Nat)  (xi : Nat → Int32) (xrr : Nat → Option Nat) (si : Nat → Int32) (rm : OB)  (tm : OB) (xpr : Nat → Int32) (xqr : Nat → Int32) (rz : Nat → OB) : Option (Int32 × OB × (Nat → Int32) × (Nat → Int32) × (Nat → OB)) :=
  some ((-1), tm, xpr, xqr, rz)
def b_X8_rests_181 (F : Nat)  (xi : Nat → Int32) (xrr : Nat → Option Nat) (si : Nat → Int32) (rm : OB)  (y0 : Int32) (tm : OB) (xpr : Nat → Int32) (xqr : Nat → Int32) (rz : Nat → OB) : Option (Int32 × OB × (Nat → Int32) × (Nat → Int32) × (Nat → OB)) :=
  some (y0, tm, xpr, xqr, rz)
def b_X8_rests_141 (F : Nat)  (xi : Nat → Int32) (xrr : Nat → Option Nat) (si : Nat → Int32) (rm : OB) (k91 : (Int32 × Int32 × Int32 × Int32 × OB × (Nat → Int32) × (Nat → Int32) × (Nat → OB)) → Option (Int32 × OB × (Nat → Int32) × (Nat → Int32) × (Nat → OB))) (v4 : Int32) (v6 : Int32) (v7 : Int32) (v8 : Int32) (tm : OB) (xpr : Nat → Int32) (xqr : Nat → Int32) (rz : Nat → OB) : Option (Int32 × OB × (Nat → Int32) × (Nat → Int32) × (Nat → OB)) :=
  k91 (v4, v6, v7, (v8 + (-1)), tm, xpr, xqr, rz)
def b_X8_rests_91 (F : Nat)  (xi : Nat → Int32) (xrr : Nat → Option Nat) (si : Nat → Int32) (rm : OB)  (k91 : (Int32 × Int32 × Int32 × Int32 × OB × (Nat → Int32) × (Nat → Int32) × (Nat → OB)) → Option (Int32 × OB × (Nat → Int32) × (Nat → Int32) × (Nat → OB))) (a91 : (Int32 × Int32 × Int32 × Int32 × OB × (Nat → Int32) × (Nat → Int32) × (Nat → OB))) : Option (Int32 × OB × (Nat → Int32) × (Nat → Int32) × (Nat → OB)) :=
  if a91.2.2.2.1 < 0 then (if a91.1 = 0 then (some (a91.2.1, a91.2.2.2.2.1, a91.2.2.2.2.2.1, a91.2.2.2.2.2.2.1, a91.2.2.2.2.2.2.2)) else (if a91.2.2.1 = (-1) then (some ((-2), a91.2.2.2.2.1, a91.2.2.2.2.2.1, a91.2.2.2.2.2.2.1, a91.2.2.2.2.2.2.2)) else (if a91.1 = 1 then (b_X8_rests_181 F xi xrr si rm (a91.2.2.1 >>> (1 &&& 31)) a91.2.2.2.2.1 a91.2.2.2.2.2.1 a91.2.2.2.2.2.2.1 a91.2.2.2.2.2.2.2) else (b_X8_rests_181 F xi xrr si rm (a91.2.2.1 &&& 1) a91.2.2.2.2.1 a91.2.2.2.2.2.1 a91.2.2.2.2.2.2.1 a91.2.2.2.2.2.2.2)))) else (if ib a91.2.2.2.1 4 then (if ib (a91.2.2.2.1 ^^^ 2) 4 then (if (a91.2.2.2.2.2.1 (Int32.toNatClampNeg a91.2.2.2.1)) < (a91.2.2.2.2.2.1 (Int32.toNatClampNeg (a91.2.2.2.1 ^^^ 2))) then (b_X8_rests_141 F xi xrr si rm k91 a91.1 a91.2.1 a91.2.2.1 a91.2.2.2.1 a91.2.2.2.2.1 a91.2.2.2.2.2.1 a91.2.2.2.2.2.2.1 a91.2.2.2.2.2.2.2) else (if ib (a91.2.2.2.1 ^^^ 1) 4 then (if (a91.2.2.2.2.2.2.1 (Int32.toNatClampNeg a91.2.2.2.1)) < (a91.2.2.2.2.2.2.1 (Int32.toNatClampNeg (a91.2.2.2.1 ^^^ 1))) then (b_X8_rests_141 F xi xrr si rm k91 a91.1 a91.2.1 a91.2.2.1 a91.2.2.2.1 a91.2.2.2.2.1 a91.2.2.2.2.2.1 a91.2.2.2.2.2.2.1 a91.2.2.2.2.2.2.2) else (b_X8_rests_141 F xi xrr si rm k91 a91.1 (a91.2.1 + 1) a91.2.2.2.1 a91.2.2.2.1 a91.2.2.2.2.1 a91.2.2.2.2.2.1 a91.2.2.2.2.2.2.1 a91.2.2.2.2.2.2.2)) else none)) else none) else none)
def b_X8_rests_61 (F : Nat)  (xi : Nat → Int32) (xrr : Nat → Option Nat) (si : Nat → Int32) (rm : OB)  (k61 : (Int32 × Int32 × Int32 × Int32 × Int32 × OB × (Nat → Int32) × (Nat → Int32) × (Nat → OB)) → Option (Int32 × OB × (Nat → Int32) × (Nat → Int32) × (Nat → OB))) (a61 : (Int32 × Int32 × Int32 × Int32 × Int32 × OB × (Nat → Int32) × (Nat → Int32) × (Nat → OB))) : Option (Int32 × OB × (Nat → Int32) × (Nat → Int32) × (Nat → OB)) :=
  if 4 ≤ a61.2.2.2.2.1 then (lp (b_X8_rests_91 F xi xrr si rm) F (a61.2.2.2.1, 0, (-1), 3, a61.2.2.2.2.2.1, a61.2.2.2.2.2.2.1, a61.2.2.2.2.2.2.2.1, a61.2.2.2.2.2.2.2.2)) else (Option.bind (f_X8_playTwo F a61.1 a61.2.1 a61.2.2.1 a61.2.2.2.2.1 xi xrr si rm a61.2.2.2.2.2.1 a61.2.2.2.2.2.2.1 a61.2.2.2.2.2.2.2.1 a61.2.2.2.2.2.2.2.2) (fun q11 => (k61 (a61.1, a61.2.1, a61.2.2.1, a61.2.2.2.1, (a61.2.2.2.2.1 + 1), q11.1, q11.2.1, q11.2.2.1, q11.2.2.2))))
def f_X8_rests (F : Nat)  (x1 : Int32) (x2 : Int32) (x3 : Int32) (x4 : Int32) (xi : Nat → Int32) (xrr : Nat → Option Nat) (si : Nat → Int32) (rm : OB) (tm : OB) (xpr : Nat → Int32) (xqr : Nat → Int32) (rz : Nat → OB) : Option (Int32 × OB × (Nat → Int32) × (Nat → Int32) × (Nat → OB)) :=
  Option.bind (f_X3_isUp F x1 rm) (fun q12 => (if q12 = 0 then (b_X8_rests_32 F xi xrr si rm tm xpr xqr rz) else (Option.bind (f_X3_isUp F x2 rm) (fun q14 => (if q14 = 0 then (b_X8_rests_32 F xi xrr si rm tm xpr xqr rz) else (if x1 = x2 then (b_X8_rests_32 F xi xrr si rm tm xpr xqr rz) else (if x3 < 1 then (b_X8_rests_56 F xi xrr si rm tm xpr xqr rz) else (if 20 < x3 then (b_X8_rests_56 F xi xrr si rm tm xpr xqr rz) else (if x4 < 0 then (b_X8_rests_56 F xi xrr si rm tm xpr xqr rz) else (if x4 ≤ 2 then (lp (b_X8_rests_61 F xi xrr si rm) F (x1, x2, x3, x4, 0, tm, xpr, xqr, rz)) else (b_X8_rests_56 F xi xrr si rm tm xpr xqr rz)))))))))))
set_option maxHeartbeats 4000000 in
set_option maxRecDepth 100000 in
theorem c_X8_rests (l : Launch) (D : va_G) (k : Nat → ClassId) (sz : Nat)  (xo : Nat → Nat) (ta : Nat → Nat) (xr : Nat) (sa : Nat → Nat) (xm : Nat) (xg : Nat) (tr : Nat → Nat) (xs : Nat) (xp : Nat) (xq : Nat) (xe : Nat) (xt : Nat) (xa : Nat → Nat) (ca : Nat → Nat) (na : Nat → Nat) (ra : Nat → Nat) (F : Nat)  (x1 : Int32) (x2 : Int32) (x3 : Int32) (x4 : Int32) (xi : Nat → Int32) (xrr : Nat → Option Nat) (si : Nat → Int32) (rm : OB) (tm : OB) (xpr : Nat → Int32) (xqr : Nat → Int32) (rz : Nat → OB) (hq : ∀ i, i < 6 → xrr i = some (ra (6 * i))) {res : Int32 × OB × (Nat → Int32) × (Nat → Int32) × (Nat → OB)} (h : f_X8_rests F x1 x2 x3 x4 xi xrr si rm tm xpr xqr rz = some res) : CtI l yX8_rests wsX8_rests (rmK 7 0 0) [.ref (xo 0), .int x1, .int x2, .int x3, .int x4] D k sz ([((xo 0), .inr (6, [.ref (ta 0), .ref xr, .int (xi 2), .ref (sa 0), .ref xm, .ref xg, .ref (tr 0), .ref xs, .ref xp, .ref xq, .ref xe, .ref xt]))] ++ ([(xr, hcR k 6 xrr)] ++ ([((sa 0), .inr (4, [.ref (xa 0), .ref (ca 0), .ref (na 0), .int (si 3), .int (si 4)]))] ++ (rmW k xa rm ++ (rmW k tr tm ++ ([(xp, hcI k 4 xpr)] ++ ([(xq, hcI k 4 xqr)] ++ (RU k ra rz)))))))) (fun r (_ : Unit) => r = res.1) (fun _ : Unit => [((xo 0), .inr (6, [.ref (ta 0), .ref xr, .int (xi 2), .ref (sa 0), .ref xm, .ref xg, .ref (tr 0), .ref xs, .ref xp, .ref xq, .ref xe, .ref xt]))] ++ ([(xr, hcR k 6 xrr)] ++ ([((sa 0), .inr (4, [.ref (xa 0), .ref (ca 0), .ref (na 0), .int (si 3), .int (si 4)]))] ++ (rmW k xa rm ++ (rmW k tr res.2.1 ++ ([(xp, hcI k 4 res.2.2.1)] ++ ([(xq, hcI k 4 res.2.2.2.1)] ++ (RU k ra res.2.2.2.2)))))))) 0 0 := by
  refine CtI.mk (cc := cX8_rests) (maxL := 9) (ret := (some .int)) (by decide) rfl (Nat.le_of_ble_eq_true rfl) ?_
  intro p e s m below meth c A ls E hP hD hS hl
  obtain ⟨hx, hb, hr, hml, hown, hts, hlocks, hin, hG, hA⟩ := E
  have hown : s.vm.findClass RX8 = some m.cls := hown
  have in3 : ∀ w ∈ u_ws RX3 TX3 17, w ∈ wsX8_rests := fun _ h => List.mem_cons_of_mem _ (List.mem_append_left _ (List.mem_append_right _ h))
  have in4 : ∀ w ∈ u_ws RX4 TX4 8, w ∈ wsX8_rests := fun _ h => List.mem_cons_of_mem _ (List.mem_append_right _ h)
  have in6 : ∀ w ∈ u_ws RX6 TX6 5, w ∈ wsX8_rests := fun _ h => List.mem_cons_of_mem _ (List.mem_append_left _ (List.mem_append_left _ (List.mem_append_right _ h)))
  have in8 : ∀ w ∈ u_ws RX8 TX8 12, w ∈ wsX8_rests := fun _ h => List.mem_cons_of_mem _ (List.mem_append_left _ (List.mem_append_left _ (List.mem_append_left _ (List.mem_append_right _ h))))
  have hl : lv_has ls 9 [(0, .ref (xo 0)), (1, .int x1), (2, .int x2), (3, .int x3), (4, .int x4)] := hl
  have B32 : ∀ (tm : OB) (xpr : Nat → Int32) (xqr : Nat → Int32) (rz : Nat → OB) (H : Heap) (locs : List Loc) (ls : Array Slot), b_X8_rests_32 F xi xrr si rm tm xpr xqr rz = some res → va_P D vwCl ([((xo 0), .inr (6, [.ref (ta 0), .ref xr, .int (xi 2), .ref (sa 0), .ref xm, .ref xg, .ref (tr 0), .ref xs, .ref xp, .ref xq, .ref xe, .ref xt]))] ++ ([(xr, hcR k 6 xrr)] ++ ([((sa 0), .inr (4, [.ref (xa 0), .ref (ca 0), .ref (na 0), .int (si 3), .int (si 4)]))] ++ (rmW k xa rm ++ (rmW k tr tm ++ ([(xp, hcI k 4 xpr)] ++ ([(xq, hcI k 4 xqr)] ++ (RU k ra rz)))))))) H → va_D A ([((xo 0), .inr (6, [.ref (ta 0), .ref xr, .int (xi 2), .ref (sa 0), .ref xm, .ref xg, .ref (tr 0), .ref xs, .ref xp, .ref xq, .ref xe, .ref xt]))] ++ ([(xr, hcR k 6 xrr)] ++ ([((sa 0), .inr (4, [.ref (xa 0), .ref (ca 0), .ref (na 0), .int (si 3), .int (si 4)]))] ++ (rmW k xa rm ++ (rmW k tr tm ++ ([(xp, hcI k 4 xpr)] ++ ([(xq, hcI k 4 xqr)] ++ (RU k ra rz)))))))) → va_S A s.heap H locs → lv_has ls 9 [] → W p l e (rmK 7 0 0) s m (List.toArray [.ref (xo 0), .int x1, .int x2, .int x3, .int x4]) below meth c H locs 0 0 (MQ below (va_Qi (fun r (_ : Unit) => r = res.1) (hcB D (fun _ : Unit => [((xo 0), .inr (6, [.ref (ta 0), .ref xr, .int (xi 2), .ref (sa 0), .ref xm, .ref xg, .ref (tr 0), .ref xs, .ref xp, .ref xq, .ref xe, .ref xt]))] ++ ([(xr, hcR k 6 xrr)] ++ ([((sa 0), .inr (4, [.ref (xa 0), .ref (ca 0), .ref (na 0), .int (si 3), .int (si 4)]))] ++ (rmW k xa rm ++ (rmW k tr res.2.1 ++ ([(xp, hcI k 4 res.2.2.1)] ++ ([(xq, hcI k 4 res.2.2.2.1)] ++ (RU k ra res.2.2.2.2)))))))) A) A) (List.toArray [.ref (xo 0), .int x1, .int x2, .int x3, .int x4]) s 0 0 A) (F0 m 32 ls []) := by
    intro tm xpr xqr rz H locs ls h hP hD hS hl
    refine lv_iconst (v := (-1)) hx hb dX8_rests_32 (by decide) ?_
    exact fw_endI (rv := fun b : Int32 × OB × (Nat → Int32) × (Nat → Int32) × (Nat → OB) => b.1) (wp := fun b : Int32 × OB × (Nat → Int32) × (Nat → Int32) × (Nat → OB) => [((xo 0), .inr (6, [.ref (ta 0), .ref xr, .int (xi 2), .ref (sa 0), .ref xm, .ref xg, .ref (tr 0), .ref xs, .ref xp, .ref xq, .ref xe, .ref xt]))] ++ ([(xr, hcR k 6 xrr)] ++ ([((sa 0), .inr (4, [.ref (xa 0), .ref (ca 0), .ref (na 0), .int (si 3), .int (si 4)]))] ++ (rmW k xa rm ++ (rmW k tr b.2.1 ++ ([(xp, hcI k 4 b.2.2.1)] ++ ([(xq, hcI k 4 b.2.2.2.1)] ++ (RU k ra b.2.2.2.2)))))))) hx hb hr hlocks h rfl hP hD hS dX8_rests_33
  have B56 : ∀ (tm : OB) (xpr : Nat → Int32) (xqr : Nat → Int32) (rz : Nat → OB) (H : Heap) (locs : List Loc) (ls : Array Slot), b_X8_rests_56 F xi xrr si rm tm xpr xqr rz = some res → va_P D vwCl ([((xo 0), .inr (6, [.ref (ta 0), .ref xr, .int (xi 2), .ref (sa 0), .ref xm, .ref xg, .ref (tr 0), .ref xs, .ref xp, .ref xq, .ref xe, .ref xt]))] ++ ([(xr, hcR k 6 xrr)] ++ ([((sa 0), .inr (4, [.ref (xa 0), .ref (ca 0), .ref (na 0), .int (si 3), .int (si 4)]))] ++ (rmW k xa rm ++ (rmW k tr tm ++ ([(xp, hcI k 4 xpr)] ++ ([(xq, hcI k 4 xqr)] ++ (RU k ra rz)))))))) H → va_D A ([((xo 0), .inr (6, [.ref (ta 0), .ref xr, .int (xi 2), .ref (sa 0), .ref xm, .ref xg, .ref (tr 0), .ref xs, .ref xp, .ref xq, .ref xe, .ref xt]))] ++ ([(xr, hcR k 6 xrr)] ++ ([((sa 0), .inr (4, [.ref (xa 0), .ref (ca 0), .ref (na 0), .int (si 3), .int (si 4)]))] ++ (rmW k xa rm ++ (rmW k tr tm ++ ([(xp, hcI k 4 xpr)] ++ ([(xq, hcI k 4 xqr)] ++ (RU k ra rz)))))))) → va_S A s.heap H locs → lv_has ls 9 [] → W p l e (rmK 7 0 0) s m (List.toArray [.ref (xo 0), .int x1, .int x2, .int x3, .int x4]) below meth c H locs 0 0 (MQ below (va_Qi (fun r (_ : Unit) => r = res.1) (hcB D (fun _ : Unit => [((xo 0), .inr (6, [.ref (ta 0), .ref xr, .int (xi 2), .ref (sa 0), .ref xm, .ref xg, .ref (tr 0), .ref xs, .ref xp, .ref xq, .ref xe, .ref xt]))] ++ ([(xr, hcR k 6 xrr)] ++ ([((sa 0), .inr (4, [.ref (xa 0), .ref (ca 0), .ref (na 0), .int (si 3), .int (si 4)]))] ++ (rmW k xa rm ++ (rmW k tr res.2.1 ++ ([(xp, hcI k 4 res.2.2.1)] ++ ([(xq, hcI k 4 res.2.2.2.1)] ++ (RU k ra res.2.2.2.2)))))))) A) A) (List.toArray [.ref (xo 0), .int x1, .int x2, .int x3, .int x4]) s 0 0 A) (F0 m 56 ls []) := by
    intro tm xpr xqr rz H locs ls h hP hD hS hl
    refine lv_iconst (v := (-1)) hx hb dX8_rests_56 (by decide) ?_
    exact fw_endI (rv := fun b : Int32 × OB × (Nat → Int32) × (Nat → Int32) × (Nat → OB) => b.1) (wp := fun b : Int32 × OB × (Nat → Int32) × (Nat → Int32) × (Nat → OB) => [((xo 0), .inr (6, [.ref (ta 0), .ref xr, .int (xi 2), .ref (sa 0), .ref xm, .ref xg, .ref (tr 0), .ref xs, .ref xp, .ref xq, .ref xe, .ref xt]))] ++ ([(xr, hcR k 6 xrr)] ++ ([((sa 0), .inr (4, [.ref (xa 0), .ref (ca 0), .ref (na 0), .int (si 3), .int (si 4)]))] ++ (rmW k xa rm ++ (rmW k tr b.2.1 ++ ([(xp, hcI k 4 b.2.2.1)] ++ ([(xq, hcI k 4 b.2.2.2.1)] ++ (RU k ra b.2.2.2.2)))))))) hx hb hr hlocks h rfl hP hD hS dX8_rests_57
  have B181 : ∀ (y0 : Int32) (tm : OB) (xpr : Nat → Int32) (xqr : Nat → Int32) (rz : Nat → OB) (H : Heap) (locs : List Loc) (ls : Array Slot), b_X8_rests_181 F xi xrr si rm y0 tm xpr xqr rz = some res → va_P D vwCl ([((xo 0), .inr (6, [.ref (ta 0), .ref xr, .int (xi 2), .ref (sa 0), .ref xm, .ref xg, .ref (tr 0), .ref xs, .ref xp, .ref xq, .ref xe, .ref xt]))] ++ ([(xr, hcR k 6 xrr)] ++ ([((sa 0), .inr (4, [.ref (xa 0), .ref (ca 0), .ref (na 0), .int (si 3), .int (si 4)]))] ++ (rmW k xa rm ++ (rmW k tr tm ++ ([(xp, hcI k 4 xpr)] ++ ([(xq, hcI k 4 xqr)] ++ (RU k ra rz)))))))) H → va_D A ([((xo 0), .inr (6, [.ref (ta 0), .ref xr, .int (xi 2), .ref (sa 0), .ref xm, .ref xg, .ref (tr 0), .ref xs, .ref xp, .ref xq, .ref xe, .ref xt]))] ++ ([(xr, hcR k 6 xrr)] ++ ([((sa 0), .inr (4, [.ref (xa 0), .ref (ca 0), .ref (na 0), .int (si 3), .int (si 4)]))] ++ (rmW k xa rm ++ (rmW k tr tm ++ ([(xp, hcI k 4 xpr)] ++ ([(xq, hcI k 4 xqr)] ++ (RU k ra rz)))))))) → va_S A s.heap H locs → lv_has ls 9 [] → W p l e (rmK 7 0 0) s m (List.toArray [.ref (xo 0), .int x1, .int x2, .int x3, .int x4]) below meth c H locs 0 0 (MQ below (va_Qi (fun r (_ : Unit) => r = res.1) (hcB D (fun _ : Unit => [((xo 0), .inr (6, [.ref (ta 0), .ref xr, .int (xi 2), .ref (sa 0), .ref xm, .ref xg, .ref (tr 0), .ref xs, .ref xp, .ref xq, .ref xe, .ref xt]))] ++ ([(xr, hcR k 6 xrr)] ++ ([((sa 0), .inr (4, [.ref (xa 0), .ref (ca 0), .ref (na 0), .int (si 3), .int (si 4)]))] ++ (rmW k xa rm ++ (rmW k tr res.2.1 ++ ([(xp, hcI k 4 res.2.2.1)] ++ ([(xq, hcI k 4 res.2.2.2.1)] ++ (RU k ra res.2.2.2.2)))))))) A) A) (List.toArray [.ref (xo 0), .int x1, .int x2, .int x3, .int x4]) s 0 0 A) (F0 m 181 ls [.int y0]) := by
    intro y0 tm xpr xqr rz H locs ls h hP hD hS hl
    exact fw_endI (rv := fun b : Int32 × OB × (Nat → Int32) × (Nat → Int32) × (Nat → OB) => b.1) (wp := fun b : Int32 × OB × (Nat → Int32) × (Nat → Int32) × (Nat → OB) => [((xo 0), .inr (6, [.ref (ta 0), .ref xr, .int (xi 2), .ref (sa 0), .ref xm, .ref xg, .ref (tr 0), .ref xs, .ref xp, .ref xq, .ref xe, .ref xt]))] ++ ([(xr, hcR k 6 xrr)] ++ ([((sa 0), .inr (4, [.ref (xa 0), .ref (ca 0), .ref (na 0), .int (si 3), .int (si 4)]))] ++ (rmW k xa rm ++ (rmW k tr b.2.1 ++ ([(xp, hcI k 4 b.2.2.1)] ++ ([(xq, hcI k 4 b.2.2.2.1)] ++ (RU k ra b.2.2.2.2)))))))) hx hb hr hlocks h rfl hP hD hS dX8_rests_181
  have B91 : ∀ a91 : (Int32 × Int32 × Int32 × Int32 × OB × (Nat → Int32) × (Nat → Int32) × (Nat → OB)), lp (b_X8_rests_91 F xi xrr si rm) F a91 = some res → ∀ (H : Heap) (locs : List Loc) (ls : Array Slot), va_P D vwCl ([((xo 0), .inr (6, [.ref (ta 0), .ref xr, .int (xi 2), .ref (sa 0), .ref xm, .ref xg, .ref (tr 0), .ref xs, .ref xp, .ref xq, .ref xe, .ref xt]))] ++ ([(xr, hcR k 6 xrr)] ++ ([((sa 0), .inr (4, [.ref (xa 0), .ref (ca 0), .ref (na 0), .int (si 3), .int (si 4)]))] ++ (rmW k xa rm ++ (rmW k tr a91.2.2.2.2.1 ++ ([(xp, hcI k 4 a91.2.2.2.2.2.1)] ++ ([(xq, hcI k 4 a91.2.2.2.2.2.2.1)] ++ (RU k ra a91.2.2.2.2.2.2.2)))))))) H → va_D A ([((xo 0), .inr (6, [.ref (ta 0), .ref xr, .int (xi 2), .ref (sa 0), .ref xm, .ref xg, .ref (tr 0), .ref xs, .ref xp, .ref xq, .ref xe, .ref xt]))] ++ ([(xr, hcR k 6 xrr)] ++ ([((sa 0), .inr (4, [.ref (xa 0), .ref (ca 0), .ref (na 0), .int (si 3), .int (si 4)]))] ++ (rmW k xa rm ++ (rmW k tr a91.2.2.2.2.1 ++ ([(xp, hcI k 4 a91.2.2.2.2.2.1)] ++ ([(xq, hcI k 4 a91.2.2.2.2.2.2.1)] ++ (RU k ra a91.2.2.2.2.2.2.2)))))))) → va_S A s.heap H locs → lv_has ls 9 [(0, .ref (xo 0)), (4, .int a91.1), (6, .int a91.2.1), (7, .int a91.2.2.1), (8, .int a91.2.2.2.1)] → W p l e (rmK 7 0 0) s m (List.toArray [.ref (xo 0), .int x1, .int x2, .int x3, .int x4]) below meth c H locs 0 0 (MQ below (va_Qi (fun r (_ : Unit) => r = res.1) (hcB D (fun _ : Unit => [((xo 0), .inr (6, [.ref (ta 0), .ref xr, .int (xi 2), .ref (sa 0), .ref xm, .ref xg, .ref (tr 0), .ref xs, .ref xp, .ref xq, .ref xe, .ref xt]))] ++ ([(xr, hcR k 6 xrr)] ++ ([((sa 0), .inr (4, [.ref (xa 0), .ref (ca 0), .ref (na 0), .int (si 3), .int (si 4)]))] ++ (rmW k xa rm ++ (rmW k tr res.2.1 ++ ([(xp, hcI k 4 res.2.2.1)] ++ ([(xq, hcI k 4 res.2.2.2.1)] ++ (RU k ra res.2.2.2.2)))))))) A) A) (List.toArray [.ref (xo 0), .int x1, .int x2, .int x3, .int x4]) s 0 0 A) (F0 m 91 ls []) := by
    refine lp_W ?_ F
    intro k91 hk91 a91 h H locs ls hP hD hS hl
    have hc91 : ∀ (v4 : Int32) (v6 : Int32) (v7 : Int32) (v8 : Int32) (tm : OB) (xpr : Nat → Int32) (xqr : Nat → Int32) (rz : Nat → OB), k91 (v4, v6, v7, v8, tm, xpr, xqr, rz) = some res → ∀ (H : Heap) (locs : List Loc) (ls : Array Slot), va_P D vwCl ([((xo 0), .inr (6, [.ref (ta 0), .ref xr, .int (xi 2), .ref (sa 0), .ref xm, .ref xg, .ref (tr 0), .ref xs, .ref xp, .ref xq, .ref xe, .ref xt]))] ++ ([(xr, hcR k 6 xrr)] ++ ([((sa 0), .inr (4, [.ref (xa 0), .ref (ca 0), .ref (na 0), .int (si 3), .int (si 4)]))] ++ (rmW k xa rm ++ (rmW k tr tm ++ ([(xp, hcI k 4 xpr)] ++ ([(xq, hcI k 4 xqr)] ++ (RU k ra rz)))))))) H → va_D A ([((xo 0), .inr (6, [.ref (ta 0), .ref xr, .int (xi 2), .ref (sa 0), .ref xm, .ref xg, .ref (tr 0), .ref xs, .ref xp, .ref xq, .ref xe, .ref xt]))] ++ ([(xr, hcR k 6 xrr)] ++ ([((sa 0), .inr (4, [.ref (xa 0), .ref (ca 0), .ref (na 0), .int (si 3), .int (si 4)]))] ++ (rmW k xa rm ++ (rmW k tr tm ++ ([(xp, hcI k 4 xpr)] ++ ([(xq, hcI k 4 xqr)] ++ (RU k ra rz)))))))) → va_S A s.heap H locs → lv_has ls 9 [(0, .ref (xo 0)), (4, .int v4), (6, .int v6), (7, .int v7), (8, .int v8)] → W p l e (rmK 7 0 0) s m (List.toArray [.ref (xo 0), .int x1, .int x2, .int x3, .int x4]) below meth c H locs 0 0 (MQ below (va_Qi (fun r (_ : Unit) => r = res.1) (hcB D (fun _ : Unit => [((xo 0), .inr (6, [.ref (ta 0), .ref xr, .int (xi 2), .ref (sa 0), .ref xm, .ref xg, .ref (tr 0), .ref xs, .ref xp, .ref xq, .ref xe, .ref xt]))] ++ ([(xr, hcR k 6 xrr)] ++ ([((sa 0), .inr (4, [.ref (xa 0), .ref (ca 0), .ref (na 0), .int (si 3), .int (si 4)]))] ++ (rmW k xa rm ++ (rmW k tr res.2.1 ++ ([(xp, hcI k 4 res.2.2.1)] ++ ([(xq, hcI k 4 res.2.2.2.1)] ++ (RU k ra res.2.2.2.2)))))))) A) A) (List.toArray [.ref (xo 0), .int x1, .int x2, .int x3, .int x4]) s 0 0 A) (F0 m 91 ls []) := fun v4 v6 v7 v8 tm xpr xqr rz => hk91 (v4, v6, v7, v8, tm, xpr, xqr, rz)
    have B141 : ∀ (v4 : Int32) (v6 : Int32) (v7 : Int32) (v8 : Int32) (tm : OB) (xpr : Nat → Int32) (xqr : Nat → Int32) (rz : Nat → OB) (H : Heap) (locs : List Loc) (ls : Array Slot), b_X8_rests_141 F xi xrr si rm k91 v4 v6 v7 v8 tm xpr xqr rz = some res → va_P D vwCl ([((xo 0), .inr (6, [.ref (ta 0), .ref xr, .int (xi 2), .ref (sa 0), .ref xm, .ref xg, .ref (tr 0), .ref xs, .ref xp, .ref xq, .ref xe, .ref xt]))] ++ ([(xr, hcR k 6 xrr)] ++ ([((sa 0), .inr (4, [.ref (xa 0), .ref (ca 0), .ref (na 0), .int (si 3), .int (si 4)]))] ++ (rmW k xa rm ++ (rmW k tr tm ++ ([(xp, hcI k 4 xpr)] ++ ([(xq, hcI k 4 xqr)] ++ (RU k ra rz)))))))) H → va_D A ([((xo 0), .inr (6, [.ref (ta 0), .ref xr, .int (xi 2), .ref (sa 0), .ref xm, .ref xg, .ref (tr 0), .ref xs, .ref xp, .ref xq, .ref xe, .ref xt]))] ++ ([(xr, hcR k 6 xrr)] ++ ([((sa 0), .inr (4, [.ref (xa 0), .ref (ca 0), .ref (na 0), .int (si 3), .int (si 4)]))] ++ (rmW k xa rm ++ (rmW k tr tm ++ ([(xp, hcI k 4 xpr)] ++ ([(xq, hcI k 4 xqr)] ++ (RU k ra rz)))))))) → va_S A s.heap H locs → lv_has ls 9 [(0, .ref (xo 0)), (4, .int v4), (6, .int v6), (7, .int v7), (8, .int v8)] → W p l e (rmK 7 0 0) s m (List.toArray [.ref (xo 0), .int x1, .int x2, .int x3, .int x4]) below meth c H locs 0 0 (MQ below (va_Qi (fun r (_ : Unit) => r = res.1) (hcB D (fun _ : Unit => [((xo 0), .inr (6, [.ref (ta 0), .ref xr, .int (xi 2), .ref (sa 0), .ref xm, .ref xg, .ref (tr 0), .ref xs, .ref xp, .ref xq, .ref xe, .ref xt]))] ++ ([(xr, hcR k 6 xrr)] ++ ([((sa 0), .inr (4, [.ref (xa 0), .ref (ca 0), .ref (na 0), .int (si 3), .int (si 4)]))] ++ (rmW k xa rm ++ (rmW k tr res.2.1 ++ ([(xp, hcI k 4 res.2.2.1)] ++ ([(xq, hcI k 4 res.2.2.2.1)] ++ (RU k ra res.2.2.2.2)))))))) A) A) (List.toArray [.ref (xo 0), .int x1, .int x2, .int x3, .int x4]) s 0 0 A) (F0 m 141 ls []) := by
      intro v4 v6 v7 v8 tm xpr xqr rz H locs ls h hP hD hS hl
      refine lv_iinc (v := (v8 + (-1))) (lv' := [(8, .int (v8 + (-1))), (0, .ref (xo 0)), (4, .int v4), (6, .int v6), (7, .int v7)]) hx hb dX8_rests_141 hl (k := 4) rfl rfl (by decide) rfl (fun ls hl => ?_)
      refine lv_goto (tgt := 91) hx hb dX8_rests_144 (by decide) ?_
      exact hc91 _ _ _ _ _ _ _ _ h _ _ _ hP hD hS (lv_sub hl [1, 2, 3, 4, 0] rfl)
    refine lv_iload hx hb dX8_rests_91 (lv_at hl 4 rfl) ?_
    refine lv_if_lt (tgt := 147) hx hb dX8_rests_93 (by decide) (fun c1 => ?_) (fun c1 => ?_)
    · have h := fw_t c1 h
      refine lv_iload hx hb dX8_rests_147 (lv_at hl 1 rfl) ?_
      refine lv_if_ne (tgt := 155) hx hb dX8_rests_149 (by decide) (fun c2 => ?_) (fun c2 => ?_)
      · have h := fw_f c2 h
        refine lv_iload hx hb dX8_rests_155 (lv_at hl 3 rfl) ?_
        refine lv_iconst (v := (-1)) hx hb dX8_rests_157 (by decide) ?_
        refine lv_icmp_ne (tgt := 164) hx hb dX8_rests_158 (by decide) (fun c3 => ?_) (fun c3 => ?_)
        · have h := fw_f c3 h
          refine lv_iload hx hb dX8_rests_164 (lv_at hl 1 rfl) ?_
          refine lv_iconst (v := 1) hx hb dX8_rests_166 (by decide) ?_
          refine lv_icmp_ne (tgt := 177) hx hb dX8_rests_167 (by decide) (fun c4 => ?_) (fun c4 => ?_)
          · have h := fw_f c4 h
            refine lv_iload hx hb dX8_rests_177 (lv_at hl 3 rfl) ?_
            refine lv_iconst (v := 1) hx hb dX8_rests_179 (by decide) ?_
            refine lv_iand hx hb dX8_rests_180 ?_
            exact B181 _ _ _ _ _ _ _ _ h hP hD hS (lv_sub hl [] rfl)
          · have h := fw_t c4 h
            refine lv_iload hx hb dX8_rests_170 (lv_at hl 3 rfl) ?_
            refine lv_iconst (v := 1) hx hb dX8_rests_172 (by decide) ?_
            refine lv_ishr hx hb dX8_rests_173 ?_
            refine lv_goto (tgt := 181) hx hb dX8_rests_174 (by decide) ?_
            exact B181 _ _ _ _ _ _ _ _ h hP hD hS (lv_sub hl [] rfl)
        · have h := fw_t c3 h
          refine lv_bipush (v := (-2)) hx hb dX8_rests_161 (by decide) ?_
          exact fw_endI (rv := fun b : Int32 × OB × (Nat → Int32) × (Nat → Int32) × (Nat → OB) => b.1) (wp := fun b : Int32 × OB × (Nat → Int32) × (Nat → Int32) × (Nat → OB) => [((xo 0), .inr (6, [.ref (ta 0), .ref xr, .int (xi 2), .ref (sa 0), .ref xm, .ref xg, .ref (tr 0), .ref xs, .ref xp, .ref xq, .ref xe, .ref xt]))] ++ ([(xr, hcR k 6 xrr)] ++ ([((sa 0), .inr (4, [.ref (xa 0), .ref (ca 0), .ref (na 0), .int (si 3), .int (si 4)]))] ++ (rmW k xa rm ++ (rmW k tr b.2.1 ++ ([(xp, hcI k 4 b.2.2.1)] ++ ([(xq, hcI k 4 b.2.2.2.1)] ++ (RU k ra b.2.2.2.2)))))))) hx hb hr hlocks h rfl hP hD hS dX8_rests_163
      · have h := fw_t c2 h
        refine lv_iload hx hb dX8_rests_152 (lv_at hl 2 rfl) ?_
        exact fw_endI (rv := fun b : Int32 × OB × (Nat → Int32) × (Nat → Int32) × (Nat → OB) => b.1) (wp := fun b : Int32 × OB × (Nat → Int32) × (Nat → Int32) × (Nat → OB) => [((xo 0), .inr (6, [.ref (ta 0), .ref xr, .int (xi 2), .ref (sa 0), .ref xm, .ref xg, .ref (tr 0), .ref xs, .ref xp, .ref xq, .ref xe, .ref xt]))] ++ ([(xr, hcR k 6 xrr)] ++ ([((sa 0), .inr (4, [.ref (xa 0), .ref (ca 0), .ref (na 0), .int (si 3), .int (si 4)]))] ++ (rmW k xa rm ++ (rmW k tr b.2.1 ++ ([(xp, hcI k 4 b.2.2.1)] ++ ([(xq, hcI k 4 b.2.2.2.1)] ++ (RU k ra b.2.2.2.2)))))))) hx hb hr hlocks h rfl hP hD hS dX8_rests_154
    · have h := fw_f c1 h
      refine lv_aload_n hx hb dX8_rests_96 rfl (lv_at hl 0 rfl) ?_
      refine va_get (D := D) (ci := 6) (v := .ref xp) (C := RX8) (T := TX8) (N := 12) hx hb hts in8 hown hG.1 hP 0 rfl rfl 8 (by decide) (hts (.fieldLink RX8 51 "ChairCane" "payOfOne" "[I") (by decide +kernel)) (fun _ h9 => h9) rfl dX8_rests_97 ?_
      refine lv_iload hx hb dX8_rests_100 (lv_at hl 4 rfl) ?_
      obtain ⟨g5, h⟩ := fw_g h
      refine va_iald hx hb hG.1 hP 21 0 rfl rfl (ib_vp g5) dX8_rests_102 ?_
      refine lv_aload_n hx hb dX8_rests_103 rfl (lv_at hl 0 rfl) ?_
      refine va_get (D := D) (ci := 6) (v := .ref xp) (C := RX8) (T := TX8) (N := 12) hx hb hts in8 hown hG.1 hP 0 rfl rfl 8 (by decide) (hts (.fieldLink RX8 51 "ChairCane" "payOfOne" "[I") (by decide +kernel)) (fun _ h9 => h9) rfl dX8_rests_104 ?_
      refine lv_iload hx hb dX8_rests_107 (lv_at hl 4 rfl) ?_
      refine lv_iconst (v := 2) hx hb dX8_rests_109 (by decide) ?_
      refine lv_ixor hx hb dX8_rests_110 ?_
      obtain ⟨g6, h⟩ := fw_g h
      refine va_iald hx hb hG.1 hP 21 0 rfl rfl (ib_vp g6) dX8_rests_111 ?_
      refine lv_icmp_lt (tgt := 141) hx hb dX8_rests_112 (by decide) (fun c7 => ?_) (fun c7 => ?_)
      · have h := fw_t c7 h
        exact B141 _ _ _ _ _ _ _ _ _ _ _ h hP hD hS hl
      · have h := fw_f c7 h
        refine lv_aload_n hx hb dX8_rests_115 rfl (lv_at hl 0 rfl) ?_
        refine va_get (D := D) (ci := 6) (v := .ref xq) (C := RX8) (T := TX8) (N := 12) hx hb hts in8 hown hG.1 hP 0 rfl rfl 9 (by decide) (hts (.fieldLink RX8 55 "ChairCane" "payOfOther" "[I") (by decide +kernel)) (fun _ h9 => h9) rfl dX8_rests_116 ?_
        refine lv_iload hx hb dX8_rests_119 (lv_at hl 4 rfl) ?_
        refine va_iald hx hb hG.1 hP 22 0 rfl rfl (ib_vp g5) dX8_rests_121 ?_
        refine lv_aload_n hx hb dX8_rests_122 rfl (lv_at hl 0 rfl) ?_
        refine va_get (D := D) (ci := 6) (v := .ref xq) (C := RX8) (T := TX8) (N := 12) hx hb hts in8 hown hG.1 hP 0 rfl rfl 9 (by decide) (hts (.fieldLink RX8 55 "ChairCane" "payOfOther" "[I") (by decide +kernel)) (fun _ h9 => h9) rfl dX8_rests_123 ?_
        refine lv_iload hx hb dX8_rests_126 (lv_at hl 4 rfl) ?_
        refine lv_iconst (v := 1) hx hb dX8_rests_128 (by decide) ?_
        refine lv_ixor hx hb dX8_rests_129 ?_
        obtain ⟨g8, h⟩ := fw_g h
        refine va_iald hx hb hG.1 hP 22 0 rfl rfl (ib_vp g8) dX8_rests_130 ?_
        refine lv_icmp_lt (tgt := 141) hx hb dX8_rests_131 (by decide) (fun c9 => ?_) (fun c9 => ?_)
        · have h := fw_t c9 h
          exact B141 _ _ _ _ _ _ _ _ _ _ _ h hP hD hS hl
        · have h := fw_f c9 h
          refine lv_iinc (v := (a91.2.1 + 1)) (lv' := [(6, .int (a91.2.1 + 1)), (0, .ref (xo 0)), (4, .int a91.1), (7, .int a91.2.2.1), (8, .int a91.2.2.2.1)]) hx hb dX8_rests_134 hl (k := 2) rfl rfl (by decide) rfl (fun ls hl => ?_)
          refine lv_iload hx hb dX8_rests_137 (lv_at hl 4 rfl) ?_
          refine lv_istore (lv' := [(7, .int a91.2.2.2.1), (6, .int (a91.2.1 + 1)), (0, .ref (xo 0)), (4, .int a91.1), (8, .int a91.2.2.2.1)]) hx hb dX8_rests_139 hl (by decide) rfl (fun ls hl => ?_)
          exact B141 _ _ _ _ _ _ _ _ _ _ _ h hP hD hS (lv_sub hl [2, 3, 1, 0, 4] rfl)
  have C91 : ∀ (v4 : Int32) (v6 : Int32) (v7 : Int32) (v8 : Int32) (tm : OB) (xpr : Nat → Int32) (xqr : Nat → Int32) (rz : Nat → OB), lp (b_X8_rests_91 F xi xrr si rm) F (v4, v6, v7, v8, tm, xpr, xqr, rz) = some res → ∀ (H : Heap) (locs : List Loc) (ls : Array Slot), va_P D vwCl ([((xo 0), .inr (6, [.ref (ta 0), .ref xr, .int (xi 2), .ref (sa 0), .ref xm, .ref xg, .ref (tr 0), .ref xs, .ref xp, .ref xq, .ref xe, .ref xt]))] ++ ([(xr, hcR k 6 xrr)] ++ ([((sa 0), .inr (4, [.ref (xa 0), .ref (ca 0), .ref (na 0), .int (si 3), .int (si 4)]))] ++ (rmW k xa rm ++ (rmW k tr tm ++ ([(xp, hcI k 4 xpr)] ++ ([(xq, hcI k 4 xqr)] ++ (RU k ra rz)))))))) H → va_D A ([((xo 0), .inr (6, [.ref (ta 0), .ref xr, .int (xi 2), .ref (sa 0), .ref xm, .ref xg, .ref (tr 0), .ref xs, .ref xp, .ref xq, .ref xe, .ref xt]))] ++ ([(xr, hcR k 6 xrr)] ++ ([((sa 0), .inr (4, [.ref (xa 0), .ref (ca 0), .ref (na 0), .int (si 3), .int (si 4)]))] ++ (rmW k xa rm ++ (rmW k tr tm ++ ([(xp, hcI k 4 xpr)] ++ ([(xq, hcI k 4 xqr)] ++ (RU k ra rz)))))))) → va_S A s.heap H locs → lv_has ls 9 [(0, .ref (xo 0)), (4, .int v4), (6, .int v6), (7, .int v7), (8, .int v8)] → W p l e (rmK 7 0 0) s m (List.toArray [.ref (xo 0), .int x1, .int x2, .int x3, .int x4]) below meth c H locs 0 0 (MQ below (va_Qi (fun r (_ : Unit) => r = res.1) (hcB D (fun _ : Unit => [((xo 0), .inr (6, [.ref (ta 0), .ref xr, .int (xi 2), .ref (sa 0), .ref xm, .ref xg, .ref (tr 0), .ref xs, .ref xp, .ref xq, .ref xe, .ref xt]))] ++ ([(xr, hcR k 6 xrr)] ++ ([((sa 0), .inr (4, [.ref (xa 0), .ref (ca 0), .ref (na 0), .int (si 3), .int (si 4)]))] ++ (rmW k xa rm ++ (rmW k tr res.2.1 ++ ([(xp, hcI k 4 res.2.2.1)] ++ ([(xq, hcI k 4 res.2.2.2.1)] ++ (RU k ra res.2.2.2.2)))))))) A) A) (List.toArray [.ref (xo 0), .int x1, .int x2, .int x3, .int x4]) s 0 0 A) (F0 m 91 ls []) := fun v4 v6 v7 v8 tm xpr xqr rz => B91 (v4, v6, v7, v8, tm, xpr, xqr, rz)
  have B61 : ∀ a61 : (Int32 × Int32 × Int32 × Int32 × Int32 × OB × (Nat → Int32) × (Nat → Int32) × (Nat → OB)), lp (b_X8_rests_61 F xi xrr si rm) F a61 = some res → ∀ (H : Heap) (locs : List Loc) (ls : Array Slot), va_P D vwCl ([((xo 0), .inr (6, [.ref (ta 0), .ref xr, .int (xi 2), .ref (sa 0), .ref xm, .ref xg, .ref (tr 0), .ref xs, .ref xp, .ref xq, .ref xe, .ref xt]))] ++ ([(xr, hcR k 6 xrr)] ++ ([((sa 0), .inr (4, [.ref (xa 0), .ref (ca 0), .ref (na 0), .int (si 3), .int (si 4)]))] ++ (rmW k xa rm ++ (rmW k tr a61.2.2.2.2.2.1 ++ ([(xp, hcI k 4 a61.2.2.2.2.2.2.1)] ++ ([(xq, hcI k 4 a61.2.2.2.2.2.2.2.1)] ++ (RU k ra a61.2.2.2.2.2.2.2.2)))))))) H → va_D A ([((xo 0), .inr (6, [.ref (ta 0), .ref xr, .int (xi 2), .ref (sa 0), .ref xm, .ref xg, .ref (tr 0), .ref xs, .ref xp, .ref xq, .ref xe, .ref xt]))] ++ ([(xr, hcR k 6 xrr)] ++ ([((sa 0), .inr (4, [.ref (xa 0), .ref (ca 0), .ref (na 0), .int (si 3), .int (si 4)]))] ++ (rmW k xa rm ++ (rmW k tr a61.2.2.2.2.2.1 ++ ([(xp, hcI k 4 a61.2.2.2.2.2.2.1)] ++ ([(xq, hcI k 4 a61.2.2.2.2.2.2.2.1)] ++ (RU k ra a61.2.2.2.2.2.2.2.2)))))))) → va_S A s.heap H locs → lv_has ls 9 [(0, .ref (xo 0)), (1, .int a61.1), (2, .int a61.2.1), (3, .int a61.2.2.1), (4, .int a61.2.2.2.1), (6, .int a61.2.2.2.2.1)] → W p l e (rmK 7 0 0) s m (List.toArray [.ref (xo 0), .int x1, .int x2, .int x3, .int x4]) below meth c H locs 0 0 (MQ below (va_Qi (fun r (_ : Unit) => r = res.1) (hcB D (fun _ : Unit => [((xo 0), .inr (6, [.ref (ta 0), .ref xr, .int (xi 2), .ref (sa 0), .ref xm, .ref xg, .ref (tr 0), .ref xs, .ref xp, .ref xq, .ref xe, .ref xt]))] ++ ([(xr, hcR k 6 xrr)] ++ ([((sa 0), .inr (4, [.ref (xa 0), .ref (ca 0), .ref (na 0), .int (si 3), .int (si 4)]))] ++ (rmW k xa rm ++ (rmW k tr res.2.1 ++ ([(xp, hcI k 4 res.2.2.1)] ++ ([(xq, hcI k 4 res.2.2.2.1)] ++ (RU k ra res.2.2.2.2)))))))) A) A) (List.toArray [.ref (xo 0), .int x1, .int x2, .int x3, .int x4]) s 0 0 A) (F0 m 61 ls []) := by
    refine lp_W ?_ F
    intro k61 hk61 a61 h H locs ls hP hD hS hl
    have hc61 : ∀ (v1 : Int32) (v2 : Int32) (v3 : Int32) (v4 : Int32) (v6 : Int32) (tm : OB) (xpr : Nat → Int32) (xqr : Nat → Int32) (rz : Nat → OB), k61 (v1, v2, v3, v4, v6, tm, xpr, xqr, rz) = some res → ∀ (H : Heap) (locs : List Loc) (ls : Array Slot), va_P D vwCl ([((xo 0), .inr (6, [.ref (ta 0), .ref xr, .int (xi 2), .ref (sa 0), .ref xm, .ref xg, .ref (tr 0), .ref xs, .ref xp, .ref xq, .ref xe, .ref xt]))] ++ ([(xr, hcR k 6 xrr)] ++ ([((sa 0), .inr (4, [.ref (xa 0), .ref (ca 0), .ref (na 0), .int (si 3), .int (si 4)]))] ++ (rmW k xa rm ++ (rmW k tr tm ++ ([(xp, hcI k 4 xpr)] ++ ([(xq, hcI k 4 xqr)] ++ (RU k ra rz)))))))) H → va_D A ([((xo 0), .inr (6, [.ref (ta 0), .ref xr, .int (xi 2), .ref (sa 0), .ref xm, .ref xg, .ref (tr 0), .ref xs, .ref xp, .ref xq, .ref xe, .ref xt]))] ++ ([(xr, hcR k 6 xrr)] ++ ([((sa 0), .inr (4, [.ref (xa 0), .ref (ca 0), .ref (na 0), .int (si 3), .int (si 4)]))] ++ (rmW k xa rm ++ (rmW k tr tm ++ ([(xp, hcI k 4 xpr)] ++ ([(xq, hcI k 4 xqr)] ++ (RU k ra rz)))))))) → va_S A s.heap H locs → lv_has ls 9 [(0, .ref (xo 0)), (1, .int v1), (2, .int v2), (3, .int v3), (4, .int v4), (6, .int v6)] → W p l e (rmK 7 0 0) s m (List.toArray [.ref (xo 0), .int x1, .int x2, .int x3, .int x4]) below meth c H locs 0 0 (MQ below (va_Qi (fun r (_ : Unit) => r = res.1) (hcB D (fun _ : Unit => [((xo 0), .inr (6, [.ref (ta 0), .ref xr, .int (xi 2), .ref (sa 0), .ref xm, .ref xg, .ref (tr 0), .ref xs, .ref xp, .ref xq, .ref xe, .ref xt]))] ++ ([(xr, hcR k 6 xrr)] ++ ([((sa 0), .inr (4, [.ref (xa 0), .ref (ca 0), .ref (na 0), .int (si 3), .int (si 4)]))] ++ (rmW k xa rm ++ (rmW k tr res.2.1 ++ ([(xp, hcI k 4 res.2.2.1)] ++ ([(xq, hcI k 4 res.2.2.2.1)] ++ (RU k ra res.2.2.2.2)))))))) A) A) (List.toArray [.ref (xo 0), .int x1, .int x2, .int x3, .int x4]) s 0 0 A) (F0 m 61 ls []) := fun v1 v2 v3 v4 v6 tm xpr xqr rz => hk61 (v1, v2, v3, v4, v6, tm, xpr, xqr, rz)
    refine lv_iload hx hb dX8_rests_61 (lv_at hl 5 rfl) ?_
    refine lv_iconst (v := 4) hx hb dX8_rests_63 (by decide) ?_
    refine lv_icmp_ge (tgt := 82) hx hb dX8_rests_64 (by decide) (fun c10 => ?_) (fun c10 => ?_)
    · have h := fw_t c10 h
      refine lv_iconst (v := 0) hx hb dX8_rests_82 (by decide) ?_
      refine lv_istore (lv' := [(6, .int 0), (0, .ref (xo 0)), (1, .int a61.1), (2, .int a61.2.1), (3, .int a61.2.2.1), (4, .int a61.2.2.2.1)]) hx hb dX8_rests_83 hl (by decide) rfl (fun ls hl => ?_)
      refine lv_iconst (v := (-1)) hx hb dX8_rests_85 (by decide) ?_
      refine lv_istore (lv' := [(7, .int (-1)), (6, .int 0), (0, .ref (xo 0)), (1, .int a61.1), (2, .int a61.2.1), (3, .int a61.2.2.1), (4, .int a61.2.2.2.1)]) hx hb dX8_rests_86 hl (by decide) rfl (fun ls hl => ?_)
      refine lv_iconst (v := 3) hx hb dX8_rests_88 (by decide) ?_
      refine lv_istore (lv' := [(8, .int 3), (7, .int (-1)), (6, .int 0), (0, .ref (xo 0)), (1, .int a61.1), (2, .int a61.2.1), (3, .int a61.2.2.1), (4, .int a61.2.2.2.1)]) hx hb dX8_rests_89 hl (by decide) rfl (fun ls hl => ?_)
      exact C91 _ _ _ _ _ _ _ _ h _ _ _ hP hD hS (lv_sub hl [3, 7, 2, 1, 0] rfl)
    · have h := fw_f c10 h
      refine lv_aload_n hx hb dX8_rests_67 rfl (lv_at hl 0 rfl) ?_
      refine lv_iload_n hx hb dX8_rests_68 rfl (lv_at hl 1 rfl) ?_
      refine lv_iload_n hx hb dX8_rests_69 rfl (lv_at hl 2 rfl) ?_
      refine lv_iload_n hx hb dX8_rests_70 rfl (lv_at hl 3 rfl) ?_
      refine lv_iload hx hb dX8_rests_71 (lv_at hl 5 rfl) ?_
      refine fw_Vv (As := [.int a61.1, .int a61.2.1, .int a61.2.2.1, .int a61.2.2.2.2.1]) (rest := []) (n := 4) (wr := []) (wp := fun b : OB × (Nat → Int32) × (Nat → Int32) × (Nat → OB) => [((xo 0), .inr (6, [.ref (ta 0), .ref xr, .int (xi 2), .ref (sa 0), .ref xm, .ref xg, .ref (tr 0), .ref xs, .ref xp, .ref xq, .ref xe, .ref xt]))] ++ ([(xr, hcR k 6 xrr)] ++ ([((sa 0), .inr (4, [.ref (xa 0), .ref (ca 0), .ref (na 0), .int (si 3), .int (si 4)]))] ++ (rmW k xa rm ++ (rmW k tr b.1 ++ ([(xp, hcI k 4 b.2.1)] ++ ([(xq, hcI k 4 b.2.2.1)] ++ (RU k ra b.2.2.2)))))))) h hx hb hml hown hts hG hA hP hD hS hl.1 (List.range ([((xo 0), .inr (6, [.ref (ta 0), .ref xr, .int (xi 2), .ref (sa 0), .ref xm, .ref xg, .ref (tr 0), .ref xs, .ref xp, .ref xq, .ref xe, .ref xt]))] ++ ([(xr, hcR k 6 xrr)] ++ ([((sa 0), .inr (4, [.ref (xa 0), .ref (ca 0), .ref (na 0), .int (si 3), .int (si 4)]))] ++ (rmW k xa rm ++ (rmW k tr a61.2.2.2.2.2.1 ++ ([(xp, hcI k 4 a61.2.2.2.2.2.2.1)] ++ ([(xq, hcI k 4 a61.2.2.2.2.2.2.2.1)] ++ (RU k ra a61.2.2.2.2.2.2.2.2)))))))).length) [] (fun q hq9 => c_X8_playTwo l D k _  xo ta xr sa xm xg tr xs xp xq xe xt xa ca na ra F a61.1 a61.2.1 a61.2.2.1 a61.2.2.2.2.1 xi xrr si rm a61.2.2.2.2.2.1 a61.2.2.2.2.2.2.1 a61.2.2.2.2.2.2.2.1 a61.2.2.2.2.2.2.2.2 hq hq9) (ci := 6) (q0 := 0) rfl rfl gX8_rests_X8_playTwo rfl ⟨rfl, rfl, Nat.le_of_ble_eq_true rfl, Nat.le_of_ble_eq_true rfl⟩ (by decide +kernel) (al_C _) rfl (al_n _) ⟨rfl, rfl, Nat.le_of_ble_eq_true rfl, Nat.le_of_ble_eq_true rfl, Nat.le_of_ble_eq_true rfl⟩ dX8_rests_73 (fun q11 H locs h hP hD hS => ?_)
      have hP : va_P D vwCl ([((xo 0), .inr (6, [.ref (ta 0), .ref xr, .int (xi 2), .ref (sa 0), .ref xm, .ref xg, .ref (tr 0), .ref xs, .ref xp, .ref xq, .ref xe, .ref xt]))] ++ ([(xr, hcR k 6 xrr)] ++ ([((sa 0), .inr (4, [.ref (xa 0), .ref (ca 0), .ref (na 0), .int (si 3), .int (si 4)]))] ++ (rmW k xa rm ++ (rmW k tr q11.1 ++ ([(xp, hcI k 4 q11.2.1)] ++ ([(xq, hcI k 4 q11.2.2.1)] ++ (RU k ra q11.2.2.2)))))))) H := hP
      have hD : va_D A ([((xo 0), .inr (6, [.ref (ta 0), .ref xr, .int (xi 2), .ref (sa 0), .ref xm, .ref xg, .ref (tr 0), .ref xs, .ref xp, .ref xq, .ref xe, .ref xt]))] ++ ([(xr, hcR k 6 xrr)] ++ ([((sa 0), .inr (4, [.ref (xa 0), .ref (ca 0), .ref (na 0), .int (si 3), .int (si 4)]))] ++ (rmW k xa rm ++ (rmW k tr q11.1 ++ ([(xp, hcI k 4 q11.2.1)] ++ ([(xq, hcI k 4 q11.2.2.1)] ++ (RU k ra q11.2.2.2)))))))) := hD
      refine lv_iinc (v := (a61.2.2.2.2.1 + 1)) (lv' := [(6, .int (a61.2.2.2.2.1 + 1)), (0, .ref (xo 0)), (1, .int a61.1), (2, .int a61.2.1), (3, .int a61.2.2.1), (4, .int a61.2.2.2.1)]) hx hb dX8_rests_76 hl (k := 5) rfl rfl (by decide) rfl (fun ls hl => ?_)
      refine lv_goto (tgt := 61) hx hb dX8_rests_79 (by decide) ?_
      exact hc61 _ _ _ _ _ _ _ _ _ h _ _ _ hP hD hS (lv_sub hl [1, 2, 3, 4, 5, 0] rfl)
  have C61 : ∀ (v1 : Int32) (v2 : Int32) (v3 : Int32) (v4 : Int32) (v6 : Int32) (tm : OB) (xpr : Nat → Int32) (xqr : Nat → Int32) (rz : Nat → OB), lp (b_X8_rests_61 F xi xrr si rm) F (v1, v2, v3, v4, v6, tm, xpr, xqr, rz) = some res → ∀ (H : Heap) (locs : List Loc) (ls : Array Slot), va_P D vwCl ([((xo 0), .inr (6, [.ref (ta 0), .ref xr, .int (xi 2), .ref (sa 0), .ref xm, .ref xg, .ref (tr 0), .ref xs, .ref xp, .ref xq, .ref xe, .ref xt]))] ++ ([(xr, hcR k 6 xrr)] ++ ([((sa 0), .inr (4, [.ref (xa 0), .ref (ca 0), .ref (na 0), .int (si 3), .int (si 4)]))] ++ (rmW k xa rm ++ (rmW k tr tm ++ ([(xp, hcI k 4 xpr)] ++ ([(xq, hcI k 4 xqr)] ++ (RU k ra rz)))))))) H → va_D A ([((xo 0), .inr (6, [.ref (ta 0), .ref xr, .int (xi 2), .ref (sa 0), .ref xm, .ref xg, .ref (tr 0), .ref xs, .ref xp, .ref xq, .ref xe, .ref xt]))] ++ ([(xr, hcR k 6 xrr)] ++ ([((sa 0), .inr (4, [.ref (xa 0), .ref (ca 0), .ref (na 0), .int (si 3), .int (si 4)]))] ++ (rmW k xa rm ++ (rmW k tr tm ++ ([(xp, hcI k 4 xpr)] ++ ([(xq, hcI k 4 xqr)] ++ (RU k ra rz)))))))) → va_S A s.heap H locs → lv_has ls 9 [(0, .ref (xo 0)), (1, .int v1), (2, .int v2), (3, .int v3), (4, .int v4), (6, .int v6)] → W p l e (rmK 7 0 0) s m (List.toArray [.ref (xo 0), .int x1, .int x2, .int x3, .int x4]) below meth c H locs 0 0 (MQ below (va_Qi (fun r (_ : Unit) => r = res.1) (hcB D (fun _ : Unit => [((xo 0), .inr (6, [.ref (ta 0), .ref xr, .int (xi 2), .ref (sa 0), .ref xm, .ref xg, .ref (tr 0), .ref xs, .ref xp, .ref xq, .ref xe, .ref xt]))] ++ ([(xr, hcR k 6 xrr)] ++ ([((sa 0), .inr (4, [.ref (xa 0), .ref (ca 0), .ref (na 0), .int (si 3), .int (si 4)]))] ++ (rmW k xa rm ++ (rmW k tr res.2.1 ++ ([(xp, hcI k 4 res.2.2.1)] ++ ([(xq, hcI k 4 res.2.2.2.1)] ++ (RU k ra res.2.2.2.2)))))))) A) A) (List.toArray [.ref (xo 0), .int x1, .int x2, .int x3, .int x4]) s 0 0 A) (F0 m 61 ls []) := fun v1 v2 v3 v4 v6 tm xpr xqr rz => B61 (v1, v2, v3, v4, v6, tm, xpr, xqr, rz)
  refine lv_aload_n hx hb dX8_rests_0 rfl (lv_at hl 0 rfl) ?_
  refine va_get (D := D) (ci := 6) (v := .ref (sa 0)) (C := RX8) (T := TX8) (N := 12) hx hb hts in8 hown hG.1 hP 0 rfl rfl 3 (by decide) (hts (.fieldLink RX8 29 "ChairCane" "now" "LChairCane$Standing;") (by decide +kernel)) (fun _ h9 => h9) rfl dX8_rests_1 ?_
  refine va_get (D := D) (ci := 4) (v := .ref (xa 0)) (C := RX6) (T := TX6) (N := 5) hx hb hts in6 hown hG.1 hP 2 rfl rfl 0 (by decide) (hts (.fieldLink RX8 81 "ChairCane$Standing" "room" "LChairCane$Room;") (by decide +kernel)) (fun _ h9 => h9) rfl dX8_rests_4 ?_
  refine lv_astore (lv' := [(5, .ref (xa 0)), (0, .ref (xo 0)), (1, .int x1), (2, .int x2), (3, .int x3), (4, .int x4)]) hx hb dX8_rests_7 hl (by decide) rfl (fun ls hl => ?_)
  refine lv_aload hx hb dX8_rests_9 (lv_at hl 0 rfl) ?_
  refine lv_iload_n hx hb dX8_rests_11 rfl (lv_at hl 2 rfl) ?_
  refine fw_Vi (As := [.int x1]) (rest := []) (n := 1) (wr := [((xo 0), .inr (6, [.ref (ta 0), .ref xr, .int (xi 2), .ref (sa 0), .ref xm, .ref xg, .ref (tr 0), .ref xs, .ref xp, .ref xq, .ref xe, .ref xt]))] ++ ([(xr, hcR k 6 xrr)] ++ ([((sa 0), .inr (4, [.ref (xa 0), .ref (ca 0), .ref (na 0), .int (si 3), .int (si 4)]))] ++ (rmW k tr tm ++ ([(xp, hcI k 4 xpr)] ++ ([(xq, hcI k 4 xqr)] ++ (RU k ra rz))))))) (rv := fun b : Int32 => b) (wp := fun b : Int32 => rmW k xa rm) h hx hb hml hown hts hG hA hP hD hS hl.1 [3, 4, 5, 6, 7, 8, 9, 10, 11] [0, 1, 2, 12, 13, 14, 15, 16, 17, 18, 19, 20, 21, 22, 23, 24, 25, 26, 27, 28, 29, 30, 31, 32, 33, 34, 35, 36, 37, 38, 39, 40, 41, 42, 43, 44, 45, 46, 47, 48, 49, 50, 51, 52, 53, 54, 55, 56, 57, 58] (fun q hq9 => c_X3_isUp l D k _  xa F x1 rm  hq9) (ci := 2) (q0 := 3) rfl rfl gX8_rests_X3_isUp rfl ⟨rfl, rfl, Nat.le_of_ble_eq_true rfl, Nat.le_of_ble_eq_true rfl⟩ (by decide +kernel) rfl rfl ⟨by decide, by decide, by decide⟩ ⟨rfl, rfl, Nat.le_of_ble_eq_true rfl, Nat.le_of_ble_eq_true rfl, Nat.le_of_ble_eq_true rfl⟩ dX8_rests_12 (fun q12 H locs h hP hD hS => ?_)
  have hP : va_P D vwCl ([((xo 0), .inr (6, [.ref (ta 0), .ref xr, .int (xi 2), .ref (sa 0), .ref xm, .ref xg, .ref (tr 0), .ref xs, .ref xp, .ref xq, .ref xe, .ref xt]))] ++ ([(xr, hcR k 6 xrr)] ++ ([((sa 0), .inr (4, [.ref (xa 0), .ref (ca 0), .ref (na 0), .int (si 3), .int (si 4)]))] ++ (rmW k tr tm ++ ([(xp, hcI k 4 xpr)] ++ ([(xq, hcI k 4 xqr)] ++ (RU k ra rz ++ (rmW k xa rm)))))))) H := hP
  have hD : va_D A ([((xo 0), .inr (6, [.ref (ta 0), .ref xr, .int (xi 2), .ref (sa 0), .ref xm, .ref xg, .ref (tr 0), .ref xs, .ref xp, .ref xq, .ref xe, .ref xt]))] ++ ([(xr, hcR k 6 xrr)] ++ ([((sa 0), .inr (4, [.ref (xa 0), .ref (ca 0), .ref (na 0), .int (si 3), .int (si 4)]))] ++ (rmW k tr tm ++ ([(xp, hcI k 4 xpr)] ++ ([(xq, hcI k 4 xqr)] ++ (RU k ra rz ++ (rmW k xa rm)))))))) := hD
  refine hc_is (z := q12) rfl ?_
  refine lv_if_eq (tgt := 32) hx hb dX8_rests_15 (by decide) (fun c13 => ?_) (fun c13 => ?_)
  · have h := fw_t c13 h
    exact B32 _ _ _ _ _ _ _ h (hP.sub [0, 1, 2, 50, 51, 52, 53, 54, 55, 56, 57, 58, 3, 4, 5, 6, 7, 8, 9, 10, 11, 12, 13, 14, 15, 16, 17, 18, 19, 20, 21, 22, 23, 24, 25, 26, 27, 28, 29, 30, 31, 32, 33, 34, 35, 36, 37, 38, 39, 40, 41, 42, 43, 44, 45, 46, 47, 48, 49] rfl) (hD.sub [0, 1, 2, 50, 51, 52, 53, 54, 55, 56, 57, 58, 3, 4, 5, 6, 7, 8, 9, 10, 11, 12, 13, 14, 15, 16, 17, 18, 19, 20, 21, 22, 23, 24, 25, 26, 27, 28, 29, 30, 31, 32, 33, 34, 35, 36, 37, 38, 39, 40, 41, 42, 43, 44, 45, 46, 47, 48, 49] (by decide) rfl) hS (lv_sub hl [] rfl)
  · have h := fw_f c13 h
    refine lv_aload hx hb dX8_rests_18 (lv_at hl 0 rfl) ?_
    refine lv_iload_n hx hb dX8_rests_20 rfl (lv_at hl 3 rfl) ?_
    refine fw_Vi (As := [.int x2]) (rest := []) (n := 1) (wr := [((xo 0), .inr (6, [.ref (ta 0), .ref xr, .int (xi 2), .ref (sa 0), .ref xm, .ref xg, .ref (tr 0), .ref xs, .ref xp, .ref xq, .ref xe, .ref xt]))] ++ ([(xr, hcR k 6 xrr)] ++ ([((sa 0), .inr (4, [.ref (xa 0), .ref (ca 0), .ref (na 0), .int (si 3), .int (si 4)]))] ++ (rmW k tr tm ++ ([(xp, hcI k 4 xpr)] ++ ([(xq, hcI k 4 xqr)] ++ (RU k ra rz))))))) (rv := fun b : Int32 => b) (wp := fun b : Int32 => rmW k xa rm) h hx hb hml hown hts hG hA hP hD hS hl.1 [50, 51, 52, 53, 54, 55, 56, 57, 58] [0, 1, 2, 3, 4, 5, 6, 7, 8, 9, 10, 11, 12, 13, 14, 15, 16, 17, 18, 19, 20, 21, 22, 23, 24, 25, 26, 27, 28, 29, 30, 31, 32, 33, 34, 35, 36, 37, 38, 39, 40, 41, 42, 43, 44, 45, 46, 47, 48, 49] (fun q hq9 => c_X3_isUp l D k _  xa F x2 rm  hq9) (ci := 2) (q0 := 50) rfl rfl gX8_rests_X3_isUp rfl ⟨rfl, rfl, Nat.le_of_ble_eq_true rfl, Nat.le_of_ble_eq_true rfl⟩ (by decide +kernel) rfl rfl ⟨by decide, by decide, by decide⟩ ⟨rfl, rfl, Nat.le_of_ble_eq_true rfl, Nat.le_of_ble_eq_true rfl, Nat.le_of_ble_eq_true rfl⟩ dX8_rests_21 (fun q14 H locs h hP hD hS => ?_)
    have hP : va_P D vwCl ([((xo 0), .inr (6, [.ref (ta 0), .ref xr, .int (xi 2), .ref (sa 0), .ref xm, .ref xg, .ref (tr 0), .ref xs, .ref xp, .ref xq, .ref xe, .ref xt]))] ++ ([(xr, hcR k 6 xrr)] ++ ([((sa 0), .inr (4, [.ref (xa 0), .ref (ca 0), .ref (na 0), .int (si 3), .int (si 4)]))] ++ (rmW k tr tm ++ ([(xp, hcI k 4 xpr)] ++ ([(xq, hcI k 4 xqr)] ++ (RU k ra rz ++ (rmW k xa rm)))))))) H := hP
    have hD : va_D A ([((xo 0), .inr (6, [.ref (ta 0), .ref xr, .int (xi 2), .ref (sa 0), .ref xm, .ref xg, .ref (tr 0), .ref xs, .ref xp, .ref xq, .ref xe, .ref xt]))] ++ ([(xr, hcR k 6 xrr)] ++ ([((sa 0), .inr (4, [.ref (xa 0), .ref (ca 0), .ref (na 0), .int (si 3), .int (si 4)]))] ++ (rmW k tr tm ++ ([(xp, hcI k 4 xpr)] ++ ([(xq, hcI k 4 xqr)] ++ (RU k ra rz ++ (rmW k xa rm)))))))) := hD
    refine hc_is (z := q14) rfl ?_
    refine lv_if_eq (tgt := 32) hx hb dX8_rests_24 (by decide) (fun c15 => ?_) (fun c15 => ?_)
    · have h := fw_t c15 h
      exact B32 _ _ _ _ _ _ _ h (hP.sub [0, 1, 2, 50, 51, 52, 53, 54, 55, 56, 57, 58, 3, 4, 5, 6, 7, 8, 9, 10, 11, 12, 13, 14, 15, 16, 17, 18, 19, 20, 21, 22, 23, 24, 25, 26, 27, 28, 29, 30, 31, 32, 33, 34, 35, 36, 37, 38, 39, 40, 41, 42, 43, 44, 45, 46, 47, 48, 49] rfl) (hD.sub [0, 1, 2, 50, 51, 52, 53, 54, 55, 56, 57, 58, 3, 4, 5, 6, 7, 8, 9, 10, 11, 12, 13, 14, 15, 16, 17, 18, 19, 20, 21, 22, 23, 24, 25, 26, 27, 28, 29, 30, 31, 32, 33, 34, 35, 36, 37, 38, 39, 40, 41, 42, 43, 44, 45, 46, 47, 48, 49] (by decide) rfl) hS (lv_sub hl [] rfl)
    · have h := fw_f c15 h
      refine lv_iload_n hx hb dX8_rests_27 rfl (lv_at hl 2 rfl) ?_
      refine lv_iload_n hx hb dX8_rests_28 rfl (lv_at hl 3 rfl) ?_
      refine lv_icmp_ne (tgt := 34) hx hb dX8_rests_29 (by decide) (fun c16 => ?_) (fun c16 => ?_)
      · have h := fw_f c16 h
        refine lv_iload_n hx hb dX8_rests_34 rfl (lv_at hl 4 rfl) ?_
        refine lv_iconst (v := 1) hx hb dX8_rests_35 (by decide) ?_
        refine lv_icmp_lt (tgt := 56) hx hb dX8_rests_36 (by decide) (fun c17 => ?_) (fun c17 => ?_)
        · have h := fw_t c17 h
          exact B56 _ _ _ _ _ _ _ h (hP.sub [0, 1, 2, 50, 51, 52, 53, 54, 55, 56, 57, 58, 3, 4, 5, 6, 7, 8, 9, 10, 11, 12, 13, 14, 15, 16, 17, 18, 19, 20, 21, 22, 23, 24, 25, 26, 27, 28, 29, 30, 31, 32, 33, 34, 35, 36, 37, 38, 39, 40, 41, 42, 43, 44, 45, 46, 47, 48, 49] rfl) (hD.sub [0, 1, 2, 50, 51, 52, 53, 54, 55, 56, 57, 58, 3, 4, 5, 6, 7, 8, 9, 10, 11, 12, 13, 14, 15, 16, 17, 18, 19, 20, 21, 22, 23, 24, 25, 26, 27, 28, 29, 30, 31, 32, 33, 34, 35, 36, 37, 38, 39, 40, 41, 42, 43, 44, 45, 46, 47, 48, 49] (by decide) rfl) hS (lv_sub hl [] rfl)
        · have h := fw_f c17 h
          refine lv_iload_n hx hb dX8_rests_39 rfl (lv_at hl 4 rfl) ?_
          refine lv_bipush (v := 20) hx hb dX8_rests_40 (by decide) ?_
          refine lv_icmp_gt (tgt := 56) hx hb dX8_rests_42 (by decide) (fun c18 => ?_) (fun c18 => ?_)
          · have h := fw_t c18 h
            exact B56 _ _ _ _ _ _ _ h (hP.sub [0, 1, 2, 50, 51, 52, 53, 54, 55, 56, 57, 58, 3, 4, 5, 6, 7, 8, 9, 10, 11, 12, 13, 14, 15, 16, 17, 18, 19, 20, 21, 22, 23, 24, 25, 26, 27, 28, 29, 30, 31, 32, 33, 34, 35, 36, 37, 38, 39, 40, 41, 42, 43, 44, 45, 46, 47, 48, 49] rfl) (hD.sub [0, 1, 2, 50, 51, 52, 53, 54, 55, 56, 57, 58, 3, 4, 5, 6, 7, 8, 9, 10, 11, 12, 13, 14, 15, 16, 17, 18, 19, 20, 21, 22, 23, 24, 25, 26, 27, 28, 29, 30, 31, 32, 33, 34, 35, 36, 37, 38, 39, 40, 41, 42, 43, 44, 45, 46, 47, 48, 49] (by decide) rfl) hS (lv_sub hl [] rfl)
          · have h := fw_f c18 h
            refine lv_iload hx hb dX8_rests_45 (lv_at hl 5 rfl) ?_
            refine lv_if_lt (tgt := 56) hx hb dX8_rests_47 (by decide) (fun c19 => ?_) (fun c19 => ?_)
            · have h := fw_t c19 h
              exact B56 _ _ _ _ _ _ _ h (hP.sub [0, 1, 2, 50, 51, 52, 53, 54, 55, 56, 57, 58, 3, 4, 5, 6, 7, 8, 9, 10, 11, 12, 13, 14, 15, 16, 17, 18, 19, 20, 21, 22, 23, 24, 25, 26, 27, 28, 29, 30, 31, 32, 33, 34, 35, 36, 37, 38, 39, 40, 41, 42, 43, 44, 45, 46, 47, 48, 49] rfl) (hD.sub [0, 1, 2, 50, 51, 52, 53, 54, 55, 56, 57, 58, 3, 4, 5, 6, 7, 8, 9, 10, 11, 12, 13, 14, 15, 16, 17, 18, 19, 20, 21, 22, 23, 24, 25, 26, 27, 28, 29, 30, 31, 32, 33, 34, 35, 36, 37, 38, 39, 40, 41, 42, 43, 44, 45, 46, 47, 48, 49] (by decide) rfl) hS (lv_sub hl [] rfl)
            · have h := fw_f c19 h
              refine lv_iload hx hb dX8_rests_50 (lv_at hl 5 rfl) ?_
              refine lv_iconst (v := 2) hx hb dX8_rests_52 (by decide) ?_
              refine lv_icmp_le (tgt := 58) hx hb dX8_rests_53 (by decide) (fun c20 => ?_) (fun c20 => ?_)
              · have h := fw_t c20 h
                refine lv_iconst (v := 0) hx hb dX8_rests_58 (by decide) ?_
                refine lv_istore (lv' := [(6, .int 0), (5, .ref (xa 0)), (0, .ref (xo 0)), (1, .int x1), (2, .int x2), (3, .int x3), (4, .int x4)]) hx hb dX8_rests_59 hl (by decide) rfl (fun ls hl => ?_)
                exact C61 _ _ _ _ _ _ _ _ _ h _ _ _ (hP.sub [0, 1, 2, 50, 51, 52, 53, 54, 55, 56, 57, 58, 3, 4, 5, 6, 7, 8, 9, 10, 11, 12, 13, 14, 15, 16, 17, 18, 19, 20, 21, 22, 23, 24, 25, 26, 27, 28, 29, 30, 31, 32, 33, 34, 35, 36, 37, 38, 39, 40, 41, 42, 43, 44, 45, 46, 47, 48, 49] rfl) (hD.sub [0, 1, 2, 50, 51, 52, 53, 54, 55, 56, 57, 58, 3, 4, 5, 6, 7, 8, 9, 10, 11, 12, 13, 14, 15, 16, 17, 18, 19, 20, 21, 22, 23, 24, 25, 26, 27, 28, 29, 30, 31, 32, 33, 34, 35, 36, 37, 38, 39, 40, 41, 42, 43, 44, 45, 46, 47, 48, 49] (by decide) rfl) hS (lv_sub hl [2, 3, 4, 5, 6, 0] rfl)
              · have h := fw_f c20 h
                exact B56 _ _ _ _ _ _ _ h (hP.sub [0, 1, 2, 50, 51, 52, 53, 54, 55, 56, 57, 58, 3, 4, 5, 6, 7, 8, 9, 10, 11, 12, 13, 14, 15, 16, 17, 18, 19, 20, 21, 22, 23, 24, 25, 26, 27, 28, 29, 30, 31, 32, 33, 34, 35, 36, 37, 38, 39, 40, 41, 42, 43, 44, 45, 46, 47, 48, 49] rfl) (hD.sub [0, 1, 2, 50, 51, 52, 53, 54, 55, 56, 57, 58, 3, 4, 5, 6, 7, 8, 9, 10, 11, 12, 13, 14, 15, 16, 17, 18, 19, 20, 21, 22, 23, 24, 25, 26, 27, 28, 29, 30, 31, 32, 33, 34, 35, 36, 37, 38, 39, 40, 41, 42, 43, 44, 45, 46, 47, 48, 49] (by decide) rfl) hS (lv_sub hl [] rfl)
      · have h := fw_t c16 h
        exact B32 _ _ _ _ _ _ _ h (hP.sub [0, 1, 2, 50, 51, 52, 53, 54, 55, 56, 57, 58, 3, 4, 5, 6, 7, 8, 9, 10, 11, 12, 13, 14, 15, 16, 17, 18, 19, 20, 21, 22, 23, 24, 25, 26, 27, 28, 29, 30, 31, 32, 33, 34, 35, 36, 37, 38, 39, 40, 41, 42, 43, 44, 45, 46, 47, 48, 49] rfl) (hD.sub [0, 1, 2, 50, 51, 52, 53, 54, 55, 56, 57, 58, 3, 4, 5, 6, 7, 8, 9, 10, 11, 12, 13, 14, 15, 16, 17, 18, 19, 20, 21, 22, 23, 24, 25, 26, 27, 28, 29, 30, 31, 32, 33, 34, 35, 36, 37, 38, 39, 40, 41, 42, 43, 44, 45, 46, 47, 48, 49] (by decide) rfl) hS (lv_sub hl [] rfl)
def b_X8_note_50 (F : Nat)  (xi : Nat → Int32) (si : Nat → Int32) (rm : OB)  (nt : OB) : Option (Int32 × OB) :=
  some ((-2), nt)
def b_X8_note_84 (F : Nat)  (xi : Nat → Int32) (si : Nat → Int32) (rm : OB)  (y0 : Int32) (nt : OB) : Option (Int32 × OB) :=
  some (y0, nt)
def f_X8_note (F : Nat)  (x1 : Int32) (x2 : Int32) (x3 : Int32) (xi : Nat → Int32) (si : Nat → Int32) (rm : OB) (nt : OB) : Option (Int32 × OB) :=
  if x1 = (-1) then (Option.bind (f_X2_forget F nt) (fun q10 => (some (0, q10)))) else (if x1 < 0 then (b_X8_note_50 F xi si rm nt) else (if 60 < x1 then (b_X8_note_50 F xi si rm nt) else (Option.bind (f_X3_hasSitter F x2 rm) (fun q4 => (if q4 = 0 then (b_X8_note_50 F xi si rm nt) else (if x3 < 0 then (b_X8_note_50 F xi si rm nt) else (if x3 < 3 then (Option.bind (f_X2_add F x1 x2 x3 nt) (fun q8 => (if q8.1 = 0 then (b_X8_note_84 F xi si rm (-2) q8.2) else (b_X8_note_84 F xi si rm (q8.2.1 3) q8.2)))) else (b_X8_note_50 F xi si rm nt))))))))
set_option maxHeartbeats 4000000 in
set_option maxRecDepth 100000 in
theorem c_X8_note (l : Launch) (D : va_G) (k : Nat → ClassId) (sz : Nat)  (xo : Nat → Nat) (ta : Nat → Nat) (xr : Nat) (sa : Nat → Nat) (xm : Nat) (xg : Nat) (tr : Nat → Nat) (xs : Nat) (xp : Nat) (xq : Nat) (xe : Nat) (xt : Nat) (xa : Nat → Nat) (ca : Nat → Nat) (na : Nat → Nat) (F : Nat)  (x1 : Int32) (x2 : Int32) (x3 : Int32) (xi : Nat → Int32) (si : Nat → Int32) (rm : OB) (nt : OB)  {res : Int32 × OB} (h : f_X8_note F x1 x2 x3 xi si rm nt = some res) : CtI l yX8_note wsX8_note (rmK 2 0 0) [.ref (xo 0), .int x1, .int x2, .int x3] D k sz ([((xo 0), .inr (6, [.ref (ta 0), .ref xr, .int (xi 2), .ref (sa 0), .ref xm, .ref xg, .ref (tr 0), .ref xs, .ref xp, .ref xq, .ref xe, .ref xt]))] ++ ([((sa 0), .inr (4, [.ref (xa 0), .ref (ca 0), .ref (na 0), .int (si 3), .int (si 4)]))] ++ (rmW k xa rm ++ (ntW k na nt)))) (fun r (_ : Unit) => r = res.1) (fun _ : Unit => [((xo 0), .inr (6, [.ref (ta 0), .ref xr, .int (xi 2), .ref (sa 0), .ref xm, .ref xg, .ref (tr 0), .ref xs, .ref xp, .ref xq, .ref xe, .ref xt]))] ++ ([((sa 0), .inr (4, [.ref (xa 0), .ref (ca 0), .ref (na 0), .int (si 3), .int (si 4)]))] ++ (rmW k xa rm ++ (ntW k na res.2)))) 0 0 := by
  refine CtI.mk (cc := cX8_note) (maxL := 4) (ret := (some .int)) (by decide) rfl (Nat.le_of_ble_eq_true rfl) ?_
  intro p e s m below meth c A ls E hP hD hS hl
  obtain ⟨hx, hb, hr, hml, hown, hts, hlocks, hin, hG, hA⟩ := E
  have hown : s.vm.findClass RX8 = some m.cls := hown
  have in2 : ∀ w ∈ u_ws RX2 TX2 4, w ∈ wsX8_note := fun _ h => List.mem_cons_of_mem _ (List.mem_append_left _ (List.mem_append_right _ h))
  have in3 : ∀ w ∈ u_ws RX3 TX3 17, w ∈ wsX8_note := fun _ h => List.mem_cons_of_mem _ (List.mem_append_right _ h)
  have in6 : ∀ w ∈ u_ws RX6 TX6 5, w ∈ wsX8_note := fun _ h => List.mem_cons_of_mem _ (List.mem_append_left _ (List.mem_append_left _ (List.mem_append_right _ h)))
  have in8 : ∀ w ∈ u_ws RX8 TX8 12, w ∈ wsX8_note := fun _ h => List.mem_cons_of_mem _ (List.mem_append_left _ (List.mem_append_left _ (List.mem_append_left _ (List.mem_append_right _ h))))
  have hl : lv_has ls 4 [(0, .ref (xo 0)), (1, .int x1), (2, .int x2), (3, .int x3)] := hl
  have B50 : ∀ (nt : OB) (H : Heap) (locs : List Loc) (ls : Array Slot), b_X8_note_50 F xi si rm nt = some res → va_P D vwCl ([((xo 0), .inr (6, [.ref (ta 0), .ref xr, .int (xi 2), .ref (sa 0), .ref xm, .ref xg, .ref (tr 0), .ref xs, .ref xp, .ref xq, .ref xe, .ref xt]))] ++ ([((sa 0), .inr (4, [.ref (xa 0), .ref (ca 0), .ref (na 0), .int (si 3), .int (si 4)]))] ++ (rmW k xa rm ++ (ntW k na nt)))) H → va_D A ([((xo 0), .inr (6, [.ref (ta 0), .ref xr, .int (xi 2), .ref (sa 0), .ref xm, .ref xg, .ref (tr 0), .ref xs, .ref xp, .ref xq, .ref xe, .ref xt]))] ++ ([((sa 0), .inr (4, [.ref (xa 0), .ref (ca 0), .ref (na 0), .int (si 3), .int (si 4)]))] ++ (rmW k xa rm ++ (ntW k na nt)))) → va_S A s.heap H locs → lv_has ls 4 [] → W p l e (rmK 2 0 0) s m (List.toArray [.ref (xo 0), .int x1, .int x2, .int x3]) below meth c H locs 0 0 (MQ below (va_Qi (fun r (_ : Unit) => r = res.1) (hcB D (fun _ : Unit => [((xo 0), .inr (6, [.ref (ta 0), .ref xr, .int (xi 2), .ref (sa 0), .ref xm, .ref xg, .ref (tr 0), .ref xs, .ref xp, .ref xq, .ref xe, .ref xt]))] ++ ([((sa 0), .inr (4, [.ref (xa 0), .ref (ca 0), .ref (na 0), .int (si 3), .int (si 4)]))] ++ (rmW k xa rm ++ (ntW k na res.2)))) A) A) (List.toArray [.ref (xo 0), .int x1, .int x2, .int x3]) s 0 0 A) (F0 m 50 ls []) := by
    intro nt H locs ls h hP hD hS hl
    refine lv_bipush (v := (-2)) hx hb dX8_note_50 (by decide) ?_
    exact fw_endI (rv := fun b : Int32 × OB => b.1) (wp := fun b : Int32 × OB => [((xo 0), .inr (6, [.ref (ta 0), .ref xr, .int (xi 2), .ref (sa 0), .ref xm, .ref xg, .ref (tr 0), .ref xs, .ref xp, .ref xq, .ref xe, .ref xt]))] ++ ([((sa 0), .inr (4, [.ref (xa 0), .ref (ca 0), .ref (na 0), .int (si 3), .int (si 4)]))] ++ (rmW k xa rm ++ (ntW k na b.2)))) hx hb hr hlocks h rfl hP hD hS dX8_note_52
  have B84 : ∀ (y0 : Int32) (nt : OB) (H : Heap) (locs : List Loc) (ls : Array Slot), b_X8_note_84 F xi si rm y0 nt = some res → va_P D vwCl ([((xo 0), .inr (6, [.ref (ta 0), .ref xr, .int (xi 2), .ref (sa 0), .ref xm, .ref xg, .ref (tr 0), .ref xs, .ref xp, .ref xq, .ref xe, .ref xt]))] ++ ([((sa 0), .inr (4, [.ref (xa 0), .ref (ca 0), .ref (na 0), .int (si 3), .int (si 4)]))] ++ (rmW k xa rm ++ (ntW k na nt)))) H → va_D A ([((xo 0), .inr (6, [.ref (ta 0), .ref xr, .int (xi 2), .ref (sa 0), .ref xm, .ref xg, .ref (tr 0), .ref xs, .ref xp, .ref xq, .ref xe, .ref xt]))] ++ ([((sa 0), .inr (4, [.ref (xa 0), .ref (ca 0), .ref (na 0), .int (si 3), .int (si 4)]))] ++ (rmW k xa rm ++ (ntW k na nt)))) → va_S A s.heap H locs → lv_has ls 4 [] → W p l e (rmK 2 0 0) s m (List.toArray [.ref (xo 0), .int x1, .int x2, .int x3]) below meth c H locs 0 0 (MQ below (va_Qi (fun r (_ : Unit) => r = res.1) (hcB D (fun _ : Unit => [((xo 0), .inr (6, [.ref (ta 0), .ref xr, .int (xi 2), .ref (sa 0), .ref xm, .ref xg, .ref (tr 0), .ref xs, .ref xp, .ref xq, .ref xe, .ref xt]))] ++ ([((sa 0), .inr (4, [.ref (xa 0), .ref (ca 0), .ref (na 0), .int (si 3), .int (si 4)]))] ++ (rmW k xa rm ++ (ntW k na res.2)))) A) A) (List.toArray [.ref (xo 0), .int x1, .int x2, .int x3]) s 0 0 A) (F0 m 84 ls [.int y0]) := by
    intro y0 nt H locs ls h hP hD hS hl
    exact fw_endI (rv := fun b : Int32 × OB => b.1) (wp := fun b : Int32 × OB => [((xo 0), .inr (6, [.ref (ta 0), .ref xr, .int (xi 2), .ref (sa 0), .ref xm, .ref xg, .ref (tr 0), .ref xs, .ref xp, .ref xq, .ref xe, .ref xt]))] ++ ([((sa 0), .inr (4, [.ref (xa 0), .ref (ca 0), .ref (na 0), .int (si 3), .int (si 4)]))] ++ (rmW k xa rm ++ (ntW k na b.2)))) hx hb hr hlocks h rfl hP hD hS dX8_note_84
  refine lv_iload_n hx hb dX8_note_0 rfl (lv_at hl 1 rfl) ?_
  refine lv_iconst (v := (-1)) hx hb dX8_note_1 (by decide) ?_
  refine lv_icmp_ne (tgt := 17) hx hb dX8_note_2 (by decide) (fun c1 => ?_) (fun c1 => ?_)
  · have h := fw_f c1 h
    refine lv_iload_n hx hb dX8_note_17 rfl (lv_at hl 1 rfl) ?_
    refine lv_if_lt (tgt := 50) hx hb dX8_note_18 (by decide) (fun c2 => ?_) (fun c2 => ?_)
    · have h := fw_t c2 h
      exact B50 _ _ _ _ h hP hD hS (lv_sub hl [] rfl)
    · have h := fw_f c2 h
      refine lv_iload_n hx hb dX8_note_21 rfl (lv_at hl 1 rfl) ?_
      refine lv_bipush (v := 60) hx hb dX8_note_22 (by decide) ?_
      refine lv_icmp_gt (tgt := 50) hx hb dX8_note_24 (by decide) (fun c3 => ?_) (fun c3 => ?_)
      · have h := fw_t c3 h
        exact B50 _ _ _ _ h hP hD hS (lv_sub hl [] rfl)
      · have h := fw_f c3 h
        refine lv_aload_n hx hb dX8_note_27 rfl (lv_at hl 0 rfl) ?_
        refine va_get (D := D) (ci := 6) (v := .ref (sa 0)) (C := RX8) (T := TX8) (N := 12) hx hb hts in8 hown hG.1 hP 0 rfl rfl 3 (by decide) (hts (.fieldLink RX8 29 "ChairCane" "now" "LChairCane$Standing;") (by decide +kernel)) (fun _ h9 => h9) rfl dX8_note_28 ?_
        refine va_get (D := D) (ci := 4) (v := .ref (xa 0)) (C := RX6) (T := TX6) (N := 5) hx hb hts in6 hown hG.1 hP 1 rfl rfl 0 (by decide) (hts (.fieldLink RX8 81 "ChairCane$Standing" "room" "LChairCane$Room;") (by decide +kernel)) (fun _ h9 => h9) rfl dX8_note_31 ?_
        refine lv_iload_n hx hb dX8_note_34 rfl (lv_at hl 2 rfl) ?_
        refine fw_Vi (As := [.int x2]) (rest := []) (n := 1) (wr := [((xo 0), .inr (6, [.ref (ta 0), .ref xr, .int (xi 2), .ref (sa 0), .ref xm, .ref xg, .ref (tr 0), .ref xs, .ref xp, .ref xq, .ref xe, .ref xt]))] ++ ([((sa 0), .inr (4, [.ref (xa 0), .ref (ca 0), .ref (na 0), .int (si 3), .int (si 4)]))] ++ (ntW k na nt))) (rv := fun b : Int32 => b) (wp := fun b : Int32 => rmW k xa rm) h hx hb hml hown hts hG hA hP hD hS hl.1 [2, 3, 4, 5, 6, 7, 8, 9, 10] [0, 1, 11, 12, 13, 14] (fun q hq9 => c_X3_hasSitter l D k _  xa F x2 rm  hq9) (ci := 2) (q0 := 2) rfl rfl gX8_note_X3_hasSitter rfl ⟨rfl, rfl, Nat.le_of_ble_eq_true rfl, Nat.le_of_ble_eq_true rfl⟩ (by decide +kernel) rfl rfl ⟨by decide, by decide, by decide⟩ ⟨rfl, rfl, Nat.le_of_ble_eq_true rfl, Nat.le_of_ble_eq_true rfl, Nat.le_of_ble_eq_true rfl⟩ dX8_note_35 (fun q4 H locs h hP hD hS => ?_)
        have hP : va_P D vwCl ([((xo 0), .inr (6, [.ref (ta 0), .ref xr, .int (xi 2), .ref (sa 0), .ref xm, .ref xg, .ref (tr 0), .ref xs, .ref xp, .ref xq, .ref xe, .ref xt]))] ++ ([((sa 0), .inr (4, [.ref (xa 0), .ref (ca 0), .ref (na 0), .int (si 3), .int (si 4)]))] ++ (ntW k na nt ++ (rmW k xa rm)))) H := hP
        have hD : va_D A ([((xo 0), .inr (6, [.ref (ta 0), .ref xr, .int (xi 2), .ref (sa 0), .ref xm, .ref xg, .ref (tr 0), .ref xs, .ref xp, .ref xq, .ref xe, .ref xt]))] ++ ([((sa 0), .inr (4, [.ref (xa 0), .ref (ca 0), .ref (na 0), .int (si 3), .int (si 4)]))] ++ (ntW k na nt ++ (rmW k xa rm)))) := hD
        refine hc_is (z := q4) rfl ?_
        refine lv_if_eq (tgt := 50) hx hb dX8_note_38 (by decide) (fun c5 => ?_) (fun c5 => ?_)
        · have h := fw_t c5 h
          exact B50 _ _ _ _ h (hP.sub [0, 1, 6, 7, 8, 9, 10, 11, 12, 13, 14, 2, 3, 4, 5] rfl) (hD.sub [0, 1, 6, 7, 8, 9, 10, 11, 12, 13, 14, 2, 3, 4, 5] (by decide) rfl) hS (lv_sub hl [] rfl)
        · have h := fw_f c5 h
          refine lv_iload_n hx hb dX8_note_41 rfl (lv_at hl 3 rfl) ?_
          refine lv_if_lt (tgt := 50) hx hb dX8_note_42 (by decide) (fun c6 => ?_) (fun c6 => ?_)
          · have h := fw_t c6 h
            exact B50 _ _ _ _ h (hP.sub [0, 1, 6, 7, 8, 9, 10, 11, 12, 13, 14, 2, 3, 4, 5] rfl) (hD.sub [0, 1, 6, 7, 8, 9, 10, 11, 12, 13, 14, 2, 3, 4, 5] (by decide) rfl) hS (lv_sub hl [] rfl)
          · have h := fw_f c6 h
            refine lv_iload_n hx hb dX8_note_45 rfl (lv_at hl 3 rfl) ?_
            refine lv_iconst (v := 3) hx hb dX8_note_46 (by decide) ?_
            refine lv_icmp_lt (tgt := 53) hx hb dX8_note_47 (by decide) (fun c7 => ?_) (fun c7 => ?_)
            · have h := fw_t c7 h
              refine lv_aload_n hx hb dX8_note_53 rfl (lv_at hl 0 rfl) ?_
              refine va_get (D := D) (ci := 6) (v := .ref (sa 0)) (C := RX8) (T := TX8) (N := 12) hx hb hts in8 hown hG.1 hP 0 rfl rfl 3 (by decide) (hts (.fieldLink RX8 29 "ChairCane" "now" "LChairCane$Standing;") (by decide +kernel)) (fun _ h9 => h9) rfl dX8_note_54 ?_
              refine va_get (D := D) (ci := 4) (v := .ref (na 0)) (C := RX6) (T := TX6) (N := 5) hx hb hts in6 hown hG.1 hP 1 rfl rfl 2 (by decide) (hts (.fieldLink RX8 97 "ChairCane$Standing" "notes" "LChairCane$Notes;") (by decide +kernel)) (fun _ h9 => h9) rfl dX8_note_57 ?_
              refine lv_iload_n hx hb dX8_note_60 rfl (lv_at hl 1 rfl) ?_
              refine lv_iload_n hx hb dX8_note_61 rfl (lv_at hl 2 rfl) ?_
              refine lv_iload_n hx hb dX8_note_62 rfl (lv_at hl 3 rfl) ?_
              refine fw_Vi (As := [.int x1, .int x2, .int x3]) (rest := []) (n := 3) (wr := [((xo 0), .inr (6, [.ref (ta 0), .ref xr, .int (xi 2), .ref (sa 0), .ref xm, .ref xg, .ref (tr 0), .ref xs, .ref xp, .ref xq, .ref xe, .ref xt]))] ++ ([((sa 0), .inr (4, [.ref (xa 0), .ref (ca 0), .ref (na 0), .int (si 3), .int (si 4)]))] ++ (rmW k xa rm))) (rv := fun b : Int32 × OB => b.1) (wp := fun b : Int32 × OB => ntW k na b.2) h hx hb hml hown hts hG hA hP hD hS hl.1 [2, 3, 4, 5] [0, 1, 6, 7, 8, 9, 10, 11, 12, 13, 14] (fun q hq9 => c_X2_add l D k _  na F x1 x2 x3 nt  hq9) (ci := 1) (q0 := 2) rfl rfl gX8_note_X2_add rfl ⟨rfl, rfl, Nat.le_of_ble_eq_true rfl, Nat.le_of_ble_eq_true rfl⟩ (by decide +kernel) rfl rfl ⟨by decide, by decide, by decide⟩ ⟨rfl, rfl, Nat.le_of_ble_eq_true rfl, Nat.le_of_ble_eq_true rfl, Nat.le_of_ble_eq_true rfl⟩ dX8_note_63 (fun q8 H locs h hP hD hS => ?_)
              have hP : va_P D vwCl ([((xo 0), .inr (6, [.ref (ta 0), .ref xr, .int (xi 2), .ref (sa 0), .ref xm, .ref xg, .ref (tr 0), .ref xs, .ref xp, .ref xq, .ref xe, .ref xt]))] ++ ([((sa 0), .inr (4, [.ref (xa 0), .ref (ca 0), .ref (na 0), .int (si 3), .int (si 4)]))] ++ (rmW k xa rm ++ (ntW k na q8.2)))) H := hP
              have hD : va_D A ([((xo 0), .inr (6, [.ref (ta 0), .ref xr, .int (xi 2), .ref (sa 0), .ref xm, .ref xg, .ref (tr 0), .ref xs, .ref xp, .ref xq, .ref xe, .ref xt]))] ++ ([((sa 0), .inr (4, [.ref (xa 0), .ref (ca 0), .ref (na 0), .int (si 3), .int (si 4)]))] ++ (rmW k xa rm ++ (ntW k na q8.2)))) := hD
              refine hc_is (z := q8.1) rfl ?_
              refine lv_if_eq (tgt := 82) hx hb dX8_note_66 (by decide) (fun c9 => ?_) (fun c9 => ?_)
              · have h := fw_t c9 h
                refine lv_bipush (v := (-2)) hx hb dX8_note_82 (by decide) ?_
                exact B84 _ _ _ _ _ h hP hD hS (lv_sub hl [] rfl)
              · have h := fw_f c9 h
                refine lv_aload_n hx hb dX8_note_69 rfl (lv_at hl 0 rfl) ?_
                refine va_get (D := D) (ci := 6) (v := .ref (sa 0)) (C := RX8) (T := TX8) (N := 12) hx hb hts in8 hown hG.1 hP 0 rfl rfl 3 (by decide) (hts (.fieldLink RX8 29 "ChairCane" "now" "LChairCane$Standing;") (by decide +kernel)) (fun _ h9 => h9) rfl dX8_note_70 ?_
                refine va_get (D := D) (ci := 4) (v := .ref (na 0)) (C := RX6) (T := TX6) (N := 5) hx hb hts in6 hown hG.1 hP 1 rfl rfl 2 (by decide) (hts (.fieldLink RX8 97 "ChairCane$Standing" "notes" "LChairCane$Notes;") (by decide +kernel)) (fun _ h9 => h9) rfl dX8_note_73 ?_
                refine va_get (D := D) (ci := 1) (v := .int (q8.2.1 3)) (C := RX2) (T := TX2) (N := 4) hx hb hts in2 hown hG.1 hP 11 rfl rfl 3 (by decide) (hts (.fieldLink RX8 244 "ChairCane$Notes" "many" "I") (by decide +kernel)) (fun _ h9 => h9) rfl dX8_note_76 ?_
                refine lv_goto (tgt := 84) hx hb dX8_note_79 (by decide) ?_
                exact B84 _ _ _ _ _ h hP hD hS (lv_sub hl [] rfl)
            · have h := fw_f c7 h
              exact B50 _ _ _ _ h (hP.sub [0, 1, 6, 7, 8, 9, 10, 11, 12, 13, 14, 2, 3, 4, 5] rfl) (hD.sub [0, 1, 6, 7, 8, 9, 10, 11, 12, 13, 14, 2, 3, 4, 5] (by decide) rfl) hS (lv_sub hl [] rfl)
  · have h := fw_t c1 h
    refine lv_aload_n hx hb dX8_note_5 rfl (lv_at hl 0 rfl) ?_
    refine va_get (D := D) (ci := 6) (v := .ref (sa 0)) (C := RX8) (T := TX8) (N := 12) hx hb hts in8 hown hG.1 hP 0 rfl rfl 3 (by decide) (hts (.fieldLink RX8 29 "ChairCane" "now" "LChairCane$Standing;") (by decide +kernel)) (fun _ h9 => h9) rfl dX8_note_6 ?_
    refine va_get (D := D) (ci := 4) (v := .ref (na 0)) (C := RX6) (T := TX6) (N := 5) hx hb hts in6 hown hG.1 hP 1 rfl rfl 2 (by decide) (hts (.fieldLink RX8 97 "ChairCane$Standing" "notes" "LChairCane$Notes;") (by decide +kernel)) (fun _ h9 => h9) rfl dX8_note_9 ?_
    refine fw_Vv (As := []) (rest := []) (n := 0) (wr := [((xo 0), .inr (6, [.ref (ta 0), .ref xr, .int (xi 2), .ref (sa 0), .ref xm, .ref xg, .ref (tr 0), .ref xs, .ref xp, .ref xq, .ref xe, .ref xt]))] ++ ([((sa 0), .inr (4, [.ref (xa 0), .ref (ca 0), .ref (na 0), .int (si 3), .int (si 4)]))] ++ (rmW k xa rm))) (wp := fun b : OB => ntW k na b) h hx hb hml hown hts hG hA hP hD hS hl.1 [11, 12, 13, 14] [0, 1, 2, 3, 4, 5, 6, 7, 8, 9, 10] (fun q hq9 => c_X2_forget l D k _  na F  nt  hq9) (ci := 1) (q0 := 11) rfl rfl gX8_note_X2_forget rfl ⟨rfl, rfl, Nat.le_of_ble_eq_true rfl, Nat.le_of_ble_eq_true rfl⟩ (by decide +kernel) rfl rfl ⟨by decide, by decide, by decide⟩ ⟨rfl, rfl, Nat.le_of_ble_eq_true rfl, Nat.le_of_ble_eq_true rfl, Nat.le_of_ble_eq_true rfl⟩ dX8_note_12 (fun q10 H locs h hP hD hS => ?_)
    have hP : va_P D vwCl ([((xo 0), .inr (6, [.ref (ta 0), .ref xr, .int (xi 2), .ref (sa 0), .ref xm, .ref xg, .ref (tr 0), .ref xs, .ref xp, .ref xq, .ref xe, .ref xt]))] ++ ([((sa 0), .inr (4, [.ref (xa 0), .ref (ca 0), .ref (na 0), .int (si 3), .int (si 4)]))] ++ (rmW k xa rm ++ (ntW k na q10)))) H := hP
    have hD : va_D A ([((xo 0), .inr (6, [.ref (ta 0), .ref xr, .int (xi 2), .ref (sa 0), .ref xm, .ref xg, .ref (tr 0), .ref xs, .ref xp, .ref xq, .ref xe, .ref xt]))] ++ ([((sa 0), .inr (4, [.ref (xa 0), .ref (ca 0), .ref (na 0), .int (si 3), .int (si 4)]))] ++ (rmW k xa rm ++ (ntW k na q10)))) := hD
    refine lv_iconst (v := 0) hx hb dX8_note_15 (by decide) ?_
    exact fw_endI (rv := fun b : Int32 × OB => b.1) (wp := fun b : Int32 × OB => [((xo 0), .inr (6, [.ref (ta 0), .ref xr, .int (xi 2), .ref (sa 0), .ref xm, .ref xg, .ref (tr 0), .ref xs, .ref xp, .ref xq, .ref xe, .ref xt]))] ++ ([((sa 0), .inr (4, [.ref (xa 0), .ref (ca 0), .ref (na 0), .int (si 3), .int (si 4)]))] ++ (rmW k xa rm ++ (ntW k na b.2)))) hx hb hr hlocks h rfl hP hD hS dX8_note_16
def f_X8_beginAnew (F : Nat)   (xi : Nat → Int32) (si : Nat → Int32) (rm : OB) (tm : OB) : Option (OB) :=
  Option.bind (f_X3_copyFrom F tm rm) (fun q1 => (Option.bind (f_X3_restart F q1) (fun q2 => (some q2))))
set_option maxHeartbeats 4000000 in
set_option maxRecDepth 100000 in
theorem c_X8_beginAnew (l : Launch) (D : va_G) (k : Nat → ClassId) (sz : Nat)  (xo : Nat → Nat) (ta : Nat → Nat) (xr : Nat) (sa : Nat → Nat) (xm : Nat) (xg : Nat) (tr : Nat → Nat) (xs : Nat) (xp : Nat) (xq : Nat) (xe : Nat) (xt : Nat) (xa : Nat → Nat) (ca : Nat → Nat) (na : Nat → Nat) (F : Nat)   (xi : Nat → Int32) (si : Nat → Int32) (rm : OB) (tm : OB)  {res : OB} (h : f_X8_beginAnew F xi si rm tm = some res) : CtV l yX8_beginAnew wsX8_beginAnew (rmK 4 0 0) [.ref (xo 0)] D k sz ([((xo 0), .inr (6, [.ref (ta 0), .ref xr, .int (xi 2), .ref (sa 0), .ref xm, .ref xg, .ref (tr 0), .ref xs, .ref xp, .ref xq, .ref xe, .ref xt]))] ++ ([((sa 0), .inr (4, [.ref (xa 0), .ref (ca 0), .ref (na 0), .int (si 3), .int (si 4)]))] ++ (rmW k xa rm ++ (rmW k tr tm)))) (fun (_ : Unit) => True) (fun _ : Unit => [((xo 0), .inr (6, [.ref (ta 0), .ref xr, .int (xi 2), .ref (sa 0), .ref xm, .ref xg, .ref (tr 0), .ref xs, .ref xp, .ref xq, .ref xe, .ref xt]))] ++ ([((sa 0), .inr (4, [.ref (xa 0), .ref (ca 0), .ref (na 0), .int (si 3), .int (si 4)]))] ++ (rmW k xa rm ++ (rmW k tr res)))) 0 0 := by
  refine CtV.mk (cc := cX8_beginAnew) (maxL := 1) (ret := none) (by decide) rfl (Nat.le_of_ble_eq_true rfl) ?_
  intro p e s m below meth c A ls E hP hD hS hl
  obtain ⟨hx, hb, hr, hml, hown, hts, hlocks, hin, hG, hA⟩ := E
  have hown : s.vm.findClass RX8 = some m.cls := hown
  have in3 : ∀ w ∈ u_ws RX3 TX3 17, w ∈ wsX8_beginAnew := fun _ h => List.mem_cons_of_mem _ (List.mem_append_right _ h)
  have in6 : ∀ w ∈ u_ws RX6 TX6 5, w ∈ wsX8_beginAnew := fun _ h => List.mem_cons_of_mem _ (List.mem_append_left _ (List.mem_append_right _ h))
  have in8 : ∀ w ∈ u_ws RX8 TX8 12, w ∈ wsX8_beginAnew := fun _ h => List.mem_cons_of_mem _ (List.mem_append_left _ (List.mem_append_left _ (List.mem_append_right _ h)))
  have hl : lv_has ls 1 [(0, .ref (xo 0))] := hl
  refine lv_aload_n hx hb dX8_beginAnew_0 rfl (lv_at hl 0 rfl) ?_
  refine va_get (D := D) (ci := 6) (v := .ref (tr 0)) (C := RX8) (T := TX8) (N := 12) hx hb hts in8 hown hG.1 hP 0 rfl rfl 6 (by decide) (hts (.fieldLink RX8 44 "ChairCane" "trial" "LChairCane$Room;") (by decide +kernel)) (fun _ h9 => h9) rfl dX8_beginAnew_1 ?_
  refine lv_aload_n hx hb dX8_beginAnew_4 rfl (lv_at hl 0 rfl) ?_
  refine va_get (D := D) (ci := 6) (v := .ref (sa 0)) (C := RX8) (T := TX8) (N := 12) hx hb hts in8 hown hG.1 hP 0 rfl rfl 3 (by decide) (hts (.fieldLink RX8 29 "ChairCane" "now" "LChairCane$Standing;") (by decide +kernel)) (fun _ h9 => h9) rfl dX8_beginAnew_5 ?_
  refine va_get (D := D) (ci := 4) (v := .ref (xa 0)) (C := RX6) (T := TX6) (N := 5) hx hb hts in6 hown hG.1 hP 1 rfl rfl 0 (by decide) (hts (.fieldLink RX8 81 "ChairCane$Standing" "room" "LChairCane$Room;") (by decide +kernel)) (fun _ h9 => h9) rfl dX8_beginAnew_8 ?_
  refine fw_Vv (As := [.ref (xa 0)]) (rest := []) (n := 1) (wr := [((xo 0), .inr (6, [.ref (ta 0), .ref xr, .int (xi 2), .ref (sa 0), .ref xm, .ref xg, .ref (tr 0), .ref xs, .ref xp, .ref xq, .ref xe, .ref xt]))] ++ ([((sa 0), .inr (4, [.ref (xa 0), .ref (ca 0), .ref (na 0), .int (si 3), .int (si 4)]))])) (wp := fun b : OB => rmW k tr b ++ (rmW k xa rm)) h hx hb hml hown hts hG hA hP hD hS hl.1 [11, 12, 13, 14, 15, 16, 17, 18, 19, 2, 3, 4, 5, 6, 7, 8, 9, 10] [0, 1] (fun q hq9 => c_X3_copyFrom l D k _  tr xa F  tm rm  hq9) (ci := 2) (q0 := 11) rfl rfl gX8_beginAnew_X3_copyFrom rfl ⟨rfl, rfl, Nat.le_of_ble_eq_true rfl, Nat.le_of_ble_eq_true rfl⟩ (by decide +kernel) rfl rfl ⟨by decide, by decide, by decide⟩ ⟨rfl, rfl, Nat.le_of_ble_eq_true rfl, Nat.le_of_ble_eq_true rfl, Nat.le_of_ble_eq_true rfl⟩ dX8_beginAnew_11 (fun q1 H locs h hP hD hS => ?_)
  have hP : va_P D vwCl ([((xo 0), .inr (6, [.ref (ta 0), .ref xr, .int (xi 2), .ref (sa 0), .ref xm, .ref xg, .ref (tr 0), .ref xs, .ref xp, .ref xq, .ref xe, .ref xt]))] ++ ([((sa 0), .inr (4, [.ref (xa 0), .ref (ca 0), .ref (na 0), .int (si 3), .int (si 4)]))] ++ (rmW k tr q1 ++ (rmW k xa rm)))) H := hP
  have hD : va_D A ([((xo 0), .inr (6, [.ref (ta 0), .ref xr, .int (xi 2), .ref (sa 0), .ref xm, .ref xg, .ref (tr 0), .ref xs, .ref xp, .ref xq, .ref xe, .ref xt]))] ++ ([((sa 0), .inr (4, [.ref (xa 0), .ref (ca 0), .ref (na 0), .int (si 3), .int (si 4)]))] ++ (rmW k tr q1 ++ (rmW k xa rm)))) := hD
  refine lv_aload_n hx hb dX8_beginAnew_14 rfl (lv_at hl 0 rfl) ?_
  refine va_get (D := D) (ci := 6) (v := .ref (tr 0)) (C := RX8) (T := TX8) (N := 12) hx hb hts in8 hown hG.1 hP 0 rfl rfl 6 (by decide) (hts (.fieldLink RX8 44 "ChairCane" "trial" "LChairCane$Room;") (by decide +kernel)) (fun _ h9 => h9) rfl dX8_beginAnew_15 ?_
  refine fw_Vv (As := []) (rest := []) (n := 0) (wr := [((xo 0), .inr (6, [.ref (ta 0), .ref xr, .int (xi 2), .ref (sa 0), .ref xm, .ref xg, .ref (tr 0), .ref xs, .ref xp, .ref xq, .ref xe, .ref xt]))] ++ ([((sa 0), .inr (4, [.ref (xa 0), .ref (ca 0), .ref (na 0), .int (si 3), .int (si 4)]))] ++ (rmW k xa rm))) (wp := fun b : OB => rmW k tr b) h hx hb hml hown hts hG hA hP hD hS hl.1 [2, 3, 4, 5, 6, 7, 8, 9, 10] [0, 1, 11, 12, 13, 14, 15, 16, 17, 18, 19] (fun q hq9 => c_X3_restart l D k _  tr F  q1  hq9) (ci := 2) (q0 := 2) rfl rfl gX8_beginAnew_X3_restart rfl ⟨rfl, rfl, Nat.le_of_ble_eq_true rfl, Nat.le_of_ble_eq_true rfl⟩ (by decide +kernel) rfl rfl ⟨by decide, by decide, by decide⟩ ⟨rfl, rfl, Nat.le_of_ble_eq_true rfl, Nat.le_of_ble_eq_true rfl, Nat.le_of_ble_eq_true rfl⟩ dX8_beginAnew_18 (fun q2 H locs h hP hD hS => ?_)
  have hP : va_P D vwCl ([((xo 0), .inr (6, [.ref (ta 0), .ref xr, .int (xi 2), .ref (sa 0), .ref xm, .ref xg, .ref (tr 0), .ref xs, .ref xp, .ref xq, .ref xe, .ref xt]))] ++ ([((sa 0), .inr (4, [.ref (xa 0), .ref (ca 0), .ref (na 0), .int (si 3), .int (si 4)]))] ++ (rmW k xa rm ++ (rmW k tr q2)))) H := hP
  have hD : va_D A ([((xo 0), .inr (6, [.ref (ta 0), .ref xr, .int (xi 2), .ref (sa 0), .ref xm, .ref xg, .ref (tr 0), .ref xs, .ref xp, .ref xq, .ref xe, .ref xt]))] ++ ([((sa 0), .inr (4, [.ref (xa 0), .ref (ca 0), .ref (na 0), .int (si 3), .int (si 4)]))] ++ (rmW k xa rm ++ (rmW k tr q2)))) := hD
  exact fw_endV (wp := fun b : OB => [((xo 0), .inr (6, [.ref (ta 0), .ref xr, .int (xi 2), .ref (sa 0), .ref xm, .ref xg, .ref (tr 0), .ref xs, .ref xp, .ref xq, .ref xe, .ref xt]))] ++ ([((sa 0), .inr (4, [.ref (xa 0), .ref (ca 0), .ref (na 0), .int (si 3), .int (si 4)]))] ++ (rmW k xa rm ++ (rmW k tr b)))) hx hb hr hlocks h hP hD hS dX8_beginAnew_21
def b_X8_notesHold_60 (F : Nat)  (xi : Nat → Int32) (si : Nat → Int32) (rm : OB) (nt : OB)  (k60 : (Int32 × Int32 × Int32 × OB × (Nat → OB)) → Option (Int32 × OB × (Nat → OB))) (a60 : (Int32 × Int32 × Int32 × OB × (Nat → OB))) : Option (Int32 × OB × (Nat → OB)) :=
  if a60.2.1 < a60.2.2.1 then (some (1, a60.2.2.2.1, a60.2.2.2.2)) else (Option.bind (f_X2_agree F a60.2.2.1 nt a60.2.2.2.1) (fun q2 => (if q2 = 0 then (some (0, a60.2.2.2.1, a60.2.2.2.2)) else (Option.bind (f_X3_passMinute F a60.1 a60.2.2.2.1 a60.2.2.2.2) (fun q4 => (k60 (a60.1, a60.2.1, (a60.2.2.1 + 1), q4.2.1, q4.2.2)))))))
def b_X8_notesHold_57 (F : Nat)  (xi : Nat → Int32) (si : Nat → Int32) (rm : OB) (nt : OB)  (v1 : Int32) (v5 : Int32) (tm : OB) (rz : Nat → OB) : Option (Int32 × OB × (Nat → OB)) :=
  lp (b_X8_notesHold_60 F xi si rm nt) F (v1, v5, 0, tm, rz)
def f_X8_notesHold (F : Nat)  (x1 : Int32) (x2 : Int32) (x3 : Int32) (xi : Nat → Int32) (si : Nat → Int32) (rm : OB) (nt : OB) (tm : OB) (rz : Nat → OB) : Option (Int32 × OB × (Nat → OB)) :=
  Option.bind (f_X2_lastMinute F nt) (fun q5 => (Option.bind (f_X8_beginAnew F xi si rm tm) (fun q6 => (Option.bind (f_X3_hasChair F x2 q6) (fun q7 => (if q7 = 0 then (b_X8_notesHold_57 F xi si rm nt x1 (if 60 < q5 then 60 else q5) q6 rz) else (Option.bind (f_X3_hasStrand F x3 q6) (fun q9 => (if q9 = 0 then (b_X8_notesHold_57 F xi si rm nt x1 (if 60 < q5 then 60 else q5) q6 rz) else (if ib x2 8 then (b_X8_notesHold_57 F xi si rm nt x1 (if 60 < q5 then 60 else q5) (q6.1, (uF q6.2.1 6 (upd (q6.2.1 6) (Int32.toNatClampNeg x2) x3)), q6.2.2) rz) else none))))))))))
set_option maxHeartbeats 4000000 in
set_option maxRecDepth 100000 in
theorem c_X8_notesHold (l : Launch) (D : va_G) (k : Nat → ClassId) (sz : Nat)  (xo : Nat → Nat) (ta : Nat → Nat) (xr : Nat) (sa : Nat → Nat) (xm : Nat) (xg : Nat) (tr : Nat → Nat) (xs : Nat) (xp : Nat) (xq : Nat) (xe : Nat) (xt : Nat) (xa : Nat → Nat) (ca : Nat → Nat) (na : Nat → Nat) (ra : Nat → Nat) (F : Nat)  (x1 : Int32) (x2 : Int32) (x3 : Int32) (xi : Nat → Int32) (si : Nat → Int32) (rm : OB) (nt : OB) (tm : OB) (rz : Nat → OB)  {res : Int32 × OB × (Nat → OB)} (h : f_X8_notesHold F x1 x2 x3 xi si rm nt tm rz = some res) : CtI l yX8_notesHold wsX8_notesHold (rmK 6 0 0) [.ref (xo 0), va_rf (rAd ra x1), .int x2, .int x3] D k sz ([((xo 0), .inr (6, [.ref (ta 0), .ref xr, .int (xi 2), .ref (sa 0), .ref xm, .ref xg, .ref (tr 0), .ref xs, .ref xp, .ref xq, .ref xe, .ref xt]))] ++ ([((sa 0), .inr (4, [.ref (xa 0), .ref (ca 0), .ref (na 0), .int (si 3), .int (si 4)]))] ++ (rmW k xa rm ++ (ntW k na nt ++ (rmW k tr tm ++ (RU k ra rz)))))) (fun r (_ : Unit) => r = res.1) (fun _ : Unit => [((xo 0), .inr (6, [.ref (ta 0), .ref xr, .int (xi 2), .ref (sa 0), .ref xm, .ref xg, .ref (tr 0), .ref xs, .ref xp, .ref xq, .ref xe, .ref xt]))] ++ ([((sa 0), .inr (4, [.ref (xa 0), .ref (ca 0), .ref (na 0), .int (si 3), .int (si 4)]))] ++ (rmW k xa rm ++ (ntW k na nt ++ (rmW k tr res.2.1 ++ (RU k ra res.2.2)))))) 0 0 := by
  refine CtI.mk (cc := cX8_notesHold) (maxL := 7) (ret := (some .boolean)) (by decide) rfl (by cases rAd ra x1 <;> exact Nat.le_of_ble_eq_true rfl) ?_
  intro p e s m below meth c A ls E hP hD hS hl
  obtain ⟨hx, hb, hr, hml, hown, hts, hlocks, hin, hG, hA⟩ := E
  have hown : s.vm.findClass RX8 = some m.cls := hown
  have in2 : ∀ w ∈ u_ws RX2 TX2 4, w ∈ wsX8_notesHold := fun _ h => List.mem_cons_of_mem _ (List.mem_append_left _ (List.mem_append_right _ h))
  have in3 : ∀ w ∈ u_ws RX3 TX3 17, w ∈ wsX8_notesHold := fun _ h => List.mem_cons_of_mem _ (List.mem_append_left _ (List.mem_append_left _ (List.mem_append_right _ h)))
  have in4 : ∀ w ∈ u_ws RX4 TX4 8, w ∈ wsX8_notesHold := fun _ h => List.mem_cons_of_mem _ (List.mem_append_right _ h)
  have in6 : ∀ w ∈ u_ws RX6 TX6 5, w ∈ wsX8_notesHold := fun _ h => List.mem_cons_of_mem _ (List.mem_append_left _ (List.mem_append_left _ (List.mem_append_left _ (List.mem_append_right _ h))))
  have in8 : ∀ w ∈ u_ws RX8 TX8 12, w ∈ wsX8_notesHold := fun _ h => List.mem_cons_of_mem _ (List.mem_append_left _ (List.mem_append_left _ (List.mem_append_left _ (List.mem_append_left _ (List.mem_append_right _ h)))))
  have hl : lv_has ls 7 [(0, .ref (xo 0)), (1, va_rf (rAd ra x1)), (2, .int x2), (3, .int x3)] := (by cases h9 : rAd ra x1 <;> (rw [h9] at hl; exact hl))
  have B60 : ∀ a60 : (Int32 × Int32 × Int32 × OB × (Nat → OB)), lp (b_X8_notesHold_60 F xi si rm nt) F a60 = some res → ∀ (H : Heap) (locs : List Loc) (ls : Array Slot), va_P D vwCl ([((xo 0), .inr (6, [.ref (ta 0), .ref xr, .int (xi 2), .ref (sa 0), .ref xm, .ref xg, .ref (tr 0), .ref xs, .ref xp, .ref xq, .ref xe, .ref xt]))] ++ ([((sa 0), .inr (4, [.ref (xa 0), .ref (ca 0), .ref (na 0), .int (si 3), .int (si 4)]))] ++ (rmW k xa rm ++ (ntW k na nt ++ (rmW k tr a60.2.2.2.1 ++ (RU k ra a60.2.2.2.2)))))) H → va_D A ([((xo 0), .inr (6, [.ref (ta 0), .ref xr, .int (xi 2), .ref (sa 0), .ref xm, .ref xg, .ref (tr 0), .ref xs, .ref xp, .ref xq, .ref xe, .ref xt]))] ++ ([((sa 0), .inr (4, [.ref (xa 0), .ref (ca 0), .ref (na 0), .int (si 3), .int (si 4)]))] ++ (rmW k xa rm ++ (ntW k na nt ++ (rmW k tr a60.2.2.2.1 ++ (RU k ra a60.2.2.2.2)))))) → va_S A s.heap H locs → lv_has ls 7 [(0, .ref (xo 0)), (1, va_rf (rAd ra a60.1)), (4, .ref (na 0)), (5, .int a60.2.1), (6, .int a60.2.2.1)] → W p l e (rmK 6 0 0) s m (List.toArray [.ref (xo 0), va_rf (rAd ra x1), .int x2, .int x3]) below meth c H locs 0 0 (MQ below (va_Qi (fun r (_ : Unit) => r = res.1) (hcB D (fun _ : Unit => [((xo 0), .inr (6, [.ref (ta 0), .ref xr, .int (xi 2), .ref (sa 0), .ref xm, .ref xg, .ref (tr 0), .ref xs, .ref xp, .ref xq, .ref xe, .ref xt]))] ++ ([((sa 0), .inr (4, [.ref (xa 0), .ref (ca 0), .ref (na 0), .int (si 3), .int (si 4)]))] ++ (rmW k xa rm ++ (ntW k na nt ++ (rmW k tr res.2.1 ++ (RU k ra res.2.2)))))) A) A) (List.toArray [.ref (xo 0), va_rf (rAd ra x1), .int x2, .int x3]) s 0 0 A) (F0 m 60 ls []) := by
    refine lp_W ?_ F
    intro k60 hk60 a60 h H locs ls hP hD hS hl
    have hc60 : ∀ (v1 : Int32) (v5 : Int32) (v6 : Int32) (tm : OB) (rz : Nat → OB), k60 (v1, v5, v6, tm, rz) = some res → ∀ (H : Heap) (locs : List Loc) (ls : Array Slot), va_P D vwCl ([((xo 0), .inr (6, [.ref (ta 0), .ref xr, .int (xi 2), .ref (sa 0), .ref xm, .ref xg, .ref (tr 0), .ref xs, .ref xp, .ref xq, .ref xe, .ref xt]))] ++ ([((sa 0), .inr (4, [.ref (xa 0), .ref (ca 0), .ref (na 0), .int (si 3), .int (si 4)]))] ++ (rmW k xa rm ++ (ntW k na nt ++ (rmW k tr tm ++ (RU k ra rz)))))) H → va_D A ([((xo 0), .inr (6, [.ref (ta 0), .ref xr, .int (xi 2), .ref (sa 0), .ref xm, .ref xg, .ref (tr 0), .ref xs, .ref xp, .ref xq, .ref xe, .ref xt]))] ++ ([((sa 0), .inr (4, [.ref (xa 0), .ref (ca 0), .ref (na 0), .int (si 3), .int (si 4)]))] ++ (rmW k xa rm ++ (ntW k na nt ++ (rmW k tr tm ++ (RU k ra rz)))))) → va_S A s.heap H locs → lv_has ls 7 [(0, .ref (xo 0)), (1, va_rf (rAd ra v1)), (4, .ref (na 0)), (5, .int v5), (6, .int v6)] → W p l e (rmK 6 0 0) s m (List.toArray [.ref (xo 0), va_rf (rAd ra x1), .int x2, .int x3]) below meth c H locs 0 0 (MQ below (va_Qi (fun r (_ : Unit) => r = res.1) (hcB D (fun _ : Unit => [((xo 0), .inr (6, [.ref (ta 0), .ref xr, .int (xi 2), .ref (sa 0), .ref xm, .ref xg, .ref (tr 0), .ref xs, .ref xp, .ref xq, .ref xe, .ref xt]))] ++ ([((sa 0), .inr (4, [.ref (xa 0), .ref (ca 0), .ref (na 0), .int (si 3), .int (si 4)]))] ++ (rmW k xa rm ++ (ntW k na nt ++ (rmW k tr res.2.1 ++ (RU k ra res.2.2)))))) A) A) (List.toArray [.ref (xo 0), va_rf (rAd ra x1), .int x2, .int x3]) s 0 0 A) (F0 m 60 ls []) := fun v1 v5 v6 tm rz => hk60 (v1, v5, v6, tm, rz)
    refine lv_iload hx hb dX8_notesHold_60 (lv_at hl 4 rfl) ?_
    refine lv_iload hx hb dX8_notesHold_62 (lv_at hl 3 rfl) ?_
    refine lv_icmp_gt (tgt := 98) hx hb dX8_notesHold_64 (by decide) (fun c1 => ?_) (fun c1 => ?_)
    · have h := fw_t c1 h
      refine lv_iconst (v := 1) hx hb dX8_notesHold_98 (by decide) ?_
      exact fw_endZ (rv := fun b : Int32 × OB × (Nat → OB) => b.1) (wp := fun b : Int32 × OB × (Nat → OB) => [((xo 0), .inr (6, [.ref (ta 0), .ref xr, .int (xi 2), .ref (sa 0), .ref xm, .ref xg, .ref (tr 0), .ref xs, .ref xp, .ref xq, .ref xe, .ref xt]))] ++ ([((sa 0), .inr (4, [.ref (xa 0), .ref (ca 0), .ref (na 0), .int (si 3), .int (si 4)]))] ++ (rmW k xa rm ++ (ntW k na nt ++ (rmW k tr b.2.1 ++ (RU k ra b.2.2)))))) hx hb hr hlocks h rfl rfl hP hD hS dX8_notesHold_99
    · have h := fw_f c1 h
      refine lv_aload hx hb dX8_notesHold_67 (lv_at hl 2 rfl) ?_
      refine lv_iload hx hb dX8_notesHold_69 (lv_at hl 4 rfl) ?_
      refine lv_aload_n hx hb dX8_notesHold_71 rfl (lv_at hl 0 rfl) ?_
      refine va_get (D := D) (ci := 6) (v := .ref (tr 0)) (C := RX8) (T := TX8) (N := 12) hx hb hts in8 hown hG.1 hP 0 rfl rfl 6 (by decide) (hts (.fieldLink RX8 44 "ChairCane" "trial" "LChairCane$Room;") (by decide +kernel)) (fun _ h9 => h9) rfl dX8_notesHold_72 ?_
      refine fw_Vi (As := [.int a60.2.2.1, .ref (tr 0)]) (rest := []) (n := 2) (wr := [((xo 0), .inr (6, [.ref (ta 0), .ref xr, .int (xi 2), .ref (sa 0), .ref xm, .ref xg, .ref (tr 0), .ref xs, .ref xp, .ref xq, .ref xe, .ref xt]))] ++ ([((sa 0), .inr (4, [.ref (xa 0), .ref (ca 0), .ref (na 0), .int (si 3), .int (si 4)]))] ++ (rmW k xa rm ++ (RU k ra a60.2.2.2.2)))) (rv := fun b : Int32 => b) (wp := fun b : Int32 => ntW k na nt ++ (rmW k tr a60.2.2.2.1)) h hx hb hml hown hts hG hA hP hD hS hl.1 [11, 12, 13, 14, 15, 16, 17, 18, 19, 20, 21, 22, 23] [0, 1, 2, 3, 4, 5, 6, 7, 8, 9, 10, 24, 25, 26, 27, 28, 29, 30, 31, 32, 33, 34, 35, 36, 37, 38, 39, 40, 41, 42, 43, 44, 45, 46, 47, 48, 49, 50, 51, 52, 53, 54, 55, 56, 57, 58, 59] (fun q hq9 => c_X2_agree l D k _  na tr F a60.2.2.1 nt a60.2.2.2.1  hq9) (ci := 1) (q0 := 11) rfl rfl gX8_notesHold_X2_agree rfl ⟨rfl, rfl, Nat.le_of_ble_eq_true rfl, Nat.le_of_ble_eq_true rfl⟩ (by decide +kernel) rfl rfl ⟨by decide, by decide, by decide⟩ ⟨rfl, rfl, Nat.le_of_ble_eq_true rfl, Nat.le_of_ble_eq_true rfl, Nat.le_of_ble_eq_true rfl⟩ dX8_notesHold_75 (fun q2 H locs h hP hD hS => ?_)
      have hP : va_P D vwCl ([((xo 0), .inr (6, [.ref (ta 0), .ref xr, .int (xi 2), .ref (sa 0), .ref xm, .ref xg, .ref (tr 0), .ref xs, .ref xp, .ref xq, .ref xe, .ref xt]))] ++ ([((sa 0), .inr (4, [.ref (xa 0), .ref (ca 0), .ref (na 0), .int (si 3), .int (si 4)]))] ++ (rmW k xa rm ++ (RU k ra a60.2.2.2.2 ++ (ntW k na nt ++ (rmW k tr a60.2.2.2.1)))))) H := hP
      have hD : va_D A ([((xo 0), .inr (6, [.ref (ta 0), .ref xr, .int (xi 2), .ref (sa 0), .ref xm, .ref xg, .ref (tr 0), .ref xs, .ref xp, .ref xq, .ref xe, .ref xt]))] ++ ([((sa 0), .inr (4, [.ref (xa 0), .ref (ca 0), .ref (na 0), .int (si 3), .int (si 4)]))] ++ (rmW k xa rm ++ (RU k ra a60.2.2.2.2 ++ (ntW k na nt ++ (rmW k tr a60.2.2.2.1)))))) := hD
      refine hc_is (z := q2) rfl ?_
      refine lv_if_ne (tgt := 83) hx hb dX8_notesHold_78 (by decide) (fun c3 => ?_) (fun c3 => ?_)
      · have h := fw_f c3 h
        refine lv_aload_n hx hb dX8_notesHold_83 rfl (lv_at hl 0 rfl) ?_
        refine va_get (D := D) (ci := 6) (v := .ref (tr 0)) (C := RX8) (T := TX8) (N := 12) hx hb hts in8 hown hG.1 hP 0 rfl rfl 6 (by decide) (hts (.fieldLink RX8 44 "ChairCane" "trial" "LChairCane$Room;") (by decide +kernel)) (fun _ h9 => h9) rfl dX8_notesHold_84 ?_
        refine lv_aload_nO hx hb dX8_notesHold_87 rfl (lv_at hl 1 rfl) ?_
        refine fw_Vi (As := [va_rf (rAd ra a60.1)]) (rest := []) (n := 1) (wr := [((xo 0), .inr (6, [.ref (ta 0), .ref xr, .int (xi 2), .ref (sa 0), .ref xm, .ref xg, .ref (tr 0), .ref xs, .ref xp, .ref xq, .ref xe, .ref xt]))] ++ ([((sa 0), .inr (4, [.ref (xa 0), .ref (ca 0), .ref (na 0), .int (si 3), .int (si 4)]))] ++ (rmW k xa rm ++ (ntW k na nt)))) (rv := fun b : Int32 × OB × (Nat → OB) => b.1) (wp := fun b : Int32 × OB × (Nat → OB) => rmW k tr b.2.1 ++ (RU k ra b.2.2)) h hx hb hml hown hts hG hA hP hD hS hl.1 [51, 52, 53, 54, 55, 56, 57, 58, 59, 11, 12, 13, 14, 15, 16, 17, 18, 19, 20, 21, 22, 23, 24, 25, 26, 27, 28, 29, 30, 31, 32, 33, 34, 35, 36, 37, 38, 39, 40, 41, 42, 43, 44, 45, 46] [0, 1, 2, 3, 4, 5, 6, 7, 8, 9, 10, 47, 48, 49, 50] (fun q hq9 => c_X3_passMinute l D k _  tr ra F a60.1 a60.2.2.2.1 a60.2.2.2.2  hq9) (ci := 2) (q0 := 51) rfl rfl gX8_notesHold_X3_passMinute rfl ⟨rfl, rfl, Nat.le_of_ble_eq_true rfl, Nat.le_of_ble_eq_true rfl⟩ (by decide +kernel) rfl rfl ⟨by decide, by decide, by decide⟩ ⟨rfl, rfl, Nat.le_of_ble_eq_true rfl, Nat.le_of_ble_eq_true rfl, Nat.le_of_ble_eq_true rfl⟩ dX8_notesHold_88 (fun q4 H locs h hP hD hS => ?_)
        have hP : va_P D vwCl ([((xo 0), .inr (6, [.ref (ta 0), .ref xr, .int (xi 2), .ref (sa 0), .ref xm, .ref xg, .ref (tr 0), .ref xs, .ref xp, .ref xq, .ref xe, .ref xt]))] ++ ([((sa 0), .inr (4, [.ref (xa 0), .ref (ca 0), .ref (na 0), .int (si 3), .int (si 4)]))] ++ (rmW k xa rm ++ (ntW k na nt ++ (rmW k tr q4.2.1 ++ (RU k ra q4.2.2)))))) H := hP
        have hD : va_D A ([((xo 0), .inr (6, [.ref (ta 0), .ref xr, .int (xi 2), .ref (sa 0), .ref xm, .ref xg, .ref (tr 0), .ref xs, .ref xp, .ref xq, .ref xe, .ref xt]))] ++ ([((sa 0), .inr (4, [.ref (xa 0), .ref (ca 0), .ref (na 0), .int (si 3), .int (si 4)]))] ++ (rmW k xa rm ++ (ntW k na nt ++ (rmW k tr q4.2.1 ++ (RU k ra q4.2.2)))))) := hD
        refine hc_is (z := q4.1) rfl ?_
        refine lv_pop hx hb dX8_notesHold_91 rfl ?_
        refine lv_iinc (v := (a60.2.2.1 + 1)) (lv' := [(6, .int (a60.2.2.1 + 1)), (0, .ref (xo 0)), (1, va_rf (rAd ra a60.1)), (4, .ref (na 0)), (5, .int a60.2.1)]) hx hb dX8_notesHold_92 hl (k := 4) rfl rfl (by decide) (by cases rAd ra a60.1 <;> rfl) (fun ls hl => ?_)
        refine lv_goto (tgt := 60) hx hb dX8_notesHold_95 (by decide) ?_
        exact hc60 _ _ _ _ _ h _ _ _ hP hD hS (lv_sub hl [1, 2, 3, 4, 0] rfl)
      · have h := fw_t c3 h
        refine lv_iconst (v := 0) hx hb dX8_notesHold_81 (by decide) ?_
        exact fw_endZ (rv := fun b : Int32 × OB × (Nat → OB) => b.1) (wp := fun b : Int32 × OB × (Nat → OB) => [((xo 0), .inr (6, [.ref (ta 0), .ref xr, .int (xi 2), .ref (sa 0), .ref xm, .ref xg, .ref (tr 0), .ref xs, .ref xp, .ref xq, .ref xe, .ref xt]))] ++ ([((sa 0), .inr (4, [.ref (xa 0), .ref (ca 0), .ref (na 0), .int (si 3), .int (si 4)]))] ++ (rmW k xa rm ++ (ntW k na nt ++ (rmW k tr b.2.1 ++ (RU k ra b.2.2)))))) hx hb hr hlocks h rfl rfl (hP.sub [0, 1, 2, 3, 4, 5, 6, 7, 8, 9, 10, 47, 48, 49, 50, 51, 52, 53, 54, 55, 56, 57, 58, 59, 11, 12, 13, 14, 15, 16, 17, 18, 19, 20, 21, 22, 23, 24, 25, 26, 27, 28, 29, 30, 31, 32, 33, 34, 35, 36, 37, 38, 39, 40, 41, 42, 43, 44, 45, 46] rfl) (hD.sub [0, 1, 2, 3, 4, 5, 6, 7, 8, 9, 10, 47, 48, 49, 50, 51, 52, 53, 54, 55, 56, 57, 58, 59, 11, 12, 13, 14, 15, 16, 17, 18, 19, 20, 21, 22, 23, 24, 25, 26, 27, 28, 29, 30, 31, 32, 33, 34, 35, 36, 37, 38, 39, 40, 41, 42, 43, 44, 45, 46] (by decide) rfl) hS dX8_notesHold_82
  have C60 : ∀ (v1 : Int32) (v5 : Int32) (v6 : Int32) (tm : OB) (rz : Nat → OB), lp (b_X8_notesHold_60 F xi si rm nt) F (v1, v5, v6, tm, rz) = some res → ∀ (H : Heap) (locs : List Loc) (ls : Array Slot), va_P D vwCl ([((xo 0), .inr (6, [.ref (ta 0), .ref xr, .int (xi 2), .ref (sa 0), .ref xm, .ref xg, .ref (tr 0), .ref xs, .ref xp, .ref xq, .ref xe, .ref xt]))] ++ ([((sa 0), .inr (4, [.ref (xa 0), .ref (ca 0), .ref (na 0), .int (si 3), .int (si 4)]))] ++ (rmW k xa rm ++ (ntW k na nt ++ (rmW k tr tm ++ (RU k ra rz)))))) H → va_D A ([((xo 0), .inr (6, [.ref (ta 0), .ref xr, .int (xi 2), .ref (sa 0), .ref xm, .ref xg, .ref (tr 0), .ref xs, .ref xp, .ref xq, .ref xe, .ref xt]))] ++ ([((sa 0), .inr (4, [.ref (xa 0), .ref (ca 0), .ref (na 0), .int (si 3), .int (si 4)]))] ++ (rmW k xa rm ++ (ntW k na nt ++ (rmW k tr tm ++ (RU k ra rz)))))) → va_S A s.heap H locs → lv_has ls 7 [(0, .ref (xo 0)), (1, va_rf (rAd ra v1)), (4, .ref (na 0)), (5, .int v5), (6, .int v6)] → W p l e (rmK 6 0 0) s m (List.toArray [.ref (xo 0), va_rf (rAd ra x1), .int x2, .int x3]) below meth c H locs 0 0 (MQ below (va_Qi (fun r (_ : Unit) => r = res.1) (hcB D (fun _ : Unit => [((xo 0), .inr (6, [.ref (ta 0), .ref xr, .int (xi 2), .ref (sa 0), .ref xm, .ref xg, .ref (tr 0), .ref xs, .ref xp, .ref xq, .ref xe, .ref xt]))] ++ ([((sa 0), .inr (4, [.ref (xa 0), .ref (ca 0), .ref (na 0), .int (si 3), .int (si 4)]))] ++ (rmW k xa rm ++ (ntW k na nt ++ (rmW k tr res.2.1 ++ (RU k ra res.2.2)))))) A) A) (List.toArray [.ref (xo 0), va_rf (rAd ra x1), .int x2, .int x3]) s 0 0 A) (F0 m 60 ls []) := fun v1 v5 v6 tm rz => B60 (v1, v5, v6, tm, rz)
  have B57 : ∀ (v1 : Int32) (v5 : Int32) (tm : OB) (rz : Nat → OB) (H : Heap) (locs : List Loc) (ls : Array Slot), b_X8_notesHold_57 F xi si rm nt v1 v5 tm rz = some res → va_P D vwCl ([((xo 0), .inr (6, [.ref (ta 0), .ref xr, .int (xi 2), .ref (sa 0), .ref xm, .ref xg, .ref (tr 0), .ref xs, .ref xp, .ref xq, .ref xe, .ref xt]))] ++ ([((sa 0), .inr (4, [.ref (xa 0), .ref (ca 0), .ref (na 0), .int (si 3), .int (si 4)]))] ++ (rmW k xa rm ++ (ntW k na nt ++ (rmW k tr tm ++ (RU k ra rz)))))) H → va_D A ([((xo 0), .inr (6, [.ref (ta 0), .ref xr, .int (xi 2), .ref (sa 0), .ref xm, .ref xg, .ref (tr 0), .ref xs, .ref xp, .ref xq, .ref xe, .ref xt]))] ++ ([((sa 0), .inr (4, [.ref (xa 0), .ref (ca 0), .ref (na 0), .int (si 3), .int (si 4)]))] ++ (rmW k xa rm ++ (ntW k na nt ++ (rmW k tr tm ++ (RU k ra rz)))))) → va_S A s.heap H locs → lv_has ls 7 [(0, .ref (xo 0)), (1, va_rf (rAd ra v1)), (4, .ref (na 0)), (5, .int v5)] → W p l e (rmK 6 0 0) s m (List.toArray [.ref (xo 0), va_rf (rAd ra x1), .int x2, .int x3]) below meth c H locs 0 0 (MQ below (va_Qi (fun r (_ : Unit) => r = res.1) (hcB D (fun _ : Unit => [((xo 0), .inr (6, [.ref (ta 0), .ref xr, .int (xi 2), .ref (sa 0), .ref xm, .ref xg, .ref (tr 0), .ref xs, .ref xp, .ref xq, .ref xe, .ref xt]))] ++ ([((sa 0), .inr (4, [.ref (xa 0), .ref (ca 0), .ref (na 0), .int (si 3), .int (si 4)]))] ++ (rmW k xa rm ++ (ntW k na nt ++ (rmW k tr res.2.1 ++ (RU k ra res.2.2)))))) A) A) (List.toArray [.ref (xo 0), va_rf (rAd ra x1), .int x2, .int x3]) s 0 0 A) (F0 m 57 ls []) := by
    intro v1 v5 tm rz H locs ls h hP hD hS hl
    refine lv_iconst (v := 0) hx hb dX8_notesHold_57 (by decide) ?_
    refine lv_istore (lv' := [(6, .int 0), (0, .ref (xo 0)), (1, va_rf (rAd ra v1)), (4, .ref (na 0)), (5, .int v5)]) hx hb dX8_notesHold_58 hl (by decide) (by cases rAd ra v1 <;> rfl) (fun ls hl => ?_)
    exact C60 _ _ _ _ _ h _ _ _ hP hD hS (lv_sub hl [1, 2, 3, 4, 0] rfl)
  refine lv_aload_n hx hb dX8_notesHold_0 rfl (lv_at hl 0 rfl) ?_
  refine va_get (D := D) (ci := 6) (v := .ref (sa 0)) (C := RX8) (T := TX8) (N := 12) hx hb hts in8 hown hG.1 hP 0 rfl rfl 3 (by decide) (hts (.fieldLink RX8 29 "ChairCane" "now" "LChairCane$Standing;") (by decide +kernel)) (fun _ h9 => h9) rfl dX8_notesHold_1 ?_
  refine va_get (D := D) (ci := 4) (v := .ref (na 0)) (C := RX6) (T := TX6) (N := 5) hx hb hts in6 hown hG.1 hP 1 rfl rfl 2 (by decide) (hts (.fieldLink RX8 97 "ChairCane$Standing" "notes" "LChairCane$Notes;") (by decide +kernel)) (fun _ h9 => h9) rfl dX8_notesHold_4 ?_
  refine lv_astore (lv' := [(4, .ref (na 0)), (0, .ref (xo 0)), (1, va_rf (rAd ra x1)), (2, .int x2), (3, .int x3)]) hx hb dX8_notesHold_7 hl (by decide) (by cases rAd ra x1 <;> rfl) (fun ls hl => ?_)
  refine lv_aload hx hb dX8_notesHold_9 (lv_at hl 0 rfl) ?_
  refine fw_Vi (As := []) (rest := []) (n := 0) (wr := [((xo 0), .inr (6, [.ref (ta 0), .ref xr, .int (xi 2), .ref (sa 0), .ref xm, .ref xg, .ref (tr 0), .ref xs, .ref xp, .ref xq, .ref xe, .ref xt]))] ++ ([((sa 0), .inr (4, [.ref (xa 0), .ref (ca 0), .ref (na 0), .int (si 3), .int (si 4)]))] ++ (rmW k xa rm ++ (rmW k tr tm ++ (RU k ra rz))))) (rv := fun b : Int32 => b) (wp := fun b : Int32 => ntW k na nt) h hx hb hml hown hts hG hA hP hD hS hl.1 [11, 12, 13, 14] [0, 1, 2, 3, 4, 5, 6, 7, 8, 9, 10, 15, 16, 17, 18, 19, 20, 21, 22, 23, 24, 25, 26, 27, 28, 29, 30, 31, 32, 33, 34, 35, 36, 37, 38, 39, 40, 41, 42, 43, 44, 45, 46, 47, 48, 49, 50, 51, 52, 53, 54, 55, 56, 57, 58, 59] (fun q hq9 => c_X2_lastMinute l D k _  na F  nt  hq9) (ci := 1) (q0 := 11) rfl rfl gX8_notesHold_X2_lastMinute rfl ⟨rfl, rfl, Nat.le_of_ble_eq_true rfl, Nat.le_of_ble_eq_true rfl⟩ (by decide +kernel) rfl rfl ⟨by decide, by decide, by decide⟩ ⟨rfl, rfl, Nat.le_of_ble_eq_true rfl, Nat.le_of_ble_eq_true rfl, Nat.le_of_ble_eq_true rfl⟩ dX8_notesHold_11 (fun q5 H locs h hP hD hS => ?_)
  have hP : va_P D vwCl ([((xo 0), .inr (6, [.ref (ta 0), .ref xr, .int (xi 2), .ref (sa 0), .ref xm, .ref xg, .ref (tr 0), .ref xs, .ref xp, .ref xq, .ref xe, .ref xt]))] ++ ([((sa 0), .inr (4, [.ref (xa 0), .ref (ca 0), .ref (na 0), .int (si 3), .int (si 4)]))] ++ (rmW k xa rm ++ (rmW k tr tm ++ (RU k ra rz ++ (ntW k na nt)))))) H := hP
  have hD : va_D A ([((xo 0), .inr (6, [.ref (ta 0), .ref xr, .int (xi 2), .ref (sa 0), .ref xm, .ref xg, .ref (tr 0), .ref xs, .ref xp, .ref xq, .ref xe, .ref xt]))] ++ ([((sa 0), .inr (4, [.ref (xa 0), .ref (ca 0), .ref (na 0), .int (si 3), .int (si 4)]))] ++ (rmW k xa rm ++ (rmW k tr tm ++ (RU k ra rz ++ (ntW k na nt)))))) := hD
  refine hc_is (z := q5) rfl ?_
  refine lv_bipush (v := 60) hx hb dX8_notesHold_14 (by decide) ?_
  refine va_mmin hx hb (by rw [hml]; exact hl.1.symm) hown (hts (.methodLink RX8 285 Lib.Math.min.name) (by decide +kernel)) (hts (.static Lib.Math.min.name) (by decide +kernel)) (hts (.initialized "java/lang/Math") (by decide +kernel)) (hts (.code Lib.Math.min.name Lib.Math.min.code 2 (some .int)) (by decide +kernel)) (Nat.le_of_ble_eq_true rfl) (Nat.le_of_ble_eq_true rfl) (Nat.le_of_ble_eq_true rfl) (Nat.le_of_ble_eq_true rfl) dX8_notesHold_16 ?_
  refine lv_istore (lv' := [(5, .int (if 60 < q5 then 60 else q5)), (4, .ref (na 0)), (0, .ref (xo 0)), (1, va_rf (rAd ra x1)), (2, .int x2), (3, .int x3)]) hx hb dX8_notesHold_19 hl (by decide) (by cases rAd ra x1 <;> rfl) (fun ls hl => ?_)
  refine lv_aload_n hx hb dX8_notesHold_21 rfl (lv_at hl 2 rfl) ?_
  refine fw_Vv (As := []) (rest := []) (n := 0) (wr := RU k ra rz ++ (ntW k na nt)) (wp := fun b : OB => [((xo 0), .inr (6, [.ref (ta 0), .ref xr, .int (xi 2), .ref (sa 0), .ref xm, .ref xg, .ref (tr 0), .ref xs, .ref xp, .ref xq, .ref xe, .ref xt]))] ++ ([((sa 0), .inr (4, [.ref (xa 0), .ref (ca 0), .ref (na 0), .int (si 3), .int (si 4)]))] ++ (rmW k xa rm ++ (rmW k tr b)))) h hx hb hml hown hts hG hA hP hD hS hl.1 [0, 1, 2, 3, 4, 5, 6, 7, 8, 9, 10, 11, 12, 13, 14, 15, 16, 17, 18, 19] [20, 21, 22, 23, 24, 25, 26, 27, 28, 29, 30, 31, 32, 33, 34, 35, 36, 37, 38, 39, 40, 41, 42, 43, 44, 45, 46, 47, 48, 49, 50, 51, 52, 53, 54, 55, 56, 57, 58, 59] (fun q hq9 => c_X8_beginAnew l D k _  xo ta xr sa xm xg tr xs xp xq xe xt xa ca na F  xi si rm tm  hq9) (ci := 6) (q0 := 0) rfl rfl gX8_notesHold_X8_beginAnew rfl ⟨rfl, rfl, Nat.le_of_ble_eq_true rfl, Nat.le_of_ble_eq_true rfl⟩ (by decide +kernel) rfl rfl ⟨by decide, by decide, by decide⟩ ⟨rfl, rfl, Nat.le_of_ble_eq_true rfl, Nat.le_of_ble_eq_true rfl, Nat.le_of_ble_eq_true rfl⟩ dX8_notesHold_22 (fun q6 H locs h hP hD hS => ?_)
  have hP : va_P D vwCl (RU k ra rz ++ (ntW k na nt ++ ([((xo 0), .inr (6, [.ref (ta 0), .ref xr, .int (xi 2), .ref (sa 0), .ref xm, .ref xg, .ref (tr 0), .ref xs, .ref xp, .ref xq, .ref xe, .ref xt]))] ++ ([((sa 0), .inr (4, [.ref (xa 0), .ref (ca 0), .ref (na 0), .int (si 3), .int (si 4)]))] ++ (rmW k xa rm ++ (rmW k tr q6)))))) H := hP
  have hD : va_D A (RU k ra rz ++ (ntW k na nt ++ ([((xo 0), .inr (6, [.ref (ta 0), .ref xr, .int (xi 2), .ref (sa 0), .ref xm, .ref xg, .ref (tr 0), .ref xs, .ref xp, .ref xq, .ref xe, .ref xt]))] ++ ([((sa 0), .inr (4, [.ref (xa 0), .ref (ca 0), .ref (na 0), .int (si 3), .int (si 4)]))] ++ (rmW k xa rm ++ (rmW k tr q6)))))) := hD
  refine lv_aload_n hx hb dX8_notesHold_25 rfl (lv_at hl 2 rfl) ?_
  refine va_get (D := D) (ci := 6) (v := .ref (tr 0)) (C := RX8) (T := TX8) (N := 12) hx hb hts in8 hown hG.1 hP 40 rfl rfl 6 (by decide) (hts (.fieldLink RX8 44 "ChairCane" "trial" "LChairCane$Room;") (by decide +kernel)) (fun _ h9 => h9) rfl dX8_notesHold_26 ?_
  refine lv_iload_n hx hb dX8_notesHold_29 rfl (lv_at hl 4 rfl) ?_
  refine fw_Vi (As := [.int x2]) (rest := []) (n := 1) (wr := RU k ra rz ++ (ntW k na nt ++ ([((xo 0), .inr (6, [.ref (ta 0), .ref xr, .int (xi 2), .ref (sa 0), .ref xm, .ref xg, .ref (tr 0), .ref xs, .ref xp, .ref xq, .ref xe, .ref xt]))] ++ ([((sa 0), .inr (4, [.ref (xa 0), .ref (ca 0), .ref (na 0), .int (si 3), .int (si 4)]))] ++ (rmW k xa rm))))) (rv := fun b : Int32 => b) (wp := fun b : Int32 => rmW k tr q6) h hx hb hml hown hts hG hA hP hD hS hl.1 [51, 52, 53, 54, 55, 56, 57, 58, 59] [0, 1, 2, 3, 4, 5, 6, 7, 8, 9, 10, 11, 12, 13, 14, 15, 16, 17, 18, 19, 20, 21, 22, 23, 24, 25, 26, 27, 28, 29, 30, 31, 32, 33, 34, 35, 36, 37, 38, 39, 40, 41, 42, 43, 44, 45, 46, 47, 48, 49, 50] (fun q hq9 => c_X3_hasChair l D k _  tr F x2 q6  hq9) (ci := 2) (q0 := 51) rfl rfl gX8_notesHold_X3_hasChair rfl ⟨rfl, rfl, Nat.le_of_ble_eq_true rfl, Nat.le_of_ble_eq_true rfl⟩ (by decide +kernel) rfl rfl ⟨by decide, by decide, by decide⟩ ⟨rfl, rfl, Nat.le_of_ble_eq_true rfl, Nat.le_of_ble_eq_true rfl, Nat.le_of_ble_eq_true rfl⟩ dX8_notesHold_30 (fun q7 H locs h hP hD hS => ?_)
  have hP : va_P D vwCl (RU k ra rz ++ (ntW k na nt ++ ([((xo 0), .inr (6, [.ref (ta 0), .ref xr, .int (xi 2), .ref (sa 0), .ref xm, .ref xg, .ref (tr 0), .ref xs, .ref xp, .ref xq, .ref xe, .ref xt]))] ++ ([((sa 0), .inr (4, [.ref (xa 0), .ref (ca 0), .ref (na 0), .int (si 3), .int (si 4)]))] ++ (rmW k xa rm ++ (rmW k tr q6)))))) H := hP
  have hD : va_D A (RU k ra rz ++ (ntW k na nt ++ ([((xo 0), .inr (6, [.ref (ta 0), .ref xr, .int (xi 2), .ref (sa 0), .ref xm, .ref xg, .ref (tr 0), .ref xs, .ref xp, .ref xq, .ref xe, .ref xt]))] ++ ([((sa 0), .inr (4, [.ref (xa 0), .ref (ca 0), .ref (na 0), .int (si 3), .int (si 4)]))] ++ (rmW k xa rm ++ (rmW k tr q6)))))) := hD
  refine hc_is (z := q7) rfl ?_
  refine lv_if_eq (tgt := 57) hx hb dX8_notesHold_33 (by decide) (fun c8 => ?_) (fun c8 => ?_)
  · have h := fw_t c8 h
    exact B57 _ _ _ _ _ _ _ h (hP.sub [40, 41, 42, 43, 44, 45, 46, 47, 48, 49, 50, 36, 37, 38, 39, 51, 52, 53, 54, 55, 56, 57, 58, 59, 0, 1, 2, 3, 4, 5, 6, 7, 8, 9, 10, 11, 12, 13, 14, 15, 16, 17, 18, 19, 20, 21, 22, 23, 24, 25, 26, 27, 28, 29, 30, 31, 32, 33, 34, 35] rfl) (hD.sub [40, 41, 42, 43, 44, 45, 46, 47, 48, 49, 50, 36, 37, 38, 39, 51, 52, 53, 54, 55, 56, 57, 58, 59, 0, 1, 2, 3, 4, 5, 6, 7, 8, 9, 10, 11, 12, 13, 14, 15, 16, 17, 18, 19, 20, 21, 22, 23, 24, 25, 26, 27, 28, 29, 30, 31, 32, 33, 34, 35] (by decide) rfl) hS (lv_sub hl [2, 3, 1, 0] rfl)
  · have h := fw_f c8 h
    refine lv_aload_n hx hb dX8_notesHold_36 rfl (lv_at hl 2 rfl) ?_
    refine va_get (D := D) (ci := 6) (v := .ref (tr 0)) (C := RX8) (T := TX8) (N := 12) hx hb hts in8 hown hG.1 hP 40 rfl rfl 6 (by decide) (hts (.fieldLink RX8 44 "ChairCane" "trial" "LChairCane$Room;") (by decide +kernel)) (fun _ h9 => h9) rfl dX8_notesHold_37 ?_
    refine lv_iload_n hx hb dX8_notesHold_40 rfl (lv_at hl 5 rfl) ?_
    refine fw_Vi (As := [.int x3]) (rest := []) (n := 1) (wr := RU k ra rz ++ (ntW k na nt ++ ([((xo 0), .inr (6, [.ref (ta 0), .ref xr, .int (xi 2), .ref (sa 0), .ref xm, .ref xg, .ref (tr 0), .ref xs, .ref xp, .ref xq, .ref xe, .ref xt]))] ++ ([((sa 0), .inr (4, [.ref (xa 0), .ref (ca 0), .ref (na 0), .int (si 3), .int (si 4)]))] ++ (rmW k xa rm))))) (rv := fun b : Int32 => b) (wp := fun b : Int32 => rmW k tr q6) h hx hb hml hown hts hG hA hP hD hS hl.1 [51, 52, 53, 54, 55, 56, 57, 58, 59] [0, 1, 2, 3, 4, 5, 6, 7, 8, 9, 10, 11, 12, 13, 14, 15, 16, 17, 18, 19, 20, 21, 22, 23, 24, 25, 26, 27, 28, 29, 30, 31, 32, 33, 34, 35, 36, 37, 38, 39, 40, 41, 42, 43, 44, 45, 46, 47, 48, 49, 50] (fun q hq9 => c_X3_hasStrand l D k _  tr F x3 q6  hq9) (ci := 2) (q0 := 51) rfl rfl gX8_notesHold_X3_hasStrand rfl ⟨rfl, rfl, Nat.le_of_ble_eq_true rfl, Nat.le_of_ble_eq_true rfl⟩ (by decide +kernel) rfl rfl ⟨by decide, by decide, by decide⟩ ⟨rfl, rfl, Nat.le_of_ble_eq_true rfl, Nat.le_of_ble_eq_true rfl, Nat.le_of_ble_eq_true rfl⟩ dX8_notesHold_41 (fun q9 H locs h hP hD hS => ?_)
    have hP : va_P D vwCl (RU k ra rz ++ (ntW k na nt ++ ([((xo 0), .inr (6, [.ref (ta 0), .ref xr, .int (xi 2), .ref (sa 0), .ref xm, .ref xg, .ref (tr 0), .ref xs, .ref xp, .ref xq, .ref xe, .ref xt]))] ++ ([((sa 0), .inr (4, [.ref (xa 0), .ref (ca 0), .ref (na 0), .int (si 3), .int (si 4)]))] ++ (rmW k xa rm ++ (rmW k tr q6)))))) H := hP
    have hD : va_D A (RU k ra rz ++ (ntW k na nt ++ ([((xo 0), .inr (6, [.ref (ta 0), .ref xr, .int (xi 2), .ref (sa 0), .ref xm, .ref xg, .ref (tr 0), .ref xs, .ref xp, .ref xq, .ref xe, .ref xt]))] ++ ([((sa 0), .inr (4, [.ref (xa 0), .ref (ca 0), .ref (na 0), .int (si 3), .int (si 4)]))] ++ (rmW k xa rm ++ (rmW k tr q6)))))) := hD
    refine hc_is (z := q9) rfl ?_
    refine lv_if_eq (tgt := 57) hx hb dX8_notesHold_44 (by decide) (fun c10 => ?_) (fun c10 => ?_)
    · have h := fw_t c10 h
      exact B57 _ _ _ _ _ _ _ h (hP.sub [40, 41, 42, 43, 44, 45, 46, 47, 48, 49, 50, 36, 37, 38, 39, 51, 52, 53, 54, 55, 56, 57, 58, 59, 0, 1, 2, 3, 4, 5, 6, 7, 8, 9, 10, 11, 12, 13, 14, 15, 16, 17, 18, 19, 20, 21, 22, 23, 24, 25, 26, 27, 28, 29, 30, 31, 32, 33, 34, 35] rfl) (hD.sub [40, 41, 42, 43, 44, 45, 46, 47, 48, 49, 50, 36, 37, 38, 39, 51, 52, 53, 54, 55, 56, 57, 58, 59, 0, 1, 2, 3, 4, 5, 6, 7, 8, 9, 10, 11, 12, 13, 14, 15, 16, 17, 18, 19, 20, 21, 22, 23, 24, 25, 26, 27, 28, 29, 30, 31, 32, 33, 34, 35] (by decide) rfl) hS (lv_sub hl [2, 3, 1, 0] rfl)
    · have h := fw_f c10 h
      refine lv_aload_n hx hb dX8_notesHold_47 rfl (lv_at hl 2 rfl) ?_
      refine va_get (D := D) (ci := 6) (v := .ref (tr 0)) (C := RX8) (T := TX8) (N := 12) hx hb hts in8 hown hG.1 hP 40 rfl rfl 6 (by decide) (hts (.fieldLink RX8 44 "ChairCane" "trial" "LChairCane$Room;") (by decide +kernel)) (fun _ h9 => h9) rfl dX8_notesHold_48 ?_
      refine va_get (D := D) (ci := 2) (v := .ref (tr 3)) (C := RX3) (T := TX3) (N := 17) hx hb hts in3 hown hG.1 hP 51 rfl rfl 6 (by decide) (hts (.fieldLink RX8 128 "ChairCane$Room" "strandOf" "[I") (by decide +kernel)) (fun _ h9 => h9) rfl dX8_notesHold_51 ?_
      refine lv_iload_n hx hb dX8_notesHold_54 rfl (lv_at hl 4 rfl) ?_
      refine lv_iload_n hx hb dX8_notesHold_55 rfl (lv_at hl 5 rfl) ?_
      obtain ⟨g11, h⟩ := fw_g h
      refine va_iast hx hb hG.1 hP hD hS 54 0 rfl rfl (ib_vp g11) dX8_notesHold_56 (fun H locs hP hD hS => ?_)
      exact B57 _ _ _ _ _ _ _ h (hP.sub [40, 41, 42, 43, 44, 45, 46, 47, 48, 49, 50, 36, 37, 38, 39, 51, 52, 53, 54, 55, 56, 57, 58, 59, 0, 1, 2, 3, 4, 5, 6, 7, 8, 9, 10, 11, 12, 13, 14, 15, 16, 17, 18, 19, 20, 21, 22, 23, 24, 25, 26, 27, 28, 29, 30, 31, 32, 33, 34, 35] rfl) (hD.sub [40, 41, 42, 43, 44, 45, 46, 47, 48, 49, 50, 36, 37, 38, 39, 51, 52, 53, 54, 55, 56, 57, 58, 59, 0, 1, 2, 3, 4, 5, 6, 7, 8, 9, 10, 11, 12, 13, 14, 15, 16, 17, 18, 19, 20, 21, 22, 23, 24, 25, 26, 27, 28, 29, 30, 31, 32, 33, 34, 35] (by decide) rfl) hS (lv_sub hl [2, 3, 1, 0] rfl)
def b_X8_strung_53 (F : Nat)  (xi : Nat → Int32) (xrr : Nat → Option Nat) (si : Nat → Int32) (rm : OB) (nt : OB) (k23 : (Int32 × Int32 × Int32 × OB × (Nat → OB)) → Option (Int32 × OB × (Nat → OB))) (v1 : Int32) (v3 : Int32) (v4 : Int32) (tm : OB) (rz : Nat → OB) : Option (Int32 × OB × (Nat → OB)) :=
  k23 (v1, v3, (v4 + 1), tm, rz)
def b_X8_strung_23 (F : Nat)  (xi : Nat → Int32) (xrr : Nat → Option Nat) (si : Nat → Int32) (rm : OB) (nt : OB)  (k23 : (Int32 × Int32 × Int32 × OB × (Nat → OB)) → Option (Int32 × OB × (Nat → OB))) (a23 : (Int32 × Int32 × Int32 × OB × (Nat → OB))) : Option (Int32 × OB × (Nat → OB)) :=
  if (rm.1 1) ≤ a23.2.2.1 then (some (a23.2.1, a23.2.2.2.1, a23.2.2.2.2)) else (Option.bind (f_X8_ruleInForce F xi xrr si) (fun q2 => (Option.bind (f_X8_notesHold F q2 a23.1 a23.2.2.1 xi si rm nt a23.2.2.2.1 a23.2.2.2.2) (fun q3 => (if q3.1 = 0 then (b_X8_strung_53 F xi xrr si rm nt k23 a23.1 a23.2.1 a23.2.2.1 q3.2.1 q3.2.2) else (b_X8_strung_53 F xi xrr si rm nt k23 a23.1 (a23.2.1 ||| (1 <<< (a23.2.2.1 &&& 31))) a23.2.2.1 q3.2.1 q3.2.2))))))
def f_X8_strung (F : Nat)  (x1 : Int32) (xi : Nat → Int32) (xrr : Nat → Option Nat) (si : Nat → Int32) (rm : OB) (nt : OB) (tm : OB) (rz : Nat → OB) : Option (Int32 × OB × (Nat → OB)) :=
  Option.bind (f_X3_hasChair F x1 rm) (fun q5 => (if q5 = 0 then (some ((-1), tm, rz)) else (lp (b_X8_strung_23 F xi xrr si rm nt) F (x1, 0, 0, tm, rz))))
set_option maxHeartbeats 4000000 in
set_option maxRecDepth 100000 in
theorem c_X8_strung (l : Launch) (D : va_G) (k : Nat → ClassId) (sz : Nat)  (xo : Nat → Nat) (ta : Nat → Nat) (xr : Nat) (sa : Nat → Nat) (xm : Nat) (xg : Nat) (tr : Nat → Nat) (xs : Nat) (xp : Nat) (xq : Nat) (xe : Nat) (xt : Nat) (xa : Nat → Nat) (ca : Nat → Nat) (na : Nat → Nat) (ra : Nat → Nat) (F : Nat)  (x1 : Int32) (xi : Nat → Int32) (xrr : Nat → Option Nat) (si : Nat → Int32) (rm : OB) (nt : OB) (tm : OB) (rz : Nat → OB) (hq : ∀ i, i < 6 → xrr i = some (ra (6 * i))) {res : Int32 × OB × (Nat → OB)} (h : f_X8_strung F x1 xi xrr si rm nt tm rz = some res) : CtI l yX8_strung wsX8_strung (rmK 7 0 0) [.ref (xo 0), .int x1] D k sz ([((xo 0), .inr (6, [.ref (ta 0), .ref xr, .int (xi 2), .ref (sa 0), .ref xm, .ref xg, .ref (tr 0), .ref xs, .ref xp, .ref xq, .ref xe, .ref xt]))] ++ ([(xr, hcR k 6 xrr)] ++ ([((sa 0), .inr (4, [.ref (xa 0), .ref (ca 0), .ref (na 0), .int (si 3), .int (si 4)]))] ++ (rmW k xa rm ++ (ntW k na nt ++ (rmW k tr tm ++ (RU k ra rz))))))) (fun r (_ : Unit) => r = res.1) (fun _ : Unit => [((xo 0), .inr (6, [.ref (ta 0), .ref xr, .int (xi 2), .ref (sa 0), .ref xm, .ref xg, .ref (tr 0), .ref xs, .ref xp, .ref xq, .ref xe, .ref xt]))] ++ ([(xr, hcR k 6 xrr)] ++ ([((sa 0), .inr (4, [.ref (xa 0), .ref (ca 0), .ref (na 0), .int (si 3), .int (si 4)]))] ++ (rmW k xa rm ++ (ntW k na nt ++ (rmW k tr res.2.1 ++ (RU k ra res.2.2))))))) 0 0 := by
  refine CtI.mk (cc := cX8_strung) (maxL := 5) (ret := (some .int)) (by decide) rfl (Nat.le_of_ble_eq_true rfl) ?_
  intro p e s m below meth c A ls E hP hD hS hl
  obtain ⟨hx, hb, hr, hml, hown, hts, hlocks, hin, hG, hA⟩ := E
  have hown : s.vm.findClass RX8 = some m.cls := hown
  have in2 : ∀ w ∈ u_ws RX2 TX2 4, w ∈ wsX8_strung := fun _ h => List.mem_cons_of_mem _ (List.mem_append_left _ (List.mem_append_right _ h))
  have in3 : ∀ w ∈ u_ws RX3 TX3 17, w ∈ wsX8_strung := fun _ h => List.mem_cons_of_mem _ (List.mem_append_left _ (List.mem_append_left _ (List.mem_append_right _ h)))
  have in4 : ∀ w ∈ u_ws RX4 TX4 8, w ∈ wsX8_strung := fun _ h => List.mem_cons_of_mem _ (List.mem_append_right _ h)
  have in6 : ∀ w ∈ u_ws RX6 TX6 5, w ∈ wsX8_strung := fun _ h => List.mem_cons_of_mem _ (List.mem_append_left _ (List.mem_append_left _ (List.mem_append_left _ (List.mem_append_right _ h))))
  have in8 : ∀ w ∈ u_ws RX8 TX8 12, w ∈ wsX8_strung := fun _ h => List.mem_cons_of_mem _ (List.mem_append_left _ (List.mem_append_left _ (List.mem_append_left _ (List.mem_append_left _ (List.mem_append_right _ h)))))
  have hl : lv_has ls 5 [(0, .ref (xo 0)), (1, .int x1)] := hl
  have B23 : ∀ a23 : (Int32 × Int32 × Int32 × OB × (Nat → OB)), lp (b_X8_strung_23 F xi xrr si rm nt) F a23 = some res → ∀ (H : Heap) (locs : List Loc) (ls : Array Slot), va_P D vwCl ([((xo 0), .inr (6, [.ref (ta 0), .ref xr, .int (xi 2), .ref (sa 0), .ref xm, .ref xg, .ref (tr 0), .ref xs, .ref xp, .ref xq, .ref xe, .ref xt]))] ++ ([(xr, hcR k 6 xrr)] ++ ([((sa 0), .inr (4, [.ref (xa 0), .ref (ca 0), .ref (na 0), .int (si 3), .int (si 4)]))] ++ (rmW k xa rm ++ (ntW k na nt ++ (rmW k tr a23.2.2.2.1 ++ (RU k ra a23.2.2.2.2))))))) H → va_D A ([((xo 0), .inr (6, [.ref (ta 0), .ref xr, .int (xi 2), .ref (sa 0), .ref xm, .ref xg, .ref (tr 0), .ref xs, .ref xp, .ref xq, .ref xe, .ref xt]))] ++ ([(xr, hcR k 6 xrr)] ++ ([((sa 0), .inr (4, [.ref (xa 0), .ref (ca 0), .ref (na 0), .int (si 3), .int (si 4)]))] ++ (rmW k xa rm ++ (ntW k na nt ++ (rmW k tr a23.2.2.2.1 ++ (RU k ra a23.2.2.2.2))))))) → va_S A s.heap H locs → lv_has ls 5 [(0, .ref (xo 0)), (1, .int a23.1), (2, .ref (xa 0)), (3, .int a23.2.1), (4, .int a23.2.2.1)] → W p l e (rmK 7 0 0) s m (List.toArray [.ref (xo 0), .int x1]) below meth c H locs 0 0 (MQ below (va_Qi (fun r (_ : Unit) => r = res.1) (hcB D (fun _ : Unit => [((xo 0), .inr (6, [.ref (ta 0), .ref xr, .int (xi 2), .ref (sa 0), .ref xm, .ref xg, .ref (tr 0), .ref xs, .ref xp, .ref xq, .ref xe, .ref xt]))] ++ ([(xr, hcR k 6 xrr)] ++ ([((sa 0), .inr (4, [.ref (xa 0), .ref (ca 0), .ref (na 0), .int (si 3), .int (si 4)]))] ++ (rmW k xa rm ++ (ntW k na nt ++ (rmW k tr res.2.1 ++ (RU k ra res.2.2))))))) A) A) (List.toArray [.ref (xo 0), .int x1]) s 0 0 A) (F0 m 23 ls []) := by
    refine lp_W ?_ F
    intro k23 hk23 a23 h H locs ls hP hD hS hl
    have hc23 : ∀ (v1 : Int32) (v3 : Int32) (v4 : Int32) (tm : OB) (rz : Nat → OB), k23 (v1, v3, v4, tm, rz) = some res → ∀ (H : Heap) (locs : List Loc) (ls : Array Slot), va_P D vwCl ([((xo 0), .inr (6, [.ref (ta 0), .ref xr, .int (xi 2), .ref (sa 0), .ref xm, .ref xg, .ref (tr 0), .ref xs, .ref xp, .ref xq, .ref xe, .ref xt]))] ++ ([(xr, hcR k 6 xrr)] ++ ([((sa 0), .inr (4, [.ref (xa 0), .ref (ca 0), .ref (na 0), .int (si 3), .int (si 4)]))] ++ (rmW k xa rm ++ (ntW k na nt ++ (rmW k tr tm ++ (RU k ra rz))))))) H → va_D A ([((xo 0), .inr (6, [.ref (ta 0), .ref xr, .int (xi 2), .ref (sa 0), .ref xm, .ref xg, .ref (tr 0), .ref xs, .ref xp, .ref xq, .ref xe, .ref xt]))] ++ ([(xr, hcR k 6 xrr)] ++ ([((sa 0), .inr (4, [.ref (xa 0), .ref (ca 0), .ref (na 0), .int (si 3), .int (si 4)]))] ++ (rmW k xa rm ++ (ntW k na nt ++ (rmW k tr tm ++ (RU k ra rz))))))) → va_S A s.heap H locs → lv_has ls 5 [(0, .ref (xo 0)), (1, .int v1), (2, .ref (xa 0)), (3, .int v3), (4, .int v4)] → W p l e (rmK 7 0 0) s m (List.toArray [.ref (xo 0), .int x1]) below meth c H locs 0 0 (MQ below (va_Qi (fun r (_ : Unit) => r = res.1) (hcB D (fun _ : Unit => [((xo 0), .inr (6, [.ref (ta 0), .ref xr, .int (xi 2), .ref (sa 0), .ref xm, .ref xg, .ref (tr 0), .ref xs, .ref xp, .ref xq, .ref xe, .ref xt]))] ++ ([(xr, hcR k 6 xrr)] ++ ([((sa 0), .inr (4, [.ref (xa 0), .ref (ca 0), .ref (na 0), .int (si 3), .int (si 4)]))] ++ (rmW k xa rm ++ (ntW k na nt ++ (rmW k tr res.2.1 ++ (RU k ra res.2.2))))))) A) A) (List.toArray [.ref (xo 0), .int x1]) s 0 0 A) (F0 m 23 ls []) := fun v1 v3 v4 tm rz => hk23 (v1, v3, v4, tm, rz)
    have B53 : ∀ (v1 : Int32) (v3 : Int32) (v4 : Int32) (tm : OB) (rz : Nat → OB) (H : Heap) (locs : List Loc) (ls : Array Slot), b_X8_strung_53 F xi xrr si rm nt k23 v1 v3 v4 tm rz = some res → va_P D vwCl ([((xo 0), .inr (6, [.ref (ta 0), .ref xr, .int (xi 2), .ref (sa 0), .ref xm, .ref xg, .ref (tr 0), .ref xs, .ref xp, .ref xq, .ref xe, .ref xt]))] ++ ([(xr, hcR k 6 xrr)] ++ ([((sa 0), .inr (4, [.ref (xa 0), .ref (ca 0), .ref (na 0), .int (si 3), .int (si 4)]))] ++ (rmW k xa rm ++ (ntW k na nt ++ (rmW k tr tm ++ (RU k ra rz))))))) H → va_D A ([((xo 0), .inr (6, [.ref (ta 0), .ref xr, .int (xi 2), .ref (sa 0), .ref xm, .ref xg, .ref (tr 0), .ref xs, .ref xp, .ref xq, .ref xe, .ref xt]))] ++ ([(xr, hcR k 6 xrr)] ++ ([((sa 0), .inr (4, [.ref (xa 0), .ref (ca 0), .ref (na 0), .int (si 3), .int (si 4)]))] ++ (rmW k xa rm ++ (ntW k na nt ++ (rmW k tr tm ++ (RU k ra rz))))))) → va_S A s.heap H locs → lv_has ls 5 [(0, .ref (xo 0)), (1, .int v1), (2, .ref (xa 0)), (3, .int v3), (4, .int v4)] → W p l e (rmK 7 0 0) s m (List.toArray [.ref (xo 0), .int x1]) below meth c H locs 0 0 (MQ below (va_Qi (fun r (_ : Unit) => r = res.1) (hcB D (fun _ : Unit => [((xo 0), .inr (6, [.ref (ta 0), .ref xr, .int (xi 2), .ref (sa 0), .ref xm, .ref xg, .ref (tr 0), .ref xs, .ref xp, .ref xq, .ref xe, .ref xt]))] ++ ([(xr, hcR k 6 xrr)] ++ ([((sa 0), .inr (4, [.ref (xa 0), .ref (ca 0), .ref (na 0), .int (si 3), .int (si 4)]))] ++ (rmW k xa rm ++ (ntW k na nt ++ (rmW k tr res.2.1 ++ (RU k ra res.2.2))))))) A) A) (List.toArray [.ref (xo 0), .int x1]) s 0 0 A) (F0 m 53 ls []) := by
      intro v1 v3 v4 tm rz H locs ls h hP hD hS hl
      refine lv_iinc (v := (v4 + 1)) (lv' := [(4, .int (v4 + 1)), (0, .ref (xo 0)), (1, .int v1), (2, .ref (xa 0)), (3, .int v3)]) hx hb dX8_strung_53 hl (k := 4) rfl rfl (by decide) rfl (fun ls hl => ?_)
      refine lv_goto (tgt := 23) hx hb dX8_strung_56 (by decide) ?_
      exact hc23 _ _ _ _ _ h _ _ _ hP hD hS (lv_sub hl [1, 2, 3, 4, 0] rfl)
    refine lv_iload hx hb dX8_strung_23 (lv_at hl 4 rfl) ?_
    refine lv_aload_n hx hb dX8_strung_25 rfl (lv_at hl 2 rfl) ?_
    refine va_get (D := D) (ci := 2) (v := .int (rm.1 1)) (C := RX3) (T := TX3) (N := 17) hx hb hts in3 hown hG.1 hP 3 rfl rfl 1 (by decide) (hts (.fieldLink RX8 247 "ChairCane$Room" "strands" "I") (by decide +kernel)) (fun _ h9 => h9) rfl dX8_strung_26 ?_
    refine lv_icmp_ge (tgt := 59) hx hb dX8_strung_29 (by decide) (fun c1 => ?_) (fun c1 => ?_)
    · have h := fw_t c1 h
      refine lv_iload_n hx hb dX8_strung_59 rfl (lv_at hl 3 rfl) ?_
      exact fw_endI (rv := fun b : Int32 × OB × (Nat → OB) => b.1) (wp := fun b : Int32 × OB × (Nat → OB) => [((xo 0), .inr (6, [.ref (ta 0), .ref xr, .int (xi 2), .ref (sa 0), .ref xm, .ref xg, .ref (tr 0), .ref xs, .ref xp, .ref xq, .ref xe, .ref xt]))] ++ ([(xr, hcR k 6 xrr)] ++ ([((sa 0), .inr (4, [.ref (xa 0), .ref (ca 0), .ref (na 0), .int (si 3), .int (si 4)]))] ++ (rmW k xa rm ++ (ntW k na nt ++ (rmW k tr b.2.1 ++ (RU k ra b.2.2))))))) hx hb hr hlocks h rfl hP hD hS dX8_strung_60
    · have h := fw_f c1 h
      refine lv_aload_n hx hb dX8_strung_32 rfl (lv_at hl 0 rfl) ?_
      refine lv_aload_n hx hb dX8_strung_33 rfl (lv_at hl 0 rfl) ?_
      refine fw_Vq (As := []) (rest := [.ref (xo 0)]) (n := 0) (wr := rmW k xa rm ++ (ntW k na nt ++ (rmW k tr a23.2.2.2.1 ++ (RU k ra a23.2.2.2.2)))) (rv := fun b : Int32 => rAd ra b) (wp := fun b : Int32 => [((xo 0), .inr (6, [.ref (ta 0), .ref xr, .int (xi 2), .ref (sa 0), .ref xm, .ref xg, .ref (tr 0), .ref xs, .ref xp, .ref xq, .ref xe, .ref xt]))] ++ ([(xr, hcR k 6 xrr)] ++ ([((sa 0), .inr (4, [.ref (xa 0), .ref (ca 0), .ref (na 0), .int (si 3), .int (si 4)]))]))) h hx hb hml hown hts hG hA hP hD hS hl.1 [0, 1, 2] [3, 4, 5, 6, 7, 8, 9, 10, 11, 12, 13, 14, 15, 16, 17, 18, 19, 20, 21, 22, 23, 24, 25, 26, 27, 28, 29, 30, 31, 32, 33, 34, 35, 36, 37, 38, 39, 40, 41, 42, 43, 44, 45, 46, 47, 48, 49, 50, 51, 52, 53, 54, 55, 56, 57, 58, 59, 60] (fun q hq9 => c_X8_ruleInForce l D k _  xo ta xr sa xm xg tr xs xp xq xe xt xa ca na ra F  xi xrr si hq hq9) (ci := 6) (q0 := 0) rfl rfl gX8_strung_X8_ruleInForce rfl ⟨rfl, rfl, Nat.le_of_ble_eq_true rfl, Nat.le_of_ble_eq_true rfl⟩ (by decide +kernel) rfl rfl ⟨by decide, by decide, by decide⟩ ⟨rfl, rfl, Nat.le_of_ble_eq_true rfl, Nat.le_of_ble_eq_true rfl, Nat.le_of_ble_eq_true rfl⟩ dX8_strung_34 (fun q2 H locs h hP hD hS => ?_)
      have hP : va_P D vwCl (rmW k xa rm ++ (ntW k na nt ++ (rmW k tr a23.2.2.2.1 ++ (RU k ra a23.2.2.2.2 ++ ([((xo 0), .inr (6, [.ref (ta 0), .ref xr, .int (xi 2), .ref (sa 0), .ref xm, .ref xg, .ref (tr 0), .ref xs, .ref xp, .ref xq, .ref xe, .ref xt]))] ++ ([(xr, hcR k 6 xrr)] ++ ([((sa 0), .inr (4, [.ref (xa 0), .ref (ca 0), .ref (na 0), .int (si 3), .int (si 4)]))]))))))) H := hP
      have hD : va_D A (rmW k xa rm ++ (ntW k na nt ++ (rmW k tr a23.2.2.2.1 ++ (RU k ra a23.2.2.2.2 ++ ([((xo 0), .inr (6, [.ref (ta 0), .ref xr, .int (xi 2), .ref (sa 0), .ref xm, .ref xg, .ref (tr 0), .ref xs, .ref xp, .ref xq, .ref xe, .ref xt]))] ++ ([(xr, hcR k 6 xrr)] ++ ([((sa 0), .inr (4, [.ref (xa 0), .ref (ca 0), .ref (na 0), .int (si 3), .int (si 4)]))]))))))) := hD
      refine hc_isV (z := va_rf (rAd ra q2)) rfl ?_
      refine lv_iload_n hx hb dX8_strung_37 rfl (lv_at hl 1 rfl) ?_
      refine lv_iload hx hb dX8_strung_38 (lv_at hl 4 rfl) ?_
      refine fw_Vi (As := [va_rf (rAd ra q2), .int a23.1, .int a23.2.2.1]) (rest := []) (n := 3) (wr := [(xr, hcR k 6 xrr)]) (rv := fun b : Int32 × OB × (Nat → OB) => b.1) (wp := fun b : Int32 × OB × (Nat → OB) => [((xo 0), .inr (6, [.ref (ta 0), .ref xr, .int (xi 2), .ref (sa 0), .ref xm, .ref xg, .ref (tr 0), .ref xs, .ref xp, .ref xq, .ref xe, .ref xt]))] ++ ([((sa 0), .inr (4, [.ref (xa 0), .ref (ca 0), .ref (na 0), .int (si 3), .int (si 4)]))] ++ (rmW k xa rm ++ (ntW k na nt ++ (rmW k tr b.2.1 ++ (RU k ra b.2.2)))))) h hx hb hml hown hts hG hA hP hD hS hl.1 [58, 60, 0, 1, 2, 3, 4, 5, 6, 7, 8, 9, 10, 11, 12, 13, 14, 15, 16, 17, 18, 19, 20, 21, 22, 23, 24, 25, 26, 27, 28, 29, 30, 31, 32, 33, 34, 35, 36, 37, 38, 39, 40, 41, 42, 43, 44, 45, 46, 47, 48, 49, 50, 51, 52, 53, 54, 55, 56, 57] [59] (fun q hq9 => c_X8_notesHold l D k _  xo ta xr sa xm xg tr xs xp xq xe xt xa ca na ra F q2 a23.1 a23.2.2.1 xi si rm nt a23.2.2.2.1 a23.2.2.2.2  hq9) (ci := 6) (q0 := 58) rfl rfl gX8_strung_X8_notesHold rfl ⟨rfl, rfl, Nat.le_of_ble_eq_true rfl, Nat.le_of_ble_eq_true rfl⟩ (by decide +kernel) rfl rfl ⟨by decide, by decide, by decide⟩ ⟨rfl, rfl, Nat.le_of_ble_eq_true rfl, Nat.le_of_ble_eq_true rfl, Nat.le_of_ble_eq_true rfl⟩ dX8_strung_40 (fun q3 H locs h hP hD hS => ?_)
      have hP : va_P D vwCl ([(xr, hcR k 6 xrr)] ++ ([((xo 0), .inr (6, [.ref (ta 0), .ref xr, .int (xi 2), .ref (sa 0), .ref xm, .ref xg, .ref (tr 0), .ref xs, .ref xp, .ref xq, .ref xe, .ref xt]))] ++ ([((sa 0), .inr (4, [.ref (xa 0), .ref (ca 0), .ref (na 0), .int (si 3), .int (si 4)]))] ++ (rmW k xa rm ++ (ntW k na nt ++ (rmW k tr q3.2.1 ++ (RU k ra q3.2.2))))))) H := hP
      have hD : va_D A ([(xr, hcR k 6 xrr)] ++ ([((xo 0), .inr (6, [.ref (ta 0), .ref xr, .int (xi 2), .ref (sa 0), .ref xm, .ref xg, .ref (tr 0), .ref xs, .ref xp, .ref xq, .ref xe, .ref xt]))] ++ ([((sa 0), .inr (4, [.ref (xa 0), .ref (ca 0), .ref (na 0), .int (si 3), .int (si 4)]))] ++ (rmW k xa rm ++ (ntW k na nt ++ (rmW k tr q3.2.1 ++ (RU k ra q3.2.2))))))) := hD
      refine hc_is (z := q3.1) rfl ?_
      refine lv_if_eq (tgt := 53) hx hb dX8_strung_43 (by decide) (fun c4 => ?_) (fun c4 => ?_)
      · have h := fw_t c4 h
        exact B53 _ _ _ _ _ _ _ _ h (hP.sub [1, 0, 2, 3, 4, 5, 6, 7, 8, 9, 10, 11, 12, 13, 14, 15, 16, 17, 18, 19, 20, 21, 22, 23, 24, 25, 26, 27, 28, 29, 30, 31, 32, 33, 34, 35, 36, 37, 38, 39, 40, 41, 42, 43, 44, 45, 46, 47, 48, 49, 50, 51, 52, 53, 54, 55, 56, 57, 58, 59, 60] rfl) (hD.sub [1, 0, 2, 3, 4, 5, 6, 7, 8, 9, 10, 11, 12, 13, 14, 15, 16, 17, 18, 19, 20, 21, 22, 23, 24, 25, 26, 27, 28, 29, 30, 31, 32, 33, 34, 35, 36, 37, 38, 39, 40, 41, 42, 43, 44, 45, 46, 47, 48, 49, 50, 51, 52, 53, 54, 55, 56, 57, 58, 59, 60] (by decide) rfl) hS hl
      · have h := fw_f c4 h
        refine lv_iload_n hx hb dX8_strung_46 rfl (lv_at hl 3 rfl) ?_
        refine lv_iconst (v := 1) hx hb dX8_strung_47 (by decide) ?_
        refine lv_iload hx hb dX8_strung_48 (lv_at hl 4 rfl) ?_
        refine lv_ishl hx hb dX8_strung_50 ?_
        refine lv_ior hx hb dX8_strung_51 ?_
        refine lv_istore_n (lv' := [(3, .int (a23.2.1 ||| (1 <<< (a23.2.2.1 &&& 31)))), (0, .ref (xo 0)), (1, .int a23.1), (2, .ref (xa 0)), (4, .int a23.2.2.1)]) hx hb dX8_strung_52 rfl hl (by decide) rfl (fun ls hl => ?_)
        exact B53 _ _ _ _ _ _ _ _ h (hP.sub [1, 0, 2, 3, 4, 5, 6, 7, 8, 9, 10, 11, 12, 13, 14, 15, 16, 17, 18, 19, 20, 21, 22, 23, 24, 25, 26, 27, 28, 29, 30, 31, 32, 33, 34, 35, 36, 37, 38, 39, 40, 41, 42, 43, 44, 45, 46, 47, 48, 49, 50, 51, 52, 53, 54, 55, 56, 57, 58, 59, 60] rfl) (hD.sub [1, 0, 2, 3, 4, 5, 6, 7, 8, 9, 10, 11, 12, 13, 14, 15, 16, 17, 18, 19, 20, 21, 22, 23, 24, 25, 26, 27, 28, 29, 30, 31, 32, 33, 34, 35, 36, 37, 38, 39, 40, 41, 42, 43, 44, 45, 46, 47, 48, 49, 50, 51, 52, 53, 54, 55, 56, 57, 58, 59, 60] (by decide) rfl) hS (lv_sub hl [1, 2, 3, 0, 4] rfl)
  have C23 : ∀ (v1 : Int32) (v3 : Int32) (v4 : Int32) (tm : OB) (rz : Nat → OB), lp (b_X8_strung_23 F xi xrr si rm nt) F (v1, v3, v4, tm, rz) = some res → ∀ (H : Heap) (locs : List Loc) (ls : Array Slot), va_P D vwCl ([((xo 0), .inr (6, [.ref (ta 0), .ref xr, .int (xi 2), .ref (sa 0), .ref xm, .ref xg, .ref (tr 0), .ref xs, .ref xp, .ref xq, .ref xe, .ref xt]))] ++ ([(xr, hcR k 6 xrr)] ++ ([((sa 0), .inr (4, [.ref (xa 0), .ref (ca 0), .ref (na 0), .int (si 3), .int (si 4)]))] ++ (rmW k xa rm ++ (ntW k na nt ++ (rmW k tr tm ++ (RU k ra rz))))))) H → va_D A ([((xo 0), .inr (6, [.ref (ta 0), .ref xr, .int (xi 2), .ref (sa 0), .ref xm, .ref xg, .ref (tr 0), .ref xs, .ref xp, .ref xq, .ref xe, .ref xt]))] ++ ([(xr, hcR k 6 xrr)] ++ ([((sa 0), .inr (4, [.ref (xa 0), .ref (ca 0), .ref (na 0), .int (si 3), .int (si 4)]))] ++ (rmW k xa rm ++ (ntW k na nt ++ (rmW k tr tm ++ (RU k ra rz))))))) → va_S A s.heap H locs → lv_has ls 5 [(0, .ref (xo 0)), (1, .int v1), (2, .ref (xa 0)), (3, .int v3), (4, .int v4)] → W p l e (rmK 7 0 0) s m (List.toArray [.ref (xo 0), .int x1]) below meth c H locs 0 0 (MQ below (va_Qi (fun r (_ : Unit) => r = res.1) (hcB D (fun _ : Unit => [((xo 0), .inr (6, [.ref (ta 0), .ref xr, .int (xi 2), .ref (sa 0), .ref xm, .ref xg, .ref (tr 0), .ref xs, .ref xp, .ref xq, .ref xe, .ref xt]))] ++ ([(xr, hcR k 6 xrr)] ++ ([((sa 0), .inr (4, [.ref (xa 0), .ref (ca 0), .ref (na 0), .int (si 3), .int (si 4)]))] ++ (rmW k xa rm ++ (ntW k na nt ++ (rmW k tr res.2.1 ++ (RU k ra res.2.2))))))) A) A) (List.toArray [.ref (xo 0), .int x1]) s 0 0 A) (F0 m 23 ls []) := fun v1 v3 v4 tm rz => B23 (v1, v3, v4, tm, rz)
  refine lv_aload_n hx hb dX8_strung_0 rfl (lv_at hl 0 rfl) ?_
  refine va_get (D := D) (ci := 6) (v := .ref (sa 0)) (C := RX8) (T := TX8) (N := 12) hx hb hts in8 hown hG.1 hP 0 rfl rfl 3 (by decide) (hts (.fieldLink RX8 29 "ChairCane" "now" "LChairCane$Standing;") (by decide +kernel)) (fun _ h9 => h9) rfl dX8_strung_1 ?_
  refine va_get (D := D) (ci := 4) (v := .ref (xa 0)) (C := RX6) (T := TX6) (N := 5) hx hb hts in6 hown hG.1 hP 2 rfl rfl 0 (by decide) (hts (.fieldLink RX8 81 "ChairCane$Standing" "room" "LChairCane$Room;") (by decide +kernel)) (fun _ h9 => h9) rfl dX8_strung_4 ?_
  refine lv_astore_n (lv' := [(2, .ref (xa 0)), (0, .ref (xo 0)), (1, .int x1)]) hx hb dX8_strung_7 rfl hl (by decide) rfl (fun ls hl => ?_)
  refine lv_aload_n hx hb dX8_strung_8 rfl (lv_at hl 0 rfl) ?_
  refine lv_iload_n hx hb dX8_strung_9 rfl (lv_at hl 2 rfl) ?_
  refine fw_Vi (As := [.int x1]) (rest := []) (n := 1) (wr := [((xo 0), .inr (6, [.ref (ta 0), .ref xr, .int (xi 2), .ref (sa 0), .ref xm, .ref xg, .ref (tr 0), .ref xs, .ref xp, .ref xq, .ref xe, .ref xt]))] ++ ([(xr, hcR k 6 xrr)] ++ ([((sa 0), .inr (4, [.ref (xa 0), .ref (ca 0), .ref (na 0), .int (si 3), .int (si 4)]))] ++ (ntW k na nt ++ (rmW k tr tm ++ (RU k ra rz)))))) (rv := fun b : Int32 => b) (wp := fun b : Int32 => rmW k xa rm) h hx hb hml hown hts hG hA hP hD hS hl.1 [3, 4, 5, 6, 7, 8, 9, 10, 11] [0, 1, 2, 12, 13, 14, 15, 16, 17, 18, 19, 20, 21, 22, 23, 24, 25, 26, 27, 28, 29, 30, 31, 32, 33, 34, 35, 36, 37, 38, 39, 40, 41, 42, 43, 44, 45, 46, 47, 48, 49, 50, 51, 52, 53, 54, 55, 56, 57, 58, 59, 60] (fun q hq9 => c_X3_hasChair l D k _  xa F x1 rm  hq9) (ci := 2) (q0 := 3) rfl rfl gX8_strung_X3_hasChair rfl ⟨rfl, rfl, Nat.le_of_ble_eq_true rfl, Nat.le_of_ble_eq_true rfl⟩ (by decide +kernel) rfl rfl ⟨by decide, by decide, by decide⟩ ⟨rfl, rfl, Nat.le_of_ble_eq_true rfl, Nat.le_of_ble_eq_true rfl, Nat.le_of_ble_eq_true rfl⟩ dX8_strung_10 (fun q5 H locs h hP hD hS => ?_)
  have hP : va_P D vwCl ([((xo 0), .inr (6, [.ref (ta 0), .ref xr, .int (xi 2), .ref (sa 0), .ref xm, .ref xg, .ref (tr 0), .ref xs, .ref xp, .ref xq, .ref xe, .ref xt]))] ++ ([(xr, hcR k 6 xrr)] ++ ([((sa 0), .inr (4, [.ref (xa 0), .ref (ca 0), .ref (na 0), .int (si 3), .int (si 4)]))] ++ (ntW k na nt ++ (rmW k tr tm ++ (RU k ra rz ++ (rmW k xa rm))))))) H := hP
  have hD : va_D A ([((xo 0), .inr (6, [.ref (ta 0), .ref xr, .int (xi 2), .ref (sa 0), .ref xm, .ref xg, .ref (tr 0), .ref xs, .ref xp, .ref xq, .ref xe, .ref xt]))] ++ ([(xr, hcR k 6 xrr)] ++ ([((sa 0), .inr (4, [.ref (xa 0), .ref (ca 0), .ref (na 0), .int (si 3), .int (si 4)]))] ++ (ntW k na nt ++ (rmW k tr tm ++ (RU k ra rz ++ (rmW k xa rm))))))) := hD
  refine hc_is (z := q5) rfl ?_
  refine lv_if_ne (tgt := 18) hx hb dX8_strung_13 (by decide) (fun c6 => ?_) (fun c6 => ?_)
  · have h := fw_f c6 h
    refine lv_iconst (v := 0) hx hb dX8_strung_18 (by decide) ?_
    refine lv_istore_n (lv' := [(3, .int 0), (2, .ref (xa 0)), (0, .ref (xo 0)), (1, .int x1)]) hx hb dX8_strung_19 rfl hl (by decide) rfl (fun ls hl => ?_)
    refine lv_iconst (v := 0) hx hb dX8_strung_20 (by decide) ?_
    refine lv_istore (lv' := [(4, .int 0), (3, .int 0), (2, .ref (xa 0)), (0, .ref (xo 0)), (1, .int x1)]) hx hb dX8_strung_21 hl (by decide) rfl (fun ls hl => ?_)
    exact C23 _ _ _ _ _ h _ _ _ (hP.sub [0, 1, 2, 52, 53, 54, 55, 56, 57, 58, 59, 60, 3, 4, 5, 6, 7, 8, 9, 10, 11, 12, 13, 14, 15, 16, 17, 18, 19, 20, 21, 22, 23, 24, 25, 26, 27, 28, 29, 30, 31, 32, 33, 34, 35, 36, 37, 38, 39, 40, 41, 42, 43, 44, 45, 46, 47, 48, 49, 50, 51] rfl) (hD.sub [0, 1, 2, 52, 53, 54, 55, 56, 57, 58, 59, 60, 3, 4, 5, 6, 7, 8, 9, 10, 11, 12, 13, 14, 15, 16, 17, 18, 19, 20, 21, 22, 23, 24, 25, 26, 27, 28, 29, 30, 31, 32, 33, 34, 35, 36, 37, 38, 39, 40, 41, 42, 43, 44, 45, 46, 47, 48, 49, 50, 51] (by decide) rfl) hS (lv_sub hl [3, 4, 2, 1, 0] rfl)
  · have h := fw_t c6 h
    refine lv_iconst (v := (-1)) hx hb dX8_strung_16 (by decide) ?_
    exact fw_endI (rv := fun b : Int32 × OB × (Nat → OB) => b.1) (wp := fun b : Int32 × OB × (Nat → OB) => [((xo 0), .inr (6, [.ref (ta 0), .ref xr, .int (xi 2), .ref (sa 0), .ref xm, .ref xg, .ref (tr 0), .ref xs, .ref xp, .ref xq, .ref xe, .ref xt]))] ++ ([(xr, hcR k 6 xrr)] ++ ([((sa 0), .inr (4, [.ref (xa 0), .ref (ca 0), .ref (na 0), .int (si 3), .int (si 4)]))] ++ (rmW k xa rm ++ (ntW k na nt ++ (rmW k tr b.2.1 ++ (RU k ra b.2.2))))))) hx hb hr hlocks h rfl (hP.sub [0, 1, 2, 52, 53, 54, 55, 56, 57, 58, 59, 60, 3, 4, 5, 6, 7, 8, 9, 10, 11, 12, 13, 14, 15, 16, 17, 18, 19, 20, 21, 22, 23, 24, 25, 26, 27, 28, 29, 30, 31, 32, 33, 34, 35, 36, 37, 38, 39, 40, 41, 42, 43, 44, 45, 46, 47, 48, 49, 50, 51] rfl) (hD.sub [0, 1, 2, 52, 53, 54, 55, 56, 57, 58, 59, 60, 3, 4, 5, 6, 7, 8, 9, 10, 11, 12, 13, 14, 15, 16, 17, 18, 19, 20, 21, 22, 23, 24, 25, 26, 27, 28, 29, 30, 31, 32, 33, 34, 35, 36, 37, 38, 39, 40, 41, 42, 43, 44, 45, 46, 47, 48, 49, 50, 51] (by decide) rfl) hS dX8_strung_17
def b_X8_ruled_22 (F : Nat)  (xi : Nat → Int32) (xrr : Nat → Option Nat) (si : Nat → Int32) (rm : OB) (nt : OB)  (tm : OB) (rz : Nat → OB) : Option (Int32 × OB × (Nat → OB)) :=
  some ((-3), tm, rz)
def b_X8_ruled_80 (F : Nat)  (xi : Nat → Int32) (xrr : Nat → Option Nat) (si : Nat → Int32) (rm : OB) (nt : OB)  (y0 : Int32) (tm : OB) (rz : Nat → OB) : Option (Int32 × OB × (Nat → OB)) :=
  some (y0, tm, rz)
def b_X8_ruled_65 (F : Nat)  (xi : Nat → Int32) (xrr : Nat → Option Nat) (si : Nat → Int32) (rm : OB) (nt : OB) (k38 : (Int32 × Int32 × Int32 × Int32 × OB × (Nat → OB)) → Option (Int32 × OB × (Nat → OB))) (v1 : Int32) (v2 : Int32) (v3 : Int32) (v4 : Int32) (tm : OB) (rz : Nat → OB) : Option (Int32 × OB × (Nat → OB)) :=
  k38 (v1, v2, v3, (v4 + (-1)), tm, rz)
def b_X8_ruled_38 (F : Nat)  (xi : Nat → Int32) (xrr : Nat → Option Nat) (si : Nat → Int32) (rm : OB) (nt : OB)  (k38 : (Int32 × Int32 × Int32 × Int32 × OB × (Nat → OB)) → Option (Int32 × OB × (Nat → OB))) (a38 : (Int32 × Int32 × Int32 × Int32 × OB × (Nat → OB))) : Option (Int32 × OB × (Nat → OB)) :=
  if a38.2.2.2.1 < (-1) then (if a38.1 = 0 then (b_X8_ruled_80 F xi xrr si rm nt a38.2.1 a38.2.2.2.2.1 a38.2.2.2.2.2) else (b_X8_ruled_80 F xi xrr si rm nt a38.2.2.1 a38.2.2.2.2.1 a38.2.2.2.2.2)) else (Option.bind (f_X8_ruleAt F a38.2.2.2.1 xi xrr) (fun q3 => (Option.bind (f_X8_notesHold F q3 (-1) (-1) xi si rm nt a38.2.2.2.2.1 a38.2.2.2.2.2) (fun q4 => (if q4.1 = 0 then (b_X8_ruled_65 F xi xrr si rm nt k38 a38.1 a38.2.1 a38.2.2.1 a38.2.2.2.1 q4.2.1 q4.2.2) else (b_X8_ruled_65 F xi xrr si rm nt k38 a38.1 (a38.2.1 + 1) a38.2.2.2.1 a38.2.2.2.1 q4.2.1 q4.2.2))))))
def f_X8_ruled (F : Nat)  (x1 : Int32) (xi : Nat → Int32) (xrr : Nat → Option Nat) (si : Nat → Int32) (rm : OB) (nt : OB) (tm : OB) (rz : Nat → OB) : Option (Int32 × OB × (Nat → OB)) :=
  if (rm.1 0) = 0 then (b_X8_ruled_22 F xi xrr si rm nt tm rz) else (if x1 < 0 then (b_X8_ruled_22 F xi xrr si rm nt tm rz) else (if x1 ≤ 1 then (lp (b_X8_ruled_38 F xi xrr si rm nt) F (x1, 0, (-2), ((xi 2) - 1), tm, rz)) else (b_X8_ruled_22 F xi xrr si rm nt tm rz)))
set_option maxHeartbeats 4000000 in
set_option maxRecDepth 100000 in
theorem c_X8_ruled (l : Launch) (D : va_G) (k : Nat → ClassId) (sz : Nat)  (xo : Nat → Nat) (ta : Nat → Nat) (xr : Nat) (sa : Nat → Nat) (xm : Nat) (xg : Nat) (tr : Nat → Nat) (xs : Nat) (xp : Nat) (xq : Nat) (xe : Nat) (xt : Nat) (xa : Nat → Nat) (ca : Nat → Nat) (na : Nat → Nat) (ra : Nat → Nat) (F : Nat)  (x1 : Int32) (xi : Nat → Int32) (xrr : Nat → Option Nat) (si : Nat → Int32) (rm : OB) (nt : OB) (tm : OB) (rz : Nat → OB) (hq : ∀ i, i < 6 → xrr i = some (ra (6 * i))) {res : Int32 × OB × (Nat → OB)} (h : f_X8_ruled F x1 xi xrr si rm nt tm rz = some res) : CtI l yX8_ruled wsX8_ruled (rmK 7 0 0) [.ref (xo 0), .int x1] D k sz ([((xo 0), .inr (6, [.ref (ta 0), .ref xr, .int (xi 2), .ref (sa 0), .ref xm, .ref xg, .ref (tr 0), .ref xs, .ref xp, .ref xq, .ref xe, .ref xt]))] ++ ([(xr, hcR k 6 xrr)] ++ ([((sa 0), .inr (4, [.ref (xa 0), .ref (ca 0), .ref (na 0), .int (si 3), .int (si 4)]))] ++ (rmW k xa rm ++ (ntW k na nt ++ (rmW k tr tm ++ (RU k ra rz))))))) (fun r (_ : Unit) => r = res.1) (fun _ : Unit => [((xo 0), .inr (6, [.ref (ta 0), .ref xr, .int (xi 2), .ref (sa 0), .ref xm, .ref xg, .ref (tr 0), .ref xs, .ref xp, .ref xq, .ref xe, .ref xt]))] ++ ([(xr, hcR k 6 xrr)] ++ ([((sa 0), .inr (4, [.ref (xa 0), .ref (ca 0), .ref (na 0), .int (si 3), .int (si 4)]))] ++ (rmW k xa rm ++ (ntW k na nt ++ (rmW k tr res.2.1 ++ (RU k ra res.2.2))))))) 0 0 := by
  refine CtI.mk (cc := cX8_ruled) (maxL := 5) (ret := (some .int)) (by decide) rfl (Nat.le_of_ble_eq_true rfl) ?_
  intro p e s m below meth c A ls E hP hD hS hl
  obtain ⟨hx, hb, hr, hml, hown, hts, hlocks, hin, hG, hA⟩ := E
  have hown : s.vm.findClass RX8 = some m.cls := hown
  have in2 : ∀ w ∈ u_ws RX2 TX2 4, w ∈ wsX8_ruled := fun _ h => List.mem_cons_of_mem _ (List.mem_append_left _ (List.mem_append_right _ h))
  have in3 : ∀ w ∈ u_ws RX3 TX3 17, w ∈ wsX8_ruled := fun _ h => List.mem_cons_of_mem _ (List.mem_append_left _ (List.mem_append_left _ (List.mem_append_right _ h)))
  have in4 : ∀ w ∈ u_ws RX4 TX4 8, w ∈ wsX8_ruled := fun _ h => List.mem_cons_of_mem _ (List.mem_append_right _ h)
  have in6 : ∀ w ∈ u_ws RX6 TX6 5, w ∈ wsX8_ruled := fun _ h => List.mem_cons_of_mem _ (List.mem_append_left _ (List.mem_append_left _ (List.mem_append_left _ (List.mem_append_right _ h))))
  have in8 : ∀ w ∈ u_ws RX8 TX8 12, w ∈ wsX8_ruled := fun _ h => List.mem_cons_of_mem _ (List.mem_append_left _ (List.mem_append_left _ (List.mem_append_left _ (List.mem_append_left _ (List.mem_append_right _ h)))))
  have hl : lv_has ls 5 [(0, .ref (xo 0)), (1, .int x1)] := hl
  have B22 : ∀ (tm : OB) (rz : Nat → OB) (H : Heap) (locs : List Loc) (ls : Array Slot), b_X8_ruled_22 F xi xrr si rm nt tm rz = some res → va_P D vwCl ([((xo 0), .inr (6, [.ref (ta 0), .ref xr, .int (xi 2), .ref (sa 0), .ref xm, .ref xg, .ref (tr 0), .ref xs, .ref xp, .ref xq, .ref xe, .ref xt]))] ++ ([(xr, hcR k 6 xrr)] ++ ([((sa 0), .inr (4, [.ref (xa 0), .ref (ca 0), .ref (na 0), .int (si 3), .int (si 4)]))] ++ (rmW k xa rm ++ (ntW k na nt ++ (rmW k tr tm ++ (RU k ra rz))))))) H → va_D A ([((xo 0), .inr (6, [.ref (ta 0), .ref xr, .int (xi 2), .ref (sa 0), .ref xm, .ref xg, .ref (tr 0), .ref xs, .ref xp, .ref xq, .ref xe, .ref xt]))] ++ ([(xr, hcR k 6 xrr)] ++ ([((sa 0), .inr (4, [.ref (xa 0), .ref (ca 0), .ref (na 0), .int (si 3), .int (si 4)]))] ++ (rmW k xa rm ++ (ntW k na nt ++ (rmW k tr tm ++ (RU k ra rz))))))) → va_S A s.heap H locs → lv_has ls 5 [] → W p l e (rmK 7 0 0) s m (List.toArray [.ref (xo 0), .int x1]) below meth c H locs 0 0 (MQ below (va_Qi (fun r (_ : Unit) => r = res.1) (hcB D (fun _ : Unit => [((xo 0), .inr (6, [.ref (ta 0), .ref xr, .int (xi 2), .ref (sa 0), .ref xm, .ref xg, .ref (tr 0), .ref xs, .ref xp, .ref xq, .ref xe, .ref xt]))] ++ ([(xr, hcR k 6 xrr)] ++ ([((sa 0), .inr (4, [.ref (xa 0), .ref (ca 0), .ref (na 0), .int (si 3), .int (si 4)]))] ++ (rmW k xa rm ++ (ntW k na nt ++ (rmW k tr res.2.1 ++ (RU k ra res.2.2))))))) A) A) (List.toArray [.ref (xo 0), .int x1]) s 0 0 A) (F0 m 22 ls []) := by
    intro tm rz H locs ls h hP hD hS hl
    refine lv_bipush (v := (-3)) hx hb dX8_ruled_22 (by decide) ?_
    exact fw_endI (rv := fun b : Int32 × OB × (Nat → OB) => b.1) (wp := fun b : Int32 × OB × (Nat → OB) => [((xo 0), .inr (6, [.ref (ta 0), .ref xr, .int (xi 2), .ref (sa 0), .ref xm, .ref xg, .ref (tr 0), .ref xs, .ref xp, .ref xq, .ref xe, .ref xt]))] ++ ([(xr, hcR k 6 xrr)] ++ ([((sa 0), .inr (4, [.ref (xa 0), .ref (ca 0), .ref (na 0), .int (si 3), .int (si 4)]))] ++ (rmW k xa rm ++ (ntW k na nt ++ (rmW k tr b.2.1 ++ (RU k ra b.2.2))))))) hx hb hr hlocks h rfl hP hD hS dX8_ruled_24
  have B80 : ∀ (y0 : Int32) (tm : OB) (rz : Nat → OB) (H : Heap) (locs : List Loc) (ls : Array Slot), b_X8_ruled_80 F xi xrr si rm nt y0 tm rz = some res → va_P D vwCl ([((xo 0), .inr (6, [.ref (ta 0), .ref xr, .int (xi 2), .ref (sa 0), .ref xm, .ref xg, .ref (tr 0), .ref xs, .ref xp, .ref xq, .ref xe, .ref xt]))] ++ ([(xr, hcR k 6 xrr)] ++ ([((sa 0), .inr (4, [.ref (xa 0), .ref (ca 0), .ref (na 0), .int (si 3), .int (si 4)]))] ++ (rmW k xa rm ++ (ntW k na nt ++ (rmW k tr tm ++ (RU k ra rz))))))) H → va_D A ([((xo 0), .inr (6, [.ref (ta 0), .ref xr, .int (xi 2), .ref (sa 0), .ref xm, .ref xg, .ref (tr 0), .ref xs, .ref xp, .ref xq, .ref xe, .ref xt]))] ++ ([(xr, hcR k 6 xrr)] ++ ([((sa 0), .inr (4, [.ref (xa 0), .ref (ca 0), .ref (na 0), .int (si 3), .int (si 4)]))] ++ (rmW k xa rm ++ (ntW k na nt ++ (rmW k tr tm ++ (RU k ra rz))))))) → va_S A s.heap H locs → lv_has ls 5 [] → W p l e (rmK 7 0 0) s m (List.toArray [.ref (xo 0), .int x1]) below meth c H locs 0 0 (MQ below (va_Qi (fun r (_ : Unit) => r = res.1) (hcB D (fun _ : Unit => [((xo 0), .inr (6, [.ref (ta 0), .ref xr, .int (xi 2), .ref (sa 0), .ref xm, .ref xg, .ref (tr 0), .ref xs, .ref xp, .ref xq, .ref xe, .ref xt]))] ++ ([(xr, hcR k 6 xrr)] ++ ([((sa 0), .inr (4, [.ref (xa 0), .ref (ca 0), .ref (na 0), .int (si 3), .int (si 4)]))] ++ (rmW k xa rm ++ (ntW k na nt ++ (rmW k tr res.2.1 ++ (RU k ra res.2.2))))))) A) A) (List.toArray [.ref (xo 0), .int x1]) s 0 0 A) (F0 m 80 ls [.int y0]) := by
    intro y0 tm rz H locs ls h hP hD hS hl
    exact fw_endI (rv := fun b : Int32 × OB × (Nat → OB) => b.1) (wp := fun b : Int32 × OB × (Nat → OB) => [((xo 0), .inr (6, [.ref (ta 0), .ref xr, .int (xi 2), .ref (sa 0), .ref xm, .ref xg, .ref (tr 0), .ref xs, .ref xp, .ref xq, .ref xe, .ref xt]))] ++ ([(xr, hcR k 6 xrr)] ++ ([((sa 0), .inr (4, [.ref (xa 0), .ref (ca 0), .ref (na 0), .int (si 3), .int (si 4)]))] ++ (rmW k xa rm ++ (ntW k na nt ++ (rmW k tr b.2.1 ++ (RU k ra b.2.2))))))) hx hb hr hlocks h rfl hP hD hS dX8_ruled_80
  have B38 : ∀ a38 : (Int32 × Int32 × Int32 × Int32 × OB × (Nat → OB)), lp (b_X8_ruled_38 F xi xrr si rm nt) F a38 = some res → ∀ (H : Heap) (locs : List Loc) (ls : Array Slot), va_P D vwCl ([((xo 0), .inr (6, [.ref (ta 0), .ref xr, .int (xi 2), .ref (sa 0), .ref xm, .ref xg, .ref (tr 0), .ref xs, .ref xp, .ref xq, .ref xe, .ref xt]))] ++ ([(xr, hcR k 6 xrr)] ++ ([((sa 0), .inr (4, [.ref (xa 0), .ref (ca 0), .ref (na 0), .int (si 3), .int (si 4)]))] ++ (rmW k xa rm ++ (ntW k na nt ++ (rmW k tr a38.2.2.2.2.1 ++ (RU k ra a38.2.2.2.2.2))))))) H → va_D A ([((xo 0), .inr (6, [.ref (ta 0), .ref xr, .int (xi 2), .ref (sa 0), .ref xm, .ref xg, .ref (tr 0), .ref xs, .ref xp, .ref xq, .ref xe, .ref xt]))] ++ ([(xr, hcR k 6 xrr)] ++ ([((sa 0), .inr (4, [.ref (xa 0), .ref (ca 0), .ref (na 0), .int (si 3), .int (si 4)]))] ++ (rmW k xa rm ++ (ntW k na nt ++ (rmW k tr a38.2.2.2.2.1 ++ (RU k ra a38.2.2.2.2.2))))))) → va_S A s.heap H locs → lv_has ls 5 [(0, .ref (xo 0)), (1, .int a38.1), (2, .int a38.2.1), (3, .int a38.2.2.1), (4, .int a38.2.2.2.1)] → W p l e (rmK 7 0 0) s m (List.toArray [.ref (xo 0), .int x1]) below meth c H locs 0 0 (MQ below (va_Qi (fun r (_ : Unit) => r = res.1) (hcB D (fun _ : Unit => [((xo 0), .inr (6, [.ref (ta 0), .ref xr, .int (xi 2), .ref (sa 0), .ref xm, .ref xg, .ref (tr 0), .ref xs, .ref xp, .ref xq, .ref xe, .ref xt]))] ++ ([(xr, hcR k 6 xrr)] ++ ([((sa 0), .inr (4, [.ref (xa 0), .ref (ca 0), .ref (na 0), .int (si 3), .int (si 4)]))] ++ (rmW k xa rm ++ (ntW k na nt ++ (rmW k tr res.2.1 ++ (RU k ra res.2.2))))))) A) A) (List.toArray [.ref (xo 0), .int x1]) s 0 0 A) (F0 m 38 ls []) := by
    refine lp_W ?_ F
    intro k38 hk38 a38 h H locs ls hP hD hS hl
    have hc38 : ∀ (v1 : Int32) (v2 : Int32) (v3 : Int32) (v4 : Int32) (tm : OB) (rz : Nat → OB), k38 (v1, v2, v3, v4, tm, rz) = some res → ∀ (H : Heap) (locs : List Loc) (ls : Array Slot), va_P D vwCl ([((xo 0), .inr (6, [.ref (ta 0), .ref xr, .int (xi 2), .ref (sa 0), .ref xm, .ref xg, .ref (tr 0), .ref xs, .ref xp, .ref xq, .ref xe, .ref xt]))] ++ ([(xr, hcR k 6 xrr)] ++ ([((sa 0), .inr (4, [.ref (xa 0), .ref (ca 0), .ref (na 0), .int (si 3), .int (si 4)]))] ++ (rmW k xa rm ++ (ntW k na nt ++ (rmW k tr tm ++ (RU k ra rz))))))) H → va_D A ([((xo 0), .inr (6, [.ref (ta 0), .ref xr, .int (xi 2), .ref (sa 0), .ref xm, .ref xg, .ref (tr 0), .ref xs, .ref xp, .ref xq, .ref xe, .ref xt]))] ++ ([(xr, hcR k 6 xrr)] ++ ([((sa 0), .inr (4, [.ref (xa 0), .ref (ca 0), .ref (na 0), .int (si 3), .int (si 4)]))] ++ (rmW k xa rm ++ (ntW k na nt ++ (rmW k tr tm ++ (RU k ra rz))))))) → va_S A s.heap H locs → lv_has ls 5 [(0, .ref (xo 0)), (1, .int v1), (2, .int v2), (3, .int v3), (4, .int v4)] → W p l e (rmK 7 0 0) s m (List.toArray [.ref (xo 0), .int x1]) below meth c H locs 0 0 (MQ below (va_Qi (fun r (_ : Unit) => r = res.1) (hcB D (fun _ : Unit => [((xo 0), .inr (6, [.ref (ta 0), .ref xr, .int (xi 2), .ref (sa 0), .ref xm, .ref xg, .ref (tr 0), .ref xs, .ref xp, .ref xq, .ref xe, .ref xt]))] ++ ([(xr, hcR k 6 xrr)] ++ ([((sa 0), .inr (4, [.ref (xa 0), .ref (ca 0), .ref (na 0), .int (si 3), .int (si 4)]))] ++ (rmW k xa rm ++ (ntW k na nt ++ (rmW k tr res.2.1 ++ (RU k ra res.2.2))))))) A) A) (List.toArray [.ref (xo 0), .int x1]) s 0 0 A) (F0 m 38 ls []) := fun v1 v2 v3 v4 tm rz => hk38 (v1, v2, v3, v4, tm, rz)
    have B65 : ∀ (v1 : Int32) (v2 : Int32) (v3 : Int32) (v4 : Int32) (tm : OB) (rz : Nat → OB) (H : Heap) (locs : List Loc) (ls : Array Slot), b_X8_ruled_65 F xi xrr si rm nt k38 v1 v2 v3 v4 tm rz = some res → va_P D vwCl ([((xo 0), .inr (6, [.ref (ta 0), .ref xr, .int (xi 2), .ref (sa 0), .ref xm, .ref xg, .ref (tr 0), .ref xs, .ref xp, .ref xq, .ref xe, .ref xt]))] ++ ([(xr, hcR k 6 xrr)] ++ ([((sa 0), .inr (4, [.ref (xa 0), .ref (ca 0), .ref (na 0), .int (si 3), .int (si 4)]))] ++ (rmW k xa rm ++ (ntW k na nt ++ (rmW k tr tm ++ (RU k ra rz))))))) H → va_D A ([((xo 0), .inr (6, [.ref (ta 0), .ref xr, .int (xi 2), .ref (sa 0), .ref xm, .ref xg, .ref (tr 0), .ref xs, .ref xp, .ref xq, .ref xe, .ref xt]))] ++ ([(xr, hcR k 6 xrr)] ++ ([((sa 0), .inr (4, [.ref (xa 0), .ref (ca 0), .ref (na 0), .int (si 3), .int (si 4)]))] ++ (rmW k xa rm ++ (ntW k na nt ++ (rmW k tr tm ++ (RU k ra rz))))))) → va_S A s.heap H locs → lv_has ls 5 [(0, .ref (xo 0)), (1, .int v1), (2, .int v2), (3, .int v3), (4, .int v4)] → W p l e (rmK 7 0 0) s m (List.toArray [.ref (xo 0), .int x1]) below meth c H locs 0 0 (MQ below (va_Qi (fun r (_ : Unit) => r = res.1) (hcB D (fun _ : Unit => [((xo 0), .inr (6, [.ref (ta 0), .ref xr, .int (xi 2), .ref (sa 0), .ref xm, .ref xg, .ref (tr 0), .ref xs, .ref xp, .ref xq, .ref xe, .ref xt]))] ++ ([(xr, hcR k 6 xrr)] ++ ([((sa 0), .inr (4, [.ref (xa 0), .ref (ca 0), .ref (na 0), .int (si 3), .int (si 4)]))] ++ (rmW k xa rm ++ (ntW k na nt ++ (rmW k tr res.2.1 ++ (RU k ra res.2.2))))))) A) A) (List.toArray [.ref (xo 0), .int x1]) s 0 0 A) (F0 m 65 ls []) := by
      intro v1 v2 v3 v4 tm rz H locs ls h hP hD hS hl
      refine lv_iinc (v := (v4 + (-1))) (lv' := [(4, .int (v4 + (-1))), (0, .ref (xo 0)), (1, .int v1), (2, .int v2), (3, .int v3)]) hx hb dX8_ruled_65 hl (k := 4) rfl rfl (by decide) rfl (fun ls hl => ?_)
      refine lv_goto (tgt := 38) hx hb dX8_ruled_68 (by decide) ?_
      exact hc38 _ _ _ _ _ _ h _ _ _ hP hD hS (lv_sub hl [1, 2, 3, 4, 0] rfl)
    refine lv_iload hx hb dX8_ruled_38 (lv_at hl 4 rfl) ?_
    refine lv_iconst (v := (-1)) hx hb dX8_ruled_40 (by decide) ?_
    refine lv_icmp_lt (tgt := 71) hx hb dX8_ruled_41 (by decide) (fun c1 => ?_) (fun c1 => ?_)
    · have h := fw_t c1 h
      refine lv_iload_n hx hb dX8_ruled_71 rfl (lv_at hl 1 rfl) ?_
      refine lv_if_ne (tgt := 79) hx hb dX8_ruled_72 (by decide) (fun c2 => ?_) (fun c2 => ?_)
      · have h := fw_f c2 h
        refine lv_iload_n hx hb dX8_ruled_79 rfl (lv_at hl 3 rfl) ?_
        exact B80 _ _ _ _ _ _ h hP hD hS (lv_sub hl [] rfl)
      · have h := fw_t c2 h
        refine lv_iload_n hx hb dX8_ruled_75 rfl (lv_at hl 2 rfl) ?_
        refine lv_goto (tgt := 80) hx hb dX8_ruled_76 (by decide) ?_
        exact B80 _ _ _ _ _ _ h hP hD hS (lv_sub hl [] rfl)
    · have h := fw_f c1 h
      refine lv_aload_n hx hb dX8_ruled_44 rfl (lv_at hl 0 rfl) ?_
      refine lv_aload_n hx hb dX8_ruled_45 rfl (lv_at hl 0 rfl) ?_
      refine lv_iload hx hb dX8_ruled_46 (lv_at hl 4 rfl) ?_
      refine fw_Vq (As := [.int a38.2.2.2.1]) (rest := [.ref (xo 0)]) (n := 1) (wr := [((sa 0), .inr (4, [.ref (xa 0), .ref (ca 0), .ref (na 0), .int (si 3), .int (si 4)]))] ++ (rmW k xa rm ++ (ntW k na nt ++ (rmW k tr a38.2.2.2.2.1 ++ (RU k ra a38.2.2.2.2.2))))) (rv := fun b : Int32 => rAd ra b) (wp := fun b : Int32 => [((xo 0), .inr (6, [.ref (ta 0), .ref xr, .int (xi 2), .ref (sa 0), .ref xm, .ref xg, .ref (tr 0), .ref xs, .ref xp, .ref xq, .ref xe, .ref xt]))] ++ ([(xr, hcR k 6 xrr)])) h hx hb hml hown hts hG hA hP hD hS hl.1 [0, 1] [2, 3, 4, 5, 6, 7, 8, 9, 10, 11, 12, 13, 14, 15, 16, 17, 18, 19, 20, 21, 22, 23, 24, 25, 26, 27, 28, 29, 30, 31, 32, 33, 34, 35, 36, 37, 38, 39, 40, 41, 42, 43, 44, 45, 46, 47, 48, 49, 50, 51, 52, 53, 54, 55, 56, 57, 58, 59, 60] (fun q hq9 => c_X8_ruleAt l D k _  xo ta xr sa xm xg tr xs xp xq xe xt ra F a38.2.2.2.1 xi xrr hq hq9) (ci := 6) (q0 := 0) rfl rfl gX8_ruled_X8_ruleAt rfl ⟨rfl, rfl, Nat.le_of_ble_eq_true rfl, Nat.le_of_ble_eq_true rfl⟩ (by decide +kernel) rfl rfl ⟨by decide, by decide, by decide⟩ ⟨rfl, rfl, Nat.le_of_ble_eq_true rfl, Nat.le_of_ble_eq_true rfl, Nat.le_of_ble_eq_true rfl⟩ dX8_ruled_48 (fun q3 H locs h hP hD hS => ?_)
      have hP : va_P D vwCl ([((sa 0), .inr (4, [.ref (xa 0), .ref (ca 0), .ref (na 0), .int (si 3), .int (si 4)]))] ++ (rmW k xa rm ++ (ntW k na nt ++ (rmW k tr a38.2.2.2.2.1 ++ (RU k ra a38.2.2.2.2.2 ++ ([((xo 0), .inr (6, [.ref (ta 0), .ref xr, .int (xi 2), .ref (sa 0), .ref xm, .ref xg, .ref (tr 0), .ref xs, .ref xp, .ref xq, .ref xe, .ref xt]))] ++ ([(xr, hcR k 6 xrr)]))))))) H := hP
      have hD : va_D A ([((sa 0), .inr (4, [.ref (xa 0), .ref (ca 0), .ref (na 0), .int (si 3), .int (si 4)]))] ++ (rmW k xa rm ++ (ntW k na nt ++ (rmW k tr a38.2.2.2.2.1 ++ (RU k ra a38.2.2.2.2.2 ++ ([((xo 0), .inr (6, [.ref (ta 0), .ref xr, .int (xi 2), .ref (sa 0), .ref xm, .ref xg, .ref (tr 0), .ref xs, .ref xp, .ref xq, .ref xe, .ref xt]))] ++ ([(xr, hcR k 6 xrr)]))))))) := hD
      refine hc_isV (z := va_rf (rAd ra q3)) rfl ?_
      refine lv_iconst (v := (-1)) hx hb dX8_ruled_51 (by decide) ?_
      refine lv_iconst (v := (-1)) hx hb dX8_ruled_52 (by decide) ?_
      refine fw_Vi (As := [va_rf (rAd ra q3), .int (-1), .int (-1)]) (rest := []) (n := 3) (wr := [(xr, hcR k 6 xrr)]) (rv := fun b : Int32 × OB × (Nat → OB) => b.1) (wp := fun b : Int32 × OB × (Nat → OB) => [((xo 0), .inr (6, [.ref (ta 0), .ref xr, .int (xi 2), .ref (sa 0), .ref xm, .ref xg, .ref (tr 0), .ref xs, .ref xp, .ref xq, .ref xe, .ref xt]))] ++ ([((sa 0), .inr (4, [.ref (xa 0), .ref (ca 0), .ref (na 0), .int (si 3), .int (si 4)]))] ++ (rmW k xa rm ++ (ntW k na nt ++ (rmW k tr b.2.1 ++ (RU k ra b.2.2)))))) h hx hb hml hown hts hG hA hP hD hS hl.1 [59, 0, 1, 2, 3, 4, 5, 6, 7, 8, 9, 10, 11, 12, 13, 14, 15, 16, 17, 18, 19, 20, 21, 22, 23, 24, 25, 26, 27, 28, 29, 30, 31, 32, 33, 34, 35, 36, 37, 38, 39, 40, 41, 42, 43, 44, 45, 46, 47, 48, 49, 50, 51, 52, 53, 54, 55, 56, 57, 58] [60] (fun q hq9 => c_X8_notesHold l D k _  xo ta xr sa xm xg tr xs xp xq xe xt xa ca na ra F q3 (-1) (-1) xi si rm nt a38.2.2.2.2.1 a38.2.2.2.2.2  hq9) (ci := 6) (q0 := 59) rfl rfl gX8_ruled_X8_notesHold rfl ⟨rfl, rfl, Nat.le_of_ble_eq_true rfl, Nat.le_of_ble_eq_true rfl⟩ (by decide +kernel) rfl rfl ⟨by decide, by decide, by decide⟩ ⟨rfl, rfl, Nat.le_of_ble_eq_true rfl, Nat.le_of_ble_eq_true rfl, Nat.le_of_ble_eq_true rfl⟩ dX8_ruled_53 (fun q4 H locs h hP hD hS => ?_)
      have hP : va_P D vwCl ([(xr, hcR k 6 xrr)] ++ ([((xo 0), .inr (6, [.ref (ta 0), .ref xr, .int (xi 2), .ref (sa 0), .ref xm, .ref xg, .ref (tr 0), .ref xs, .ref xp, .ref xq, .ref xe, .ref xt]))] ++ ([((sa 0), .inr (4, [.ref (xa 0), .ref (ca 0), .ref (na 0), .int (si 3), .int (si 4)]))] ++ (rmW k xa rm ++ (ntW k na nt ++ (rmW k tr q4.2.1 ++ (RU k ra q4.2.2))))))) H := hP
      have hD : va_D A ([(xr, hcR k 6 xrr)] ++ ([((xo 0), .inr (6, [.ref (ta 0), .ref xr, .int (xi 2), .ref (sa 0), .ref xm, .ref xg, .ref (tr 0), .ref xs, .ref xp, .ref xq, .ref xe, .ref xt]))] ++ ([((sa 0), .inr (4, [.ref (xa 0), .ref (ca 0), .ref (na 0), .int (si 3), .int (si 4)]))] ++ (rmW k xa rm ++ (ntW k na nt ++ (rmW k tr q4.2.1 ++ (RU k ra q4.2.2))))))) := hD
      refine hc_is (z := q4.1) rfl ?_
      refine lv_if_eq (tgt := 65) hx hb dX8_ruled_56 (by decide) (fun c5 => ?_) (fun c5 => ?_)
      · have h := fw_t c5 h
        exact B65 _ _ _ _ _ _ _ _ _ h (hP.sub [1, 0, 2, 3, 4, 5, 6, 7, 8, 9, 10, 11, 12, 13, 14, 15, 16, 17, 18, 19, 20, 21, 22, 23, 24, 25, 26, 27, 28, 29, 30, 31, 32, 33, 34, 35, 36, 37, 38, 39, 40, 41, 42, 43, 44, 45, 46, 47, 48, 49, 50, 51, 52, 53, 54, 55, 56, 57, 58, 59, 60] rfl) (hD.sub [1, 0, 2, 3, 4, 5, 6, 7, 8, 9, 10, 11, 12, 13, 14, 15, 16, 17, 18, 19, 20, 21, 22, 23, 24, 25, 26, 27, 28, 29, 30, 31, 32, 33, 34, 35, 36, 37, 38, 39, 40, 41, 42, 43, 44, 45, 46, 47, 48, 49, 50, 51, 52, 53, 54, 55, 56, 57, 58, 59, 60] (by decide) rfl) hS hl
      · have h := fw_f c5 h
        refine lv_iinc (v := (a38.2.1 + 1)) (lv' := [(2, .int (a38.2.1 + 1)), (0, .ref (xo 0)), (1, .int a38.1), (3, .int a38.2.2.1), (4, .int a38.2.2.2.1)]) hx hb dX8_ruled_59 hl (k := 2) rfl rfl (by decide) rfl (fun ls hl => ?_)
        refine lv_iload hx hb dX8_ruled_62 (lv_at hl 4 rfl) ?_
        refine lv_istore_n (lv' := [(3, .int a38.2.2.2.1), (2, .int (a38.2.1 + 1)), (0, .ref (xo 0)), (1, .int a38.1), (4, .int a38.2.2.2.1)]) hx hb dX8_ruled_64 rfl hl (by decide) rfl (fun ls hl => ?_)
        exact B65 _ _ _ _ _ _ _ _ _ h (hP.sub [1, 0, 2, 3, 4, 5, 6, 7, 8, 9, 10, 11, 12, 13, 14, 15, 16, 17, 18, 19, 20, 21, 22, 23, 24, 25, 26, 27, 28, 29, 30, 31, 32, 33, 34, 35, 36, 37, 38, 39, 40, 41, 42, 43, 44, 45, 46, 47, 48, 49, 50, 51, 52, 53, 54, 55, 56, 57, 58, 59, 60] rfl) (hD.sub [1, 0, 2, 3, 4, 5, 6, 7, 8, 9, 10, 11, 12, 13, 14, 15, 16, 17, 18, 19, 20, 21, 22, 23, 24, 25, 26, 27, 28, 29, 30, 31, 32, 33, 34, 35, 36, 37, 38, 39, 40, 41, 42, 43, 44, 45, 46, 47, 48, 49, 50, 51, 52, 53, 54, 55, 56, 57, 58, 59, 60] (by decide) rfl) hS (lv_sub hl [2, 3, 1, 0, 4] rfl)
  have C38 : ∀ (v1 : Int32) (v2 : Int32) (v3 : Int32) (v4 : Int32) (tm : OB) (rz : Nat → OB), lp (b_X8_ruled_38 F xi xrr si rm nt) F (v1, v2, v3, v4, tm, rz) = some res → ∀ (H : Heap) (locs : List Loc) (ls : Array Slot), va_P D vwCl ([((xo 0), .inr (6, [.ref (ta 0), .ref xr, .int (xi 2), .ref (sa 0), .ref xm, .ref xg, .ref (tr 0), .ref xs, .ref xp, .ref xq, .ref xe, .ref xt]))] ++ ([(xr, hcR k 6 xrr)] ++ ([((sa 0), .inr (4, [.ref (xa 0), .ref (ca 0), .ref (na 0), .int (si 3), .int (si 4)]))] ++ (rmW k xa rm ++ (ntW k na nt ++ (rmW k tr tm ++ (RU k ra rz))))))) H → va_D A ([((xo 0), .inr (6, [.ref (ta 0), .ref xr, .int (xi 2), .ref (sa 0), .ref xm, .ref xg, .ref (tr 0), .ref xs, .ref xp, .ref xq, .ref xe, .ref xt]))] ++ ([(xr, hcR k 6 xrr)] ++ ([((sa 0), .inr (4, [.ref (xa 0), .ref (ca 0), .ref (na 0), .int (si 3), .int (si 4)]))] ++ (rmW k xa rm ++ (ntW k na nt ++ (rmW k tr tm ++ (RU k ra rz))))))) → va_S A s.heap H locs → lv_has ls 5 [(0, .ref (xo 0)), (1, .int v1), (2, .int v2), (3, .int v3), (4, .int v4)] → W p l e (rmK 7 0 0) s m (List.toArray [.ref (xo 0), .int x1]) below meth c H locs 0 0 (MQ below (va_Qi (fun r (_ : Unit) => r = res.1) (hcB D (fun _ : Unit => [((xo 0), .inr (6, [.ref (ta 0), .ref xr, .int (xi 2), .ref (sa 0), .ref xm, .ref xg, .ref (tr 0), .ref xs, .ref xp, .ref xq, .ref xe, .ref xt]))] ++ ([(xr, hcR k 6 xrr)] ++ ([((sa 0), .inr (4, [.ref (xa 0), .ref (ca 0), .ref (na 0), .int (si 3), .int (si 4)]))] ++ (rmW k xa rm ++ (ntW k na nt ++ (rmW k tr res.2.1 ++ (RU k ra res.2.2))))))) A) A) (List.toArray [.ref (xo 0), .int x1]) s 0 0 A) (F0 m 38 ls []) := fun v1 v2 v3 v4 tm rz => B38 (v1, v2, v3, v4, tm, rz)
  refine lv_aload_n hx hb dX8_ruled_0 rfl (lv_at hl 0 rfl) ?_
  refine va_get (D := D) (ci := 6) (v := .ref (sa 0)) (C := RX8) (T := TX8) (N := 12) hx hb hts in8 hown hG.1 hP 0 rfl rfl 3 (by decide) (hts (.fieldLink RX8 29 "ChairCane" "now" "LChairCane$Standing;") (by decide +kernel)) (fun _ h9 => h9) rfl dX8_ruled_1 ?_
  refine va_get (D := D) (ci := 4) (v := .ref (xa 0)) (C := RX6) (T := TX6) (N := 5) hx hb hts in6 hown hG.1 hP 2 rfl rfl 0 (by decide) (hts (.fieldLink RX8 81 "ChairCane$Standing" "room" "LChairCane$Room;") (by decide +kernel)) (fun _ h9 => h9) rfl dX8_ruled_4 ?_
  refine va_get (D := D) (ci := 2) (v := .int (rm.1 0)) (C := RX3) (T := TX3) (N := 17) hx hb hts in3 hown hG.1 hP 3 rfl rfl 0 (by decide) (hts (.fieldLink RX8 150 "ChairCane$Room" "told" "Z") (by decide +kernel)) (fun _ h9 => h9) rfl dX8_ruled_7 ?_
  refine lv_if_eq (tgt := 22) hx hb dX8_ruled_10 (by decide) (fun c6 => ?_) (fun c6 => ?_)
  · have h := fw_t c6 h
    exact B22 _ _ _ _ _ h hP hD hS (lv_sub hl [] rfl)
  · have h := fw_f c6 h
    refine lv_iload_n hx hb dX8_ruled_13 rfl (lv_at hl 1 rfl) ?_
    refine lv_if_lt (tgt := 22) hx hb dX8_ruled_14 (by decide) (fun c7 => ?_) (fun c7 => ?_)
    · have h := fw_t c7 h
      exact B22 _ _ _ _ _ h hP hD hS (lv_sub hl [] rfl)
    · have h := fw_f c7 h
      refine lv_iload_n hx hb dX8_ruled_17 rfl (lv_at hl 1 rfl) ?_
      refine lv_iconst (v := 1) hx hb dX8_ruled_18 (by decide) ?_
      refine lv_icmp_le (tgt := 25) hx hb dX8_ruled_19 (by decide) (fun c8 => ?_) (fun c8 => ?_)
      · have h := fw_t c8 h
        refine lv_iconst (v := 0) hx hb dX8_ruled_25 (by decide) ?_
        refine lv_istore_n (lv' := [(2, .int 0), (0, .ref (xo 0)), (1, .int x1)]) hx hb dX8_ruled_26 rfl hl (by decide) rfl (fun ls hl => ?_)
        refine lv_bipush (v := (-2)) hx hb dX8_ruled_27 (by decide) ?_
        refine lv_istore_n (lv' := [(3, .int (-2)), (2, .int 0), (0, .ref (xo 0)), (1, .int x1)]) hx hb dX8_ruled_29 rfl hl (by decide) rfl (fun ls hl => ?_)
        refine lv_aload_n hx hb dX8_ruled_30 rfl (lv_at hl 2 rfl) ?_
        refine va_get (D := D) (ci := 6) (v := .int (xi 2)) (C := RX8) (T := TX8) (N := 12) hx hb hts in8 hown hG.1 hP 0 rfl rfl 2 (by decide) (hts (.fieldLink RX8 22 "ChairCane" "ruleCount" "I") (by decide +kernel)) (fun _ h9 => h9) rfl dX8_ruled_31 ?_
        refine lv_iconst (v := 1) hx hb dX8_ruled_34 (by decide) ?_
        refine lv_isub hx hb dX8_ruled_35 ?_
        refine lv_istore (lv' := [(4, .int ((xi 2) - 1)), (3, .int (-2)), (2, .int 0), (0, .ref (xo 0)), (1, .int x1)]) hx hb dX8_ruled_36 hl (by decide) rfl (fun ls hl => ?_)
        exact C38 _ _ _ _ _ _ h _ _ _ hP hD hS (lv_sub hl [3, 4, 2, 1, 0] rfl)
      · have h := fw_f c8 h
        exact B22 _ _ _ _ _ h hP hD hS (lv_sub hl [] rfl)
def b_X8_tallyStates_99 (F : Nat)  (xi : Nat → Int32) (xrr : Nat → Option Nat) (si : Nat → Int32) (rm : OB) (nt : OB) (k12 : (Int32 × Int32 × Int32 × OB × (Nat → Int32) × (Nat → OB)) → Option (Int32 × OB × (Nat → Int32) × (Nat → OB))) (v1 : Int32) (v2 : Int32) (v3 : Int32) (tm : OB) (xtr : Nat → Int32) (rz : Nat → OB) : Option (Int32 × OB × (Nat → Int32) × (Nat → OB)) :=
  k12 (v1, v2, (v3 + 1), tm, xtr, rz)
def b_X8_tallyStates_58 (F : Nat)  (xi : Nat → Int32) (xrr : Nat → Option Nat) (si : Nat → Int32) (rm : OB) (nt : OB) (k12 : (Int32 × Int32 × Int32 × OB × (Nat → Int32) × (Nat → OB)) → Option (Int32 × OB × (Nat → Int32) × (Nat → OB))) (k58 : (Int32 × Int32 × Int32 × Int32 × OB × (Nat → Int32) × (Nat → OB)) → Option (Int32 × OB × (Nat → Int32) × (Nat → OB))) (a58 : (Int32 × Int32 × Int32 × Int32 × OB × (Nat → Int32) × (Nat → OB))) : Option (Int32 × OB × (Nat → Int32) × (Nat → OB)) :=
  if (a58.2.2.2.2.1.1 3) ≤ a58.2.2.2.1 then (b_X8_tallyStates_99 F xi xrr si rm nt k12 a58.1 a58.2.1 a58.2.2.1 a58.2.2.2.2.1 a58.2.2.2.2.2.1 a58.2.2.2.2.2.2) else (Option.bind (f_X3_stateOf F a58.2.2.2.1 a58.2.2.2.2.1) (fun q2 => (if ib ((a58.2.2.2.1 * 3) + q2) 24 then (k58 (a58.1, a58.2.1, a58.2.2.1, (a58.2.2.2.1 + 1), a58.2.2.2.2.1, (upd a58.2.2.2.2.2.1 (Int32.toNatClampNeg ((a58.2.2.2.1 * 3) + q2)) ((a58.2.2.2.2.2.1 (Int32.toNatClampNeg ((a58.2.2.2.1 * 3) + q2))) + 1)), a58.2.2.2.2.2.2)) else none)))
def b_X8_tallyStates_12 (F : Nat)  (xi : Nat → Int32) (xrr : Nat → Option Nat) (si : Nat → Int32) (rm : OB) (nt : OB)  (k12 : (Int32 × Int32 × Int32 × OB × (Nat → Int32) × (Nat → OB)) → Option (Int32 × OB × (Nat → Int32) × (Nat → OB))) (a12 : (Int32 × Int32 × Int32 × OB × (Nat → Int32) × (Nat → OB))) : Option (Int32 × OB × (Nat → Int32) × (Nat → OB)) :=
  if (xi 2) ≤ a12.2.2.1 then (some (a12.2.1, a12.2.2.2.1, a12.2.2.2.2.1, a12.2.2.2.2.2)) else (Option.bind (f_X8_ruleAt F a12.2.2.1 xi xrr) (fun q5 => (Option.bind (f_X8_notesHold F q5 (-1) (-1) xi si rm nt a12.2.2.2.1 a12.2.2.2.2.2) (fun q6 => (if q6.1 = 0 then (b_X8_tallyStates_99 F xi xrr si rm nt k12 a12.1 a12.2.1 a12.2.2.1 q6.2.1 a12.2.2.2.2.1 q6.2.2) else (Option.bind (f_X8_beginAnew F xi si rm q6.2.1) (fun q8 => (Option.bind (f_X3_passMinutes F a12.1 q5 q8 q6.2.2) (fun q9 => (lp (b_X8_tallyStates_58 F xi xrr si rm nt k12) F (a12.1, (a12.2.1 + 1), a12.2.2.1, 0, q9.1, a12.2.2.2.2.1, q9.2)))))))))))
def f_X8_tallyStates (F : Nat)  (x1 : Int32) (xi : Nat → Int32) (xrr : Nat → Option Nat) (si : Nat → Int32) (rm : OB) (nt : OB) (tm : OB) (xtr : Nat → Int32) (rz : Nat → OB) : Option (Int32 × OB × (Nat → Int32) × (Nat → OB)) :=
  Option.bind (f_J7_fill_53178 F 24 0 xtr) (fun q10 => (lp (b_X8_tallyStates_12 F xi xrr si rm nt) F (x1, 0, (-1), tm, q10, rz)))
set_option maxHeartbeats 4000000 in
set_option maxRecDepth 100000 in
theorem c_X8_tallyStates (l : Launch) (D : va_G) (k : Nat → ClassId) (sz : Nat)  (xo : Nat → Nat) (ta : Nat → Nat) (xr : Nat) (sa : Nat → Nat) (xm : Nat) (xg : Nat) (tr : Nat → Nat) (xs : Nat) (xp : Nat) (xq : Nat) (xe : Nat) (xt : Nat) (xa : Nat → Nat) (ca : Nat → Nat) (na : Nat → Nat) (ra : Nat → Nat) (F : Nat)  (x1 : Int32) (xi : Nat → Int32) (xrr : Nat → Option Nat) (si : Nat → Int32) (rm : OB) (nt : OB) (tm : OB) (xtr : Nat → Int32) (rz : Nat → OB) (hq : ∀ i, i < 6 → xrr i = some (ra (6 * i))) {res : Int32 × OB × (Nat → Int32) × (Nat → OB)} (h : f_X8_tallyStates F x1 xi xrr si rm nt tm xtr rz = some res) : CtI l yX8_tallyStates wsX8_tallyStates (rmK 7 0 0) [.ref (xo 0), .int x1] D k sz ([((xo 0), .inr (6, [.ref (ta 0), .ref xr, .int (xi 2), .ref (sa 0), .ref xm, .ref xg, .ref (tr 0), .ref xs, .ref xp, .ref xq, .ref xe, .ref xt]))] ++ ([(xr, hcR k 6 xrr)] ++ ([((sa 0), .inr (4, [.ref (xa 0), .ref (ca 0), .ref (na 0), .int (si 3), .int (si 4)]))] ++ (rmW k xa rm ++ (ntW k na nt ++ (rmW k tr tm ++ ([(xt, hcI k 24 xtr)] ++ (RU k ra rz)))))))) (fun r (_ : Unit) => r = res.1) (fun _ : Unit => [((xo 0), .inr (6, [.ref (ta 0), .ref xr, .int (xi 2), .ref (sa 0), .ref xm, .ref xg, .ref (tr 0), .ref xs, .ref xp, .ref xq, .ref xe, .ref xt]))] ++ ([(xr, hcR k 6 xrr)] ++ ([((sa 0), .inr (4, [.ref (xa 0), .ref (ca 0), .ref (na 0), .int (si 3), .int (si 4)]))] ++ (rmW k xa rm ++ (ntW k na nt ++ (rmW k tr res.2.1 ++ ([(xt, hcI k 24 res.2.2.1)] ++ (RU k ra res.2.2.2)))))))) 0 0 := by
  refine CtI.mk (cc := cX8_tallyStates) (maxL := 6) (ret := (some .int)) (by decide) rfl (Nat.le_of_ble_eq_true rfl) ?_
  intro p e s m below meth c A ls E hP hD hS hl
  obtain ⟨hx, hb, hr, hml, hown, hts, hlocks, hin, hG, hA⟩ := E
  have hown : s.vm.findClass RX8 = some m.cls := hown
  have in2 : ∀ w ∈ u_ws RX2 TX2 4, w ∈ wsX8_tallyStates := fun _ h => List.mem_cons_of_mem _ (List.mem_append_left _ (List.mem_append_right _ h))
  have in3 : ∀ w ∈ u_ws RX3 TX3 17, w ∈ wsX8_tallyStates := fun _ h => List.mem_cons_of_mem _ (List.mem_append_left _ (List.mem_append_left _ (List.mem_append_left _ (List.mem_append_right _ h))))
  have in4 : ∀ w ∈ u_ws RX4 TX4 8, w ∈ wsX8_tallyStates := fun _ h => List.mem_cons_of_mem _ (List.mem_append_right _ h)
  have in6 : ∀ w ∈ u_ws RX6 TX6 5, w ∈ wsX8_tallyStates := fun _ h => List.mem_cons_of_mem _ (List.mem_append_left _ (List.mem_append_left _ (List.mem_append_right _ h)))
  have in8 : ∀ w ∈ u_ws RX8 TX8 12, w ∈ wsX8_tallyStates := fun _ h => List.mem_cons_of_mem _ (List.mem_append_left _ (List.mem_append_left _ (List.mem_append_left _ (List.mem_append_left _ (List.mem_append_right _ h)))))
  have hl : lv_has ls 6 [(0, .ref (xo 0)), (1, .int x1)] := hl
  have B12 : ∀ a12 : (Int32 × Int32 × Int32 × OB × (Nat → Int32) × (Nat → OB)), lp (b_X8_tallyStates_12 F xi xrr si rm nt) F a12 = some res → ∀ (H : Heap) (locs : List Loc) (ls : Array Slot), va_P D vwCl ([((xo 0), .inr (6, [.ref (ta 0), .ref xr, .int (xi 2), .ref (sa 0), .ref xm, .ref xg, .ref (tr 0), .ref xs, .ref xp, .ref xq, .ref xe, .ref xt]))] ++ ([(xr, hcR k 6 xrr)] ++ ([((sa 0), .inr (4, [.ref (xa 0), .ref (ca 0), .ref (na 0), .int (si 3), .int (si 4)]))] ++ (rmW k xa rm ++ (ntW k na nt ++ (rmW k tr a12.2.2.2.1 ++ ([(xt, hcI k 24 a12.2.2.2.2.1)] ++ (RU k ra a12.2.2.2.2.2)))))))) H → va_D A ([((xo 0), .inr (6, [.ref (ta 0), .ref xr, .int (xi 2), .ref (sa 0), .ref xm, .ref xg, .ref (tr 0), .ref xs, .ref xp, .ref xq, .ref xe, .ref xt]))] ++ ([(xr, hcR k 6 xrr)] ++ ([((sa 0), .inr (4, [.ref (xa 0), .ref (ca 0), .ref (na 0), .int (si 3), .int (si 4)]))] ++ (rmW k xa rm ++ (ntW k na nt ++ (rmW k tr a12.2.2.2.1 ++ ([(xt, hcI k 24 a12.2.2.2.2.1)] ++ (RU k ra a12.2.2.2.2.2)))))))) → va_S A s.heap H locs → lv_has ls 6 [(0, .ref (xo 0)), (1, .int a12.1), (2, .int a12.2.1), (3, .int a12.2.2.1)] → W p l e (rmK 7 0 0) s m (List.toArray [.ref (xo 0), .int x1]) below meth c H locs 0 0 (MQ below (va_Qi (fun r (_ : Unit) => r = res.1) (hcB D (fun _ : Unit => [((xo 0), .inr (6, [.ref (ta 0), .ref xr, .int (xi 2), .ref (sa 0), .ref xm, .ref xg, .ref (tr 0), .ref xs, .ref xp, .ref xq, .ref xe, .ref xt]))] ++ ([(xr, hcR k 6 xrr)] ++ ([((sa 0), .inr (4, [.ref (xa 0), .ref (ca 0), .ref (na 0), .int (si 3), .int (si 4)]))] ++ (rmW k xa rm ++ (ntW k na nt ++ (rmW k tr res.2.1 ++ ([(xt, hcI k 24 res.2.2.1)] ++ (RU k ra res.2.2.2)))))))) A) A) (List.toArray [.ref (xo 0), .int x1]) s 0 0 A) (F0 m 12 ls []) := by
    refine lp_W ?_ F
    intro k12 hk12 a12 h H locs ls hP hD hS hl
    have hc12 : ∀ (v1 : Int32) (v2 : Int32) (v3 : Int32) (tm : OB) (xtr : Nat → Int32) (rz : Nat → OB), k12 (v1, v2, v3, tm, xtr, rz) = some res → ∀ (H : Heap) (locs : List Loc) (ls : Array Slot), va_P D vwCl ([((xo 0), .inr (6, [.ref (ta 0), .ref xr, .int (xi 2), .ref (sa 0), .ref xm, .ref xg, .ref (tr 0), .ref xs, .ref xp, .ref xq, .ref xe, .ref xt]))] ++ ([(xr, hcR k 6 xrr)] ++ ([((sa 0), .inr (4, [.ref (xa 0), .ref (ca 0), .ref (na 0), .int (si 3), .int (si 4)]))] ++ (rmW k xa rm ++ (ntW k na nt ++ (rmW k tr tm ++ ([(xt, hcI k 24 xtr)] ++ (RU k ra rz)))))))) H → va_D A ([((xo 0), .inr (6, [.ref (ta 0), .ref xr, .int (xi 2), .ref (sa 0), .ref xm, .ref xg, .ref (tr 0), .ref xs, .ref xp, .ref xq, .ref xe, .ref xt]))] ++ ([(xr, hcR k 6 xrr)] ++ ([((sa 0), .inr (4, [.ref (xa 0), .ref (ca 0), .ref (na 0), .int (si 3), .int (si 4)]))] ++ (rmW k xa rm ++ (ntW k na nt ++ (rmW k tr tm ++ ([(xt, hcI k 24 xtr)] ++ (RU k ra rz)))))))) → va_S A s.heap H locs → lv_has ls 6 [(0, .ref (xo 0)), (1, .int v1), (2, .int v2), (3, .int v3)] → W p l e (rmK 7 0 0) s m (List.toArray [.ref (xo 0), .int x1]) below meth c H locs 0 0 (MQ below (va_Qi (fun r (_ : Unit) => r = res.1) (hcB D (fun _ : Unit => [((xo 0), .inr (6, [.ref (ta 0), .ref xr, .int (xi 2), .ref (sa 0), .ref xm, .ref xg, .ref (tr 0), .ref xs, .ref xp, .ref xq, .ref xe, .ref xt]))] ++ ([(xr, hcR k 6 xrr)] ++ ([((sa 0), .inr (4, [.ref (xa 0), .ref (ca 0), .ref (na 0), .int (si 3), .int (si 4)]))] ++ (rmW k xa rm ++ (ntW k na nt ++ (rmW k tr res.2.1 ++ ([(xt, hcI k 24 res.2.2.1)] ++ (RU k ra res.2.2.2)))))))) A) A) (List.toArray [.ref (xo 0), .int x1]) s 0 0 A) (F0 m 12 ls []) := fun v1 v2 v3 tm xtr rz => hk12 (v1, v2, v3, tm, xtr, rz)
    have B99 : ∀ (v1 : Int32) (v2 : Int32) (v3 : Int32) (tm : OB) (xtr : Nat → Int32) (rz : Nat → OB) (H : Heap) (locs : List Loc) (ls : Array Slot), b_X8_tallyStates_99 F xi xrr si rm nt k12 v1 v2 v3 tm xtr rz = some res → va_P D vwCl ([((xo 0), .inr (6, [.ref (ta 0), .ref xr, .int (xi 2), .ref (sa 0), .ref xm, .ref xg, .ref (tr 0), .ref xs, .ref xp, .ref xq, .ref xe, .ref xt]))] ++ ([(xr, hcR k 6 xrr)] ++ ([((sa 0), .inr (4, [.ref (xa 0), .ref (ca 0), .ref (na 0), .int (si 3), .int (si 4)]))] ++ (rmW k xa rm ++ (ntW k na nt ++ (rmW k tr tm ++ ([(xt, hcI k 24 xtr)] ++ (RU k ra rz)))))))) H → va_D A ([((xo 0), .inr (6, [.ref (ta 0), .ref xr, .int (xi 2), .ref (sa 0), .ref xm, .ref xg, .ref (tr 0), .ref xs, .ref xp, .ref xq, .ref xe, .ref xt]))] ++ ([(xr, hcR k 6 xrr)] ++ ([((sa 0), .inr (4, [.ref (xa 0), .ref (ca 0), .ref (na 0), .int (si 3), .int (si 4)]))] ++ (rmW k xa rm ++ (ntW k na nt ++ (rmW k tr tm ++ ([(xt, hcI k 24 xtr)] ++ (RU k ra rz)))))))) → va_S A s.heap H locs → lv_has ls 6 [(0, .ref (xo 0)), (1, .int v1), (2, .int v2), (3, .int v3)] → W p l e (rmK 7 0 0) s m (List.toArray [.ref (xo 0), .int x1]) below meth c H locs 0 0 (MQ below (va_Qi (fun r (_ : Unit) => r = res.1) (hcB D (fun _ : Unit => [((xo 0), .inr (6, [.ref (ta 0), .ref xr, .int (xi 2), .ref (sa 0), .ref xm, .ref xg, .ref (tr 0), .ref xs, .ref xp, .ref xq, .ref xe, .ref xt]))] ++ ([(xr, hcR k 6 xrr)] ++ ([((sa 0), .inr (4, [.ref (xa 0), .ref (ca 0), .ref (na 0), .int (si 3), .int (si 4)]))] ++ (rmW k xa rm ++ (ntW k na nt ++ (rmW k tr res.2.1 ++ ([(xt, hcI k 24 res.2.2.1)] ++ (RU k ra res.2.2.2)))))))) A) A) (List.toArray [.ref (xo 0), .int x1]) s 0 0 A) (F0 m 99 ls []) := by
      intro v1 v2 v3 tm xtr rz H locs ls h hP hD hS hl
      refine lv_iinc (v := (v3 + 1)) (lv' := [(3, .int (v3 + 1)), (0, .ref (xo 0)), (1, .int v1), (2, .int v2)]) hx hb dX8_tallyStates_99 hl (k := 3) rfl rfl (by decide) rfl (fun ls hl => ?_)
      refine lv_goto (tgt := 12) hx hb dX8_tallyStates_102 (by decide) ?_
      exact hc12 _ _ _ _ _ _ h _ _ _ hP hD hS (lv_sub hl [1, 2, 3, 0] rfl)
    have B58 : ∀ a58 : (Int32 × Int32 × Int32 × Int32 × OB × (Nat → Int32) × (Nat → OB)), lp (b_X8_tallyStates_58 F xi xrr si rm nt k12) F a58 = some res → ∀ (H : Heap) (locs : List Loc) (ls : Array Slot), va_P D vwCl ([((xo 0), .inr (6, [.ref (ta 0), .ref xr, .int (xi 2), .ref (sa 0), .ref xm, .ref xg, .ref (tr 0), .ref xs, .ref xp, .ref xq, .ref xe, .ref xt]))] ++ ([(xr, hcR k 6 xrr)] ++ ([((sa 0), .inr (4, [.ref (xa 0), .ref (ca 0), .ref (na 0), .int (si 3), .int (si 4)]))] ++ (rmW k xa rm ++ (ntW k na nt ++ (rmW k tr a58.2.2.2.2.1 ++ ([(xt, hcI k 24 a58.2.2.2.2.2.1)] ++ (RU k ra a58.2.2.2.2.2.2)))))))) H → va_D A ([((xo 0), .inr (6, [.ref (ta 0), .ref xr, .int (xi 2), .ref (sa 0), .ref xm, .ref xg, .ref (tr 0), .ref xs, .ref xp, .ref xq, .ref xe, .ref xt]))] ++ ([(xr, hcR k 6 xrr)] ++ ([((sa 0), .inr (4, [.ref (xa 0), .ref (ca 0), .ref (na 0), .int (si 3), .int (si 4)]))] ++ (rmW k xa rm ++ (ntW k na nt ++ (rmW k tr a58.2.2.2.2.1 ++ ([(xt, hcI k 24 a58.2.2.2.2.2.1)] ++ (RU k ra a58.2.2.2.2.2.2)))))))) → va_S A s.heap H locs → lv_has ls 6 [(0, .ref (xo 0)), (1, .int a58.1), (2, .int a58.2.1), (3, .int a58.2.2.1), (5, .int a58.2.2.2.1)] → W p l e (rmK 7 0 0) s m (List.toArray [.ref (xo 0), .int x1]) below meth c H locs 0 0 (MQ below (va_Qi (fun r (_ : Unit) => r = res.1) (hcB D (fun _ : Unit => [((xo 0), .inr (6, [.ref (ta 0), .ref xr, .int (xi 2), .ref (sa 0), .ref xm, .ref xg, .ref (tr 0), .ref xs, .ref xp, .ref xq, .ref xe, .ref xt]))] ++ ([(xr, hcR k 6 xrr)] ++ ([((sa 0), .inr (4, [.ref (xa 0), .ref (ca 0), .ref (na 0), .int (si 3), .int (si 4)]))] ++ (rmW k xa rm ++ (ntW k na nt ++ (rmW k tr res.2.1 ++ ([(xt, hcI k 24 res.2.2.1)] ++ (RU k ra res.2.2.2)))))))) A) A) (List.toArray [.ref (xo 0), .int x1]) s 0 0 A) (F0 m 58 ls []) := by
      refine lp_W ?_ F
      intro k58 hk58 a58 h H locs ls hP hD hS hl
      have hc58 : ∀ (v1 : Int32) (v2 : Int32) (v3 : Int32) (v5 : Int32) (tm : OB) (xtr : Nat → Int32) (rz : Nat → OB), k58 (v1, v2, v3, v5, tm, xtr, rz) = some res → ∀ (H : Heap) (locs : List Loc) (ls : Array Slot), va_P D vwCl ([((xo 0), .inr (6, [.ref (ta 0), .ref xr, .int (xi 2), .ref (sa 0), .ref xm, .ref xg, .ref (tr 0), .ref xs, .ref xp, .ref xq, .ref xe, .ref xt]))] ++ ([(xr, hcR k 6 xrr)] ++ ([((sa 0), .inr (4, [.ref (xa 0), .ref (ca 0), .ref (na 0), .int (si 3), .int (si 4)]))] ++ (rmW k xa rm ++ (ntW k na nt ++ (rmW k tr tm ++ ([(xt, hcI k 24 xtr)] ++ (RU k ra rz)))))))) H → va_D A ([((xo 0), .inr (6, [.ref (ta 0), .ref xr, .int (xi 2), .ref (sa 0), .ref xm, .ref xg, .ref (tr 0), .ref xs, .ref xp, .ref xq, .ref xe, .ref xt]))] ++ ([(xr, hcR k 6 xrr)] ++ ([((sa 0), .inr (4, [.ref (xa 0), .ref (ca 0), .ref (na 0), .int (si 3), .int (si 4)]))] ++ (rmW k xa rm ++ (ntW k na nt ++ (rmW k tr tm ++ ([(xt, hcI k 24 xtr)] ++ (RU k ra rz)))))))) → va_S A s.heap H locs → lv_has ls 6 [(0, .ref (xo 0)), (1, .int v1), (2, .int v2), (3, .int v3), (5, .int v5)] → W p l e (rmK 7 0 0) s m (List.toArray [.ref (xo 0), .int x1]) below meth c H locs 0 0 (MQ below (va_Qi (fun r (_ : Unit) => r = res.1) (hcB D (fun _ : Unit => [((xo 0), .inr (6, [.ref (ta 0), .ref xr, .int (xi 2), .ref (sa 0), .ref xm, .ref xg, .ref (tr 0), .ref xs, .ref xp, .ref xq, .ref xe, .ref xt]))] ++ ([(xr, hcR k 6 xrr)] ++ ([((sa 0), .inr (4, [.ref (xa 0), .ref (ca 0), .ref (na 0), .int (si 3), .int (si 4)]))] ++ (rmW k xa rm ++ (ntW k na nt ++ (rmW k tr res.2.1 ++ ([(xt, hcI k 24 res.2.2.1)] ++ (RU k ra res.2.2.2)))))))) A) A) (List.toArray [.ref (xo 0), .int x1]) s 0 0 A) (F0 m 58 ls []) := fun v1 v2 v3 v5 tm xtr rz => hk58 (v1, v2, v3, v5, tm, xtr, rz)
      refine lv_iload hx hb dX8_tallyStates_58 (lv_at hl 4 rfl) ?_
      refine lv_aload_n hx hb dX8_tallyStates_60 rfl (lv_at hl 0 rfl) ?_
      refine va_get (D := D) (ci := 6) (v := .ref (tr 0)) (C := RX8) (T := TX8) (N := 12) hx hb hts in8 hown hG.1 hP 0 rfl rfl 6 (by decide) (hts (.fieldLink RX8 44 "ChairCane" "trial" "LChairCane$Room;") (by decide +kernel)) (fun _ h9 => h9) rfl dX8_tallyStates_61 ?_
      refine va_get (D := D) (ci := 2) (v := .int (a58.2.2.2.2.1.1 3)) (C := RX3) (T := TX3) (N := 17) hx hb hts in3 hown hG.1 hP 16 rfl rfl 3 (by decide) (hts (.fieldLink RX8 104 "ChairCane$Room" "sitters" "I") (by decide +kernel)) (fun _ h9 => h9) rfl dX8_tallyStates_64 ?_
      refine lv_icmp_ge (tgt := 99) hx hb dX8_tallyStates_67 (by decide) (fun c1 => ?_) (fun c1 => ?_)
      · have h := fw_t c1 h
        exact B99 _ _ _ _ _ _ _ _ _ h hP hD hS (lv_sub hl [0, 1, 2, 3] rfl)
      · have h := fw_f c1 h
        refine lv_aload_n hx hb dX8_tallyStates_70 rfl (lv_at hl 0 rfl) ?_
        refine va_get (D := D) (ci := 6) (v := .ref xt) (C := RX8) (T := TX8) (N := 12) hx hb hts in8 hown hG.1 hP 0 rfl rfl 11 (by decide) (hts (.fieldLink RX8 61 "ChairCane" "tally" "[I") (by decide +kernel)) (fun _ h9 => h9) rfl dX8_tallyStates_71 ?_
        refine lv_iload hx hb dX8_tallyStates_74 (lv_at hl 4 rfl) ?_
        refine lv_iconst (v := 3) hx hb dX8_tallyStates_76 (by decide) ?_
        refine lv_imul hx hb dX8_tallyStates_77 ?_
        refine lv_aload_n hx hb dX8_tallyStates_78 rfl (lv_at hl 0 rfl) ?_
        refine va_get (D := D) (ci := 6) (v := .ref (tr 0)) (C := RX8) (T := TX8) (N := 12) hx hb hts in8 hown hG.1 hP 0 rfl rfl 6 (by decide) (hts (.fieldLink RX8 44 "ChairCane" "trial" "LChairCane$Room;") (by decide +kernel)) (fun _ h9 => h9) rfl dX8_tallyStates_79 ?_
        refine lv_iload hx hb dX8_tallyStates_82 (lv_at hl 4 rfl) ?_
        refine fw_Vi (As := [.int a58.2.2.2.1]) (rest := [.int (a58.2.2.2.1 * 3), .ref xt]) (n := 1) (wr := [((xo 0), .inr (6, [.ref (ta 0), .ref xr, .int (xi 2), .ref (sa 0), .ref xm, .ref xg, .ref (tr 0), .ref xs, .ref xp, .ref xq, .ref xe, .ref xt]))] ++ ([(xr, hcR k 6 xrr)] ++ ([((sa 0), .inr (4, [.ref (xa 0), .ref (ca 0), .ref (na 0), .int (si 3), .int (si 4)]))] ++ (rmW k xa rm ++ (ntW k na nt ++ ([(xt, hcI k 24 a58.2.2.2.2.2.1)] ++ (RU k ra a58.2.2.2.2.2.2))))))) (rv := fun b : Int32 => b) (wp := fun b : Int32 => rmW k tr a58.2.2.2.2.1) h hx hb hml hown hts hG hA hP hD hS hl.1 [16, 17, 18, 19, 20, 21, 22, 23, 24] [0, 1, 2, 3, 4, 5, 6, 7, 8, 9, 10, 11, 12, 13, 14, 15, 25, 26, 27, 28, 29, 30, 31, 32, 33, 34, 35, 36, 37, 38, 39, 40, 41, 42, 43, 44, 45, 46, 47, 48, 49, 50, 51, 52, 53, 54, 55, 56, 57, 58, 59, 60, 61] (fun q hq9 => c_X3_stateOf l D k _  tr F a58.2.2.2.1 a58.2.2.2.2.1  hq9) (ci := 2) (q0 := 16) rfl rfl gX8_tallyStates_X3_stateOf rfl ⟨rfl, rfl, Nat.le_of_ble_eq_true rfl, Nat.le_of_ble_eq_true rfl⟩ (by decide +kernel) rfl rfl ⟨by decide, by decide, by decide⟩ ⟨rfl, rfl, Nat.le_of_ble_eq_true rfl, Nat.le_of_ble_eq_true rfl, Nat.le_of_ble_eq_true rfl⟩ dX8_tallyStates_84 (fun q2 H locs h hP hD hS => ?_)
        have hP : va_P D vwCl ([((xo 0), .inr (6, [.ref (ta 0), .ref xr, .int (xi 2), .ref (sa 0), .ref xm, .ref xg, .ref (tr 0), .ref xs, .ref xp, .ref xq, .ref xe, .ref xt]))] ++ ([(xr, hcR k 6 xrr)] ++ ([((sa 0), .inr (4, [.ref (xa 0), .ref (ca 0), .ref (na 0), .int (si 3), .int (si 4)]))] ++ (rmW k xa rm ++ (ntW k na nt ++ ([(xt, hcI k 24 a58.2.2.2.2.2.1)] ++ (RU k ra a58.2.2.2.2.2.2 ++ (rmW k tr a58.2.2.2.2.1)))))))) H := hP
        have hD : va_D A ([((xo 0), .inr (6, [.ref (ta 0), .ref xr, .int (xi 2), .ref (sa 0), .ref xm, .ref xg, .ref (tr 0), .ref xs, .ref xp, .ref xq, .ref xe, .ref xt]))] ++ ([(xr, hcR k 6 xrr)] ++ ([((sa 0), .inr (4, [.ref (xa 0), .ref (ca 0), .ref (na 0), .int (si 3), .int (si 4)]))] ++ (rmW k xa rm ++ (ntW k na nt ++ ([(xt, hcI k 24 a58.2.2.2.2.2.1)] ++ (RU k ra a58.2.2.2.2.2.2 ++ (rmW k tr a58.2.2.2.2.1)))))))) := hD
        refine hc_is (z := q2) rfl ?_
        refine lv_iadd hx hb dX8_tallyStates_87 ?_
        refine lv_dup2_11 hx hb dX8_tallyStates_88 rfl rfl ?_
        obtain ⟨g3, h⟩ := fw_g h
        refine va_iald hx hb hG.1 hP 16 0 rfl rfl (ib_vp g3) dX8_tallyStates_89 ?_
        refine lv_iconst (v := 1) hx hb dX8_tallyStates_90 (by decide) ?_
        refine lv_iadd hx hb dX8_tallyStates_91 ?_
        refine va_iast hx hb hG.1 hP hD hS 16 0 rfl rfl (ib_vp g3) dX8_tallyStates_92 (fun H locs hP hD hS => ?_)
        refine lv_iinc (v := (a58.2.2.2.1 + 1)) (lv' := [(5, .int (a58.2.2.2.1 + 1)), (0, .ref (xo 0)), (1, .int a58.1), (2, .int a58.2.1), (3, .int a58.2.2.1)]) hx hb dX8_tallyStates_93 hl (k := 4) rfl rfl (by decide) rfl (fun ls hl => ?_)
        refine lv_goto (tgt := 58) hx hb dX8_tallyStates_96 (by decide) ?_
        exact hc58 _ _ _ _ _ _ _ h _ _ _ (hP.sub [0, 1, 2, 3, 4, 5, 6, 7, 8, 9, 10, 11, 12, 13, 14, 15, 53, 54, 55, 56, 57, 58, 59, 60, 61, 16, 17, 18, 19, 20, 21, 22, 23, 24, 25, 26, 27, 28, 29, 30, 31, 32, 33, 34, 35, 36, 37, 38, 39, 40, 41, 42, 43, 44, 45, 46, 47, 48, 49, 50, 51, 52] rfl) (hD.sub [0, 1, 2, 3, 4, 5, 6, 7, 8, 9, 10, 11, 12, 13, 14, 15, 53, 54, 55, 56, 57, 58, 59, 60, 61, 16, 17, 18, 19, 20, 21, 22, 23, 24, 25, 26, 27, 28, 29, 30, 31, 32, 33, 34, 35, 36, 37, 38, 39, 40, 41, 42, 43, 44, 45, 46, 47, 48, 49, 50, 51, 52] (by decide) rfl) hS (lv_sub hl [1, 2, 3, 4, 0] rfl)
    have C58 : ∀ (v1 : Int32) (v2 : Int32) (v3 : Int32) (v5 : Int32) (tm : OB) (xtr : Nat → Int32) (rz : Nat → OB), lp (b_X8_tallyStates_58 F xi xrr si rm nt k12) F (v1, v2, v3, v5, tm, xtr, rz) = some res → ∀ (H : Heap) (locs : List Loc) (ls : Array Slot), va_P D vwCl ([((xo 0), .inr (6, [.ref (ta 0), .ref xr, .int (xi 2), .ref (sa 0), .ref xm, .ref xg, .ref (tr 0), .ref xs, .ref xp, .ref xq, .ref xe, .ref xt]))] ++ ([(xr, hcR k 6 xrr)] ++ ([((sa 0), .inr (4, [.ref (xa 0), .ref (ca 0), .ref (na 0), .int (si 3), .int (si 4)]))] ++ (rmW k xa rm ++ (ntW k na nt ++ (rmW k tr tm ++ ([(xt, hcI k 24 xtr)] ++ (RU k ra rz)))))))) H → va_D A ([((xo 0), .inr (6, [.ref (ta 0), .ref xr, .int (xi 2), .ref (sa 0), .ref xm, .ref xg, .ref (tr 0), .ref xs, .ref xp, .ref xq, .ref xe, .ref xt]))] ++ ([(xr, hcR k 6 xrr)] ++ ([((sa 0), .inr (4, [.ref (xa 0), .ref (ca 0), .ref (na 0), .int (si 3), .int (si 4)]))] ++ (rmW k xa rm ++ (ntW k na nt ++ (rmW k tr tm ++ ([(xt, hcI k 24 xtr)] ++ (RU k ra rz)))))))) → va_S A s.heap H locs → lv_has ls 6 [(0, .ref (xo 0)), (1, .int v1), (2, .int v2), (3, .int v3), (5, .int v5)] → W p l e (rmK 7 0 0) s m (List.toArray [.ref (xo 0), .int x1]) below meth c H locs 0 0 (MQ below (va_Qi (fun r (_ : Unit) => r = res.1) (hcB D (fun _ : Unit => [((xo 0), .inr (6, [.ref (ta 0), .ref xr, .int (xi 2), .ref (sa 0), .ref xm, .ref xg, .ref (tr 0), .ref xs, .ref xp, .ref xq, .ref xe, .ref xt]))] ++ ([(xr, hcR k 6 xrr)] ++ ([((sa 0), .inr (4, [.ref (xa 0), .ref (ca 0), .ref (na 0), .int (si 3), .int (si 4)]))] ++ (rmW k xa rm ++ (ntW k na nt ++ (rmW k tr res.2.1 ++ ([(xt, hcI k 24 res.2.2.1)] ++ (RU k ra res.2.2.2)))))))) A) A) (List.toArray [.ref (xo 0), .int x1]) s 0 0 A) (F0 m 58 ls []) := fun v1 v2 v3 v5 tm xtr rz => B58 (v1, v2, v3, v5, tm, xtr, rz)
    refine lv_iload_n hx hb dX8_tallyStates_12 rfl (lv_at hl 3 rfl) ?_
    refine lv_aload_n hx hb dX8_tallyStates_13 rfl (lv_at hl 0 rfl) ?_
    refine va_get (D := D) (ci := 6) (v := .int (xi 2)) (C := RX8) (T := TX8) (N := 12) hx hb hts in8 hown hG.1 hP 0 rfl rfl 2 (by decide) (hts (.fieldLink RX8 22 "ChairCane" "ruleCount" "I") (by decide +kernel)) (fun _ h9 => h9) rfl dX8_tallyStates_14 ?_
    refine lv_icmp_ge (tgt := 105) hx hb dX8_tallyStates_17 (by decide) (fun c4 => ?_) (fun c4 => ?_)
    · have h := fw_t c4 h
      refine lv_iload_n hx hb dX8_tallyStates_105 rfl (lv_at hl 2 rfl) ?_
      exact fw_endI (rv := fun b : Int32 × OB × (Nat → Int32) × (Nat → OB) => b.1) (wp := fun b : Int32 × OB × (Nat → Int32) × (Nat → OB) => [((xo 0), .inr (6, [.ref (ta 0), .ref xr, .int (xi 2), .ref (sa 0), .ref xm, .ref xg, .ref (tr 0), .ref xs, .ref xp, .ref xq, .ref xe, .ref xt]))] ++ ([(xr, hcR k 6 xrr)] ++ ([((sa 0), .inr (4, [.ref (xa 0), .ref (ca 0), .ref (na 0), .int (si 3), .int (si 4)]))] ++ (rmW k xa rm ++ (ntW k na nt ++ (rmW k tr b.2.1 ++ ([(xt, hcI k 24 b.2.2.1)] ++ (RU k ra b.2.2.2)))))))) hx hb hr hlocks h rfl hP hD hS dX8_tallyStates_106
    · have h := fw_f c4 h
      refine lv_aload_n hx hb dX8_tallyStates_20 rfl (lv_at hl 0 rfl) ?_
      refine lv_iload_n hx hb dX8_tallyStates_21 rfl (lv_at hl 3 rfl) ?_
      refine fw_Vq (As := [.int a12.2.2.1]) (rest := []) (n := 1) (wr := [((sa 0), .inr (4, [.ref (xa 0), .ref (ca 0), .ref (na 0), .int (si 3), .int (si 4)]))] ++ (rmW k xa rm ++ (ntW k na nt ++ (rmW k tr a12.2.2.2.1 ++ ([(xt, hcI k 24 a12.2.2.2.2.1)] ++ (RU k ra a12.2.2.2.2.2)))))) (rv := fun b : Int32 => rAd ra b) (wp := fun b : Int32 => [((xo 0), .inr (6, [.ref (ta 0), .ref xr, .int (xi 2), .ref (sa 0), .ref xm, .ref xg, .ref (tr 0), .ref xs, .ref xp, .ref xq, .ref xe, .ref xt]))] ++ ([(xr, hcR k 6 xrr)])) h hx hb hml hown hts hG hA hP hD hS hl.1 [0, 1] [2, 3, 4, 5, 6, 7, 8, 9, 10, 11, 12, 13, 14, 15, 16, 17, 18, 19, 20, 21, 22, 23, 24, 25, 26, 27, 28, 29, 30, 31, 32, 33, 34, 35, 36, 37, 38, 39, 40, 41, 42, 43, 44, 45, 46, 47, 48, 49, 50, 51, 52, 53, 54, 55, 56, 57, 58, 59, 60, 61] (fun q hq9 => c_X8_ruleAt l D k _  xo ta xr sa xm xg tr xs xp xq xe xt ra F a12.2.2.1 xi xrr hq hq9) (ci := 6) (q0 := 0) rfl rfl gX8_tallyStates_X8_ruleAt rfl ⟨rfl, rfl, Nat.le_of_ble_eq_true rfl, Nat.le_of_ble_eq_true rfl⟩ (by decide +kernel) rfl rfl ⟨by decide, by decide, by decide⟩ ⟨rfl, rfl, Nat.le_of_ble_eq_true rfl, Nat.le_of_ble_eq_true rfl, Nat.le_of_ble_eq_true rfl⟩ dX8_tallyStates_22 (fun q5 H locs h hP hD hS => ?_)
      have hP : va_P D vwCl ([((sa 0), .inr (4, [.ref (xa 0), .ref (ca 0), .ref (na 0), .int (si 3), .int (si 4)]))] ++ (rmW k xa rm ++ (ntW k na nt ++ (rmW k tr a12.2.2.2.1 ++ ([(xt, hcI k 24 a12.2.2.2.2.1)] ++ (RU k ra a12.2.2.2.2.2 ++ ([((xo 0), .inr (6, [.ref (ta 0), .ref xr, .int (xi 2), .ref (sa 0), .ref xm, .ref xg, .ref (tr 0), .ref xs, .ref xp, .ref xq, .ref xe, .ref xt]))] ++ ([(xr, hcR k 6 xrr)])))))))) H := hP
      have hD : va_D A ([((sa 0), .inr (4, [.ref (xa 0), .ref (ca 0), .ref (na 0), .int (si 3), .int (si 4)]))] ++ (rmW k xa rm ++ (ntW k na nt ++ (rmW k tr a12.2.2.2.1 ++ ([(xt, hcI k 24 a12.2.2.2.2.1)] ++ (RU k ra a12.2.2.2.2.2 ++ ([((xo 0), .inr (6, [.ref (ta 0), .ref xr, .int (xi 2), .ref (sa 0), .ref xm, .ref xg, .ref (tr 0), .ref xs, .ref xp, .ref xq, .ref xe, .ref xt]))] ++ ([(xr, hcR k 6 xrr)])))))))) := hD
      refine hc_isV (z := va_rf (rAd ra q5)) rfl ?_
      refine lv_astoreO (lv' := [(4, va_rf (rAd ra q5)), (0, .ref (xo 0)), (1, .int a12.1), (2, .int a12.2.1), (3, .int a12.2.2.1)]) hx hb dX8_tallyStates_25 hl (by decide) (by cases rAd ra q5 <;> rfl) (fun ls hl => ?_)
      refine lv_aload_n hx hb dX8_tallyStates_27 rfl (lv_at hl 1 rfl) ?_
      refine lv_aloadO hx hb dX8_tallyStates_28 (lv_at hl 0 rfl) ?_
      refine lv_iconst (v := (-1)) hx hb dX8_tallyStates_30 (by decide) ?_
      refine lv_iconst (v := (-1)) hx hb dX8_tallyStates_31 (by decide) ?_
      refine fw_Vi (As := [va_rf (rAd ra q5), .int (-1), .int (-1)]) (rest := []) (n := 3) (wr := [(xt, hcI k 24 a12.2.2.2.2.1)] ++ ([(xr, hcR k 6 xrr)])) (rv := fun b : Int32 × OB × (Nat → OB) => b.1) (wp := fun b : Int32 × OB × (Nat → OB) => [((xo 0), .inr (6, [.ref (ta 0), .ref xr, .int (xi 2), .ref (sa 0), .ref xm, .ref xg, .ref (tr 0), .ref xs, .ref xp, .ref xq, .ref xe, .ref xt]))] ++ ([((sa 0), .inr (4, [.ref (xa 0), .ref (ca 0), .ref (na 0), .int (si 3), .int (si 4)]))] ++ (rmW k xa rm ++ (ntW k na nt ++ (rmW k tr b.2.1 ++ (RU k ra b.2.2)))))) h hx hb hml hown hts hG hA hP hD hS hl.1 [60, 0, 1, 2, 3, 4, 5, 6, 7, 8, 9, 10, 11, 12, 13, 14, 15, 16, 17, 18, 19, 20, 21, 22, 24, 25, 26, 27, 28, 29, 30, 31, 32, 33, 34, 35, 36, 37, 38, 39, 40, 41, 42, 43, 44, 45, 46, 47, 48, 49, 50, 51, 52, 53, 54, 55, 56, 57, 58, 59] [23, 61] (fun q hq9 => c_X8_notesHold l D k _  xo ta xr sa xm xg tr xs xp xq xe xt xa ca na ra F q5 (-1) (-1) xi si rm nt a12.2.2.2.1 a12.2.2.2.2.2  hq9) (ci := 6) (q0 := 60) rfl rfl gX8_tallyStates_X8_notesHold rfl ⟨rfl, rfl, Nat.le_of_ble_eq_true rfl, Nat.le_of_ble_eq_true rfl⟩ (by decide +kernel) rfl rfl ⟨by decide, by decide, by decide⟩ ⟨rfl, rfl, Nat.le_of_ble_eq_true rfl, Nat.le_of_ble_eq_true rfl, Nat.le_of_ble_eq_true rfl⟩ dX8_tallyStates_32 (fun q6 H locs h hP hD hS => ?_)
      have hP : va_P D vwCl ([(xt, hcI k 24 a12.2.2.2.2.1)] ++ ([(xr, hcR k 6 xrr)] ++ ([((xo 0), .inr (6, [.ref (ta 0), .ref xr, .int (xi 2), .ref (sa 0), .ref xm, .ref xg, .ref (tr 0), .ref xs, .ref xp, .ref xq, .ref xe, .ref xt]))] ++ ([((sa 0), .inr (4, [.ref (xa 0), .ref (ca 0), .ref (na 0), .int (si 3), .int (si 4)]))] ++ (rmW k xa rm ++ (ntW k na nt ++ (rmW k tr q6.2.1 ++ (RU k ra q6.2.2)))))))) H := hP
      have hD : va_D A ([(xt, hcI k 24 a12.2.2.2.2.1)] ++ ([(xr, hcR k 6 xrr)] ++ ([((xo 0), .inr (6, [.ref (ta 0), .ref xr, .int (xi 2), .ref (sa 0), .ref xm, .ref xg, .ref (tr 0), .ref xs, .ref xp, .ref xq, .ref xe, .ref xt]))] ++ ([((sa 0), .inr (4, [.ref (xa 0), .ref (ca 0), .ref (na 0), .int (si 3), .int (si 4)]))] ++ (rmW k xa rm ++ (ntW k na nt ++ (rmW k tr q6.2.1 ++ (RU k ra q6.2.2)))))))) := hD
      refine hc_is (z := q6.1) rfl ?_
      refine lv_if_eq (tgt := 99) hx hb dX8_tallyStates_35 (by decide) (fun c7 => ?_) (fun c7 => ?_)
      · have h := fw_t c7 h
        exact B99 _ _ _ _ _ _ _ _ _ h (hP.sub [2, 1, 3, 4, 5, 6, 7, 8, 9, 10, 11, 12, 13, 14, 15, 16, 17, 18, 19, 20, 21, 22, 23, 24, 25, 0, 26, 27, 28, 29, 30, 31, 32, 33, 34, 35, 36, 37, 38, 39, 40, 41, 42, 43, 44, 45, 46, 47, 48, 49, 50, 51, 52, 53, 54, 55, 56, 57, 58, 59, 60, 61] rfl) (hD.sub [2, 1, 3, 4, 5, 6, 7, 8, 9, 10, 11, 12, 13, 14, 15, 16, 17, 18, 19, 20, 21, 22, 23, 24, 25, 0, 26, 27, 28, 29, 30, 31, 32, 33, 34, 35, 36, 37, 38, 39, 40, 41, 42, 43, 44, 45, 46, 47, 48, 49, 50, 51, 52, 53, 54, 55, 56, 57, 58, 59, 60, 61] (by decide) rfl) hS (lv_sub hl [1, 2, 3, 4] rfl)
      · have h := fw_f c7 h
        refine lv_iinc (v := (a12.2.1 + 1)) (lv' := [(2, .int (a12.2.1 + 1)), (4, va_rf (rAd ra q5)), (0, .ref (xo 0)), (1, .int a12.1), (3, .int a12.2.2.1)]) hx hb dX8_tallyStates_38 hl (k := 3) rfl rfl (by decide) (by cases rAd ra q5 <;> rfl) (fun ls hl => ?_)
        refine lv_aload_n hx hb dX8_tallyStates_41 rfl (lv_at hl 2 rfl) ?_
        refine fw_Vv (As := []) (rest := []) (n := 0) (wr := [(xt, hcI k 24 a12.2.2.2.2.1)] ++ ([(xr, hcR k 6 xrr)] ++ (ntW k na nt ++ (RU k ra q6.2.2)))) (wp := fun b : OB => [((xo 0), .inr (6, [.ref (ta 0), .ref xr, .int (xi 2), .ref (sa 0), .ref xm, .ref xg, .ref (tr 0), .ref xs, .ref xp, .ref xq, .ref xe, .ref xt]))] ++ ([((sa 0), .inr (4, [.ref (xa 0), .ref (ca 0), .ref (na 0), .int (si 3), .int (si 4)]))] ++ (rmW k xa rm ++ (rmW k tr b)))) h hx hb hml hown hts hG hA hP hD hS hl.1 [2, 3, 4, 5, 6, 7, 8, 9, 10, 11, 12, 17, 18, 19, 20, 21, 22, 23, 24, 25] [0, 1, 13, 14, 15, 16, 26, 27, 28, 29, 30, 31, 32, 33, 34, 35, 36, 37, 38, 39, 40, 41, 42, 43, 44, 45, 46, 47, 48, 49, 50, 51, 52, 53, 54, 55, 56, 57, 58, 59, 60, 61] (fun q hq9 => c_X8_beginAnew l D k _  xo ta xr sa xm xg tr xs xp xq xe xt xa ca na F  xi si rm q6.2.1  hq9) (ci := 6) (q0 := 2) rfl rfl gX8_tallyStates_X8_beginAnew rfl ⟨rfl, rfl, Nat.le_of_ble_eq_true rfl, Nat.le_of_ble_eq_true rfl⟩ (by decide +kernel) rfl rfl ⟨by decide, by decide, by decide⟩ ⟨rfl, rfl, Nat.le_of_ble_eq_true rfl, Nat.le_of_ble_eq_true rfl, Nat.le_of_ble_eq_true rfl⟩ dX8_tallyStates_42 (fun q8 H locs h hP hD hS => ?_)
        have hP : va_P D vwCl ([(xt, hcI k 24 a12.2.2.2.2.1)] ++ ([(xr, hcR k 6 xrr)] ++ (ntW k na nt ++ (RU k ra q6.2.2 ++ ([((xo 0), .inr (6, [.ref (ta 0), .ref xr, .int (xi 2), .ref (sa 0), .ref xm, .ref xg, .ref (tr 0), .ref xs, .ref xp, .ref xq, .ref xe, .ref xt]))] ++ ([((sa 0), .inr (4, [.ref (xa 0), .ref (ca 0), .ref (na 0), .int (si 3), .int (si 4)]))] ++ (rmW k xa rm ++ (rmW k tr q8)))))))) H := hP
        have hD : va_D A ([(xt, hcI k 24 a12.2.2.2.2.1)] ++ ([(xr, hcR k 6 xrr)] ++ (ntW k na nt ++ (RU k ra q6.2.2 ++ ([((xo 0), .inr (6, [.ref (ta 0), .ref xr, .int (xi 2), .ref (sa 0), .ref xm, .ref xg, .ref (tr 0), .ref xs, .ref xp, .ref xq, .ref xe, .ref xt]))] ++ ([((sa 0), .inr (4, [.ref (xa 0), .ref (ca 0), .ref (na 0), .int (si 3), .int (si 4)]))] ++ (rmW k xa rm ++ (rmW k tr q8)))))))) := hD
        refine lv_aload_n hx hb dX8_tallyStates_45 rfl (lv_at hl 2 rfl) ?_
        refine va_get (D := D) (ci := 6) (v := .ref (tr 0)) (C := RX8) (T := TX8) (N := 12) hx hb hts in8 hown hG.1 hP 42 rfl rfl 6 (by decide) (hts (.fieldLink RX8 44 "ChairCane" "trial" "LChairCane$Room;") (by decide +kernel)) (fun _ h9 => h9) rfl dX8_tallyStates_46 ?_
        refine lv_iload_n hx hb dX8_tallyStates_49 rfl (lv_at hl 3 rfl) ?_
        refine lv_aloadO hx hb dX8_tallyStates_50 (lv_at hl 1 rfl) ?_
        refine fw_Vv (As := [.int a12.1, va_rf (rAd ra q5)]) (rest := []) (n := 2) (wr := [(xt, hcI k 24 a12.2.2.2.2.1)] ++ ([(xr, hcR k 6 xrr)] ++ (ntW k na nt ++ ([((xo 0), .inr (6, [.ref (ta 0), .ref xr, .int (xi 2), .ref (sa 0), .ref xm, .ref xg, .ref (tr 0), .ref xs, .ref xp, .ref xq, .ref xe, .ref xt]))] ++ ([((sa 0), .inr (4, [.ref (xa 0), .ref (ca 0), .ref (na 0), .int (si 3), .int (si 4)]))] ++ (rmW k xa rm)))))) (wp := fun b : OB × (Nat → OB) => rmW k tr b.1 ++ (RU k ra b.2)) h hx hb hml hown hts hG hA hP hD hS hl.1 [53, 54, 55, 56, 57, 58, 59, 60, 61, 6, 7, 8, 9, 10, 11, 12, 13, 14, 15, 16, 17, 18, 19, 20, 21, 22, 23, 24, 25, 26, 27, 28, 29, 30, 31, 32, 33, 34, 35, 36, 37, 38, 39, 40, 41] [0, 1, 2, 3, 4, 5, 42, 43, 44, 45, 46, 47, 48, 49, 50, 51, 52] (fun q hq9 => c_X3_passMinutes l D k _  tr ra F a12.1 q5 q8 q6.2.2  hq9) (ci := 2) (q0 := 53) rfl rfl gX8_tallyStates_X3_passMinutes rfl ⟨rfl, rfl, Nat.le_of_ble_eq_true rfl, Nat.le_of_ble_eq_true rfl⟩ (by decide +kernel) rfl rfl ⟨by decide, by decide, by decide⟩ ⟨rfl, rfl, Nat.le_of_ble_eq_true rfl, Nat.le_of_ble_eq_true rfl, Nat.le_of_ble_eq_true rfl⟩ dX8_tallyStates_52 (fun q9 H locs h hP hD hS => ?_)
        have hP : va_P D vwCl ([(xt, hcI k 24 a12.2.2.2.2.1)] ++ ([(xr, hcR k 6 xrr)] ++ (ntW k na nt ++ ([((xo 0), .inr (6, [.ref (ta 0), .ref xr, .int (xi 2), .ref (sa 0), .ref xm, .ref xg, .ref (tr 0), .ref xs, .ref xp, .ref xq, .ref xe, .ref xt]))] ++ ([((sa 0), .inr (4, [.ref (xa 0), .ref (ca 0), .ref (na 0), .int (si 3), .int (si 4)]))] ++ (rmW k xa rm ++ (rmW k tr q9.1 ++ (RU k ra q9.2)))))))) H := hP
        have hD : va_D A ([(xt, hcI k 24 a12.2.2.2.2.1)] ++ ([(xr, hcR k 6 xrr)] ++ (ntW k na nt ++ ([((xo 0), .inr (6, [.ref (ta 0), .ref xr, .int (xi 2), .ref (sa 0), .ref xm, .ref xg, .ref (tr 0), .ref xs, .ref xp, .ref xq, .ref xe, .ref xt]))] ++ ([((sa 0), .inr (4, [.ref (xa 0), .ref (ca 0), .ref (na 0), .int (si 3), .int (si 4)]))] ++ (rmW k xa rm ++ (rmW k tr q9.1 ++ (RU k ra q9.2)))))))) := hD
        refine lv_iconst (v := 0) hx hb dX8_tallyStates_55 (by decide) ?_
        refine lv_istore (lv' := [(5, .int 0), (2, .int (a12.2.1 + 1)), (4, va_rf (rAd ra q5)), (0, .ref (xo 0)), (1, .int a12.1), (3, .int a12.2.2.1)]) hx hb dX8_tallyStates_56 hl (by decide) (by cases rAd ra q5 <;> rfl) (fun ls hl => ?_)
        exact C58 _ _ _ _ _ _ _ h _ _ _ (hP.sub [6, 1, 7, 8, 9, 10, 11, 12, 13, 14, 15, 16, 2, 3, 4, 5, 17, 18, 19, 20, 21, 22, 23, 24, 25, 0, 26, 27, 28, 29, 30, 31, 32, 33, 34, 35, 36, 37, 38, 39, 40, 41, 42, 43, 44, 45, 46, 47, 48, 49, 50, 51, 52, 53, 54, 55, 56, 57, 58, 59, 60, 61] rfl) (hD.sub [6, 1, 7, 8, 9, 10, 11, 12, 13, 14, 15, 16, 2, 3, 4, 5, 17, 18, 19, 20, 21, 22, 23, 24, 25, 0, 26, 27, 28, 29, 30, 31, 32, 33, 34, 35, 36, 37, 38, 39, 40, 41, 42, 43, 44, 45, 46, 47, 48, 49, 50, 51, 52, 53, 54, 55, 56, 57, 58, 59, 60, 61] (by decide) rfl) hS (lv_sub hl [3, 4, 1, 5, 0] rfl)
  have C12 : ∀ (v1 : Int32) (v2 : Int32) (v3 : Int32) (tm : OB) (xtr : Nat → Int32) (rz : Nat → OB), lp (b_X8_tallyStates_12 F xi xrr si rm nt) F (v1, v2, v3, tm, xtr, rz) = some res → ∀ (H : Heap) (locs : List Loc) (ls : Array Slot), va_P D vwCl ([((xo 0), .inr (6, [.ref (ta 0), .ref xr, .int (xi 2), .ref (sa 0), .ref xm, .ref xg, .ref (tr 0), .ref xs, .ref xp, .ref xq, .ref xe, .ref xt]))] ++ ([(xr, hcR k 6 xrr)] ++ ([((sa 0), .inr (4, [.ref (xa 0), .ref (ca 0), .ref (na 0), .int (si 3), .int (si 4)]))] ++ (rmW k xa rm ++ (ntW k na nt ++ (rmW k tr tm ++ ([(xt, hcI k 24 xtr)] ++ (RU k ra rz)))))))) H → va_D A ([((xo 0), .inr (6, [.ref (ta 0), .ref xr, .int (xi 2), .ref (sa 0), .ref xm, .ref xg, .ref (tr 0), .ref xs, .ref xp, .ref xq, .ref xe, .ref xt]))] ++ ([(xr, hcR k 6 xrr)] ++ ([((sa 0), .inr (4, [.ref (xa 0), .ref (ca 0), .ref (na 0), .int (si 3), .int (si 4)]))] ++ (rmW k xa rm ++ (ntW k na nt ++ (rmW k tr tm ++ ([(xt, hcI k 24 xtr)] ++ (RU k ra rz)))))))) → va_S A s.heap H locs → lv_has ls 6 [(0, .ref (xo 0)), (1, .int v1), (2, .int v2), (3, .int v3)] → W p l e (rmK 7 0 0) s m (List.toArray [.ref (xo 0), .int x1]) below meth c H locs 0 0 (MQ below (va_Qi (fun r (_ : Unit) => r = res.1) (hcB D (fun _ : Unit => [((xo 0), .inr (6, [.ref (ta 0), .ref xr, .int (xi 2), .ref (sa 0), .ref xm, .ref xg, .ref (tr 0), .ref xs, .ref xp, .ref xq, .ref xe, .ref xt]))] ++ ([(xr, hcR k 6 xrr)] ++ ([((sa 0), .inr (4, [.ref (xa 0), .ref (ca 0), .ref (na 0), .int (si 3), .int (si 4)]))] ++ (rmW k xa rm ++ (ntW k na nt ++ (rmW k tr res.2.1 ++ ([(xt, hcI k 24 res.2.2.1)] ++ (RU k ra res.2.2.2)))))))) A) A) (List.toArray [.ref (xo 0), .int x1]) s 0 0 A) (F0 m 12 ls []) := fun v1 v2 v3 tm xtr rz => B12 (v1, v2, v3, tm, xtr, rz)
  refine lv_iconst (v := 0) hx hb dX8_tallyStates_0 (by decide) ?_
  refine lv_istore_n (lv' := [(2, .int 0), (0, .ref (xo 0)), (1, .int x1)]) hx hb dX8_tallyStates_1 rfl hl (by decide) rfl (fun ls hl => ?_)
  refine lv_aload_n hx hb dX8_tallyStates_2 rfl (lv_at hl 1 rfl) ?_
  refine va_get (D := D) (ci := 6) (v := .ref xt) (C := RX8) (T := TX8) (N := 12) hx hb hts in8 hown hG.1 hP 0 rfl rfl 11 (by decide) (hts (.fieldLink RX8 61 "ChairCane" "tally" "[I") (by decide +kernel)) (fun _ h9 => h9) rfl dX8_tallyStates_3 ?_
  refine lv_iconst (v := 0) hx hb dX8_tallyStates_6 (by decide) ?_
  refine fw_Sv (As := [.ref xt, .int 0]) (rest := []) (n := 2) (wr := [((xo 0), .inr (6, [.ref (ta 0), .ref xr, .int (xi 2), .ref (sa 0), .ref xm, .ref xg, .ref (tr 0), .ref xs, .ref xp, .ref xq, .ref xe, .ref xt]))] ++ ([(xr, hcR k 6 xrr)] ++ ([((sa 0), .inr (4, [.ref (xa 0), .ref (ca 0), .ref (na 0), .int (si 3), .int (si 4)]))] ++ (rmW k xa rm ++ (ntW k na nt ++ (rmW k tr tm ++ (RU k ra rz))))))) (wp := fun b : (Nat → Int32) => [(xt, hcI k 24 b)]) h hx hb hml hown hts hG hA hP hD hS hl.1 [25] [0, 1, 2, 3, 4, 5, 6, 7, 8, 9, 10, 11, 12, 13, 14, 15, 16, 17, 18, 19, 20, 21, 22, 23, 24, 26, 27, 28, 29, 30, 31, 32, 33, 34, 35, 36, 37, 38, 39, 40, 41, 42, 43, 44, 45, 46, 47, 48, 49, 50, 51, 52, 53, 54, 55, 56, 57, 58, 59, 60, 61] (fun q hq9 => c_J7_fill_53178 l D k _  xt F 24 0 xtr  hq9) gX8_tallyStates_J7_fill_53178 rfl ⟨rfl, rfl, Nat.le_of_ble_eq_true rfl, Nat.le_of_ble_eq_true rfl⟩ (by decide +kernel) rfl rfl ⟨by decide, by decide, by decide⟩ ⟨rfl, rfl, Nat.le_of_ble_eq_true rfl, Nat.le_of_ble_eq_true rfl, Nat.le_of_ble_eq_true rfl⟩ dX8_tallyStates_7 (fun q10 H locs h hP hD hS => ?_)
  have hP : va_P D vwCl ([((xo 0), .inr (6, [.ref (ta 0), .ref xr, .int (xi 2), .ref (sa 0), .ref xm, .ref xg, .ref (tr 0), .ref xs, .ref xp, .ref xq, .ref xe, .ref xt]))] ++ ([(xr, hcR k 6 xrr)] ++ ([((sa 0), .inr (4, [.ref (xa 0), .ref (ca 0), .ref (na 0), .int (si 3), .int (si 4)]))] ++ (rmW k xa rm ++ (ntW k na nt ++ (rmW k tr tm ++ (RU k ra rz ++ ([(xt, hcI k 24 q10)])))))))) H := hP
  have hD : va_D A ([((xo 0), .inr (6, [.ref (ta 0), .ref xr, .int (xi 2), .ref (sa 0), .ref xm, .ref xg, .ref (tr 0), .ref xs, .ref xp, .ref xq, .ref xe, .ref xt]))] ++ ([(xr, hcR k 6 xrr)] ++ ([((sa 0), .inr (4, [.ref (xa 0), .ref (ca 0), .ref (na 0), .int (si 3), .int (si 4)]))] ++ (rmW k xa rm ++ (ntW k na nt ++ (rmW k tr tm ++ (RU k ra rz ++ ([(xt, hcI k 24 q10)])))))))) := hD
  refine lv_iconst (v := (-1)) hx hb dX8_tallyStates_10 (by decide) ?_
  refine lv_istore_n (lv' := [(3, .int (-1)), (2, .int 0), (0, .ref (xo 0)), (1, .int x1)]) hx hb dX8_tallyStates_11 rfl hl (by decide) rfl (fun ls hl => ?_)
  exact C12 _ _ _ _ _ _ h _ _ _ (hP.sub [0, 1, 2, 3, 4, 5, 6, 7, 8, 9, 10, 11, 12, 13, 14, 15, 16, 17, 18, 19, 20, 21, 22, 23, 24, 61, 25, 26, 27, 28, 29, 30, 31, 32, 33, 34, 35, 36, 37, 38, 39, 40, 41, 42, 43, 44, 45, 46, 47, 48, 49, 50, 51, 52, 53, 54, 55, 56, 57, 58, 59, 60] rfl) (hD.sub [0, 1, 2, 3, 4, 5, 6, 7, 8, 9, 10, 11, 12, 13, 14, 15, 16, 17, 18, 19, 20, 21, 22, 23, 24, 61, 25, 26, 27, 28, 29, 30, 31, 32, 33, 34, 35, 36, 37, 38, 39, 40, 41, 42, 43, 44, 45, 46, 47, 48, 49, 50, 51, 52, 53, 54, 55, 56, 57, 58, 59, 60] (by decide) rfl) hS (lv_sub hl [2, 3, 1, 0] rfl)
def f_X8_mostAlike (F : Nat)  (x1 : Int32) (xi : Nat → Int32) (xtr : Nat → Int32) : Option (Int32) :=
  if ib (x1 * 3) 24 then (if ib ((x1 * 3) + 1) 24 then (if ib ((x1 * 3) + 2) 24 then (some (if (xtr (Int32.toNatClampNeg (x1 * 3))) < (if (xtr (Int32.toNatClampNeg ((x1 * 3) + 1))) < (xtr (Int32.toNatClampNeg ((x1 * 3) + 2))) then (xtr (Int32.toNatClampNeg ((x1 * 3) + 2))) else (xtr (Int32.toNatClampNeg ((x1 * 3) + 1)))) then (if (xtr (Int32.toNatClampNeg ((x1 * 3) + 1))) < (xtr (Int32.toNatClampNeg ((x1 * 3) + 2))) then (xtr (Int32.toNatClampNeg ((x1 * 3) + 2))) else (xtr (Int32.toNatClampNeg ((x1 * 3) + 1)))) else (xtr (Int32.toNatClampNeg (x1 * 3))))) else none) else none) else none
set_option maxHeartbeats 4000000 in
set_option maxRecDepth 100000 in
theorem c_X8_mostAlike (l : Launch) (D : va_G) (k : Nat → ClassId) (sz : Nat)  (xo : Nat → Nat) (ta : Nat → Nat) (xr : Nat) (sa : Nat → Nat) (xm : Nat) (xg : Nat) (tr : Nat → Nat) (xs : Nat) (xp : Nat) (xq : Nat) (xe : Nat) (xt : Nat) (F : Nat)  (x1 : Int32) (xi : Nat → Int32) (xtr : Nat → Int32)  {res : Int32} (h : f_X8_mostAlike F x1 xi xtr = some res) : CtI l yX8_mostAlike wsX8_mostAlike (rmK 2 0 0) [.ref (xo 0), .int x1] D k sz ([((xo 0), .inr (6, [.ref (ta 0), .ref xr, .int (xi 2), .ref (sa 0), .ref xm, .ref xg, .ref (tr 0), .ref xs, .ref xp, .ref xq, .ref xe, .ref xt]))] ++ ([(xt, hcI k 24 xtr)])) (fun r (_ : Unit) => r = res) (fun _ : Unit => [((xo 0), .inr (6, [.ref (ta 0), .ref xr, .int (xi 2), .ref (sa 0), .ref xm, .ref xg, .ref (tr 0), .ref xs, .ref xp, .ref xq, .ref xe, .ref xt]))] ++ ([(xt, hcI k 24 xtr)])) 0 0 := by
  refine CtI.mk (cc := cX8_mostAlike) (maxL := 3) (ret := (some .int)) (by decide) rfl (Nat.le_of_ble_eq_true rfl) ?_
  intro p e s m below meth c A ls E hP hD hS hl
  obtain ⟨hx, hb, hr, hml, hown, hts, hlocks, hin, hG, hA⟩ := E
  have hown : s.vm.findClass RX8 = some m.cls := hown
  have in8 : ∀ w ∈ u_ws RX8 TX8 12, w ∈ wsX8_mostAlike := fun _ h => List.mem_cons_of_mem _ (List.mem_append_right _ h)
  have hl : lv_has ls 3 [(0, .ref (xo 0)), (1, .int x1)] := hl
  refine lv_iload_n hx hb dX8_mostAlike_0 rfl (lv_at hl 1 rfl) ?_
  refine lv_iconst (v := 3) hx hb dX8_mostAlike_1 (by decide) ?_
  refine lv_imul hx hb dX8_mostAlike_2 ?_
  refine lv_istore_n (lv' := [(2, .int (x1 * 3)), (0, .ref (xo 0)), (1, .int x1)]) hx hb dX8_mostAlike_3 rfl hl (by decide) rfl (fun ls hl => ?_)
  refine lv_aload_n hx hb dX8_mostAlike_4 rfl (lv_at hl 1 rfl) ?_
  refine va_get (D := D) (ci := 6) (v := .ref xt) (C := RX8) (T := TX8) (N := 12) hx hb hts in8 hown hG.1 hP 0 rfl rfl 11 (by decide) (hts (.fieldLink RX8 61 "ChairCane" "tally" "[I") (by decide +kernel)) (fun _ h9 => h9) rfl dX8_mostAlike_5 ?_
  refine lv_iload_n hx hb dX8_mostAlike_8 rfl (lv_at hl 0 rfl) ?_
  obtain ⟨g1, h⟩ := fw_g h
  refine va_iald hx hb hG.1 hP 1 0 rfl rfl (ib_vp g1) dX8_mostAlike_9 ?_
  refine lv_aload_n hx hb dX8_mostAlike_10 rfl (lv_at hl 1 rfl) ?_
  refine va_get (D := D) (ci := 6) (v := .ref xt) (C := RX8) (T := TX8) (N := 12) hx hb hts in8 hown hG.1 hP 0 rfl rfl 11 (by decide) (hts (.fieldLink RX8 61 "ChairCane" "tally" "[I") (by decide +kernel)) (fun _ h9 => h9) rfl dX8_mostAlike_11 ?_
  refine lv_iload_n hx hb dX8_mostAlike_14 rfl (lv_at hl 0 rfl) ?_
  refine lv_iconst (v := 1) hx hb dX8_mostAlike_15 (by decide) ?_
  refine lv_iadd hx hb dX8_mostAlike_16 ?_
  obtain ⟨g2, h⟩ := fw_g h
  refine va_iald hx hb hG.1 hP 1 0 rfl rfl (ib_vp g2) dX8_mostAlike_17 ?_
  refine lv_aload_n hx hb dX8_mostAlike_18 rfl (lv_at hl 1 rfl) ?_
  refine va_get (D := D) (ci := 6) (v := .ref xt) (C := RX8) (T := TX8) (N := 12) hx hb hts in8 hown hG.1 hP 0 rfl rfl 11 (by decide) (hts (.fieldLink RX8 61 "ChairCane" "tally" "[I") (by decide +kernel)) (fun _ h9 => h9) rfl dX8_mostAlike_19 ?_
  refine lv_iload_n hx hb dX8_mostAlike_22 rfl (lv_at hl 0 rfl) ?_
  refine lv_iconst (v := 2) hx hb dX8_mostAlike_23 (by decide) ?_
  refine lv_iadd hx hb dX8_mostAlike_24 ?_
  obtain ⟨g3, h⟩ := fw_g h
  refine va_iald hx hb hG.1 hP 1 0 rfl rfl (ib_vp g3) dX8_mostAlike_25 ?_
  refine va_mmax hx hb (by rw [hml]; exact hl.1.symm) hown (hts (.methodLink RX8 273 Lib.Math.max.name) (by decide +kernel)) (hts (.static Lib.Math.max.name) (by decide +kernel)) (hts (.initialized "java/lang/Math") (by decide +kernel)) (hts (.code Lib.Math.max.name Lib.Math.max.code 2 (some .int)) (by decide +kernel)) (Nat.le_of_ble_eq_true rfl) (Nat.le_of_ble_eq_true rfl) (Nat.le_of_ble_eq_true rfl) (Nat.le_of_ble_eq_true rfl) dX8_mostAlike_26 ?_
  refine va_mmax hx hb (by rw [hml]; exact hl.1.symm) hown (hts (.methodLink RX8 273 Lib.Math.max.name) (by decide +kernel)) (hts (.static Lib.Math.max.name) (by decide +kernel)) (hts (.initialized "java/lang/Math") (by decide +kernel)) (hts (.code Lib.Math.max.name Lib.Math.max.code 2 (some .int)) (by decide +kernel)) (Nat.le_of_ble_eq_true rfl) (Nat.le_of_ble_eq_true rfl) (Nat.le_of_ble_eq_true rfl) (Nat.le_of_ble_eq_true rfl) dX8_mostAlike_29 ?_
  exact fw_endI (rv := fun b : Int32 => b) (wp := fun b : Int32 => [((xo 0), .inr (6, [.ref (ta 0), .ref xr, .int (xi 2), .ref (sa 0), .ref xm, .ref xg, .ref (tr 0), .ref xs, .ref xp, .ref xq, .ref xe, .ref xt]))] ++ ([(xt, hcI k 24 xtr)])) hx hb hr hlocks h rfl hP hD hS dX8_mostAlike_32
def b_X8_look_34 (F : Nat)  (xi : Nat → Int32) (xrr : Nat → Option Nat) (si : Nat → Int32) (rm : OB) (nt : OB)  (tm : OB) (xtr : Nat → Int32) (rz : Nat → OB) : Option (Int32 × OB × (Nat → Int32) × (Nat → OB)) :=
  some ((-1), tm, xtr, rz)
def b_X8_look_120 (F : Nat)  (xi : Nat → Int32) (xrr : Nat → Option Nat) (si : Nat → Int32) (rm : OB) (nt : OB)  (y0 : Int32) (tm : OB) (xtr : Nat → Int32) (rz : Nat → OB) : Option (Int32 × OB × (Nat → Int32) × (Nat → OB)) :=
  some (y0, tm, xtr, rz)
def b_X8_look_94 (F : Nat)  (xi : Nat → Int32) (xrr : Nat → Option Nat) (si : Nat → Int32) (rm : OB) (nt : OB) (k56 : (Int32 × Int32 × Int32 × Int32 × OB × (Nat → Int32) × (Nat → OB)) → Option (Int32 × OB × (Nat → Int32) × (Nat → OB))) (v2 : Int32) (v4 : Int32) (v5 : Int32) (v6 : Int32) (tm : OB) (xtr : Nat → Int32) (rz : Nat → OB) : Option (Int32 × OB × (Nat → Int32) × (Nat → OB)) :=
  k56 (v2, v4, v5, (v6 + 1), tm, xtr, rz)
def b_X8_look_86 (F : Nat)  (xi : Nat → Int32) (xrr : Nat → Option Nat) (si : Nat → Int32) (rm : OB) (nt : OB) (k56 : (Int32 × Int32 × Int32 × Int32 × OB × (Nat → Int32) × (Nat → OB)) → Option (Int32 × OB × (Nat → Int32) × (Nat → OB))) (v2 : Int32) (v6 : Int32) (v7 : Int32) (tm : OB) (xtr : Nat → Int32) (rz : Nat → OB) : Option (Int32 × OB × (Nat → Int32) × (Nat → OB)) :=
  b_X8_look_94 F xi xrr si rm nt k56 v2 v6 v7 v6 tm xtr rz
def b_X8_look_56 (F : Nat)  (xi : Nat → Int32) (xrr : Nat → Option Nat) (si : Nat → Int32) (rm : OB) (nt : OB)  (k56 : (Int32 × Int32 × Int32 × Int32 × OB × (Nat → Int32) × (Nat → OB)) → Option (Int32 × OB × (Nat → Int32) × (Nat → OB))) (a56 : (Int32 × Int32 × Int32 × Int32 × OB × (Nat → Int32) × (Nat → OB))) : Option (Int32 × OB × (Nat → Int32) × (Nat → OB)) :=
  if (rm.1 3) ≤ a56.2.2.2.1 then (if a56.2.1 = (-1) then (some ((-2), a56.2.2.2.2.1, a56.2.2.2.2.2.1, a56.2.2.2.2.2.2)) else (if a56.1 = 0 then (b_X8_look_120 F xi xrr si rm nt a56.2.1 a56.2.2.2.2.1 a56.2.2.2.2.2.1 a56.2.2.2.2.2.2) else (b_X8_look_120 F xi xrr si rm nt a56.2.2.1 a56.2.2.2.2.1 a56.2.2.2.2.2.1 a56.2.2.2.2.2.2))) else (Option.bind (f_X8_mostAlike F a56.2.2.2.1 xi a56.2.2.2.2.2.1) (fun q4 => (if a56.2.1 = (-1) then (b_X8_look_86 F xi xrr si rm nt k56 a56.1 a56.2.2.2.1 q4 a56.2.2.2.2.1 a56.2.2.2.2.2.1 a56.2.2.2.2.2.2) else (if a56.2.2.1 ≤ q4 then (b_X8_look_94 F xi xrr si rm nt k56 a56.1 a56.2.1 a56.2.2.1 a56.2.2.2.1 a56.2.2.2.2.1 a56.2.2.2.2.2.1 a56.2.2.2.2.2.2) else (b_X8_look_86 F xi xrr si rm nt k56 a56.1 a56.2.2.2.1 q4 a56.2.2.2.2.1 a56.2.2.2.2.2.1 a56.2.2.2.2.2.2)))))
def f_X8_look (F : Nat)  (x1 : Int32) (x2 : Int32) (xi : Nat → Int32) (xrr : Nat → Option Nat) (si : Nat → Int32) (rm : OB) (nt : OB) (tm : OB) (xtr : Nat → Int32) (rz : Nat → OB) : Option (Int32 × OB × (Nat → Int32) × (Nat → OB)) :=
  if (rm.1 0) = 0 then (b_X8_look_34 F xi xrr si rm nt tm xtr rz) else (if x1 < 0 then (b_X8_look_34 F xi xrr si rm nt tm xtr rz) else (if 60 < x1 then (b_X8_look_34 F xi xrr si rm nt tm xtr rz) else (if x2 < 0 then (b_X8_look_34 F xi xrr si rm nt tm xtr rz) else (if x2 ≤ 1 then (Option.bind (f_X8_tallyStates F x1 xi xrr si rm nt tm xtr rz) (fun q12 => (if q12.1 = 0 then (some ((-2), q12.2.1, q12.2.2.1, q12.2.2.2)) else (lp (b_X8_look_56 F xi xrr si rm nt) F (x2, (-1), 0, 0, q12.2.1, q12.2.2.1, q12.2.2.2))))) else (b_X8_look_34 F xi xrr si rm nt tm xtr rz)))))
set_option maxHeartbeats 4000000 in
set_option maxRecDepth 100000 in
theorem c_X8_look (l : Launch) (D : va_G) (k : Nat → ClassId) (sz : Nat)  (xo : Nat → Nat) (ta : Nat → Nat) (xr : Nat) (sa : Nat → Nat) (xm : Nat) (xg : Nat) (tr : Nat → Nat) (xs : Nat) (xp : Nat) (xq : Nat) (xe : Nat) (xt : Nat) (xa : Nat → Nat) (ca : Nat → Nat) (na : Nat → Nat) (ra : Nat → Nat) (F : Nat)  (x1 : Int32) (x2 : Int32) (xi : Nat → Int32) (xrr : Nat → Option Nat) (si : Nat → Int32) (rm : OB) (nt : OB) (tm : OB) (xtr : Nat → Int32) (rz : Nat → OB) (hq : ∀ i, i < 6 → xrr i = some (ra (6 * i))) {res : Int32 × OB × (Nat → Int32) × (Nat → OB)} (h : f_X8_look F x1 x2 xi xrr si rm nt tm xtr rz = some res) : CtI l yX8_look wsX8_look (rmK 8 0 0) [.ref (xo 0), .int x1, .int x2] D k sz ([((xo 0), .inr (6, [.ref (ta 0), .ref xr, .int (xi 2), .ref (sa 0), .ref xm, .ref xg, .ref (tr 0), .ref xs, .ref xp, .ref xq, .ref xe, .ref xt]))] ++ ([(xr, hcR k 6 xrr)] ++ ([((sa 0), .inr (4, [.ref (xa 0), .ref (ca 0), .ref (na 0), .int (si 3), .int (si 4)]))] ++ (rmW k xa rm ++ (ntW k na nt ++ (rmW k tr tm ++ ([(xt, hcI k 24 xtr)] ++ (RU k ra rz)))))))) (fun r (_ : Unit) => r = res.1) (fun _ : Unit => [((xo 0), .inr (6, [.ref (ta 0), .ref xr, .int (xi 2), .ref (sa 0), .ref xm, .ref xg, .ref (tr 0), .ref xs, .ref xp, .ref xq, .ref xe, .ref xt]))] ++ ([(xr, hcR k 6 xrr)] ++ ([((sa 0), .inr (4, [.ref (xa 0), .ref (ca 0), .ref (na 0), .int (si 3), .int (si 4)]))] ++ (rmW k xa rm ++ (ntW k na nt ++ (rmW k tr res.2.1 ++ ([(xt, hcI k 24 res.2.2.1)] ++ (RU k ra res.2.2.2)))))))) 0 0 := by
  refine CtI.mk (cc := cX8_look) (maxL := 8) (ret := (some .int)) (by decide) rfl (Nat.le_of_ble_eq_true rfl) ?_
  intro p e s m below meth c A ls E hP hD hS hl
  obtain ⟨hx, hb, hr, hml, hown, hts, hlocks, hin, hG, hA⟩ := E
  have hown : s.vm.findClass RX8 = some m.cls := hown
  have in2 : ∀ w ∈ u_ws RX2 TX2 4, w ∈ wsX8_look := fun _ h => List.mem_cons_of_mem _ (List.mem_append_left _ (List.mem_append_right _ h))
  have in3 : ∀ w ∈ u_ws RX3 TX3 17, w ∈ wsX8_look := fun _ h => List.mem_cons_of_mem _ (List.mem_append_left _ (List.mem_append_left _ (List.mem_append_right _ h)))
  have in4 : ∀ w ∈ u_ws RX4 TX4 8, w ∈ wsX8_look := fun _ h => List.mem_cons_of_mem _ (List.mem_append_right _ h)
  have in6 : ∀ w ∈ u_ws RX6 TX6 5, w ∈ wsX8_look := fun _ h => List.mem_cons_of_mem _ (List.mem_append_left _ (List.mem_append_left _ (List.mem_append_left _ (List.mem_append_right _ h))))
  have in8 : ∀ w ∈ u_ws RX8 TX8 12, w ∈ wsX8_look := fun _ h => List.mem_cons_of_mem _ (List.mem_append_left _ (List.mem_append_left _ (List.mem_append_left _ (List.mem_append_left _ (List.mem_append_right _ h)))))
  have hl : lv_has ls 8 [(0, .ref (xo 0)), (1, .int x1), (2, .int x2)] := hl
  have B34 : ∀ (tm : OB) (xtr : Nat → Int32) (rz : Nat → OB) (H : Heap) (locs : List Loc) (ls : Array Slot), b_X8_look_34 F xi xrr si rm nt tm xtr rz = some res → va_P D vwCl ([((xo 0), .inr (6, [.ref (ta 0), .ref xr, .int (xi 2), .ref (sa 0), .ref xm, .ref xg, .ref (tr 0), .ref xs, .ref xp, .ref xq, .ref xe, .ref xt]))] ++ ([(xr, hcR k 6 xrr)] ++ ([((sa 0), .inr (4, [.ref (xa 0), .ref (ca 0), .ref (na 0), .int (si 3), .int (si 4)]))] ++ (rmW k xa rm ++ (ntW k na nt ++ (rmW k tr tm ++ ([(xt, hcI k 24 xtr)] ++ (RU k ra rz)))))))) H → va_D A ([((xo 0), .inr (6, [.ref (ta 0), .ref xr, .int (xi 2), .ref (sa 0), .ref xm, .ref xg, .ref (tr 0), .ref xs, .ref xp, .ref xq, .ref xe, .ref xt]))] ++ ([(xr, hcR k 6 xrr)] ++ ([((sa 0), .inr (4, [.ref (xa 0), .ref (ca 0), .ref (na 0), .int (si 3), .int (si 4)]))] ++ (rmW k xa rm ++ (ntW k na nt ++ (rmW k tr tm ++ ([(xt, hcI k 24 xtr)] ++ (RU k ra rz)))))))) → va_S A s.heap H locs → lv_has ls 8 [] → W p l e (rmK 8 0 0) s m (List.toArray [.ref (xo 0), .int x1, .int x2]) below meth c H locs 0 0 (MQ below (va_Qi (fun r (_ : Unit) => r = res.1) (hcB D (fun _ : Unit => [((xo 0), .inr (6, [.ref (ta 0), .ref xr, .int (xi 2), .ref (sa 0), .ref xm, .ref xg, .ref (tr 0), .ref xs, .ref xp, .ref xq, .ref xe, .ref xt]))] ++ ([(xr, hcR k 6 xrr)] ++ ([((sa 0), .inr (4, [.ref (xa 0), .ref (ca 0), .ref (na 0), .int (si 3), .int (si 4)]))] ++ (rmW k xa rm ++ (ntW k na nt ++ (rmW k tr res.2.1 ++ ([(xt, hcI k 24 res.2.2.1)] ++ (RU k ra res.2.2.2)))))))) A) A) (List.toArray [.ref (xo 0), .int x1, .int x2]) s 0 0 A) (F0 m 34 ls []) := by
    intro tm xtr rz H locs ls h hP hD hS hl
    refine lv_iconst (v := (-1)) hx hb dX8_look_34 (by decide) ?_
    exact fw_endI (rv := fun b : Int32 × OB × (Nat → Int32) × (Nat → OB) => b.1) (wp := fun b : Int32 × OB × (Nat → Int32) × (Nat → OB) => [((xo 0), .inr (6, [.ref (ta 0), .ref xr, .int (xi 2), .ref (sa 0), .ref xm, .ref xg, .ref (tr 0), .ref xs, .ref xp, .ref xq, .ref xe, .ref xt]))] ++ ([(xr, hcR k 6 xrr)] ++ ([((sa 0), .inr (4, [.ref (xa 0), .ref (ca 0), .ref (na 0), .int (si 3), .int (si 4)]))] ++ (rmW k xa rm ++ (ntW k na nt ++ (rmW k tr b.2.1 ++ ([(xt, hcI k 24 b.2.2.1)] ++ (RU k ra b.2.2.2)))))))) hx hb hr hlocks h rfl hP hD hS dX8_look_35
  have B120 : ∀ (y0 : Int32) (tm : OB) (xtr : Nat → Int32) (rz : Nat → OB) (H : Heap) (locs : List Loc) (ls : Array Slot), b_X8_look_120 F xi xrr si rm nt y0 tm xtr rz = some res → va_P D vwCl ([((xo 0), .inr (6, [.ref (ta 0), .ref xr, .int (xi 2), .ref (sa 0), .ref xm, .ref xg, .ref (tr 0), .ref xs, .ref xp, .ref xq, .ref xe, .ref xt]))] ++ ([(xr, hcR k 6 xrr)] ++ ([((sa 0), .inr (4, [.ref (xa 0), .ref (ca 0), .ref (na 0), .int (si 3), .int (si 4)]))] ++ (rmW k xa rm ++ (ntW k na nt ++ (rmW k tr tm ++ ([(xt, hcI k 24 xtr)] ++ (RU k ra rz)))))))) H → va_D A ([((xo 0), .inr (6, [.ref (ta 0), .ref xr, .int (xi 2), .ref (sa 0), .ref xm, .ref xg, .ref (tr 0), .ref xs, .ref xp, .ref xq, .ref xe, .ref xt]))] ++ ([(xr, hcR k 6 xrr)] ++ ([((sa 0), .inr (4, [.ref (xa 0), .ref (ca 0), .ref (na 0), .int (si 3), .int (si 4)]))] ++ (rmW k xa rm ++ (ntW k na nt ++ (rmW k tr tm ++ ([(xt, hcI k 24 xtr)] ++ (RU k ra rz)))))))) → va_S A s.heap H locs → lv_has ls 8 [] → W p l e (rmK 8 0 0) s m (List.toArray [.ref (xo 0), .int x1, .int x2]) below meth c H locs 0 0 (MQ below (va_Qi (fun r (_ : Unit) => r = res.1) (hcB D (fun _ : Unit => [((xo 0), .inr (6, [.ref (ta 0), .ref xr, .int (xi 2), .ref (sa 0), .ref xm, .ref xg, .ref (tr 0), .ref xs, .ref xp, .ref xq, .ref xe, .ref xt]))] ++ ([(xr, hcR k 6 xrr)] ++ ([((sa 0), .inr (4, [.ref (xa 0), .ref (ca 0), .ref (na 0), .int (si 3), .int (si 4)]))] ++ (rmW k xa rm ++ (ntW k na nt ++ (rmW k tr res.2.1 ++ ([(xt, hcI k 24 res.2.2.1)] ++ (RU k ra res.2.2.2)))))))) A) A) (List.toArray [.ref (xo 0), .int x1, .int x2]) s 0 0 A) (F0 m 120 ls [.int y0]) := by
    intro y0 tm xtr rz H locs ls h hP hD hS hl
    exact fw_endI (rv := fun b : Int32 × OB × (Nat → Int32) × (Nat → OB) => b.1) (wp := fun b : Int32 × OB × (Nat → Int32) × (Nat → OB) => [((xo 0), .inr (6, [.ref (ta 0), .ref xr, .int (xi 2), .ref (sa 0), .ref xm, .ref xg, .ref (tr 0), .ref xs, .ref xp, .ref xq, .ref xe, .ref xt]))] ++ ([(xr, hcR k 6 xrr)] ++ ([((sa 0), .inr (4, [.ref (xa 0), .ref (ca 0), .ref (na 0), .int (si 3), .int (si 4)]))] ++ (rmW k xa rm ++ (ntW k na nt ++ (rmW k tr b.2.1 ++ ([(xt, hcI k 24 b.2.2.1)] ++ (RU k ra b.2.2.2)))))))) hx hb hr hlocks h rfl hP hD hS dX8_look_120
  have B56 : ∀ a56 : (Int32 × Int32 × Int32 × Int32 × OB × (Nat → Int32) × (Nat → OB)), lp (b_X8_look_56 F xi xrr si rm nt) F a56 = some res → ∀ (H : Heap) (locs : List Loc) (ls : Array Slot), va_P D vwCl ([((xo 0), .inr (6, [.ref (ta 0), .ref xr, .int (xi 2), .ref (sa 0), .ref xm, .ref xg, .ref (tr 0), .ref xs, .ref xp, .ref xq, .ref xe, .ref xt]))] ++ ([(xr, hcR k 6 xrr)] ++ ([((sa 0), .inr (4, [.ref (xa 0), .ref (ca 0), .ref (na 0), .int (si 3), .int (si 4)]))] ++ (rmW k xa rm ++ (ntW k na nt ++ (rmW k tr a56.2.2.2.2.1 ++ ([(xt, hcI k 24 a56.2.2.2.2.2.1)] ++ (RU k ra a56.2.2.2.2.2.2)))))))) H → va_D A ([((xo 0), .inr (6, [.ref (ta 0), .ref xr, .int (xi 2), .ref (sa 0), .ref xm, .ref xg, .ref (tr 0), .ref xs, .ref xp, .ref xq, .ref xe, .ref xt]))] ++ ([(xr, hcR k 6 xrr)] ++ ([((sa 0), .inr (4, [.ref (xa 0), .ref (ca 0), .ref (na 0), .int (si 3), .int (si 4)]))] ++ (rmW k xa rm ++ (ntW k na nt ++ (rmW k tr a56.2.2.2.2.1 ++ ([(xt, hcI k 24 a56.2.2.2.2.2.1)] ++ (RU k ra a56.2.2.2.2.2.2)))))))) → va_S A s.heap H locs → lv_has ls 8 [(0, .ref (xo 0)), (2, .int a56.1), (3, .ref (xa 0)), (4, .int a56.2.1), (5, .int a56.2.2.1), (6, .int a56.2.2.2.1)] → W p l e (rmK 8 0 0) s m (List.toArray [.ref (xo 0), .int x1, .int x2]) below meth c H locs 0 0 (MQ below (va_Qi (fun r (_ : Unit) => r = res.1) (hcB D (fun _ : Unit => [((xo 0), .inr (6, [.ref (ta 0), .ref xr, .int (xi 2), .ref (sa 0), .ref xm, .ref xg, .ref (tr 0), .ref xs, .ref xp, .ref xq, .ref xe, .ref xt]))] ++ ([(xr, hcR k 6 xrr)] ++ ([((sa 0), .inr (4, [.ref (xa 0), .ref (ca 0), .ref (na 0), .int (si 3), .int (si 4)]))] ++ (rmW k xa rm ++ (ntW k na nt ++ (rmW k tr res.2.1 ++ ([(xt, hcI k 24 res.2.2.1)] ++ (RU k ra res.2.2.2)))))))) A) A) (List.toArray [.ref (xo 0), .int x1, .int x2]) s 0 0 A) (F0 m 56 ls []) := by
    refine lp_W ?_ F
    intro k56 hk56 a56 h H locs ls hP hD hS hl
    have hc56 : ∀ (v2 : Int32) (v4 : Int32) (v5 : Int32) (v6 : Int32) (tm : OB) (xtr : Nat → Int32) (rz : Nat → OB), k56 (v2, v4, v5, v6, tm, xtr, rz) = some res → ∀ (H : Heap) (locs : List Loc) (ls : Array Slot), va_P D vwCl ([((xo 0), .inr (6, [.ref (ta 0), .ref xr, .int (xi 2), .ref (sa 0), .ref xm, .ref xg, .ref (tr 0), .ref xs, .ref xp, .ref xq, .ref xe, .ref xt]))] ++ ([(xr, hcR k 6 xrr)] ++ ([((sa 0), .inr (4, [.ref (xa 0), .ref (ca 0), .ref (na 0), .int (si 3), .int (si 4)]))] ++ (rmW k xa rm ++ (ntW k na nt ++ (rmW k tr tm ++ ([(xt, hcI k 24 xtr)] ++ (RU k ra rz)))))))) H → va_D A ([((xo 0), .inr (6, [.ref (ta 0), .ref xr, .int (xi 2), .ref (sa 0), .ref xm, .ref xg, .ref (tr 0), .ref xs, .ref xp, .ref xq, .ref xe, .ref xt]))] ++ ([(xr, hcR k 6 xrr)] ++ ([((sa 0), .inr (4, [.ref (xa 0), .ref (ca 0), .ref (na 0), .int (si 3), .int (si 4)]))] ++ (rmW k xa rm ++ (ntW k na nt ++ (rmW k tr tm ++ ([(xt, hcI k 24 xtr)] ++ (RU k ra rz)))))))) → va_S A s.heap H locs → lv_has ls 8 [(0, .ref (xo 0)), (2, .int v2), (3, .ref (xa 0)), (4, .int v4), (5, .int v5), (6, .int v6)] → W p l e (rmK 8 0 0) s m (List.toArray [.ref (xo 0), .int x1, .int x2]) below meth c H locs 0 0 (MQ below (va_Qi (fun r (_ : Unit) => r = res.1) (hcB D (fun _ : Unit => [((xo 0), .inr (6, [.ref (ta 0), .ref xr, .int (xi 2), .ref (sa 0), .ref xm, .ref xg, .ref (tr 0), .ref xs, .ref xp, .ref xq, .ref xe, .ref xt]))] ++ ([(xr, hcR k 6 xrr)] ++ ([((sa 0), .inr (4, [.ref (xa 0), .ref (ca 0), .ref (na 0), .int (si 3), .int (si 4)]))] ++ (rmW k xa rm ++ (ntW k na nt ++ (rmW k tr res.2.1 ++ ([(xt, hcI k 24 res.2.2.1)] ++ (RU k ra res.2.2.2)))))))) A) A) (List.toArray [.ref (xo 0), .int x1, .int x2]) s 0 0 A) (F0 m 56 ls []) := fun v2 v4 v5 v6 tm xtr rz => hk56 (v2, v4, v5, v6, tm, xtr, rz)
    have B94 : ∀ (v2 : Int32) (v4 : Int32) (v5 : Int32) (v6 : Int32) (tm : OB) (xtr : Nat → Int32) (rz : Nat → OB) (H : Heap) (locs : List Loc) (ls : Array Slot), b_X8_look_94 F xi xrr si rm nt k56 v2 v4 v5 v6 tm xtr rz = some res → va_P D vwCl ([((xo 0), .inr (6, [.ref (ta 0), .ref xr, .int (xi 2), .ref (sa 0), .ref xm, .ref xg, .ref (tr 0), .ref xs, .ref xp, .ref xq, .ref xe, .ref xt]))] ++ ([(xr, hcR k 6 xrr)] ++ ([((sa 0), .inr (4, [.ref (xa 0), .ref (ca 0), .ref (na 0), .int (si 3), .int (si 4)]))] ++ (rmW k xa rm ++ (ntW k na nt ++ (rmW k tr tm ++ ([(xt, hcI k 24 xtr)] ++ (RU k ra rz)))))))) H → va_D A ([((xo 0), .inr (6, [.ref (ta 0), .ref xr, .int (xi 2), .ref (sa 0), .ref xm, .ref xg, .ref (tr 0), .ref xs, .ref xp, .ref xq, .ref xe, .ref xt]))] ++ ([(xr, hcR k 6 xrr)] ++ ([((sa 0), .inr (4, [.ref (xa 0), .ref (ca 0), .ref (na 0), .int (si 3), .int (si 4)]))] ++ (rmW k xa rm ++ (ntW k na nt ++ (rmW k tr tm ++ ([(xt, hcI k 24 xtr)] ++ (RU k ra rz)))))))) → va_S A s.heap H locs → lv_has ls 8 [(0, .ref (xo 0)), (2, .int v2), (3, .ref (xa 0)), (4, .int v4), (5, .int v5), (6, .int v6)] → W p l e (rmK 8 0 0) s m (List.toArray [.ref (xo 0), .int x1, .int x2]) below meth c H locs 0 0 (MQ below (va_Qi (fun r (_ : Unit) => r = res.1) (hcB D (fun _ : Unit => [((xo 0), .inr (6, [.ref (ta 0), .ref xr, .int (xi 2), .ref (sa 0), .ref xm, .ref xg, .ref (tr 0), .ref xs, .ref xp, .ref xq, .ref xe, .ref xt]))] ++ ([(xr, hcR k 6 xrr)] ++ ([((sa 0), .inr (4, [.ref (xa 0), .ref (ca 0), .ref (na 0), .int (si 3), .int (si 4)]))] ++ (rmW k xa rm ++ (ntW k na nt ++ (rmW k tr res.2.1 ++ ([(xt, hcI k 24 res.2.2.1)] ++ (RU k ra res.2.2.2)))))))) A) A) (List.toArray [.ref (xo 0), .int x1, .int x2]) s 0 0 A) (F0 m 94 ls []) := by
      intro v2 v4 v5 v6 tm xtr rz H locs ls h hP hD hS hl
      refine lv_iinc (v := (v6 + 1)) (lv' := [(6, .int (v6 + 1)), (0, .ref (xo 0)), (2, .int v2), (3, .ref (xa 0)), (4, .int v4), (5, .int v5)]) hx hb dX8_look_94 hl (k := 5) rfl rfl (by decide) rfl (fun ls hl => ?_)
      refine lv_goto (tgt := 56) hx hb dX8_look_97 (by decide) ?_
      exact hc56 _ _ _ _ _ _ _ h _ _ _ hP hD hS (lv_sub hl [1, 2, 3, 4, 5, 0] rfl)
    have B86 : ∀ (v2 : Int32) (v6 : Int32) (v7 : Int32) (tm : OB) (xtr : Nat → Int32) (rz : Nat → OB) (H : Heap) (locs : List Loc) (ls : Array Slot), b_X8_look_86 F xi xrr si rm nt k56 v2 v6 v7 tm xtr rz = some res → va_P D vwCl ([((xo 0), .inr (6, [.ref (ta 0), .ref xr, .int (xi 2), .ref (sa 0), .ref xm, .ref xg, .ref (tr 0), .ref xs, .ref xp, .ref xq, .ref xe, .ref xt]))] ++ ([(xr, hcR k 6 xrr)] ++ ([((sa 0), .inr (4, [.ref (xa 0), .ref (ca 0), .ref (na 0), .int (si 3), .int (si 4)]))] ++ (rmW k xa rm ++ (ntW k na nt ++ (rmW k tr tm ++ ([(xt, hcI k 24 xtr)] ++ (RU k ra rz)))))))) H → va_D A ([((xo 0), .inr (6, [.ref (ta 0), .ref xr, .int (xi 2), .ref (sa 0), .ref xm, .ref xg, .ref (tr 0), .ref xs, .ref xp, .ref xq, .ref xe, .ref xt]))] ++ ([(xr, hcR k 6 xrr)] ++ ([((sa 0), .inr (4, [.ref (xa 0), .ref (ca 0), .ref (na 0), .int (si 3), .int (si 4)]))] ++ (rmW k xa rm ++ (ntW k na nt ++ (rmW k tr tm ++ ([(xt, hcI k 24 xtr)] ++ (RU k ra rz)))))))) → va_S A s.heap H locs → lv_has ls 8 [(0, .ref (xo 0)), (2, .int v2), (3, .ref (xa 0)), (6, .int v6), (7, .int v7)] → W p l e (rmK 8 0 0) s m (List.toArray [.ref (xo 0), .int x1, .int x2]) below meth c H locs 0 0 (MQ below (va_Qi (fun r (_ : Unit) => r = res.1) (hcB D (fun _ : Unit => [((xo 0), .inr (6, [.ref (ta 0), .ref xr, .int (xi 2), .ref (sa 0), .ref xm, .ref xg, .ref (tr 0), .ref xs, .ref xp, .ref xq, .ref xe, .ref xt]))] ++ ([(xr, hcR k 6 xrr)] ++ ([((sa 0), .inr (4, [.ref (xa 0), .ref (ca 0), .ref (na 0), .int (si 3), .int (si 4)]))] ++ (rmW k xa rm ++ (ntW k na nt ++ (rmW k tr res.2.1 ++ ([(xt, hcI k 24 res.2.2.1)] ++ (RU k ra res.2.2.2)))))))) A) A) (List.toArray [.ref (xo 0), .int x1, .int x2]) s 0 0 A) (F0 m 86 ls []) := by
      intro v2 v6 v7 tm xtr rz H locs ls h hP hD hS hl
      refine lv_iload hx hb dX8_look_86 (lv_at hl 3 rfl) ?_
      refine lv_istore (lv' := [(4, .int v6), (0, .ref (xo 0)), (2, .int v2), (3, .ref (xa 0)), (6, .int v6), (7, .int v7)]) hx hb dX8_look_88 hl (by decide) rfl (fun ls hl => ?_)
      refine lv_iload hx hb dX8_look_90 (lv_at hl 5 rfl) ?_
      refine lv_istore (lv' := [(5, .int v7), (4, .int v6), (0, .ref (xo 0)), (2, .int v2), (3, .ref (xa 0)), (6, .int v6), (7, .int v7)]) hx hb dX8_look_92 hl (by decide) rfl (fun ls hl => ?_)
      exact B94 _ _ _ _ _ _ _ _ _ _ h hP hD hS (lv_sub hl [2, 3, 4, 1, 0, 5] rfl)
    refine lv_iload hx hb dX8_look_56 (lv_at hl 5 rfl) ?_
    refine lv_aload_n hx hb dX8_look_58 rfl (lv_at hl 2 rfl) ?_
    refine va_get (D := D) (ci := 2) (v := .int (rm.1 3)) (C := RX3) (T := TX3) (N := 17) hx hb hts in3 hown hG.1 hP 3 rfl rfl 3 (by decide) (hts (.fieldLink RX8 104 "ChairCane$Room" "sitters" "I") (by decide +kernel)) (fun _ h9 => h9) rfl dX8_look_59 ?_
    refine lv_icmp_ge (tgt := 100) hx hb dX8_look_62 (by decide) (fun c1 => ?_) (fun c1 => ?_)
    · have h := fw_t c1 h
      refine lv_iload hx hb dX8_look_100 (lv_at hl 3 rfl) ?_
      refine lv_iconst (v := (-1)) hx hb dX8_look_102 (by decide) ?_
      refine lv_icmp_ne (tgt := 109) hx hb dX8_look_103 (by decide) (fun c2 => ?_) (fun c2 => ?_)
      · have h := fw_f c2 h
        refine lv_iload_n hx hb dX8_look_109 rfl (lv_at hl 1 rfl) ?_
        refine lv_if_ne (tgt := 118) hx hb dX8_look_110 (by decide) (fun c3 => ?_) (fun c3 => ?_)
        · have h := fw_f c3 h
          refine lv_iload hx hb dX8_look_118 (lv_at hl 4 rfl) ?_
          exact B120 _ _ _ _ _ _ _ h hP hD hS (lv_sub hl [] rfl)
        · have h := fw_t c3 h
          refine lv_iload hx hb dX8_look_113 (lv_at hl 3 rfl) ?_
          refine lv_goto (tgt := 120) hx hb dX8_look_115 (by decide) ?_
          exact B120 _ _ _ _ _ _ _ h hP hD hS (lv_sub hl [] rfl)
      · have h := fw_t c2 h
        refine lv_bipush (v := (-2)) hx hb dX8_look_106 (by decide) ?_
        exact fw_endI (rv := fun b : Int32 × OB × (Nat → Int32) × (Nat → OB) => b.1) (wp := fun b : Int32 × OB × (Nat → Int32) × (Nat → OB) => [((xo 0), .inr (6, [.ref (ta 0), .ref xr, .int (xi 2), .ref (sa 0), .ref xm, .ref xg, .ref (tr 0), .ref xs, .ref xp, .ref xq, .ref xe, .ref xt]))] ++ ([(xr, hcR k 6 xrr)] ++ ([((sa 0), .inr (4, [.ref (xa 0), .ref (ca 0), .ref (na 0), .int (si 3), .int (si 4)]))] ++ (rmW k xa rm ++ (ntW k na nt ++ (rmW k tr b.2.1 ++ ([(xt, hcI k 24 b.2.2.1)] ++ (RU k ra b.2.2.2)))))))) hx hb hr hlocks h rfl hP hD hS dX8_look_108
    · have h := fw_f c1 h
      refine lv_aload_n hx hb dX8_look_65 rfl (lv_at hl 0 rfl) ?_
      refine lv_iload hx hb dX8_look_66 (lv_at hl 5 rfl) ?_
      refine fw_Vi (As := [.int a56.2.2.2.1]) (rest := []) (n := 1) (wr := [(xr, hcR k 6 xrr)] ++ ([((sa 0), .inr (4, [.ref (xa 0), .ref (ca 0), .ref (na 0), .int (si 3), .int (si 4)]))] ++ (rmW k xa rm ++ (ntW k na nt ++ (rmW k tr a56.2.2.2.2.1 ++ (RU k ra a56.2.2.2.2.2.2)))))) (rv := fun b : Int32 => b) (wp := fun b : Int32 => [((xo 0), .inr (6, [.ref (ta 0), .ref xr, .int (xi 2), .ref (sa 0), .ref xm, .ref xg, .ref (tr 0), .ref xs, .ref xp, .ref xq, .ref xe, .ref xt]))] ++ ([(xt, hcI k 24 a56.2.2.2.2.2.1)])) h hx hb hml hown hts hG hA hP hD hS hl.1 [0, 25] [1, 2, 3, 4, 5, 6, 7, 8, 9, 10, 11, 12, 13, 14, 15, 16, 17, 18, 19, 20, 21, 22, 23, 24, 26, 27, 28, 29, 30, 31, 32, 33, 34, 35, 36, 37, 38, 39, 40, 41, 42, 43, 44, 45, 46, 47, 48, 49, 50, 51, 52, 53, 54, 55, 56, 57, 58, 59, 60, 61] (fun q hq9 => c_X8_mostAlike l D k _  xo ta xr sa xm xg tr xs xp xq xe xt F a56.2.2.2.1 xi a56.2.2.2.2.2.1  hq9) (ci := 6) (q0 := 0) rfl rfl gX8_look_X8_mostAlike rfl ⟨rfl, rfl, Nat.le_of_ble_eq_true rfl, Nat.le_of_ble_eq_true rfl⟩ (by decide +kernel) rfl rfl ⟨by decide, by decide, by decide⟩ ⟨rfl, rfl, Nat.le_of_ble_eq_true rfl, Nat.le_of_ble_eq_true rfl, Nat.le_of_ble_eq_true rfl⟩ dX8_look_68 (fun q4 H locs h hP hD hS => ?_)
      have hP : va_P D vwCl ([(xr, hcR k 6 xrr)] ++ ([((sa 0), .inr (4, [.ref (xa 0), .ref (ca 0), .ref (na 0), .int (si 3), .int (si 4)]))] ++ (rmW k xa rm ++ (ntW k na nt ++ (rmW k tr a56.2.2.2.2.1 ++ (RU k ra a56.2.2.2.2.2.2 ++ ([((xo 0), .inr (6, [.ref (ta 0), .ref xr, .int (xi 2), .ref (sa 0), .ref xm, .ref xg, .ref (tr 0), .ref xs, .ref xp, .ref xq, .ref xe, .ref xt]))] ++ ([(xt, hcI k 24 a56.2.2.2.2.2.1)])))))))) H := hP
      have hD : va_D A ([(xr, hcR k 6 xrr)] ++ ([((sa 0), .inr (4, [.ref (xa 0), .ref (ca 0), .ref (na 0), .int (si 3), .int (si 4)]))] ++ (rmW k xa rm ++ (ntW k na nt ++ (rmW k tr a56.2.2.2.2.1 ++ (RU k ra a56.2.2.2.2.2.2 ++ ([((xo 0), .inr (6, [.ref (ta 0), .ref xr, .int (xi 2), .ref (sa 0), .ref xm, .ref xg, .ref (tr 0), .ref xs, .ref xp, .ref xq, .ref xe, .ref xt]))] ++ ([(xt, hcI k 24 a56.2.2.2.2.2.1)])))))))) := hD
      refine hc_is (z := q4) rfl ?_
      refine lv_istore (lv' := [(7, .int q4), (0, .ref (xo 0)), (2, .int a56.1), (3, .ref (xa 0)), (4, .int a56.2.1), (5, .int a56.2.2.1), (6, .int a56.2.2.2.1)]) hx hb dX8_look_71 hl (by decide) rfl (fun ls hl => ?_)
      refine lv_iload hx hb dX8_look_73 (lv_at hl 4 rfl) ?_
      refine lv_iconst (v := (-1)) hx hb dX8_look_75 (by decide) ?_
      refine lv_icmp_eq (tgt := 86) hx hb dX8_look_76 (by decide) (fun c5 => ?_) (fun c5 => ?_)
      · have h := fw_t c5 h
        exact B86 _ _ _ _ _ _ _ _ _ h (hP.sub [60, 0, 1, 2, 3, 4, 5, 6, 7, 8, 9, 10, 11, 12, 13, 14, 15, 16, 17, 18, 19, 20, 21, 22, 23, 61, 24, 25, 26, 27, 28, 29, 30, 31, 32, 33, 34, 35, 36, 37, 38, 39, 40, 41, 42, 43, 44, 45, 46, 47, 48, 49, 50, 51, 52, 53, 54, 55, 56, 57, 58, 59] rfl) (hD.sub [60, 0, 1, 2, 3, 4, 5, 6, 7, 8, 9, 10, 11, 12, 13, 14, 15, 16, 17, 18, 19, 20, 21, 22, 23, 61, 24, 25, 26, 27, 28, 29, 30, 31, 32, 33, 34, 35, 36, 37, 38, 39, 40, 41, 42, 43, 44, 45, 46, 47, 48, 49, 50, 51, 52, 53, 54, 55, 56, 57, 58, 59] (by decide) rfl) hS (lv_sub hl [1, 2, 3, 6, 0] rfl)
      · have h := fw_f c5 h
        refine lv_iload hx hb dX8_look_79 (lv_at hl 0 rfl) ?_
        refine lv_iload hx hb dX8_look_81 (lv_at hl 5 rfl) ?_
        refine lv_icmp_ge (tgt := 94) hx hb dX8_look_83 (by decide) (fun c6 => ?_) (fun c6 => ?_)
        · have h := fw_t c6 h
          exact B94 _ _ _ _ _ _ _ _ _ _ h (hP.sub [60, 0, 1, 2, 3, 4, 5, 6, 7, 8, 9, 10, 11, 12, 13, 14, 15, 16, 17, 18, 19, 20, 21, 22, 23, 61, 24, 25, 26, 27, 28, 29, 30, 31, 32, 33, 34, 35, 36, 37, 38, 39, 40, 41, 42, 43, 44, 45, 46, 47, 48, 49, 50, 51, 52, 53, 54, 55, 56, 57, 58, 59] rfl) (hD.sub [60, 0, 1, 2, 3, 4, 5, 6, 7, 8, 9, 10, 11, 12, 13, 14, 15, 16, 17, 18, 19, 20, 21, 22, 23, 61, 24, 25, 26, 27, 28, 29, 30, 31, 32, 33, 34, 35, 36, 37, 38, 39, 40, 41, 42, 43, 44, 45, 46, 47, 48, 49, 50, 51, 52, 53, 54, 55, 56, 57, 58, 59] (by decide) rfl) hS (lv_sub hl [1, 2, 3, 4, 5, 6] rfl)
        · have h := fw_f c6 h
          exact B86 _ _ _ _ _ _ _ _ _ h (hP.sub [60, 0, 1, 2, 3, 4, 5, 6, 7, 8, 9, 10, 11, 12, 13, 14, 15, 16, 17, 18, 19, 20, 21, 22, 23, 61, 24, 25, 26, 27, 28, 29, 30, 31, 32, 33, 34, 35, 36, 37, 38, 39, 40, 41, 42, 43, 44, 45, 46, 47, 48, 49, 50, 51, 52, 53, 54, 55, 56, 57, 58, 59] rfl) (hD.sub [60, 0, 1, 2, 3, 4, 5, 6, 7, 8, 9, 10, 11, 12, 13, 14, 15, 16, 17, 18, 19, 20, 21, 22, 23, 61, 24, 25, 26, 27, 28, 29, 30, 31, 32, 33, 34, 35, 36, 37, 38, 39, 40, 41, 42, 43, 44, 45, 46, 47, 48, 49, 50, 51, 52, 53, 54, 55, 56, 57, 58, 59] (by decide) rfl) hS (lv_sub hl [1, 2, 3, 6, 0] rfl)
  have C56 : ∀ (v2 : Int32) (v4 : Int32) (v5 : Int32) (v6 : Int32) (tm : OB) (xtr : Nat → Int32) (rz : Nat → OB), lp (b_X8_look_56 F xi xrr si rm nt) F (v2, v4, v5, v6, tm, xtr, rz) = some res → ∀ (H : Heap) (locs : List Loc) (ls : Array Slot), va_P D vwCl ([((xo 0), .inr (6, [.ref (ta 0), .ref xr, .int (xi 2), .ref (sa 0), .ref xm, .ref xg, .ref (tr 0), .ref xs, .ref xp, .ref xq, .ref xe, .ref xt]))] ++ ([(xr, hcR k 6 xrr)] ++ ([((sa 0), .inr (4, [.ref (xa 0), .ref (ca 0), .ref (na 0), .int (si 3), .int (si 4)]))] ++ (rmW k xa rm ++ (ntW k na nt ++ (rmW k tr tm ++ ([(xt, hcI k 24 xtr)] ++ (RU k ra rz)))))))) H → va_D A ([((xo 0), .inr (6, [.ref (ta 0), .ref xr, .int (xi 2), .ref (sa 0), .ref xm, .ref xg, .ref (tr 0), .ref xs, .ref xp, .ref xq, .ref xe, .ref xt]))] ++ ([(xr, hcR k 6 xrr)] ++ ([((sa 0), .inr (4, [.ref (xa 0), .ref (ca 0), .ref (na 0), .int (si 3), .int (si 4)]))] ++ (rmW k xa rm ++ (ntW k na nt ++ (rmW k tr tm ++ ([(xt, hcI k 24 xtr)] ++ (RU k ra rz)))))))) → va_S A s.heap H locs → lv_has ls 8 [(0, .ref (xo 0)), (2, .int v2), (3, .ref (xa 0)), (4, .int v4), (5, .int v5), (6, .int v6)] → W p l e (rmK 8 0 0) s m (List.toArray [.ref (xo 0), .int x1, .int x2]) below meth c H locs 0 0 (MQ below (va_Qi (fun r (_ : Unit) => r = res.1) (hcB D (fun _ : Unit => [((xo 0), .inr (6, [.ref (ta 0), .ref xr, .int (xi 2), .ref (sa 0), .ref xm, .ref xg, .ref (tr 0), .ref xs, .ref xp, .ref xq, .ref xe, .ref xt]))] ++ ([(xr, hcR k 6 xrr)] ++ ([((sa 0), .inr (4, [.ref (xa 0), .ref (ca 0), .ref (na 0), .int (si 3), .int (si 4)]))] ++ (rmW k xa rm ++ (ntW k na nt ++ (rmW k tr res.2.1 ++ ([(xt, hcI k 24 res.2.2.1)] ++ (RU k ra res.2.2.2)))))))) A) A) (List.toArray [.ref (xo 0), .int x1, .int x2]) s 0 0 A) (F0 m 56 ls []) := fun v2 v4 v5 v6 tm xtr rz => B56 (v2, v4, v5, v6, tm, xtr, rz)
  refine lv_aload_n hx hb dX8_look_0 rfl (lv_at hl 0 rfl) ?_
  refine va_get (D := D) (ci := 6) (v := .ref (sa 0)) (C := RX8) (T := TX8) (N := 12) hx hb hts in8 hown hG.1 hP 0 rfl rfl 3 (by decide) (hts (.fieldLink RX8 29 "ChairCane" "now" "LChairCane$Standing;") (by decide +kernel)) (fun _ h9 => h9) rfl dX8_look_1 ?_
  refine va_get (D := D) (ci := 4) (v := .ref (xa 0)) (C := RX6) (T := TX6) (N := 5) hx hb hts in6 hown hG.1 hP 2 rfl rfl 0 (by decide) (hts (.fieldLink RX8 81 "ChairCane$Standing" "room" "LChairCane$Room;") (by decide +kernel)) (fun _ h9 => h9) rfl dX8_look_4 ?_
  refine lv_astore_n (lv' := [(3, .ref (xa 0)), (0, .ref (xo 0)), (1, .int x1), (2, .int x2)]) hx hb dX8_look_7 rfl hl (by decide) rfl (fun ls hl => ?_)
  refine lv_aload_n hx hb dX8_look_8 rfl (lv_at hl 0 rfl) ?_
  refine va_get (D := D) (ci := 2) (v := .int (rm.1 0)) (C := RX3) (T := TX3) (N := 17) hx hb hts in3 hown hG.1 hP 3 rfl rfl 0 (by decide) (hts (.fieldLink RX8 150 "ChairCane$Room" "told" "Z") (by decide +kernel)) (fun _ h9 => h9) rfl dX8_look_9 ?_
  refine lv_if_eq (tgt := 34) hx hb dX8_look_12 (by decide) (fun c7 => ?_) (fun c7 => ?_)
  · have h := fw_t c7 h
    exact B34 _ _ _ _ _ _ h hP hD hS (lv_sub hl [] rfl)
  · have h := fw_f c7 h
    refine lv_iload_n hx hb dX8_look_15 rfl (lv_at hl 2 rfl) ?_
    refine lv_if_lt (tgt := 34) hx hb dX8_look_16 (by decide) (fun c8 => ?_) (fun c8 => ?_)
    · have h := fw_t c8 h
      exact B34 _ _ _ _ _ _ h hP hD hS (lv_sub hl [] rfl)
    · have h := fw_f c8 h
      refine lv_iload_n hx hb dX8_look_19 rfl (lv_at hl 2 rfl) ?_
      refine lv_bipush (v := 60) hx hb dX8_look_20 (by decide) ?_
      refine lv_icmp_gt (tgt := 34) hx hb dX8_look_22 (by decide) (fun c9 => ?_) (fun c9 => ?_)
      · have h := fw_t c9 h
        exact B34 _ _ _ _ _ _ h hP hD hS (lv_sub hl [] rfl)
      · have h := fw_f c9 h
        refine lv_iload_n hx hb dX8_look_25 rfl (lv_at hl 3 rfl) ?_
        refine lv_if_lt (tgt := 34) hx hb dX8_look_26 (by decide) (fun c10 => ?_) (fun c10 => ?_)
        · have h := fw_t c10 h
          exact B34 _ _ _ _ _ _ h hP hD hS (lv_sub hl [] rfl)
        · have h := fw_f c10 h
          refine lv_iload_n hx hb dX8_look_29 rfl (lv_at hl 3 rfl) ?_
          refine lv_iconst (v := 1) hx hb dX8_look_30 (by decide) ?_
          refine lv_icmp_le (tgt := 36) hx hb dX8_look_31 (by decide) (fun c11 => ?_) (fun c11 => ?_)
          · have h := fw_t c11 h
            refine lv_aload_n hx hb dX8_look_36 rfl (lv_at hl 1 rfl) ?_
            refine lv_iload_n hx hb dX8_look_37 rfl (lv_at hl 2 rfl) ?_
            refine fw_Vi (As := [.int x1]) (rest := []) (n := 1) (wr := []) (rv := fun b : Int32 × OB × (Nat → Int32) × (Nat → OB) => b.1) (wp := fun b : Int32 × OB × (Nat → Int32) × (Nat → OB) => [((xo 0), .inr (6, [.ref (ta 0), .ref xr, .int (xi 2), .ref (sa 0), .ref xm, .ref xg, .ref (tr 0), .ref xs, .ref xp, .ref xq, .ref xe, .ref xt]))] ++ ([(xr, hcR k 6 xrr)] ++ ([((sa 0), .inr (4, [.ref (xa 0), .ref (ca 0), .ref (na 0), .int (si 3), .int (si 4)]))] ++ (rmW k xa rm ++ (ntW k na nt ++ (rmW k tr b.2.1 ++ ([(xt, hcI k 24 b.2.2.1)] ++ (RU k ra b.2.2.2)))))))) h hx hb hml hown hts hG hA hP hD hS hl.1 (List.range ([((xo 0), .inr (6, [.ref (ta 0), .ref xr, .int (xi 2), .ref (sa 0), .ref xm, .ref xg, .ref (tr 0), .ref xs, .ref xp, .ref xq, .ref xe, .ref xt]))] ++ ([(xr, hcR k 6 xrr)] ++ ([((sa 0), .inr (4, [.ref (xa 0), .ref (ca 0), .ref (na 0), .int (si 3), .int (si 4)]))] ++ (rmW k xa rm ++ (ntW k na nt ++ (rmW k tr tm ++ ([(xt, hcI k 24 xtr)] ++ (RU k ra rz)))))))).length) [] (fun q hq9 => c_X8_tallyStates l D k _  xo ta xr sa xm xg tr xs xp xq xe xt xa ca na ra F x1 xi xrr si rm nt tm xtr rz hq hq9) (ci := 6) (q0 := 0) rfl rfl gX8_look_X8_tallyStates rfl ⟨rfl, rfl, Nat.le_of_ble_eq_true rfl, Nat.le_of_ble_eq_true rfl⟩ (by decide +kernel) (al_C _) rfl (al_n _) ⟨rfl, rfl, Nat.le_of_ble_eq_true rfl, Nat.le_of_ble_eq_true rfl, Nat.le_of_ble_eq_true rfl⟩ dX8_look_38 (fun q12 H locs h hP hD hS => ?_)
            have hP : va_P D vwCl ([((xo 0), .inr (6, [.ref (ta 0), .ref xr, .int (xi 2), .ref (sa 0), .ref xm, .ref xg, .ref (tr 0), .ref xs, .ref xp, .ref xq, .ref xe, .ref xt]))] ++ ([(xr, hcR k 6 xrr)] ++ ([((sa 0), .inr (4, [.ref (xa 0), .ref (ca 0), .ref (na 0), .int (si 3), .int (si 4)]))] ++ (rmW k xa rm ++ (ntW k na nt ++ (rmW k tr q12.2.1 ++ ([(xt, hcI k 24 q12.2.2.1)] ++ (RU k ra q12.2.2.2)))))))) H := hP
            have hD : va_D A ([((xo 0), .inr (6, [.ref (ta 0), .ref xr, .int (xi 2), .ref (sa 0), .ref xm, .ref xg, .ref (tr 0), .ref xs, .ref xp, .ref xq, .ref xe, .ref xt]))] ++ ([(xr, hcR k 6 xrr)] ++ ([((sa 0), .inr (4, [.ref (xa 0), .ref (ca 0), .ref (na 0), .int (si 3), .int (si 4)]))] ++ (rmW k xa rm ++ (ntW k na nt ++ (rmW k tr q12.2.1 ++ ([(xt, hcI k 24 q12.2.2.1)] ++ (RU k ra q12.2.2.2)))))))) := hD
            refine hc_is (z := q12.1) rfl ?_
            refine lv_if_ne (tgt := 47) hx hb dX8_look_41 (by decide) (fun c13 => ?_) (fun c13 => ?_)
            · have h := fw_f c13 h
              refine lv_iconst (v := (-1)) hx hb dX8_look_47 (by decide) ?_
              refine lv_istore (lv' := [(4, .int (-1)), (3, .ref (xa 0)), (0, .ref (xo 0)), (1, .int x1), (2, .int x2)]) hx hb dX8_look_48 hl (by decide) rfl (fun ls hl => ?_)
              refine lv_iconst (v := 0) hx hb dX8_look_50 (by decide) ?_
              refine lv_istore (lv' := [(5, .int 0), (4, .int (-1)), (3, .ref (xa 0)), (0, .ref (xo 0)), (1, .int x1), (2, .int x2)]) hx hb dX8_look_51 hl (by decide) rfl (fun ls hl => ?_)
              refine lv_iconst (v := 0) hx hb dX8_look_53 (by decide) ?_
              refine lv_istore (lv' := [(6, .int 0), (5, .int 0), (4, .int (-1)), (3, .ref (xa 0)), (0, .ref (xo 0)), (1, .int x1), (2, .int x2)]) hx hb dX8_look_54 hl (by decide) rfl (fun ls hl => ?_)
              exact C56 _ _ _ _ _ _ _ h _ _ _ hP hD hS (lv_sub hl [4, 6, 3, 2, 1, 0] rfl)
            · have h := fw_t c13 h
              refine lv_bipush (v := (-2)) hx hb dX8_look_44 (by decide) ?_
              exact fw_endI (rv := fun b : Int32 × OB × (Nat → Int32) × (Nat → OB) => b.1) (wp := fun b : Int32 × OB × (Nat → Int32) × (Nat → OB) => [((xo 0), .inr (6, [.ref (ta 0), .ref xr, .int (xi 2), .ref (sa 0), .ref xm, .ref xg, .ref (tr 0), .ref xs, .ref xp, .ref xq, .ref xe, .ref xt]))] ++ ([(xr, hcR k 6 xrr)] ++ ([((sa 0), .inr (4, [.ref (xa 0), .ref (ca 0), .ref (na 0), .int (si 3), .int (si 4)]))] ++ (rmW k xa rm ++ (ntW k na nt ++ (rmW k tr b.2.1 ++ ([(xt, hcI k 24 b.2.2.1)] ++ (RU k ra b.2.2.2)))))))) hx hb hr hlocks h rfl hP hD hS dX8_look_46
          · have h := fw_f c11 h
            exact B34 _ _ _ _ _ _ h hP hD hS (lv_sub hl [] rfl)
def f_X8_seed (F : Nat)  (x1 : Int32) (xi : Nat → Int32) (si : Nat → Int32) : Option (Int32 × (Nat → Int32)) :=
  if 0 ≤ x1 then (some ((si 4), (uF si 4 x1))) else (some ((-1), si))
set_option maxHeartbeats 4000000 in
set_option maxRecDepth 100000 in
theorem c_X8_seed (l : Launch) (D : va_G) (k : Nat → ClassId) (sz : Nat)  (xo : Nat → Nat) (ta : Nat → Nat) (xr : Nat) (sa : Nat → Nat) (xm : Nat) (xg : Nat) (tr : Nat → Nat) (xs : Nat) (xp : Nat) (xq : Nat) (xe : Nat) (xt : Nat) (xa : Nat → Nat) (ca : Nat → Nat) (na : Nat → Nat) (F : Nat)  (x1 : Int32) (xi : Nat → Int32) (si : Nat → Int32)  {res : Int32 × (Nat → Int32)} (h : f_X8_seed F x1 xi si = some res) : CtI l yX8_seed wsX8_seed (rmK 1 0 0) [.ref (xo 0), .int x1] D k sz ([((xo 0), .inr (6, [.ref (ta 0), .ref xr, .int (xi 2), .ref (sa 0), .ref xm, .ref xg, .ref (tr 0), .ref xs, .ref xp, .ref xq, .ref xe, .ref xt]))] ++ ([((sa 0), .inr (4, [.ref (xa 0), .ref (ca 0), .ref (na 0), .int (si 3), .int (si 4)]))])) (fun r (_ : Unit) => r = res.1) (fun _ : Unit => [((xo 0), .inr (6, [.ref (ta 0), .ref xr, .int (xi 2), .ref (sa 0), .ref xm, .ref xg, .ref (tr 0), .ref xs, .ref xp, .ref xq, .ref xe, .ref xt]))] ++ ([((sa 0), .inr (4, [.ref (xa 0), .ref (ca 0), .ref (na 0), .int (res.2 3), .int (res.2 4)]))])) 0 0 := by
  refine CtI.mk (cc := cX8_seed) (maxL := 3) (ret := (some .int)) (by decide) rfl (Nat.le_of_ble_eq_true rfl) ?_
  intro p e s m below meth c A ls E hP hD hS hl
  obtain ⟨hx, hb, hr, hml, hown, hts, hlocks, hin, hG, hA⟩ := E
  have hown : s.vm.findClass RX8 = some m.cls := hown
  have in6 : ∀ w ∈ u_ws RX6 TX6 5, w ∈ wsX8_seed := fun _ h => List.mem_cons_of_mem _ (List.mem_append_right _ h)
  have in8 : ∀ w ∈ u_ws RX8 TX8 12, w ∈ wsX8_seed := fun _ h => List.mem_cons_of_mem _ (List.mem_append_left _ (List.mem_append_right _ h))
  have hl : lv_has ls 3 [(0, .ref (xo 0)), (1, .int x1)] := hl
  refine lv_iload_n hx hb dX8_seed_0 rfl (lv_at hl 1 rfl) ?_
  refine lv_if_ge (tgt := 6) hx hb dX8_seed_1 (by decide) (fun c1 => ?_) (fun c1 => ?_)
  · have h := fw_t c1 h
    refine lv_aload_n hx hb dX8_seed_6 rfl (lv_at hl 0 rfl) ?_
    refine va_get (D := D) (ci := 6) (v := .ref (sa 0)) (C := RX8) (T := TX8) (N := 12) hx hb hts in8 hown hG.1 hP 0 rfl rfl 3 (by decide) (hts (.fieldLink RX8 29 "ChairCane" "now" "LChairCane$Standing;") (by decide +kernel)) (fun _ h9 => h9) rfl dX8_seed_7 ?_
    refine va_get (D := D) (ci := 4) (v := .int (si 4)) (C := RX6) (T := TX6) (N := 5) hx hb hts in6 hown hG.1 hP 1 rfl rfl 4 (by decide) (hts (.fieldLink RX8 292 "ChairCane$Standing" "x" "I") (by decide +kernel)) (fun _ h9 => h9) rfl dX8_seed_10 ?_
    refine lv_istore_n (lv' := [(2, .int (si 4)), (0, .ref (xo 0)), (1, .int x1)]) hx hb dX8_seed_13 rfl hl (by decide) rfl (fun ls hl => ?_)
    refine lv_aload_n hx hb dX8_seed_14 rfl (lv_at hl 1 rfl) ?_
    refine va_get (D := D) (ci := 6) (v := .ref (sa 0)) (C := RX8) (T := TX8) (N := 12) hx hb hts in8 hown hG.1 hP 0 rfl rfl 3 (by decide) (hts (.fieldLink RX8 29 "ChairCane" "now" "LChairCane$Standing;") (by decide +kernel)) (fun _ h9 => h9) rfl dX8_seed_15 ?_
    refine lv_iload_n hx hb dX8_seed_18 rfl (lv_at hl 2 rfl) ?_
    refine va_put (D := D) (ci := 4) (v := .int x1) (C := RX6) (T := TX6) (N := 5) hx hb hts in6 tyX6 tyX6_ok nmX6 hown hG.1 hP hD hS 1 rfl rfl 4 (by decide) (hts (.fieldLink RX8 292 "ChairCane$Standing" "x" "I") (by decide +kernel)) (fun _ h9 => h9) rfl (tyX6_ok 4 (by decide)) rfl rfl (Nat.le_of_ble_eq_true rfl) dX8_seed_19 (fun H locs hP hD hS => ?_)
    refine lv_iload_n hx hb dX8_seed_22 rfl (lv_at hl 0 rfl) ?_
    exact fw_endI (rv := fun b : Int32 × (Nat → Int32) => b.1) (wp := fun b : Int32 × (Nat → Int32) => [((xo 0), .inr (6, [.ref (ta 0), .ref xr, .int (xi 2), .ref (sa 0), .ref xm, .ref xg, .ref (tr 0), .ref xs, .ref xp, .ref xq, .ref xe, .ref xt]))] ++ ([((sa 0), .inr (4, [.ref (xa 0), .ref (ca 0), .ref (na 0), .int (b.2 3), .int (b.2 4)]))])) hx hb hr hlocks h rfl hP hD hS dX8_seed_23
  · have h := fw_f c1 h
    refine lv_iconst (v := (-1)) hx hb dX8_seed_4 (by decide) ?_
    exact fw_endI (rv := fun b : Int32 × (Nat → Int32) => b.1) (wp := fun b : Int32 × (Nat → Int32) => [((xo 0), .inr (6, [.ref (ta 0), .ref xr, .int (xi 2), .ref (sa 0), .ref xm, .ref xg, .ref (tr 0), .ref xs, .ref xp, .ref xq, .ref xe, .ref xt]))] ++ ([((sa 0), .inr (4, [.ref (xa 0), .ref (ca 0), .ref (na 0), .int (b.2 3), .int (b.2 4)]))])) hx hb hr hlocks h rfl hP hD hS dX8_seed_5
def b_X8_playToasts_88 (F : Nat)  (xi : Nat → Int32) (xrr : Nat → Option Nat) (si : Nat → Int32) (rm : OB) (k26 : (Int32 × Int32 × Int32 × Int32 × Int32 × OB × (Nat → OB)) → Option (Int32 × OB × (Nat → OB))) (v1 : Int32) (v2 : Int32) (v4 : Int32) (v5 : Int32) (v6 : Int32) (tm : OB) (rz : Nat → OB) : Option (Int32 × OB × (Nat → OB)) :=
  Option.bind (f_X3_passMinute F v4 tm rz) (fun q1 => (k26 (v1, v2, v4, v5, (v6 + 1), q1.2.1, q1.2.2)))
def b_X8_playToasts_26 (F : Nat)  (xi : Nat → Int32) (xrr : Nat → Option Nat) (si : Nat → Int32) (rm : OB)  (k26 : (Int32 × Int32 × Int32 × Int32 × Int32 × OB × (Nat → OB)) → Option (Int32 × OB × (Nat → OB))) (a26 : (Int32 × Int32 × Int32 × Int32 × Int32 × OB × (Nat → OB))) : Option (Int32 × OB × (Nat → OB)) :=
  if a26.1 ≤ a26.2.2.2.2.1 then (some (a26.2.2.2.1, a26.2.2.2.2.2.1, a26.2.2.2.2.2.2)) else (Option.bind (f_X8_nextDrawn F a26.2.2.2.1) (fun q3 => (Option.bind (f_X8_drawOf F q3) (fun q4 => (if a26.2.1 ≤ (q4 - q4 / 100 * 100) then (b_X8_playToasts_88 F xi xrr si rm k26 a26.1 a26.2.1 a26.2.2.1 q3 a26.2.2.2.2.1 a26.2.2.2.2.2.1 a26.2.2.2.2.2.2) else (if (a26.2.2.2.2.2.1.1 3) ≤ 0 then (b_X8_playToasts_88 F xi xrr si rm k26 a26.1 a26.2.1 a26.2.2.1 q3 a26.2.2.2.2.1 a26.2.2.2.2.2.1 a26.2.2.2.2.2.2) else (Option.bind (f_X8_nextDrawn F q3) (fun q7 => (Option.bind (f_X8_drawOf F q7) (fun q8 => (if ¬ (a26.2.2.2.2.2.1.1 3) = 0 then (Option.bind (f_X3_turn F (q8 - q8 / (a26.2.2.2.2.2.1.1 3) * (a26.2.2.2.2.2.1.1 3)) a26.2.2.2.2.2.1) (fun q10 => (b_X8_playToasts_88 F xi xrr si rm k26 a26.1 a26.2.1 a26.2.2.1 q7 a26.2.2.2.2.1 q10 a26.2.2.2.2.2.2))) else none)))))))))))
def f_X8_playToasts (F : Nat)  (x1 : Int32) (x2 : Int32) (x3 : Int32) (xi : Nat → Int32) (xrr : Nat → Option Nat) (si : Nat → Int32) (rm : OB) (tm : OB) (rz : Nat → OB) : Option (Int32 × OB × (Nat → OB)) :=
  Option.bind (f_X8_ruleInForce F xi xrr si) (fun q11 => (Option.bind (f_X3_copyFrom F tm rm) (fun q12 => (lp (b_X8_playToasts_26 F xi xrr si rm) F (x1, x2, q11, x3, 0, q12, rz)))))
set_option maxHeartbeats 4000000 in
set_option maxRecDepth 100000 in
theorem c_X8_playToasts (l : Launch) (D : va_G) (k : Nat → ClassId) (sz : Nat)  (xo : Nat → Nat) (ta : Nat → Nat) (xr : Nat) (sa : Nat → Nat) (xm : Nat) (xg : Nat) (tr : Nat → Nat) (xs : Nat) (xp : Nat) (xq : Nat) (xe : Nat) (xt : Nat) (xa : Nat → Nat) (ca : Nat → Nat) (na : Nat → Nat) (ra : Nat → Nat) (F : Nat)  (x1 : Int32) (x2 : Int32) (x3 : Int32) (xi : Nat → Int32) (xrr : Nat → Option Nat) (si : Nat → Int32) (rm : OB) (tm : OB) (rz : Nat → OB) (hq : ∀ i, i < 6 → xrr i = some (ra (6 * i))) {res : Int32 × OB × (Nat → OB)} (h : f_X8_playToasts F x1 x2 x3 xi xrr si rm tm rz = some res) : CtI l yX8_playToasts wsX8_playToasts (rmK 6 0 0) [.ref (xo 0), .int x1, .int x2, .int x3] D k sz ([((xo 0), .inr (6, [.ref (ta 0), .ref xr, .int (xi 2), .ref (sa 0), .ref xm, .ref xg, .ref (tr 0), .ref xs, .ref xp, .ref xq, .ref xe, .ref xt]))] ++ ([(xr, hcR k 6 xrr)] ++ ([((sa 0), .inr (4, [.ref (xa 0), .ref (ca 0), .ref (na 0), .int (si 3), .int (si 4)]))] ++ (rmW k xa rm ++ (rmW k tr tm ++ (RU k ra rz)))))) (fun r (_ : Unit) => r = res.1) (fun _ : Unit => [((xo 0), .inr (6, [.ref (ta 0), .ref xr, .int (xi 2), .ref (sa 0), .ref xm, .ref xg, .ref (tr 0), .ref xs, .ref xp, .ref xq, .ref xe, .ref xt]))] ++ ([(xr, hcR k 6 xrr)] ++ ([((sa 0), .inr (4, [.ref (xa 0), .ref (ca 0), .ref (na 0), .int (si 3), .int (si 4)]))] ++ (rmW k xa rm ++ (rmW k tr res.2.1 ++ (RU k ra res.2.2)))))) 0 0 := by
  refine CtI.mk (cc := cX8_playToasts) (maxL := 7) (ret := (some .int)) (by decide) rfl (Nat.le_of_ble_eq_true rfl) ?_
  intro p e s m below meth c A ls E hP hD hS hl
  obtain ⟨hx, hb, hr, hml, hown, hts, hlocks, hin, hG, hA⟩ := E
  have hown : s.vm.findClass RX8 = some m.cls := hown
  have in3 : ∀ w ∈ u_ws RX3 TX3 17, w ∈ wsX8_playToasts := fun _ h => List.mem_cons_of_mem _ (List.mem_append_left _ (List.mem_append_right _ h))
  have in4 : ∀ w ∈ u_ws RX4 TX4 8, w ∈ wsX8_playToasts := fun _ h => List.mem_cons_of_mem _ (List.mem_append_right _ h)
  have in6 : ∀ w ∈ u_ws RX6 TX6 5, w ∈ wsX8_playToasts := fun _ h => List.mem_cons_of_mem _ (List.mem_append_left _ (List.mem_append_left _ (List.mem_append_right _ h)))
  have in8 : ∀ w ∈ u_ws RX8 TX8 12, w ∈ wsX8_playToasts := fun _ h => List.mem_cons_of_mem _ (List.mem_append_left _ (List.mem_append_left _ (List.mem_append_left _ (List.mem_append_right _ h))))
  have hl : lv_has ls 7 [(0, .ref (xo 0)), (1, .int x1), (2, .int x2), (3, .int x3)] := hl
  have B26 : ∀ a26 : (Int32 × Int32 × Int32 × Int32 × Int32 × OB × (Nat → OB)), lp (b_X8_playToasts_26 F xi xrr si rm) F a26 = some res → ∀ (H : Heap) (locs : List Loc) (ls : Array Slot), va_P D vwCl ([((xo 0), .inr (6, [.ref (ta 0), .ref xr, .int (xi 2), .ref (sa 0), .ref xm, .ref xg, .ref (tr 0), .ref xs, .ref xp, .ref xq, .ref xe, .ref xt]))] ++ ([(xr, hcR k 6 xrr)] ++ ([((sa 0), .inr (4, [.ref (xa 0), .ref (ca 0), .ref (na 0), .int (si 3), .int (si 4)]))] ++ (rmW k xa rm ++ (rmW k tr a26.2.2.2.2.2.1 ++ (RU k ra a26.2.2.2.2.2.2)))))) H → va_D A ([((xo 0), .inr (6, [.ref (ta 0), .ref xr, .int (xi 2), .ref (sa 0), .ref xm, .ref xg, .ref (tr 0), .ref xs, .ref xp, .ref xq, .ref xe, .ref xt]))] ++ ([(xr, hcR k 6 xrr)] ++ ([((sa 0), .inr (4, [.ref (xa 0), .ref (ca 0), .ref (na 0), .int (si 3), .int (si 4)]))] ++ (rmW k xa rm ++ (rmW k tr a26.2.2.2.2.2.1 ++ (RU k ra a26.2.2.2.2.2.2)))))) → va_S A s.heap H locs → lv_has ls 7 [(0, .ref (xo 0)), (1, .int a26.1), (2, .int a26.2.1), (4, va_rf (rAd ra a26.2.2.1)), (5, .int a26.2.2.2.1), (6, .int a26.2.2.2.2.1)] → W p l e (rmK 6 0 0) s m (List.toArray [.ref (xo 0), .int x1, .int x2, .int x3]) below meth c H locs 0 0 (MQ below (va_Qi (fun r (_ : Unit) => r = res.1) (hcB D (fun _ : Unit => [((xo 0), .inr (6, [.ref (ta 0), .ref xr, .int (xi 2), .ref (sa 0), .ref xm, .ref xg, .ref (tr 0), .ref xs, .ref xp, .ref xq, .ref xe, .ref xt]))] ++ ([(xr, hcR k 6 xrr)] ++ ([((sa 0), .inr (4, [.ref (xa 0), .ref (ca 0), .ref (na 0), .int (si 3), .int (si 4)]))] ++ (rmW k xa rm ++ (rmW k tr res.2.1 ++ (RU k ra res.2.2)))))) A) A) (List.toArray [.ref (xo 0), .int x1, .int x2, .int x3]) s 0 0 A) (F0 m 26 ls []) := by
    refine lp_W ?_ F
    intro k26 hk26 a26 h H locs ls hP hD hS hl
    have hc26 : ∀ (v1 : Int32) (v2 : Int32) (v4 : Int32) (v5 : Int32) (v6 : Int32) (tm : OB) (rz : Nat → OB), k26 (v1, v2, v4, v5, v6, tm, rz) = some res → ∀ (H : Heap) (locs : List Loc) (ls : Array Slot), va_P D vwCl ([((xo 0), .inr (6, [.ref (ta 0), .ref xr, .int (xi 2), .ref (sa 0), .ref xm, .ref xg, .ref (tr 0), .ref xs, .ref xp, .ref xq, .ref xe, .ref xt]))] ++ ([(xr, hcR k 6 xrr)] ++ ([((sa 0), .inr (4, [.ref (xa 0), .ref (ca 0), .ref (na 0), .int (si 3), .int (si 4)]))] ++ (rmW k xa rm ++ (rmW k tr tm ++ (RU k ra rz)))))) H → va_D A ([((xo 0), .inr (6, [.ref (ta 0), .ref xr, .int (xi 2), .ref (sa 0), .ref xm, .ref xg, .ref (tr 0), .ref xs, .ref xp, .ref xq, .ref xe, .ref xt]))] ++ ([(xr, hcR k 6 xrr)] ++ ([((sa 0), .inr (4, [.ref (xa 0), .ref (ca 0), .ref (na 0), .int (si 3), .int (si 4)]))] ++ (rmW k xa rm ++ (rmW k tr tm ++ (RU k ra rz)))))) → va_S A s.heap H locs → lv_has ls 7 [(0, .ref (xo 0)), (1, .int v1), (2, .int v2), (4, va_rf (rAd ra v4)), (5, .int v5), (6, .int v6)] → W p l e (rmK 6 0 0) s m (List.toArray [.ref (xo 0), .int x1, .int x2, .int x3]) below meth c H locs 0 0 (MQ below (va_Qi (fun r (_ : Unit) => r = res.1) (hcB D (fun _ : Unit => [((xo 0), .inr (6, [.ref (ta 0), .ref xr, .int (xi 2), .ref (sa 0), .ref xm, .ref xg, .ref (tr 0), .ref xs, .ref xp, .ref xq, .ref xe, .ref xt]))] ++ ([(xr, hcR k 6 xrr)] ++ ([((sa 0), .inr (4, [.ref (xa 0), .ref (ca 0), .ref (na 0), .int (si 3), .int (si 4)]))] ++ (rmW k xa rm ++ (rmW k tr res.2.1 ++ (RU k ra res.2.2)))))) A) A) (List.toArray [.ref (xo 0), .int x1, .int x2, .int x3]) s 0 0 A) (F0 m 26 ls []) := fun v1 v2 v4 v5 v6 tm rz => hk26 (v1, v2, v4, v5, v6, tm, rz)
    have B88 : ∀ (v1 : Int32) (v2 : Int32) (v4 : Int32) (v5 : Int32) (v6 : Int32) (tm : OB) (rz : Nat → OB) (H : Heap) (locs : List Loc) (ls : Array Slot), b_X8_playToasts_88 F xi xrr si rm k26 v1 v2 v4 v5 v6 tm rz = some res → va_P D vwCl ([((xo 0), .inr (6, [.ref (ta 0), .ref xr, .int (xi 2), .ref (sa 0), .ref xm, .ref xg, .ref (tr 0), .ref xs, .ref xp, .ref xq, .ref xe, .ref xt]))] ++ ([(xr, hcR k 6 xrr)] ++ ([((sa 0), .inr (4, [.ref (xa 0), .ref (ca 0), .ref (na 0), .int (si 3), .int (si 4)]))] ++ (rmW k xa rm ++ (rmW k tr tm ++ (RU k ra rz)))))) H → va_D A ([((xo 0), .inr (6, [.ref (ta 0), .ref xr, .int (xi 2), .ref (sa 0), .ref xm, .ref xg, .ref (tr 0), .ref xs, .ref xp, .ref xq, .ref xe, .ref xt]))] ++ ([(xr, hcR k 6 xrr)] ++ ([((sa 0), .inr (4, [.ref (xa 0), .ref (ca 0), .ref (na 0), .int (si 3), .int (si 4)]))] ++ (rmW k xa rm ++ (rmW k tr tm ++ (RU k ra rz)))))) → va_S A s.heap H locs → lv_has ls 7 [(0, .ref (xo 0)), (1, .int v1), (2, .int v2), (4, va_rf (rAd ra v4)), (5, .int v5), (6, .int v6)] → W p l e (rmK 6 0 0) s m (List.toArray [.ref (xo 0), .int x1, .int x2, .int x3]) below meth c H locs 0 0 (MQ below (va_Qi (fun r (_ : Unit) => r = res.1) (hcB D (fun _ : Unit => [((xo 0), .inr (6, [.ref (ta 0), .ref xr, .int (xi 2), .ref (sa 0), .ref xm, .ref xg, .ref (tr 0), .ref xs, .ref xp, .ref xq, .ref xe, .ref xt]))] ++ ([(xr, hcR k 6 xrr)] ++ ([((sa 0), .inr (4, [.ref (xa 0), .ref (ca 0), .ref (na 0), .int (si 3), .int (si 4)]))] ++ (rmW k xa rm ++ (rmW k tr res.2.1 ++ (RU k ra res.2.2)))))) A) A) (List.toArray [.ref (xo 0), .int x1, .int x2, .int x3]) s 0 0 A) (F0 m 88 ls []) := by
      intro v1 v2 v4 v5 v6 tm rz H locs ls h hP hD hS hl
      refine lv_aload_n hx hb dX8_playToasts_88 rfl (lv_at hl 0 rfl) ?_
      refine va_get (D := D) (ci := 6) (v := .ref (tr 0)) (C := RX8) (T := TX8) (N := 12) hx hb hts in8 hown hG.1 hP 0 rfl rfl 6 (by decide) (hts (.fieldLink RX8 44 "ChairCane" "trial" "LChairCane$Room;") (by decide +kernel)) (fun _ h9 => h9) rfl dX8_playToasts_89 ?_
      refine lv_aloadO hx hb dX8_playToasts_92 (lv_at hl 3 rfl) ?_
      refine fw_Vi (As := [va_rf (rAd ra v4)]) (rest := []) (n := 1) (wr := [((xo 0), .inr (6, [.ref (ta 0), .ref xr, .int (xi 2), .ref (sa 0), .ref xm, .ref xg, .ref (tr 0), .ref xs, .ref xp, .ref xq, .ref xe, .ref xt]))] ++ ([(xr, hcR k 6 xrr)] ++ ([((sa 0), .inr (4, [.ref (xa 0), .ref (ca 0), .ref (na 0), .int (si 3), .int (si 4)]))] ++ (rmW k xa rm)))) (rv := fun b : Int32 × OB × (Nat → OB) => b.1) (wp := fun b : Int32 × OB × (Nat → OB) => rmW k tr b.2.1 ++ (RU k ra b.2.2)) h hx hb hml hown hts hG hA hP hD hS hl.1 [12, 13, 14, 15, 16, 17, 18, 19, 20, 21, 22, 23, 24, 25, 26, 27, 28, 29, 30, 31, 32, 33, 34, 35, 36, 37, 38, 39, 40, 41, 42, 43, 44, 45, 46, 47, 48, 49, 50, 51, 52, 53, 54, 55, 56] [0, 1, 2, 3, 4, 5, 6, 7, 8, 9, 10, 11] (fun q hq9 => c_X3_passMinute l D k _  tr ra F v4 tm rz  hq9) (ci := 2) (q0 := 12) rfl rfl gX8_playToasts_X3_passMinute rfl ⟨rfl, rfl, Nat.le_of_ble_eq_true rfl, Nat.le_of_ble_eq_true rfl⟩ (by decide +kernel) rfl rfl ⟨by decide, by decide, by decide⟩ ⟨rfl, rfl, Nat.le_of_ble_eq_true rfl, Nat.le_of_ble_eq_true rfl, Nat.le_of_ble_eq_true rfl⟩ dX8_playToasts_94 (fun q1 H locs h hP hD hS => ?_)
      have hP : va_P D vwCl ([((xo 0), .inr (6, [.ref (ta 0), .ref xr, .int (xi 2), .ref (sa 0), .ref xm, .ref xg, .ref (tr 0), .ref xs, .ref xp, .ref xq, .ref xe, .ref xt]))] ++ ([(xr, hcR k 6 xrr)] ++ ([((sa 0), .inr (4, [.ref (xa 0), .ref (ca 0), .ref (na 0), .int (si 3), .int (si 4)]))] ++ (rmW k xa rm ++ (rmW k tr q1.2.1 ++ (RU k ra q1.2.2)))))) H := hP
      have hD : va_D A ([((xo 0), .inr (6, [.ref (ta 0), .ref xr, .int (xi 2), .ref (sa 0), .ref xm, .ref xg, .ref (tr 0), .ref xs, .ref xp, .ref xq, .ref xe, .ref xt]))] ++ ([(xr, hcR k 6 xrr)] ++ ([((sa 0), .inr (4, [.ref (xa 0), .ref (ca 0), .ref (na 0), .int (si 3), .int (si 4)]))] ++ (rmW k xa rm ++ (rmW k tr q1.2.1 ++ (RU k ra q1.2.2)))))) := hD
      refine hc_is (z := q1.1) rfl ?_
      refine lv_pop hx hb dX8_playToasts_97 rfl ?_
      refine lv_iinc (v := (v6 + 1)) (lv' := [(6, .int (v6 + 1)), (0, .ref (xo 0)), (1, .int v1), (2, .int v2), (4, va_rf (rAd ra v4)), (5, .int v5)]) hx hb dX8_playToasts_98 hl (k := 5) rfl rfl (by decide) (by cases rAd ra v4 <;> rfl) (fun ls hl => ?_)
      refine lv_goto (tgt := 26) hx hb dX8_playToasts_101 (by decide) ?_
      exact hc26 _ _ _ _ _ _ _ h _ _ _ hP hD hS (lv_sub hl [1, 2, 3, 4, 5, 0] rfl)
    refine lv_iload hx hb dX8_playToasts_26 (lv_at hl 5 rfl) ?_
    refine lv_iload_n hx hb dX8_playToasts_28 rfl (lv_at hl 1 rfl) ?_
    refine lv_icmp_ge (tgt := 104) hx hb dX8_playToasts_29 (by decide) (fun c2 => ?_) (fun c2 => ?_)
    · have h := fw_t c2 h
      refine lv_iload hx hb dX8_playToasts_104 (lv_at hl 4 rfl) ?_
      exact fw_endI (rv := fun b : Int32 × OB × (Nat → OB) => b.1) (wp := fun b : Int32 × OB × (Nat → OB) => [((xo 0), .inr (6, [.ref (ta 0), .ref xr, .int (xi 2), .ref (sa 0), .ref xm, .ref xg, .ref (tr 0), .ref xs, .ref xp, .ref xq, .ref xe, .ref xt]))] ++ ([(xr, hcR k 6 xrr)] ++ ([((sa 0), .inr (4, [.ref (xa 0), .ref (ca 0), .ref (na 0), .int (si 3), .int (si 4)]))] ++ (rmW k xa rm ++ (rmW k tr b.2.1 ++ (RU k ra b.2.2)))))) hx hb hr hlocks h rfl hP hD hS dX8_playToasts_106
    · have h := fw_f c2 h
      refine lv_iload hx hb dX8_playToasts_32 (lv_at hl 4 rfl) ?_
      refine fw_Si (As := [.int a26.2.2.2.1]) (rest := []) (n := 1) (wr := [((xo 0), .inr (6, [.ref (ta 0), .ref xr, .int (xi 2), .ref (sa 0), .ref xm, .ref xg, .ref (tr 0), .ref xs, .ref xp, .ref xq, .ref xe, .ref xt]))] ++ ([(xr, hcR k 6 xrr)] ++ ([((sa 0), .inr (4, [.ref (xa 0), .ref (ca 0), .ref (na 0), .int (si 3), .int (si 4)]))] ++ (rmW k xa rm ++ (rmW k tr a26.2.2.2.2.2.1 ++ (RU k ra a26.2.2.2.2.2.2)))))) (rv := fun b : Int32 => b) (wp := fun b : Int32 => []) h hx hb hml hown hts hG hA hP hD hS hl.1 [] (List.range ([((xo 0), .inr (6, [.ref (ta 0), .ref xr, .int (xi 2), .ref (sa 0), .ref xm, .ref xg, .ref (tr 0), .ref xs, .ref xp, .ref xq, .ref xe, .ref xt]))] ++ ([(xr, hcR k 6 xrr)] ++ ([((sa 0), .inr (4, [.ref (xa 0), .ref (ca 0), .ref (na 0), .int (si 3), .int (si 4)]))] ++ (rmW k xa rm ++ (rmW k tr a26.2.2.2.2.2.1 ++ (RU k ra a26.2.2.2.2.2.2)))))).length) (fun q hq9 => c_X8_nextDrawn l D k _   F a26.2.2.2.1   hq9) gX8_playToasts_X8_nextDrawn rfl ⟨rfl, rfl, Nat.le_of_ble_eq_true rfl, Nat.le_of_ble_eq_true rfl⟩ (by decide +kernel) rfl (al_C _) (al_m _) ⟨rfl, rfl, Nat.le_of_ble_eq_true rfl, Nat.le_of_ble_eq_true rfl, Nat.le_of_ble_eq_true rfl⟩ dX8_playToasts_34 (fun q3 H locs h hP hD hS => ?_)
      have hP : va_P D vwCl (([((xo 0), .inr (6, [.ref (ta 0), .ref xr, .int (xi 2), .ref (sa 0), .ref xm, .ref xg, .ref (tr 0), .ref xs, .ref xp, .ref xq, .ref xe, .ref xt]))] ++ ([(xr, hcR k 6 xrr)] ++ ([((sa 0), .inr (4, [.ref (xa 0), .ref (ca 0), .ref (na 0), .int (si 3), .int (si 4)]))] ++ (rmW k xa rm ++ (rmW k tr a26.2.2.2.2.2.1 ++ (RU k ra a26.2.2.2.2.2.2)))))) ++ []) H := hP
      have hD : va_D A (([((xo 0), .inr (6, [.ref (ta 0), .ref xr, .int (xi 2), .ref (sa 0), .ref xm, .ref xg, .ref (tr 0), .ref xs, .ref xp, .ref xq, .ref xe, .ref xt]))] ++ ([(xr, hcR k 6 xrr)] ++ ([((sa 0), .inr (4, [.ref (xa 0), .ref (ca 0), .ref (na 0), .int (si 3), .int (si 4)]))] ++ (rmW k xa rm ++ (rmW k tr a26.2.2.2.2.2.1 ++ (RU k ra a26.2.2.2.2.2.2)))))) ++ []) := hD
      rw [List.append_nil] at hP hD
      refine hc_is (z := q3) rfl ?_
      refine lv_istore (lv' := [(5, .int q3), (0, .ref (xo 0)), (1, .int a26.1), (2, .int a26.2.1), (4, va_rf (rAd ra a26.2.2.1)), (6, .int a26.2.2.2.2.1)]) hx hb dX8_playToasts_37 hl (by decide) (by cases rAd ra a26.2.2.1 <;> rfl) (fun ls hl => ?_)
      refine lv_iload hx hb dX8_playToasts_39 (lv_at hl 0 rfl) ?_
      refine fw_Si (As := [.int q3]) (rest := []) (n := 1) (wr := [((xo 0), .inr (6, [.ref (ta 0), .ref xr, .int (xi 2), .ref (sa 0), .ref xm, .ref xg, .ref (tr 0), .ref xs, .ref xp, .ref xq, .ref xe, .ref xt]))] ++ ([(xr, hcR k 6 xrr)] ++ ([((sa 0), .inr (4, [.ref (xa 0), .ref (ca 0), .ref (na 0), .int (si 3), .int (si 4)]))] ++ (rmW k xa rm ++ (rmW k tr a26.2.2.2.2.2.1 ++ (RU k ra a26.2.2.2.2.2.2)))))) (rv := fun b : Int32 => b) (wp := fun b : Int32 => []) h hx hb hml hown hts hG hA hP hD hS hl.1 [] (List.range ([((xo 0), .inr (6, [.ref (ta 0), .ref xr, .int (xi 2), .ref (sa 0), .ref xm, .ref xg, .ref (tr 0), .ref xs, .ref xp, .ref xq, .ref xe, .ref xt]))] ++ ([(xr, hcR k 6 xrr)] ++ ([((sa 0), .inr (4, [.ref (xa 0), .ref (ca 0), .ref (na 0), .int (si 3), .int (si 4)]))] ++ (rmW k xa rm ++ (rmW k tr a26.2.2.2.2.2.1 ++ (RU k ra a26.2.2.2.2.2.2)))))).length) (fun q hq9 => c_X8_drawOf l D k _   F q3   hq9) gX8_playToasts_X8_drawOf rfl ⟨rfl, rfl, Nat.le_of_ble_eq_true rfl, Nat.le_of_ble_eq_true rfl⟩ (by decide +kernel) rfl (al_C _) (al_m _) ⟨rfl, rfl, Nat.le_of_ble_eq_true rfl, Nat.le_of_ble_eq_true rfl, Nat.le_of_ble_eq_true rfl⟩ dX8_playToasts_41 (fun q4 H locs h hP hD hS => ?_)
      have hP : va_P D vwCl (([((xo 0), .inr (6, [.ref (ta 0), .ref xr, .int (xi 2), .ref (sa 0), .ref xm, .ref xg, .ref (tr 0), .ref xs, .ref xp, .ref xq, .ref xe, .ref xt]))] ++ ([(xr, hcR k 6 xrr)] ++ ([((sa 0), .inr (4, [.ref (xa 0), .ref (ca 0), .ref (na 0), .int (si 3), .int (si 4)]))] ++ (rmW k xa rm ++ (rmW k tr a26.2.2.2.2.2.1 ++ (RU k ra a26.2.2.2.2.2.2)))))) ++ []) H := hP
      have hD : va_D A (([((xo 0), .inr (6, [.ref (ta 0), .ref xr, .int (xi 2), .ref (sa 0), .ref xm, .ref xg, .ref (tr 0), .ref xs, .ref xp, .ref xq, .ref xe, .ref xt]))] ++ ([(xr, hcR k 6 xrr)] ++ ([((sa 0), .inr (4, [.ref (xa 0), .ref (ca 0), .ref (na 0), .int (si 3), .int (si 4)]))] ++ (rmW k xa rm ++ (rmW k tr a26.2.2.2.2.2.1 ++ (RU k ra a26.2.2.2.2.2.2)))))) ++ []) := hD
      rw [List.append_nil] at hP hD
      refine hc_is (z := q4) rfl ?_
      refine lv_bipush (v := 100) hx hb dX8_playToasts_44 (by decide) ?_
      refine lv_irem hx hb dX8_playToasts_46 (by decide) ?_
      refine lv_iload_n hx hb dX8_playToasts_47 rfl (lv_at hl 3 rfl) ?_
      refine lv_icmp_ge (tgt := 88) hx hb dX8_playToasts_48 (by decide) (fun c5 => ?_) (fun c5 => ?_)
      · have h := fw_t c5 h
        exact B88 _ _ _ _ _ _ _ _ _ _ h hP hD hS (lv_sub hl [1, 2, 3, 4, 0, 5] rfl)
      · have h := fw_f c5 h
        refine lv_aload_n hx hb dX8_playToasts_51 rfl (lv_at hl 1 rfl) ?_
        refine va_get (D := D) (ci := 6) (v := .ref (tr 0)) (C := RX8) (T := TX8) (N := 12) hx hb hts in8 hown hG.1 hP 0 rfl rfl 6 (by decide) (hts (.fieldLink RX8 44 "ChairCane" "trial" "LChairCane$Room;") (by decide +kernel)) (fun _ h9 => h9) rfl dX8_playToasts_52 ?_
        refine va_get (D := D) (ci := 2) (v := .int (a26.2.2.2.2.2.1.1 3)) (C := RX3) (T := TX3) (N := 17) hx hb hts in3 hown hG.1 hP 12 rfl rfl 3 (by decide) (hts (.fieldLink RX8 104 "ChairCane$Room" "sitters" "I") (by decide +kernel)) (fun _ h9 => h9) rfl dX8_playToasts_55 ?_
        refine lv_if_le (tgt := 88) hx hb dX8_playToasts_58 (by decide) (fun c6 => ?_) (fun c6 => ?_)
        · have h := fw_t c6 h
          exact B88 _ _ _ _ _ _ _ _ _ _ h hP hD hS (lv_sub hl [1, 2, 3, 4, 0, 5] rfl)
        · have h := fw_f c6 h
          refine lv_iload hx hb dX8_playToasts_61 (lv_at hl 0 rfl) ?_
          refine fw_Si (As := [.int q3]) (rest := []) (n := 1) (wr := [((xo 0), .inr (6, [.ref (ta 0), .ref xr, .int (xi 2), .ref (sa 0), .ref xm, .ref xg, .ref (tr 0), .ref xs, .ref xp, .ref xq, .ref xe, .ref xt]))] ++ ([(xr, hcR k 6 xrr)] ++ ([((sa 0), .inr (4, [.ref (xa 0), .ref (ca 0), .ref (na 0), .int (si 3), .int (si 4)]))] ++ (rmW k xa rm ++ (rmW k tr a26.2.2.2.2.2.1 ++ (RU k ra a26.2.2.2.2.2.2)))))) (rv := fun b : Int32 => b) (wp := fun b : Int32 => []) h hx hb hml hown hts hG hA hP hD hS hl.1 [] (List.range ([((xo 0), .inr (6, [.ref (ta 0), .ref xr, .int (xi 2), .ref (sa 0), .ref xm, .ref xg, .ref (tr 0), .ref xs, .ref xp, .ref xq, .ref xe, .ref xt]))] ++ ([(xr, hcR k 6 xrr)] ++ ([((sa 0), .inr (4, [.ref (xa 0), .ref (ca 0), .ref (na 0), .int (si 3), .int (si 4)]))] ++ (rmW k xa rm ++ (rmW k tr a26.2.2.2.2.2.1 ++ (RU k ra a26.2.2.2.2.2.2)))))).length) (fun q hq9 => c_X8_nextDrawn l D k _   F q3   hq9) gX8_playToasts_X8_nextDrawn rfl ⟨rfl, rfl, Nat.le_of_ble_eq_true rfl, Nat.le_of_ble_eq_true rfl⟩ (by decide +kernel) rfl (al_C _) (al_m _) ⟨rfl, rfl, Nat.le_of_ble_eq_true rfl, Nat.le_of_ble_eq_true rfl, Nat.le_of_ble_eq_true rfl⟩ dX8_playToasts_63 (fun q7 H locs h hP hD hS => ?_)
          have hP : va_P D vwCl (([((xo 0), .inr (6, [.ref (ta 0), .ref xr, .int (xi 2), .ref (sa 0), .ref xm, .ref xg, .ref (tr 0), .ref xs, .ref xp, .ref xq, .ref xe, .ref xt]))] ++ ([(xr, hcR k 6 xrr)] ++ ([((sa 0), .inr (4, [.ref (xa 0), .ref (ca 0), .ref (na 0), .int (si 3), .int (si 4)]))] ++ (rmW k xa rm ++ (rmW k tr a26.2.2.2.2.2.1 ++ (RU k ra a26.2.2.2.2.2.2)))))) ++ []) H := hP
          have hD : va_D A (([((xo 0), .inr (6, [.ref (ta 0), .ref xr, .int (xi 2), .ref (sa 0), .ref xm, .ref xg, .ref (tr 0), .ref xs, .ref xp, .ref xq, .ref xe, .ref xt]))] ++ ([(xr, hcR k 6 xrr)] ++ ([((sa 0), .inr (4, [.ref (xa 0), .ref (ca 0), .ref (na 0), .int (si 3), .int (si 4)]))] ++ (rmW k xa rm ++ (rmW k tr a26.2.2.2.2.2.1 ++ (RU k ra a26.2.2.2.2.2.2)))))) ++ []) := hD
          rw [List.append_nil] at hP hD
          refine hc_is (z := q7) rfl ?_
          refine lv_istore (lv' := [(5, .int q7), (0, .ref (xo 0)), (1, .int a26.1), (2, .int a26.2.1), (4, va_rf (rAd ra a26.2.2.1)), (6, .int a26.2.2.2.2.1)]) hx hb dX8_playToasts_66 hl (by decide) (by cases rAd ra a26.2.2.1 <;> rfl) (fun ls hl => ?_)
          refine lv_aload_n hx hb dX8_playToasts_68 rfl (lv_at hl 1 rfl) ?_
          refine va_get (D := D) (ci := 6) (v := .ref (tr 0)) (C := RX8) (T := TX8) (N := 12) hx hb hts in8 hown hG.1 hP 0 rfl rfl 6 (by decide) (hts (.fieldLink RX8 44 "ChairCane" "trial" "LChairCane$Room;") (by decide +kernel)) (fun _ h9 => h9) rfl dX8_playToasts_69 ?_
          refine lv_iload hx hb dX8_playToasts_72 (lv_at hl 0 rfl) ?_
          refine fw_Si (As := [.int q7]) (rest := [.ref (tr 0)]) (n := 1) (wr := [((xo 0), .inr (6, [.ref (ta 0), .ref xr, .int (xi 2), .ref (sa 0), .ref xm, .ref xg, .ref (tr 0), .ref xs, .ref xp, .ref xq, .ref xe, .ref xt]))] ++ ([(xr, hcR k 6 xrr)] ++ ([((sa 0), .inr (4, [.ref (xa 0), .ref (ca 0), .ref (na 0), .int (si 3), .int (si 4)]))] ++ (rmW k xa rm ++ (rmW k tr a26.2.2.2.2.2.1 ++ (RU k ra a26.2.2.2.2.2.2)))))) (rv := fun b : Int32 => b) (wp := fun b : Int32 => []) h hx hb hml hown hts hG hA hP hD hS hl.1 [] (List.range ([((xo 0), .inr (6, [.ref (ta 0), .ref xr, .int (xi 2), .ref (sa 0), .ref xm, .ref xg, .ref (tr 0), .ref xs, .ref xp, .ref xq, .ref xe, .ref xt]))] ++ ([(xr, hcR k 6 xrr)] ++ ([((sa 0), .inr (4, [.ref (xa 0), .ref (ca 0), .ref (na 0), .int (si 3), .int (si 4)]))] ++ (rmW k xa rm ++ (rmW k tr a26.2.2.2.2.2.1 ++ (RU k ra a26.2.2.2.2.2.2)))))).length) (fun q hq9 => c_X8_drawOf l D k _   F q7   hq9) gX8_playToasts_X8_drawOf rfl ⟨rfl, rfl, Nat.le_of_ble_eq_true rfl, Nat.le_of_ble_eq_true rfl⟩ (by decide +kernel) rfl (al_C _) (al_m _) ⟨rfl, rfl, Nat.le_of_ble_eq_true rfl, Nat.le_of_ble_eq_true rfl, Nat.le_of_ble_eq_true rfl⟩ dX8_playToasts_74 (fun q8 H locs h hP hD hS => ?_)
          have hP : va_P D vwCl (([((xo 0), .inr (6, [.ref (ta 0), .ref xr, .int (xi 2), .ref (sa 0), .ref xm, .ref xg, .ref (tr 0), .ref xs, .ref xp, .ref xq, .ref xe, .ref xt]))] ++ ([(xr, hcR k 6 xrr)] ++ ([((sa 0), .inr (4, [.ref (xa 0), .ref (ca 0), .ref (na 0), .int (si 3), .int (si 4)]))] ++ (rmW k xa rm ++ (rmW k tr a26.2.2.2.2.2.1 ++ (RU k ra a26.2.2.2.2.2.2)))))) ++ []) H := hP
          have hD : va_D A (([((xo 0), .inr (6, [.ref (ta 0), .ref xr, .int (xi 2), .ref (sa 0), .ref xm, .ref xg, .ref (tr 0), .ref xs, .ref xp, .ref xq, .ref xe, .ref xt]))] ++ ([(xr, hcR k 6 xrr)] ++ ([((sa 0), .inr (4, [.ref (xa 0), .ref (ca 0), .ref (na 0), .int (si 3), .int (si 4)]))] ++ (rmW k xa rm ++ (rmW k tr a26.2.2.2.2.2.1 ++ (RU k ra a26.2.2.2.2.2.2)))))) ++ []) := hD
          rw [List.append_nil] at hP hD
          refine hc_is (z := q8) rfl ?_
          refine lv_aload_n hx hb dX8_playToasts_77 rfl (lv_at hl 1 rfl) ?_
          refine va_get (D := D) (ci := 6) (v := .ref (tr 0)) (C := RX8) (T := TX8) (N := 12) hx hb hts in8 hown hG.1 hP 0 rfl rfl 6 (by decide) (hts (.fieldLink RX8 44 "ChairCane" "trial" "LChairCane$Room;") (by decide +kernel)) (fun _ h9 => h9) rfl dX8_playToasts_78 ?_
          refine va_get (D := D) (ci := 2) (v := .int (a26.2.2.2.2.2.1.1 3)) (C := RX3) (T := TX3) (N := 17) hx hb hts in3 hown hG.1 hP 12 rfl rfl 3 (by decide) (hts (.fieldLink RX8 104 "ChairCane$Room" "sitters" "I") (by decide +kernel)) (fun _ h9 => h9) rfl dX8_playToasts_81 ?_
          obtain ⟨g9, h⟩ := fw_g h
          refine lv_irem hx hb dX8_playToasts_84 g9 ?_
          refine fw_Vv (As := [.int (q8 - q8 / (a26.2.2.2.2.2.1.1 3) * (a26.2.2.2.2.2.1.1 3))]) (rest := []) (n := 1) (wr := [((xo 0), .inr (6, [.ref (ta 0), .ref xr, .int (xi 2), .ref (sa 0), .ref xm, .ref xg, .ref (tr 0), .ref xs, .ref xp, .ref xq, .ref xe, .ref xt]))] ++ ([(xr, hcR k 6 xrr)] ++ ([((sa 0), .inr (4, [.ref (xa 0), .ref (ca 0), .ref (na 0), .int (si 3), .int (si 4)]))] ++ (rmW k xa rm ++ (RU k ra a26.2.2.2.2.2.2))))) (wp := fun b : OB => rmW k tr b) h hx hb hml hown hts hG hA hP hD hS hl.1 [12, 13, 14, 15, 16, 17, 18, 19, 20] [0, 1, 2, 3, 4, 5, 6, 7, 8, 9, 10, 11, 21, 22, 23, 24, 25, 26, 27, 28, 29, 30, 31, 32, 33, 34, 35, 36, 37, 38, 39, 40, 41, 42, 43, 44, 45, 46, 47, 48, 49, 50, 51, 52, 53, 54, 55, 56] (fun q hq9 => c_X3_turn l D k _  tr F (q8 - q8 / (a26.2.2.2.2.2.1.1 3) * (a26.2.2.2.2.2.1.1 3)) a26.2.2.2.2.2.1  hq9) (ci := 2) (q0 := 12) rfl rfl gX8_playToasts_X3_turn rfl ⟨rfl, rfl, Nat.le_of_ble_eq_true rfl, Nat.le_of_ble_eq_true rfl⟩ (by decide +kernel) rfl rfl ⟨by decide, by decide, by decide⟩ ⟨rfl, rfl, Nat.le_of_ble_eq_true rfl, Nat.le_of_ble_eq_true rfl, Nat.le_of_ble_eq_true rfl⟩ dX8_playToasts_85 (fun q10 H locs h hP hD hS => ?_)
          have hP : va_P D vwCl ([((xo 0), .inr (6, [.ref (ta 0), .ref xr, .int (xi 2), .ref (sa 0), .ref xm, .ref xg, .ref (tr 0), .ref xs, .ref xp, .ref xq, .ref xe, .ref xt]))] ++ ([(xr, hcR k 6 xrr)] ++ ([((sa 0), .inr (4, [.ref (xa 0), .ref (ca 0), .ref (na 0), .int (si 3), .int (si 4)]))] ++ (rmW k xa rm ++ (RU k ra a26.2.2.2.2.2.2 ++ (rmW k tr q10)))))) H := hP
          have hD : va_D A ([((xo 0), .inr (6, [.ref (ta 0), .ref xr, .int (xi 2), .ref (sa 0), .ref xm, .ref xg, .ref (tr 0), .ref xs, .ref xp, .ref xq, .ref xe, .ref xt]))] ++ ([(xr, hcR k 6 xrr)] ++ ([((sa 0), .inr (4, [.ref (xa 0), .ref (ca 0), .ref (na 0), .int (si 3), .int (si 4)]))] ++ (rmW k xa rm ++ (RU k ra a26.2.2.2.2.2.2 ++ (rmW k tr q10)))))) := hD
          exact B88 _ _ _ _ _ _ _ _ _ _ h (hP.sub [0, 1, 2, 3, 4, 5, 6, 7, 8, 9, 10, 11, 48, 49, 50, 51, 52, 53, 54, 55, 56, 12, 13, 14, 15, 16, 17, 18, 19, 20, 21, 22, 23, 24, 25, 26, 27, 28, 29, 30, 31, 32, 33, 34, 35, 36, 37, 38, 39, 40, 41, 42, 43, 44, 45, 46, 47] rfl) (hD.sub [0, 1, 2, 3, 4, 5, 6, 7, 8, 9, 10, 11, 48, 49, 50, 51, 52, 53, 54, 55, 56, 12, 13, 14, 15, 16, 17, 18, 19, 20, 21, 22, 23, 24, 25, 26, 27, 28, 29, 30, 31, 32, 33, 34, 35, 36, 37, 38, 39, 40, 41, 42, 43, 44, 45, 46, 47] (by decide) rfl) hS (lv_sub hl [1, 2, 3, 4, 0, 5] rfl)
  have C26 : ∀ (v1 : Int32) (v2 : Int32) (v4 : Int32) (v5 : Int32) (v6 : Int32) (tm : OB) (rz : Nat → OB), lp (b_X8_playToasts_26 F xi xrr si rm) F (v1, v2, v4, v5, v6, tm, rz) = some res → ∀ (H : Heap) (locs : List Loc) (ls : Array Slot), va_P D vwCl ([((xo 0), .inr (6, [.ref (ta 0), .ref xr, .int (xi 2), .ref (sa 0), .ref xm, .ref xg, .ref (tr 0), .ref xs, .ref xp, .ref xq, .ref xe, .ref xt]))] ++ ([(xr, hcR k 6 xrr)] ++ ([((sa 0), .inr (4, [.ref (xa 0), .ref (ca 0), .ref (na 0), .int (si 3), .int (si 4)]))] ++ (rmW k xa rm ++ (rmW k tr tm ++ (RU k ra rz)))))) H → va_D A ([((xo 0), .inr (6, [.ref (ta 0), .ref xr, .int (xi 2), .ref (sa 0), .ref xm, .ref xg, .ref (tr 0), .ref xs, .ref xp, .ref xq, .ref xe, .ref xt]))] ++ ([(xr, hcR k 6 xrr)] ++ ([((sa 0), .inr (4, [.ref (xa 0), .ref (ca 0), .ref (na 0), .int (si 3), .int (si 4)]))] ++ (rmW k xa rm ++ (rmW k tr tm ++ (RU k ra rz)))))) → va_S A s.heap H locs → lv_has ls 7 [(0, .ref (xo 0)), (1, .int v1), (2, .int v2), (4, va_rf (rAd ra v4)), (5, .int v5), (6, .int v6)] → W p l e (rmK 6 0 0) s m (List.toArray [.ref (xo 0), .int x1, .int x2, .int x3]) below meth c H locs 0 0 (MQ below (va_Qi (fun r (_ : Unit) => r = res.1) (hcB D (fun _ : Unit => [((xo 0), .inr (6, [.ref (ta 0), .ref xr, .int (xi 2), .ref (sa 0), .ref xm, .ref xg, .ref (tr 0), .ref xs, .ref xp, .ref xq, .ref xe, .ref xt]))] ++ ([(xr, hcR k 6 xrr)] ++ ([((sa 0), .inr (4, [.ref (xa 0), .ref (ca 0), .ref (na 0), .int (si 3), .int (si 4)]))] ++ (rmW k xa rm ++ (rmW k tr res.2.1 ++ (RU k ra res.2.2)))))) A) A) (List.toArray [.ref (xo 0), .int x1, .int x2, .int x3]) s 0 0 A) (F0 m 26 ls []) := fun v1 v2 v4 v5 v6 tm rz => B26 (v1, v2, v4, v5, v6, tm, rz)
  refine lv_aload_n hx hb dX8_playToasts_0 rfl (lv_at hl 0 rfl) ?_
  refine fw_Vq (As := []) (rest := []) (n := 0) (wr := rmW k xa rm ++ (rmW k tr tm ++ (RU k ra rz))) (rv := fun b : Int32 => rAd ra b) (wp := fun b : Int32 => [((xo 0), .inr (6, [.ref (ta 0), .ref xr, .int (xi 2), .ref (sa 0), .ref xm, .ref xg, .ref (tr 0), .ref xs, .ref xp, .ref xq, .ref xe, .ref xt]))] ++ ([(xr, hcR k 6 xrr)] ++ ([((sa 0), .inr (4, [.ref (xa 0), .ref (ca 0), .ref (na 0), .int (si 3), .int (si 4)]))]))) h hx hb hml hown hts hG hA hP hD hS hl.1 [0, 1, 2] [3, 4, 5, 6, 7, 8, 9, 10, 11, 12, 13, 14, 15, 16, 17, 18, 19, 20, 21, 22, 23, 24, 25, 26, 27, 28, 29, 30, 31, 32, 33, 34, 35, 36, 37, 38, 39, 40, 41, 42, 43, 44, 45, 46, 47, 48, 49, 50, 51, 52, 53, 54, 55, 56] (fun q hq9 => c_X8_ruleInForce l D k _  xo ta xr sa xm xg tr xs xp xq xe xt xa ca na ra F  xi xrr si hq hq9) (ci := 6) (q0 := 0) rfl rfl gX8_playToasts_X8_ruleInForce rfl ⟨rfl, rfl, Nat.le_of_ble_eq_true rfl, Nat.le_of_ble_eq_true rfl⟩ (by decide +kernel) rfl rfl ⟨by decide, by decide, by decide⟩ ⟨rfl, rfl, Nat.le_of_ble_eq_true rfl, Nat.le_of_ble_eq_true rfl, Nat.le_of_ble_eq_true rfl⟩ dX8_playToasts_1 (fun q11 H locs h hP hD hS => ?_)
  have hP : va_P D vwCl (rmW k xa rm ++ (rmW k tr tm ++ (RU k ra rz ++ ([((xo 0), .inr (6, [.ref (ta 0), .ref xr, .int (xi 2), .ref (sa 0), .ref xm, .ref xg, .ref (tr 0), .ref xs, .ref xp, .ref xq, .ref xe, .ref xt]))] ++ ([(xr, hcR k 6 xrr)] ++ ([((sa 0), .inr (4, [.ref (xa 0), .ref (ca 0), .ref (na 0), .int (si 3), .int (si 4)]))])))))) H := hP
  have hD : va_D A (rmW k xa rm ++ (rmW k tr tm ++ (RU k ra rz ++ ([((xo 0), .inr (6, [.ref (ta 0), .ref xr, .int (xi 2), .ref (sa 0), .ref xm, .ref xg, .ref (tr 0), .ref xs, .ref xp, .ref xq, .ref xe, .ref xt]))] ++ ([(xr, hcR k 6 xrr)] ++ ([((sa 0), .inr (4, [.ref (xa 0), .ref (ca 0), .ref (na 0), .int (si 3), .int (si 4)]))])))))) := hD
  refine hc_isV (z := va_rf (rAd ra q11)) rfl ?_
  refine lv_astoreO (lv' := [(4, va_rf (rAd ra q11)), (0, .ref (xo 0)), (1, .int x1), (2, .int x2), (3, .int x3)]) hx hb dX8_playToasts_4 hl (by decide) (by cases rAd ra q11 <;> rfl) (fun ls hl => ?_)
  refine lv_iload_n hx hb dX8_playToasts_6 rfl (lv_at hl 4 rfl) ?_
  refine lv_istore (lv' := [(5, .int x3), (4, va_rf (rAd ra q11)), (0, .ref (xo 0)), (1, .int x1), (2, .int x2), (3, .int x3)]) hx hb dX8_playToasts_7 hl (by decide) (by cases rAd ra q11 <;> rfl) (fun ls hl => ?_)
  refine lv_aload_n hx hb dX8_playToasts_9 rfl (lv_at hl 2 rfl) ?_
  refine va_get (D := D) (ci := 6) (v := .ref (tr 0)) (C := RX8) (T := TX8) (N := 12) hx hb hts in8 hown hG.1 hP 54 rfl rfl 6 (by decide) (hts (.fieldLink RX8 44 "ChairCane" "trial" "LChairCane$Room;") (by decide +kernel)) (fun _ h9 => h9) rfl dX8_playToasts_10 ?_
  refine lv_aload_n hx hb dX8_playToasts_13 rfl (lv_at hl 2 rfl) ?_
  refine va_get (D := D) (ci := 6) (v := .ref (sa 0)) (C := RX8) (T := TX8) (N := 12) hx hb hts in8 hown hG.1 hP 54 rfl rfl 3 (by decide) (hts (.fieldLink RX8 29 "ChairCane" "now" "LChairCane$Standing;") (by decide +kernel)) (fun _ h9 => h9) rfl dX8_playToasts_14 ?_
  refine va_get (D := D) (ci := 4) (v := .ref (xa 0)) (C := RX6) (T := TX6) (N := 5) hx hb hts in6 hown hG.1 hP 56 rfl rfl 0 (by decide) (hts (.fieldLink RX8 81 "ChairCane$Standing" "room" "LChairCane$Room;") (by decide +kernel)) (fun _ h9 => h9) rfl dX8_playToasts_17 ?_
  refine fw_Vv (As := [.ref (xa 0)]) (rest := []) (n := 1) (wr := RU k ra rz ++ ([((xo 0), .inr (6, [.ref (ta 0), .ref xr, .int (xi 2), .ref (sa 0), .ref xm, .ref xg, .ref (tr 0), .ref xs, .ref xp, .ref xq, .ref xe, .ref xt]))] ++ ([(xr, hcR k 6 xrr)] ++ ([((sa 0), .inr (4, [.ref (xa 0), .ref (ca 0), .ref (na 0), .int (si 3), .int (si 4)]))])))) (wp := fun b : OB => rmW k tr b ++ (rmW k xa rm)) h hx hb hml hown hts hG hA hP hD hS hl.1 [9, 10, 11, 12, 13, 14, 15, 16, 17, 0, 1, 2, 3, 4, 5, 6, 7, 8] [18, 19, 20, 21, 22, 23, 24, 25, 26, 27, 28, 29, 30, 31, 32, 33, 34, 35, 36, 37, 38, 39, 40, 41, 42, 43, 44, 45, 46, 47, 48, 49, 50, 51, 52, 53, 54, 55, 56] (fun q hq9 => c_X3_copyFrom l D k _  tr xa F  tm rm  hq9) (ci := 2) (q0 := 9) rfl rfl gX8_playToasts_X3_copyFrom rfl ⟨rfl, rfl, Nat.le_of_ble_eq_true rfl, Nat.le_of_ble_eq_true rfl⟩ (by decide +kernel) rfl rfl ⟨by decide, by decide, by decide⟩ ⟨rfl, rfl, Nat.le_of_ble_eq_true rfl, Nat.le_of_ble_eq_true rfl, Nat.le_of_ble_eq_true rfl⟩ dX8_playToasts_20 (fun q12 H locs h hP hD hS => ?_)
  have hP : va_P D vwCl (RU k ra rz ++ ([((xo 0), .inr (6, [.ref (ta 0), .ref xr, .int (xi 2), .ref (sa 0), .ref xm, .ref xg, .ref (tr 0), .ref xs, .ref xp, .ref xq, .ref xe, .ref xt]))] ++ ([(xr, hcR k 6 xrr)] ++ ([((sa 0), .inr (4, [.ref (xa 0), .ref (ca 0), .ref (na 0), .int (si 3), .int (si 4)]))] ++ (rmW k tr q12 ++ (rmW k xa rm)))))) H := hP
  have hD : va_D A (RU k ra rz ++ ([((xo 0), .inr (6, [.ref (ta 0), .ref xr, .int (xi 2), .ref (sa 0), .ref xm, .ref xg, .ref (tr 0), .ref xs, .ref xp, .ref xq, .ref xe, .ref xt]))] ++ ([(xr, hcR k 6 xrr)] ++ ([((sa 0), .inr (4, [.ref (xa 0), .ref (ca 0), .ref (na 0), .int (si 3), .int (si 4)]))] ++ (rmW k tr q12 ++ (rmW k xa rm)))))) := hD
  refine lv_iconst (v := 0) hx hb dX8_playToasts_23 (by decide) ?_
  refine lv_istore (lv' := [(6, .int 0), (5, .int x3), (4, va_rf (rAd ra q11)), (0, .ref (xo 0)), (1, .int x1), (2, .int x2), (3, .int x3)]) hx hb dX8_playToasts_24 hl (by decide) (by cases rAd ra q11 <;> rfl) (fun ls hl => ?_)
  exact C26 _ _ _ _ _ _ _ h _ _ _ (hP.sub [36, 37, 38, 48, 49, 50, 51, 52, 53, 54, 55, 56, 39, 40, 41, 42, 43, 44, 45, 46, 47, 0, 1, 2, 3, 4, 5, 6, 7, 8, 9, 10, 11, 12, 13, 14, 15, 16, 17, 18, 19, 20, 21, 22, 23, 24, 25, 26, 27, 28, 29, 30, 31, 32, 33, 34, 35] rfl) (hD.sub [36, 37, 38, 48, 49, 50, 51, 52, 53, 54, 55, 56, 39, 40, 41, 42, 43, 44, 45, 46, 47, 0, 1, 2, 3, 4, 5, 6, 7, 8, 9, 10, 11, 12, 13, 14, 15, 16, 17, 18, 19, 20, 21, 22, 23, 24, 25, 26, 27, 28, 29, 30, 31, 32, 33, 34, 35] (by decide) rfl) hS (lv_sub hl [3, 4, 5, 2, 1, 0] rfl)
def b_X8_toasts_35 (F : Nat)  (xi : Nat → Int32) (xrr : Nat → Option Nat) (si : Nat → Int32) (rm : OB)  (tm : OB) (rz : Nat → OB) : Option (Int32 × OB × (Nat → OB)) :=
  some ((-1), tm, rz)
def b_X8_toasts_58 (F : Nat)  (xi : Nat → Int32) (xrr : Nat → Option Nat) (si : Nat → Int32) (rm : OB)  (tm : OB) (rz : Nat → OB) : Option (Int32 × OB × (Nat → OB)) :=
  some ((-1), tm, rz)
def b_X8_toasts_115 (F : Nat)  (xi : Nat → Int32) (xrr : Nat → Option Nat) (si : Nat → Int32) (rm : OB) (k75 : (Int32 × Int32 × Int32 × Int32 × Int32 × Int32 × Int32 × OB × (Nat → OB)) → Option (Int32 × OB × (Nat → OB))) (v1 : Int32) (v2 : Int32) (v3 : Int32) (v4 : Int32) (v5 : Int32) (v7 : Int32) (y0 : Int32) (y1 : Int32) (tm : OB) (rz : Nat → OB) : Option (Int32 × OB × (Nat → OB)) :=
  Option.bind (f_J6_bitCount_0f7a4 F y0) (fun q1 => (k75 (v1, v2, v3, v4, v5, (y1 + q1), (v7 + 1), tm, rz)))
def b_X8_toasts_75 (F : Nat)  (xi : Nat → Int32) (xrr : Nat → Option Nat) (si : Nat → Int32) (rm : OB)  (k75 : (Int32 × Int32 × Int32 × Int32 × Int32 × Int32 × Int32 × OB × (Nat → OB)) → Option (Int32 × OB × (Nat → OB))) (a75 : (Int32 × Int32 × Int32 × Int32 × Int32 × Int32 × Int32 × OB × (Nat → OB))) : Option (Int32 × OB × (Nat → OB)) :=
  if a75.1 ≤ a75.2.2.2.2.2.2.1 then (some (a75.2.2.2.2.2.1, a75.2.2.2.2.2.2.2.1, a75.2.2.2.2.2.2.2.2)) else (Option.bind (f_X8_playToasts F a75.2.1 a75.2.2.1 a75.2.2.2.2.1 xi xrr si rm a75.2.2.2.2.2.2.2.1 a75.2.2.2.2.2.2.2.2) (fun q3 => (if a75.2.2.2.1 = 0 then (b_X8_toasts_115 F xi xrr si rm k75 a75.1 a75.2.1 a75.2.2.1 a75.2.2.2.1 q3.1 a75.2.2.2.2.2.2.1 (q3.2.1.1 11) a75.2.2.2.2.2.1 q3.2.1 q3.2.2) else (b_X8_toasts_115 F xi xrr si rm k75 a75.1 a75.2.1 a75.2.2.1 a75.2.2.2.1 q3.1 a75.2.2.2.2.2.2.1 (q3.2.1.1 10) a75.2.2.2.2.2.1 q3.2.1 q3.2.2))))
def f_X8_toasts (F : Nat)  (x1 : Int32) (x2 : Int32) (x3 : Int32) (x4 : Int32) (xi : Nat → Int32) (xrr : Nat → Option Nat) (si : Nat → Int32) (rm : OB) (tm : OB) (rz : Nat → OB) : Option (Int32 × OB × (Nat → OB)) :=
  if (rm.1 0) = 0 then (b_X8_toasts_35 F xi xrr si rm tm rz) else (if x1 < 1 then (b_X8_toasts_35 F xi xrr si rm tm rz) else (if 10 < x1 then (b_X8_toasts_35 F xi xrr si rm tm rz) else (if x2 < 1 then (b_X8_toasts_35 F xi xrr si rm tm rz) else (if x2 ≤ 60 then (if x3 < 0 then (b_X8_toasts_58 F xi xrr si rm tm rz) else (if 100 < x3 then (b_X8_toasts_58 F xi xrr si rm tm rz) else (if x4 < 0 then (b_X8_toasts_58 F xi xrr si rm tm rz) else (if x4 ≤ 1 then (lp (b_X8_toasts_75 F xi xrr si rm) F (x1, x2, x3, x4, (si 4), 0, 0, tm, rz)) else (b_X8_toasts_58 F xi xrr si rm tm rz))))) else (b_X8_toasts_35 F xi xrr si rm tm rz)))))
set_option maxHeartbeats 4000000 in
set_option maxRecDepth 100000 in
theorem c_X8_toasts (l : Launch) (D : va_G) (k : Nat → ClassId) (sz : Nat)  (xo : Nat → Nat) (ta : Nat → Nat) (xr : Nat) (sa : Nat → Nat) (xm : Nat) (xg : Nat) (tr : Nat → Nat) (xs : Nat) (xp : Nat) (xq : Nat) (xe : Nat) (xt : Nat) (xa : Nat → Nat) (ca : Nat → Nat) (na : Nat → Nat) (ra : Nat → Nat) (F : Nat)  (x1 : Int32) (x2 : Int32) (x3 : Int32) (x4 : Int32) (xi : Nat → Int32) (xrr : Nat → Option Nat) (si : Nat → Int32) (rm : OB) (tm : OB) (rz : Nat → OB) (hq : ∀ i, i < 6 → xrr i = some (ra (6 * i))) {res : Int32 × OB × (Nat → OB)} (h : f_X8_toasts F x1 x2 x3 x4 xi xrr si rm tm rz = some res) : CtI l yX8_toasts wsX8_toasts (rmK 7 0 0) [.ref (xo 0), .int x1, .int x2, .int x3, .int x4] D k sz ([((xo 0), .inr (6, [.ref (ta 0), .ref xr, .int (xi 2), .ref (sa 0), .ref xm, .ref xg, .ref (tr 0), .ref xs, .ref xp, .ref xq, .ref xe, .ref xt]))] ++ ([(xr, hcR k 6 xrr)] ++ ([((sa 0), .inr (4, [.ref (xa 0), .ref (ca 0), .ref (na 0), .int (si 3), .int (si 4)]))] ++ (rmW k xa rm ++ (rmW k tr tm ++ (RU k ra rz)))))) (fun r (_ : Unit) => r = res.1) (fun _ : Unit => [((xo 0), .inr (6, [.ref (ta 0), .ref xr, .int (xi 2), .ref (sa 0), .ref xm, .ref xg, .ref (tr 0), .ref xs, .ref xp, .ref xq, .ref xe, .ref xt]))] ++ ([(xr, hcR k 6 xrr)] ++ ([((sa 0), .inr (4, [.ref (xa 0), .ref (ca 0), .ref (na 0), .int (si 3), .int (si 4)]))] ++ (rmW k xa rm ++ (rmW k tr res.2.1 ++ (RU k ra res.2.2)))))) 0 0 := by
  refine CtI.mk (cc := cX8_toasts) (maxL := 8) (ret := (some .int)) (by decide) rfl (Nat.le_of_ble_eq_true rfl) ?_
  intro p e s m below meth c A ls E hP hD hS hl
  obtain ⟨hx, hb, hr, hml, hown, hts, hlocks, hin, hG, hA⟩ := E
  have hown : s.vm.findClass RX8 = some m.cls := hown
  have in3 : ∀ w ∈ u_ws RX3 TX3 17, w ∈ wsX8_toasts := fun _ h => List.mem_cons_of_mem _ (List.mem_append_left _ (List.mem_append_right _ h))
  have in4 : ∀ w ∈ u_ws RX4 TX4 8, w ∈ wsX8_toasts := fun _ h => List.mem_cons_of_mem _ (List.mem_append_right _ h)
  have in6 : ∀ w ∈ u_ws RX6 TX6 5, w ∈ wsX8_toasts := fun _ h => List.mem_cons_of_mem _ (List.mem_append_left _ (List.mem_append_left _ (List.mem_append_right _ h)))
  have in8 : ∀ w ∈ u_ws RX8 TX8 12, w ∈ wsX8_toasts := fun _ h => List.mem_cons_of_mem _ (List.mem_append_left _ (List.mem_append_left _ (List.mem_append_left _ (List.mem_append_right _ h))))
  have hl : lv_has ls 8 [(0, .ref (xo 0)), (1, .int x1), (2, .int x2), (3, .int x3), (4, .int x4)] := hl
  have B35 : ∀ (tm : OB) (rz : Nat → OB) (H : Heap) (locs : List Loc) (ls : Array Slot), b_X8_toasts_35 F xi xrr si rm tm rz = some res → va_P D vwCl ([((xo 0), .inr (6, [.ref (ta 0), .ref xr, .int (xi 2), .ref (sa 0), .ref xm, .ref xg, .ref (tr 0), .ref xs, .ref xp, .ref xq, .ref xe, .ref xt]))] ++ ([(xr, hcR k 6 xrr)] ++ ([((sa 0), .inr (4, [.ref (xa 0), .ref (ca 0), .ref (na 0), .int (si 3), .int (si 4)]))] ++ (rmW k xa rm ++ (rmW k tr tm ++ (RU k ra rz)))))) H → va_D A ([((xo 0), .inr (6, [.ref (ta 0), .ref xr, .int (xi 2), .ref (sa 0), .ref xm, .ref xg, .ref (tr 0), .ref xs, .ref xp, .ref xq, .ref xe, .ref xt]))] ++ ([(xr, hcR k 6 xrr)] ++ ([((sa 0), .inr (4, [.ref (xa 0), .ref (ca 0), .ref (na 0), .int (si 3), .int (si 4)]))] ++ (rmW k xa rm ++ (rmW k tr tm ++ (RU k ra rz)))))) → va_S A s.heap H locs → lv_has ls 8 [] → W p l e (rmK 7 0 0) s m (List.toArray [.ref (xo 0), .int x1, .int x2, .int x3, .int x4]) below meth c H locs 0 0 (MQ below (va_Qi (fun r (_ : Unit) => r = res.1) (hcB D (fun _ : Unit => [((xo 0), .inr (6, [.ref (ta 0), .ref xr, .int (xi 2), .ref (sa 0), .ref xm, .ref xg, .ref (tr 0), .ref xs, .ref xp, .ref xq, .ref xe, .ref xt]))] ++ ([(xr, hcR k 6 xrr)] ++ ([((sa 0), .inr (4, [.ref (xa 0), .ref (ca 0), .ref (na 0), .int (si 3), .int (si 4)]))] ++ (rmW k xa rm ++ (rmW k tr res.2.1 ++ (RU k ra res.2.2)))))) A) A) (List.toArray [.ref (xo 0), .int x1, .int x2, .int x3, .int x4]) s 0 0 A) (F0 m 35 ls []) := by
    intro tm rz H locs ls h hP hD hS hl
    refine lv_iconst (v := (-1)) hx hb dX8_toasts_35 (by decide) ?_
    exact fw_endI (rv := fun b : Int32 × OB × (Nat → OB) => b.1) (wp := fun b : Int32 × OB × (Nat → OB) => [((xo 0), .inr (6, [.ref (ta 0), .ref xr, .int (xi 2), .ref (sa 0), .ref xm, .ref xg, .ref (tr 0), .ref xs, .ref xp, .ref xq, .ref xe, .ref xt]))] ++ ([(xr, hcR k 6 xrr)] ++ ([((sa 0), .inr (4, [.ref (xa 0), .ref (ca 0), .ref (na 0), .int (si 3), .int (si 4)]))] ++ (rmW k xa rm ++ (rmW k tr b.2.1 ++ (RU k ra b.2.2)))))) hx hb hr hlocks h rfl hP hD hS dX8_toasts_36
  have B58 : ∀ (tm : OB) (rz : Nat → OB) (H : Heap) (locs : List Loc) (ls : Array Slot), b_X8_toasts_58 F xi xrr si rm tm rz = some res → va_P D vwCl ([((xo 0), .inr (6, [.ref (ta 0), .ref xr, .int (xi 2), .ref (sa 0), .ref xm, .ref xg, .ref (tr 0), .ref xs, .ref xp, .ref xq, .ref xe, .ref xt]))] ++ ([(xr, hcR k 6 xrr)] ++ ([((sa 0), .inr (4, [.ref (xa 0), .ref (ca 0), .ref (na 0), .int (si 3), .int (si 4)]))] ++ (rmW k xa rm ++ (rmW k tr tm ++ (RU k ra rz)))))) H → va_D A ([((xo 0), .inr (6, [.ref (ta 0), .ref xr, .int (xi 2), .ref (sa 0), .ref xm, .ref xg, .ref (tr 0), .ref xs, .ref xp, .ref xq, .ref xe, .ref xt]))] ++ ([(xr, hcR k 6 xrr)] ++ ([((sa 0), .inr (4, [.ref (xa 0), .ref (ca 0), .ref (na 0), .int (si 3), .int (si 4)]))] ++ (rmW k xa rm ++ (rmW k tr tm ++ (RU k ra rz)))))) → va_S A s.heap H locs → lv_has ls 8 [] → W p l e (rmK 7 0 0) s m (List.toArray [.ref (xo 0), .int x1, .int x2, .int x3, .int x4]) below meth c H locs 0 0 (MQ below (va_Qi (fun r (_ : Unit) => r = res.1) (hcB D (fun _ : Unit => [((xo 0), .inr (6, [.ref (ta 0), .ref xr, .int (xi 2), .ref (sa 0), .ref xm, .ref xg, .ref (tr 0), .ref xs, .ref xp, .ref xq, .ref xe, .ref xt]))] ++ ([(xr, hcR k 6 xrr)] ++ ([((sa 0), .inr (4, [.ref (xa 0), .ref (ca 0), .ref (na 0), .int (si 3), .int (si 4)]))] ++ (rmW k xa rm ++ (rmW k tr res.2.1 ++ (RU k ra res.2.2)))))) A) A) (List.toArray [.ref (xo 0), .int x1, .int x2, .int x3, .int x4]) s 0 0 A) (F0 m 58 ls []) := by
    intro tm rz H locs ls h hP hD hS hl
    refine lv_iconst (v := (-1)) hx hb dX8_toasts_58 (by decide) ?_
    exact fw_endI (rv := fun b : Int32 × OB × (Nat → OB) => b.1) (wp := fun b : Int32 × OB × (Nat → OB) => [((xo 0), .inr (6, [.ref (ta 0), .ref xr, .int (xi 2), .ref (sa 0), .ref xm, .ref xg, .ref (tr 0), .ref xs, .ref xp, .ref xq, .ref xe, .ref xt]))] ++ ([(xr, hcR k 6 xrr)] ++ ([((sa 0), .inr (4, [.ref (xa 0), .ref (ca 0), .ref (na 0), .int (si 3), .int (si 4)]))] ++ (rmW k xa rm ++ (rmW k tr b.2.1 ++ (RU k ra b.2.2)))))) hx hb hr hlocks h rfl hP hD hS dX8_toasts_59
  have B75 : ∀ a75 : (Int32 × Int32 × Int32 × Int32 × Int32 × Int32 × Int32 × OB × (Nat → OB)), lp (b_X8_toasts_75 F xi xrr si rm) F a75 = some res → ∀ (H : Heap) (locs : List Loc) (ls : Array Slot), va_P D vwCl ([((xo 0), .inr (6, [.ref (ta 0), .ref xr, .int (xi 2), .ref (sa 0), .ref xm, .ref xg, .ref (tr 0), .ref xs, .ref xp, .ref xq, .ref xe, .ref xt]))] ++ ([(xr, hcR k 6 xrr)] ++ ([((sa 0), .inr (4, [.ref (xa 0), .ref (ca 0), .ref (na 0), .int (si 3), .int (si 4)]))] ++ (rmW k xa rm ++ (rmW k tr a75.2.2.2.2.2.2.2.1 ++ (RU k ra a75.2.2.2.2.2.2.2.2)))))) H → va_D A ([((xo 0), .inr (6, [.ref (ta 0), .ref xr, .int (xi 2), .ref (sa 0), .ref xm, .ref xg, .ref (tr 0), .ref xs, .ref xp, .ref xq, .ref xe, .ref xt]))] ++ ([(xr, hcR k 6 xrr)] ++ ([((sa 0), .inr (4, [.ref (xa 0), .ref (ca 0), .ref (na 0), .int (si 3), .int (si 4)]))] ++ (rmW k xa rm ++ (rmW k tr a75.2.2.2.2.2.2.2.1 ++ (RU k ra a75.2.2.2.2.2.2.2.2)))))) → va_S A s.heap H locs → lv_has ls 8 [(0, .ref (xo 0)), (1, .int a75.1), (2, .int a75.2.1), (3, .int a75.2.2.1), (4, .int a75.2.2.2.1), (5, .int a75.2.2.2.2.1), (6, .int a75.2.2.2.2.2.1), (7, .int a75.2.2.2.2.2.2.1)] → W p l e (rmK 7 0 0) s m (List.toArray [.ref (xo 0), .int x1, .int x2, .int x3, .int x4]) below meth c H locs 0 0 (MQ below (va_Qi (fun r (_ : Unit) => r = res.1) (hcB D (fun _ : Unit => [((xo 0), .inr (6, [.ref (ta 0), .ref xr, .int (xi 2), .ref (sa 0), .ref xm, .ref xg, .ref (tr 0), .ref xs, .ref xp, .ref xq, .ref xe, .ref xt]))] ++ ([(xr, hcR k 6 xrr)] ++ ([((sa 0), .inr (4, [.ref (xa 0), .ref (ca 0), .ref (na 0), .int (si 3), .int (si 4)]))] ++ (rmW k xa rm ++ (rmW k tr res.2.1 ++ (RU k ra res.2.2)))))) A) A) (List.toArray [.ref (xo 0), .int x1, .int x2, .int x3, .int x4]) s 0 0 A) (F0 m 75 ls []) := by
    refine lp_W ?_ F
    intro k75 hk75 a75 h H locs ls hP hD hS hl
    have hc75 : ∀ (v1 : Int32) (v2 : Int32) (v3 : Int32) (v4 : Int32) (v5 : Int32) (v6 : Int32) (v7 : Int32) (tm : OB) (rz : Nat → OB), k75 (v1, v2, v3, v4, v5, v6, v7, tm, rz) = some res → ∀ (H : Heap) (locs : List Loc) (ls : Array Slot), va_P D vwCl ([((xo 0), .inr (6, [.ref (ta 0), .ref xr, .int (xi 2), .ref (sa 0), .ref xm, .ref xg, .ref (tr 0), .ref xs, .ref xp, .ref xq, .ref xe, .ref xt]))] ++ ([(xr, hcR k 6 xrr)] ++ ([((sa 0), .inr (4, [.ref (xa 0), .ref (ca 0), .ref (na 0), .int (si 3), .int (si 4)]))] ++ (rmW k xa rm ++ (rmW k tr tm ++ (RU k ra rz)))))) H → va_D A ([((xo 0), .inr (6, [.ref (ta 0), .ref xr, .int (xi 2), .ref (sa 0), .ref xm, .ref xg, .ref (tr 0), .ref xs, .ref xp, .ref xq, .ref xe, .ref xt]))] ++ ([(xr, hcR k 6 xrr)] ++ ([((sa 0), .inr (4, [.ref (xa 0), .ref (ca 0), .ref (na 0), .int (si 3), .int (si 4)]))] ++ (rmW k xa rm ++ (rmW k tr tm ++ (RU k ra rz)))))) → va_S A s.heap H locs → lv_has ls 8 [(0, .ref (xo 0)), (1, .int v1), (2, .int v2), (3, .int v3), (4, .int v4), (5, .int v5), (6, .int v6), (7, .int v7)] → W p l e (rmK 7 0 0) s m (List.toArray [.ref (xo 0), .int x1, .int x2, .int x3, .int x4]) below meth c H locs 0 0 (MQ below (va_Qi (fun r (_ : Unit) => r = res.1) (hcB D (fun _ : Unit => [((xo 0), .inr (6, [.ref (ta 0), .ref xr, .int (xi 2), .ref (sa 0), .ref xm, .ref xg, .ref (tr 0), .ref xs, .ref xp, .ref xq, .ref xe, .ref xt]))] ++ ([(xr, hcR k 6 xrr)] ++ ([((sa 0), .inr (4, [.ref (xa 0), .ref (ca 0), .ref (na 0), .int (si 3), .int (si 4)]))] ++ (rmW k xa rm ++ (rmW k tr res.2.1 ++ (RU k ra res.2.2)))))) A) A) (List.toArray [.ref (xo 0), .int x1, .int x2, .int x3, .int x4]) s 0 0 A) (F0 m 75 ls []) := fun v1 v2 v3 v4 v5 v6 v7 tm rz => hk75 (v1, v2, v3, v4, v5, v6, v7, tm, rz)
    have B115 : ∀ (v1 : Int32) (v2 : Int32) (v3 : Int32) (v4 : Int32) (v5 : Int32) (v7 : Int32) (y0 : Int32) (y1 : Int32) (tm : OB) (rz : Nat → OB) (H : Heap) (locs : List Loc) (ls : Array Slot), b_X8_toasts_115 F xi xrr si rm k75 v1 v2 v3 v4 v5 v7 y0 y1 tm rz = some res → va_P D vwCl ([((xo 0), .inr (6, [.ref (ta 0), .ref xr, .int (xi 2), .ref (sa 0), .ref xm, .ref xg, .ref (tr 0), .ref xs, .ref xp, .ref xq, .ref xe, .ref xt]))] ++ ([(xr, hcR k 6 xrr)] ++ ([((sa 0), .inr (4, [.ref (xa 0), .ref (ca 0), .ref (na 0), .int (si 3), .int (si 4)]))] ++ (rmW k xa rm ++ (rmW k tr tm ++ (RU k ra rz)))))) H → va_D A ([((xo 0), .inr (6, [.ref (ta 0), .ref xr, .int (xi 2), .ref (sa 0), .ref xm, .ref xg, .ref (tr 0), .ref xs, .ref xp, .ref xq, .ref xe, .ref xt]))] ++ ([(xr, hcR k 6 xrr)] ++ ([((sa 0), .inr (4, [.ref (xa 0), .ref (ca 0), .ref (na 0), .int (si 3), .int (si 4)]))] ++ (rmW k xa rm ++ (rmW k tr tm ++ (RU k ra rz)))))) → va_S A s.heap H locs → lv_has ls 8 [(0, .ref (xo 0)), (1, .int v1), (2, .int v2), (3, .int v3), (4, .int v4), (5, .int v5), (7, .int v7)] → W p l e (rmK 7 0 0) s m (List.toArray [.ref (xo 0), .int x1, .int x2, .int x3, .int x4]) below meth c H locs 0 0 (MQ below (va_Qi (fun r (_ : Unit) => r = res.1) (hcB D (fun _ : Unit => [((xo 0), .inr (6, [.ref (ta 0), .ref xr, .int (xi 2), .ref (sa 0), .ref xm, .ref xg, .ref (tr 0), .ref xs, .ref xp, .ref xq, .ref xe, .ref xt]))] ++ ([(xr, hcR k 6 xrr)] ++ ([((sa 0), .inr (4, [.ref (xa 0), .ref (ca 0), .ref (na 0), .int (si 3), .int (si 4)]))] ++ (rmW k xa rm ++ (rmW k tr res.2.1 ++ (RU k ra res.2.2)))))) A) A) (List.toArray [.ref (xo 0), .int x1, .int x2, .int x3, .int x4]) s 0 0 A) (F0 m 115 ls [.int y0, .int y1]) := by
      intro v1 v2 v3 v4 v5 v7 y0 y1 tm rz H locs ls h hP hD hS hl
      refine fw_Si (As := [.int y0]) (rest := [.int y1]) (n := 1) (wr := [((xo 0), .inr (6, [.ref (ta 0), .ref xr, .int (xi 2), .ref (sa 0), .ref xm, .ref xg, .ref (tr 0), .ref xs, .ref xp, .ref xq, .ref xe, .ref xt]))] ++ ([(xr, hcR k 6 xrr)] ++ ([((sa 0), .inr (4, [.ref (xa 0), .ref (ca 0), .ref (na 0), .int (si 3), .int (si 4)]))] ++ (rmW k xa rm ++ (rmW k tr tm ++ (RU k ra rz)))))) (rv := fun b : Int32 => b) (wp := fun b : Int32 => []) h hx hb hml hown hts hG hA hP hD hS hl.1 [] (List.range ([((xo 0), .inr (6, [.ref (ta 0), .ref xr, .int (xi 2), .ref (sa 0), .ref xm, .ref xg, .ref (tr 0), .ref xs, .ref xp, .ref xq, .ref xe, .ref xt]))] ++ ([(xr, hcR k 6 xrr)] ++ ([((sa 0), .inr (4, [.ref (xa 0), .ref (ca 0), .ref (na 0), .int (si 3), .int (si 4)]))] ++ (rmW k xa rm ++ (rmW k tr tm ++ (RU k ra rz)))))).length) (fun q hq9 => c_J6_bitCount_0f7a4 l D k _   F y0   hq9) gX8_toasts_J6_bitCount_0f7a4 rfl ⟨rfl, rfl, Nat.le_of_ble_eq_true rfl, Nat.le_of_ble_eq_true rfl⟩ (by decide +kernel) rfl (al_C _) (al_m _) ⟨rfl, rfl, Nat.le_of_ble_eq_true rfl, Nat.le_of_ble_eq_true rfl, Nat.le_of_ble_eq_true rfl⟩ dX8_toasts_115 (fun q1 H locs h hP hD hS => ?_)
      have hP : va_P D vwCl (([((xo 0), .inr (6, [.ref (ta 0), .ref xr, .int (xi 2), .ref (sa 0), .ref xm, .ref xg, .ref (tr 0), .ref xs, .ref xp, .ref xq, .ref xe, .ref xt]))] ++ ([(xr, hcR k 6 xrr)] ++ ([((sa 0), .inr (4, [.ref (xa 0), .ref (ca 0), .ref (na 0), .int (si 3), .int (si 4)]))] ++ (rmW k xa rm ++ (rmW k tr tm ++ (RU k ra rz)))))) ++ []) H := hP
      have hD : va_D A (([((xo 0), .inr (6, [.ref (ta 0), .ref xr, .int (xi 2), .ref (sa 0), .ref xm, .ref xg, .ref (tr 0), .ref xs, .ref xp, .ref xq, .ref xe, .ref xt]))] ++ ([(xr, hcR k 6 xrr)] ++ ([((sa 0), .inr (4, [.ref (xa 0), .ref (ca 0), .ref (na 0), .int (si 3), .int (si 4)]))] ++ (rmW k xa rm ++ (rmW k tr tm ++ (RU k ra rz)))))) ++ []) := hD
      rw [List.append_nil] at hP hD
      refine hc_is (z := q1) rfl ?_
      refine lv_iadd hx hb dX8_toasts_118 ?_
      refine lv_istore (lv' := [(6, .int (y1 + q1)), (0, .ref (xo 0)), (1, .int v1), (2, .int v2), (3, .int v3), (4, .int v4), (5, .int v5), (7, .int v7)]) hx hb dX8_toasts_119 hl (by decide) rfl (fun ls hl => ?_)
      refine lv_iinc (v := (v7 + 1)) (lv' := [(7, .int (v7 + 1)), (6, .int (y1 + q1)), (0, .ref (xo 0)), (1, .int v1), (2, .int v2), (3, .int v3), (4, .int v4), (5, .int v5)]) hx hb dX8_toasts_121 hl (k := 7) rfl rfl (by decide) rfl (fun ls hl => ?_)
      refine lv_goto (tgt := 75) hx hb dX8_toasts_124 (by decide) ?_
      exact hc75 _ _ _ _ _ _ _ _ _ h _ _ _ hP hD hS (lv_sub hl [2, 3, 4, 5, 6, 7, 1, 0] rfl)
    refine lv_iload hx hb dX8_toasts_75 (lv_at hl 7 rfl) ?_
    refine lv_iload_n hx hb dX8_toasts_77 rfl (lv_at hl 1 rfl) ?_
    refine lv_icmp_ge (tgt := 127) hx hb dX8_toasts_78 (by decide) (fun c2 => ?_) (fun c2 => ?_)
    · have h := fw_t c2 h
      refine lv_iload hx hb dX8_toasts_127 (lv_at hl 6 rfl) ?_
      exact fw_endI (rv := fun b : Int32 × OB × (Nat → OB) => b.1) (wp := fun b : Int32 × OB × (Nat → OB) => [((xo 0), .inr (6, [.ref (ta 0), .ref xr, .int (xi 2), .ref (sa 0), .ref xm, .ref xg, .ref (tr 0), .ref xs, .ref xp, .ref xq, .ref xe, .ref xt]))] ++ ([(xr, hcR k 6 xrr)] ++ ([((sa 0), .inr (4, [.ref (xa 0), .ref (ca 0), .ref (na 0), .int (si 3), .int (si 4)]))] ++ (rmW k xa rm ++ (rmW k tr b.2.1 ++ (RU k ra b.2.2)))))) hx hb hr hlocks h rfl hP hD hS dX8_toasts_129
    · have h := fw_f c2 h
      refine lv_aload_n hx hb dX8_toasts_81 rfl (lv_at hl 0 rfl) ?_
      refine lv_iload_n hx hb dX8_toasts_82 rfl (lv_at hl 2 rfl) ?_
      refine lv_iload_n hx hb dX8_toasts_83 rfl (lv_at hl 3 rfl) ?_
      refine lv_iload hx hb dX8_toasts_84 (lv_at hl 5 rfl) ?_
      refine fw_Vi (As := [.int a75.2.1, .int a75.2.2.1, .int a75.2.2.2.2.1]) (rest := []) (n := 3) (wr := []) (rv := fun b : Int32 × OB × (Nat → OB) => b.1) (wp := fun b : Int32 × OB × (Nat → OB) => [((xo 0), .inr (6, [.ref (ta 0), .ref xr, .int (xi 2), .ref (sa 0), .ref xm, .ref xg, .ref (tr 0), .ref xs, .ref xp, .ref xq, .ref xe, .ref xt]))] ++ ([(xr, hcR k 6 xrr)] ++ ([((sa 0), .inr (4, [.ref (xa 0), .ref (ca 0), .ref (na 0), .int (si 3), .int (si 4)]))] ++ (rmW k xa rm ++ (rmW k tr b.2.1 ++ (RU k ra b.2.2)))))) h hx hb hml hown hts hG hA hP hD hS hl.1 (List.range ([((xo 0), .inr (6, [.ref (ta 0), .ref xr, .int (xi 2), .ref (sa 0), .ref xm, .ref xg, .ref (tr 0), .ref xs, .ref xp, .ref xq, .ref xe, .ref xt]))] ++ ([(xr, hcR k 6 xrr)] ++ ([((sa 0), .inr (4, [.ref (xa 0), .ref (ca 0), .ref (na 0), .int (si 3), .int (si 4)]))] ++ (rmW k xa rm ++ (rmW k tr a75.2.2.2.2.2.2.2.1 ++ (RU k ra a75.2.2.2.2.2.2.2.2)))))).length) [] (fun q hq9 => c_X8_playToasts l D k _  xo ta xr sa xm xg tr xs xp xq xe xt xa ca na ra F a75.2.1 a75.2.2.1 a75.2.2.2.2.1 xi xrr si rm a75.2.2.2.2.2.2.2.1 a75.2.2.2.2.2.2.2.2 hq hq9) (ci := 6) (q0 := 0) rfl rfl gX8_toasts_X8_playToasts rfl ⟨rfl, rfl, Nat.le_of_ble_eq_true rfl, Nat.le_of_ble_eq_true rfl⟩ (by decide +kernel) (al_C _) rfl (al_n _) ⟨rfl, rfl, Nat.le_of_ble_eq_true rfl, Nat.le_of_ble_eq_true rfl, Nat.le_of_ble_eq_true rfl⟩ dX8_toasts_86 (fun q3 H locs h hP hD hS => ?_)
      have hP : va_P D vwCl ([((xo 0), .inr (6, [.ref (ta 0), .ref xr, .int (xi 2), .ref (sa 0), .ref xm, .ref xg, .ref (tr 0), .ref xs, .ref xp, .ref xq, .ref xe, .ref xt]))] ++ ([(xr, hcR k 6 xrr)] ++ ([((sa 0), .inr (4, [.ref (xa 0), .ref (ca 0), .ref (na 0), .int (si 3), .int (si 4)]))] ++ (rmW k xa rm ++ (rmW k tr q3.2.1 ++ (RU k ra q3.2.2)))))) H := hP
      have hD : va_D A ([((xo 0), .inr (6, [.ref (ta 0), .ref xr, .int (xi 2), .ref (sa 0), .ref xm, .ref xg, .ref (tr 0), .ref xs, .ref xp, .ref xq, .ref xe, .ref xt]))] ++ ([(xr, hcR k 6 xrr)] ++ ([((sa 0), .inr (4, [.ref (xa 0), .ref (ca 0), .ref (na 0), .int (si 3), .int (si 4)]))] ++ (rmW k xa rm ++ (rmW k tr q3.2.1 ++ (RU k ra q3.2.2)))))) := hD
      refine hc_is (z := q3.1) rfl ?_
      refine lv_istore (lv' := [(5, .int q3.1), (0, .ref (xo 0)), (1, .int a75.1), (2, .int a75.2.1), (3, .int a75.2.2.1), (4, .int a75.2.2.2.1), (6, .int a75.2.2.2.2.2.1), (7, .int a75.2.2.2.2.2.2.1)]) hx hb dX8_toasts_89 hl (by decide) rfl (fun ls hl => ?_)
      refine lv_iload hx hb dX8_toasts_91 (lv_at hl 6 rfl) ?_
      refine lv_iload hx hb dX8_toasts_93 (lv_at hl 5 rfl) ?_
      refine lv_if_ne (tgt := 108) hx hb dX8_toasts_95 (by decide) (fun c4 => ?_) (fun c4 => ?_)
      · have h := fw_f c4 h
        refine lv_aload_n hx hb dX8_toasts_108 rfl (lv_at hl 1 rfl) ?_
        refine va_get (D := D) (ci := 6) (v := .ref (tr 0)) (C := RX8) (T := TX8) (N := 12) hx hb hts in8 hown hG.1 hP 0 rfl rfl 6 (by decide) (hts (.fieldLink RX8 44 "ChairCane" "trial" "LChairCane$Room;") (by decide +kernel)) (fun _ h9 => h9) rfl dX8_toasts_109 ?_
        refine va_get (D := D) (ci := 2) (v := .int (q3.2.1.1 10)) (C := RX3) (T := TX3) (N := 17) hx hb hts in3 hown hG.1 hP 12 rfl rfl 10 (by decide) (hts (.fieldLink RX8 200 "ChairCane$Room" "sits" "I") (by decide +kernel)) (fun _ h9 => h9) rfl dX8_toasts_112 ?_
        exact B115 _ _ _ _ _ _ _ _ _ _ _ _ _ h hP hD hS (lv_sub hl [1, 2, 3, 4, 5, 0, 7] rfl)
      · have h := fw_t c4 h
        refine lv_aload_n hx hb dX8_toasts_98 rfl (lv_at hl 1 rfl) ?_
        refine va_get (D := D) (ci := 6) (v := .ref (tr 0)) (C := RX8) (T := TX8) (N := 12) hx hb hts in8 hown hG.1 hP 0 rfl rfl 6 (by decide) (hts (.fieldLink RX8 44 "ChairCane" "trial" "LChairCane$Room;") (by decide +kernel)) (fun _ h9 => h9) rfl dX8_toasts_99 ?_
        refine va_get (D := D) (ci := 2) (v := .int (q3.2.1.1 11)) (C := RX3) (T := TX3) (N := 17) hx hb hts in3 hown hG.1 hP 12 rfl rfl 11 (by decide) (hts (.fieldLink RX8 179 "ChairCane$Room" "dropped" "I") (by decide +kernel)) (fun _ h9 => h9) rfl dX8_toasts_102 ?_
        refine lv_goto (tgt := 115) hx hb dX8_toasts_105 (by decide) ?_
        exact B115 _ _ _ _ _ _ _ _ _ _ _ _ _ h hP hD hS (lv_sub hl [1, 2, 3, 4, 5, 0, 7] rfl)
  have C75 : ∀ (v1 : Int32) (v2 : Int32) (v3 : Int32) (v4 : Int32) (v5 : Int32) (v6 : Int32) (v7 : Int32) (tm : OB) (rz : Nat → OB), lp (b_X8_toasts_75 F xi xrr si rm) F (v1, v2, v3, v4, v5, v6, v7, tm, rz) = some res → ∀ (H : Heap) (locs : List Loc) (ls : Array Slot), va_P D vwCl ([((xo 0), .inr (6, [.ref (ta 0), .ref xr, .int (xi 2), .ref (sa 0), .ref xm, .ref xg, .ref (tr 0), .ref xs, .ref xp, .ref xq, .ref xe, .ref xt]))] ++ ([(xr, hcR k 6 xrr)] ++ ([((sa 0), .inr (4, [.ref (xa 0), .ref (ca 0), .ref (na 0), .int (si 3), .int (si 4)]))] ++ (rmW k xa rm ++ (rmW k tr tm ++ (RU k ra rz)))))) H → va_D A ([((xo 0), .inr (6, [.ref (ta 0), .ref xr, .int (xi 2), .ref (sa 0), .ref xm, .ref xg, .ref (tr 0), .ref xs, .ref xp, .ref xq, .ref xe, .ref xt]))] ++ ([(xr, hcR k 6 xrr)] ++ ([((sa 0), .inr (4, [.ref (xa 0), .ref (ca 0), .ref (na 0), .int (si 3), .int (si 4)]))] ++ (rmW k xa rm ++ (rmW k tr tm ++ (RU k ra rz)))))) → va_S A s.heap H locs → lv_has ls 8 [(0, .ref (xo 0)), (1, .int v1), (2, .int v2), (3, .int v3), (4, .int v4), (5, .int v5), (6, .int v6), (7, .int v7)] → W p l e (rmK 7 0 0) s m (List.toArray [.ref (xo 0), .int x1, .int x2, .int x3, .int x4]) below meth c H locs 0 0 (MQ below (va_Qi (fun r (_ : Unit) => r = res.1) (hcB D (fun _ : Unit => [((xo 0), .inr (6, [.ref (ta 0), .ref xr, .int (xi 2), .ref (sa 0), .ref xm, .ref xg, .ref (tr 0), .ref xs, .ref xp, .ref xq, .ref xe, .ref xt]))] ++ ([(xr, hcR k 6 xrr)] ++ ([((sa 0), .inr (4, [.ref (xa 0), .ref (ca 0), .ref (na 0), .int (si 3), .int (si 4)]))] ++ (rmW k xa rm ++ (rmW k tr res.2.1 ++ (RU k ra res.2.2)))))) A) A) (List.toArray [.ref (xo 0), .int x1, .int x2, .int x3, .int x4]) s 0 0 A) (F0 m 75 ls []) := fun v1 v2 v3 v4 v5 v6 v7 tm rz => B75 (v1, v2, v3, v4, v5, v6, v7, tm, rz)
  refine lv_aload_n hx hb dX8_toasts_0 rfl (lv_at hl 0 rfl) ?_
  refine va_get (D := D) (ci := 6) (v := .ref (sa 0)) (C := RX8) (T := TX8) (N := 12) hx hb hts in8 hown hG.1 hP 0 rfl rfl 3 (by decide) (hts (.fieldLink RX8 29 "ChairCane" "now" "LChairCane$Standing;") (by decide +kernel)) (fun _ h9 => h9) rfl dX8_toasts_1 ?_
  refine va_get (D := D) (ci := 4) (v := .ref (xa 0)) (C := RX6) (T := TX6) (N := 5) hx hb hts in6 hown hG.1 hP 2 rfl rfl 0 (by decide) (hts (.fieldLink RX8 81 "ChairCane$Standing" "room" "LChairCane$Room;") (by decide +kernel)) (fun _ h9 => h9) rfl dX8_toasts_4 ?_
  refine va_get (D := D) (ci := 2) (v := .int (rm.1 0)) (C := RX3) (T := TX3) (N := 17) hx hb hts in3 hown hG.1 hP 3 rfl rfl 0 (by decide) (hts (.fieldLink RX8 150 "ChairCane$Room" "told" "Z") (by decide +kernel)) (fun _ h9 => h9) rfl dX8_toasts_7 ?_
  refine lv_if_eq (tgt := 35) hx hb dX8_toasts_10 (by decide) (fun c5 => ?_) (fun c5 => ?_)
  · have h := fw_t c5 h
    exact B35 _ _ _ _ _ h hP hD hS (lv_sub hl [] rfl)
  · have h := fw_f c5 h
    refine lv_iload_n hx hb dX8_toasts_13 rfl (lv_at hl 1 rfl) ?_
    refine lv_iconst (v := 1) hx hb dX8_toasts_14 (by decide) ?_
    refine lv_icmp_lt (tgt := 35) hx hb dX8_toasts_15 (by decide) (fun c6 => ?_) (fun c6 => ?_)
    · have h := fw_t c6 h
      exact B35 _ _ _ _ _ h hP hD hS (lv_sub hl [] rfl)
    · have h := fw_f c6 h
      refine lv_iload_n hx hb dX8_toasts_18 rfl (lv_at hl 1 rfl) ?_
      refine lv_bipush (v := 10) hx hb dX8_toasts_19 (by decide) ?_
      refine lv_icmp_gt (tgt := 35) hx hb dX8_toasts_21 (by decide) (fun c7 => ?_) (fun c7 => ?_)
      · have h := fw_t c7 h
        exact B35 _ _ _ _ _ h hP hD hS (lv_sub hl [] rfl)
      · have h := fw_f c7 h
        refine lv_iload_n hx hb dX8_toasts_24 rfl (lv_at hl 2 rfl) ?_
        refine lv_iconst (v := 1) hx hb dX8_toasts_25 (by decide) ?_
        refine lv_icmp_lt (tgt := 35) hx hb dX8_toasts_26 (by decide) (fun c8 => ?_) (fun c8 => ?_)
        · have h := fw_t c8 h
          exact B35 _ _ _ _ _ h hP hD hS (lv_sub hl [] rfl)
        · have h := fw_f c8 h
          refine lv_iload_n hx hb dX8_toasts_29 rfl (lv_at hl 2 rfl) ?_
          refine lv_bipush (v := 60) hx hb dX8_toasts_30 (by decide) ?_
          refine lv_icmp_le (tgt := 37) hx hb dX8_toasts_32 (by decide) (fun c9 => ?_) (fun c9 => ?_)
          · have h := fw_t c9 h
            refine lv_iload_n hx hb dX8_toasts_37 rfl (lv_at hl 3 rfl) ?_
            refine lv_if_lt (tgt := 58) hx hb dX8_toasts_38 (by decide) (fun c10 => ?_) (fun c10 => ?_)
            · have h := fw_t c10 h
              exact B58 _ _ _ _ _ h hP hD hS (lv_sub hl [] rfl)
            · have h := fw_f c10 h
              refine lv_iload_n hx hb dX8_toasts_41 rfl (lv_at hl 3 rfl) ?_
              refine lv_bipush (v := 100) hx hb dX8_toasts_42 (by decide) ?_
              refine lv_icmp_gt (tgt := 58) hx hb dX8_toasts_44 (by decide) (fun c11 => ?_) (fun c11 => ?_)
              · have h := fw_t c11 h
                exact B58 _ _ _ _ _ h hP hD hS (lv_sub hl [] rfl)
              · have h := fw_f c11 h
                refine lv_iload hx hb dX8_toasts_47 (lv_at hl 4 rfl) ?_
                refine lv_if_lt (tgt := 58) hx hb dX8_toasts_49 (by decide) (fun c12 => ?_) (fun c12 => ?_)
                · have h := fw_t c12 h
                  exact B58 _ _ _ _ _ h hP hD hS (lv_sub hl [] rfl)
                · have h := fw_f c12 h
                  refine lv_iload hx hb dX8_toasts_52 (lv_at hl 4 rfl) ?_
                  refine lv_iconst (v := 1) hx hb dX8_toasts_54 (by decide) ?_
                  refine lv_icmp_le (tgt := 60) hx hb dX8_toasts_55 (by decide) (fun c13 => ?_) (fun c13 => ?_)
                  · have h := fw_t c13 h
                    refine lv_aload_n hx hb dX8_toasts_60 rfl (lv_at hl 0 rfl) ?_
                    refine va_get (D := D) (ci := 6) (v := .ref (sa 0)) (C := RX8) (T := TX8) (N := 12) hx hb hts in8 hown hG.1 hP 0 rfl rfl 3 (by decide) (hts (.fieldLink RX8 29 "ChairCane" "now" "LChairCane$Standing;") (by decide +kernel)) (fun _ h9 => h9) rfl dX8_toasts_61 ?_
                    refine va_get (D := D) (ci := 4) (v := .int (si 4)) (C := RX6) (T := TX6) (N := 5) hx hb hts in6 hown hG.1 hP 2 rfl rfl 4 (by decide) (hts (.fieldLink RX8 292 "ChairCane$Standing" "x" "I") (by decide +kernel)) (fun _ h9 => h9) rfl dX8_toasts_64 ?_
                    refine lv_istore (lv' := [(5, .int (si 4)), (0, .ref (xo 0)), (1, .int x1), (2, .int x2), (3, .int x3), (4, .int x4)]) hx hb dX8_toasts_67 hl (by decide) rfl (fun ls hl => ?_)
                    refine lv_iconst (v := 0) hx hb dX8_toasts_69 (by decide) ?_
                    refine lv_istore (lv' := [(6, .int 0), (5, .int (si 4)), (0, .ref (xo 0)), (1, .int x1), (2, .int x2), (3, .int x3), (4, .int x4)]) hx hb dX8_toasts_70 hl (by decide) rfl (fun ls hl => ?_)
                    refine lv_iconst (v := 0) hx hb dX8_toasts_72 (by decide) ?_
                    refine lv_istore (lv' := [(7, .int 0), (6, .int 0), (5, .int (si 4)), (0, .ref (xo 0)), (1, .int x1), (2, .int x2), (3, .int x3), (4, .int x4)]) hx hb dX8_toasts_73 hl (by decide) rfl (fun ls hl => ?_)
                    exact C75 _ _ _ _ _ _ _ _ _ h _ _ _ hP hD hS (lv_sub hl [3, 4, 5, 6, 7, 2, 1, 0] rfl)
                  · have h := fw_f c13 h
                    exact B58 _ _ _ _ _ h hP hD hS (lv_sub hl [] rfl)
          · have h := fw_f c9 h
            exact B35 _ _ _ _ _ h hP hD hS (lv_sub hl [] rfl)
def f_X8_count (F : Nat)  (x1 : Int32) (xi : Nat → Int32) (tp : OB) (si : Nat → Int32) (rm : OB) (ac : OB) (nt : OB) : Option (Int32) :=
  if x1 = 0 then (some (rm.1 1)) else if x1 = 1 then (some (rm.1 2)) else if x1 = 2 then (some (rm.1 3)) else if x1 = 3 then (some (xi 2)) else if x1 = 4 then (some (si 3)) else if x1 = 5 then (some (rm.1 12)) else if x1 = 6 then (some (rm.1 10)) else if x1 = 7 then (some (rm.1 11)) else if x1 = 8 then (Option.bind (f_X3_givesInAll F rm) (fun q10 => (some q10))) else if x1 = 9 then (some (nt.1 3)) else if x1 = 10 then (some (ac.1 4)) else if x1 = 11 then (some (si 4)) else if x1 = 12 then (some (tp.1 1)) else (some (-1))
set_option maxHeartbeats 4000000 in
set_option maxRecDepth 100000 in
theorem c_X8_count (l : Launch) (D : va_G) (k : Nat → ClassId) (sz : Nat)  (xo : Nat → Nat) (ta : Nat → Nat) (xr : Nat) (sa : Nat → Nat) (xm : Nat) (xg : Nat) (tr : Nat → Nat) (xs : Nat) (xp : Nat) (xq : Nat) (xe : Nat) (xt : Nat) (xa : Nat → Nat) (ca : Nat → Nat) (na : Nat → Nat) (F : Nat)  (x1 : Int32) (xi : Nat → Int32) (tp : OB) (si : Nat → Int32) (rm : OB) (ac : OB) (nt : OB)  {res : Int32} (h : f_X8_count F x1 xi tp si rm ac nt = some res) : CtI l yX8_count wsX8_count (rmK 3 0 0) [.ref (xo 0), .int x1] D k sz ([((xo 0), .inr (6, [.ref (ta 0), .ref xr, .int (xi 2), .ref (sa 0), .ref xm, .ref xg, .ref (tr 0), .ref xs, .ref xp, .ref xq, .ref xe, .ref xt]))] ++ (tpW k ta tp ++ ([((sa 0), .inr (4, [.ref (xa 0), .ref (ca 0), .ref (na 0), .int (si 3), .int (si 4)]))] ++ (rmW k xa rm ++ (acW k ca ac ++ (ntW k na nt)))))) (fun r (_ : Unit) => r = res) (fun _ : Unit => [((xo 0), .inr (6, [.ref (ta 0), .ref xr, .int (xi 2), .ref (sa 0), .ref xm, .ref xg, .ref (tr 0), .ref xs, .ref xp, .ref xq, .ref xe, .ref xt]))] ++ (tpW k ta tp ++ ([((sa 0), .inr (4, [.ref (xa 0), .ref (ca 0), .ref (na 0), .int (si 3), .int (si 4)]))] ++ (rmW k xa rm ++ (acW k ca ac ++ (ntW k na nt)))))) 0 0 := by
  refine CtI.mk (cc := cX8_count) (maxL := 3) (ret := (some .int)) (by decide) rfl (Nat.le_of_ble_eq_true rfl) ?_
  intro p e s m below meth c A ls E hP hD hS hl
  obtain ⟨hx, hb, hr, hml, hown, hts, hlocks, hin, hG, hA⟩ := E
  have hown : s.vm.findClass RX8 = some m.cls := hown
  have in0 : ∀ w ∈ u_ws RX0 TX0 5, w ∈ wsX8_count := fun _ h => List.mem_cons_of_mem _ (List.mem_append_left _ (List.mem_append_right _ h))
  have in2 : ∀ w ∈ u_ws RX2 TX2 4, w ∈ wsX8_count := fun _ h => List.mem_cons_of_mem _ (List.mem_append_left _ (List.mem_append_left _ (List.mem_append_right _ h)))
  have in3 : ∀ w ∈ u_ws RX3 TX3 17, w ∈ wsX8_count := fun _ h => List.mem_cons_of_mem _ (List.mem_append_left _ (List.mem_append_left _ (List.mem_append_left _ (List.mem_append_right _ h))))
  have in6 : ∀ w ∈ u_ws RX6 TX6 5, w ∈ wsX8_count := fun _ h => List.mem_cons_of_mem _ (List.mem_append_left _ (List.mem_append_left _ (List.mem_append_left _ (List.mem_append_left _ (List.mem_append_right _ h)))))
  have in7 : ∀ w ∈ u_ws RX7 TX7 8, w ∈ wsX8_count := fun _ h => List.mem_cons_of_mem _ (List.mem_append_right _ h)
  have in8 : ∀ w ∈ u_ws RX8 TX8 12, w ∈ wsX8_count := fun _ h => List.mem_cons_of_mem _ (List.mem_append_left _ (List.mem_append_left _ (List.mem_append_left _ (List.mem_append_left _ (List.mem_append_left _ (List.mem_append_right _ h))))))
  have hl : lv_has ls 3 [(0, .ref (xo 0)), (1, .int x1)] := hl
  refine lv_aload_n hx hb dX8_count_0 rfl (lv_at hl 0 rfl) ?_
  refine va_get (D := D) (ci := 6) (v := .ref (sa 0)) (C := RX8) (T := TX8) (N := 12) hx hb hts in8 hown hG.1 hP 0 rfl rfl 3 (by decide) (hts (.fieldLink RX8 29 "ChairCane" "now" "LChairCane$Standing;") (by decide +kernel)) (fun _ h9 => h9) rfl dX8_count_1 ?_
  refine va_get (D := D) (ci := 4) (v := .ref (xa 0)) (C := RX6) (T := TX6) (N := 5) hx hb hts in6 hown hG.1 hP 6 rfl rfl 0 (by decide) (hts (.fieldLink RX8 81 "ChairCane$Standing" "room" "LChairCane$Room;") (by decide +kernel)) (fun _ h9 => h9) rfl dX8_count_4 ?_
  refine lv_astore_n (lv' := [(2, .ref (xa 0)), (0, .ref (xo 0)), (1, .int x1)]) hx hb dX8_count_7 rfl hl (by decide) rfl (fun ls hl => ?_)
  refine lv_iload_n hx hb dX8_count_8 rfl (lv_at hl 2 rfl) ?_
  by_cases c1 : x1 = 0
  · have h := fw_t c1 h
    refine lv_tableIn (off := 67) (tgt := 76) hx hb dX8_count_9 (by rw [c1]; decide) (by rw [c1]; decide) (by rw [c1]; rfl) (by decide) ?_
    refine lv_aload_n hx hb dX8_count_76 rfl (lv_at hl 0 rfl) ?_
    refine va_get (D := D) (ci := 2) (v := .int (rm.1 1)) (C := RX3) (T := TX3) (N := 17) hx hb hts in3 hown hG.1 hP 7 rfl rfl 1 (by decide) (hts (.fieldLink RX8 247 "ChairCane$Room" "strands" "I") (by decide +kernel)) (fun _ h9 => h9) rfl dX8_count_77 ?_
    exact fw_endI (rv := fun b : Int32 => b) (wp := fun b : Int32 => [((xo 0), .inr (6, [.ref (ta 0), .ref xr, .int (xi 2), .ref (sa 0), .ref xm, .ref xg, .ref (tr 0), .ref xs, .ref xp, .ref xq, .ref xe, .ref xt]))] ++ (tpW k ta tp ++ ([((sa 0), .inr (4, [.ref (xa 0), .ref (ca 0), .ref (na 0), .int (si 3), .int (si 4)]))] ++ (rmW k xa rm ++ (acW k ca ac ++ (ntW k na nt)))))) hx hb hr hlocks h rfl hP hD hS dX8_count_80
  have h := fw_f c1 h
  by_cases c2 : x1 = 1
  · have h := fw_t c2 h
    refine lv_tableIn (off := 72) (tgt := 81) hx hb dX8_count_9 (by rw [c2]; decide) (by rw [c2]; decide) (by rw [c2]; rfl) (by decide) ?_
    refine lv_aload_n hx hb dX8_count_81 rfl (lv_at hl 0 rfl) ?_
    refine va_get (D := D) (ci := 2) (v := .int (rm.1 2)) (C := RX3) (T := TX3) (N := 17) hx hb hts in3 hown hG.1 hP 7 rfl rfl 2 (by decide) (hts (.fieldLink RX8 315 "ChairCane$Room" "chairs" "I") (by decide +kernel)) (fun _ h9 => h9) rfl dX8_count_82 ?_
    exact fw_endI (rv := fun b : Int32 => b) (wp := fun b : Int32 => [((xo 0), .inr (6, [.ref (ta 0), .ref xr, .int (xi 2), .ref (sa 0), .ref xm, .ref xg, .ref (tr 0), .ref xs, .ref xp, .ref xq, .ref xe, .ref xt]))] ++ (tpW k ta tp ++ ([((sa 0), .inr (4, [.ref (xa 0), .ref (ca 0), .ref (na 0), .int (si 3), .int (si 4)]))] ++ (rmW k xa rm ++ (acW k ca ac ++ (ntW k na nt)))))) hx hb hr hlocks h rfl hP hD hS dX8_count_85
  have h := fw_f c2 h
  by_cases c3 : x1 = 2
  · have h := fw_t c3 h
    refine lv_tableIn (off := 77) (tgt := 86) hx hb dX8_count_9 (by rw [c3]; decide) (by rw [c3]; decide) (by rw [c3]; rfl) (by decide) ?_
    refine lv_aload_n hx hb dX8_count_86 rfl (lv_at hl 0 rfl) ?_
    refine va_get (D := D) (ci := 2) (v := .int (rm.1 3)) (C := RX3) (T := TX3) (N := 17) hx hb hts in3 hown hG.1 hP 7 rfl rfl 3 (by decide) (hts (.fieldLink RX8 104 "ChairCane$Room" "sitters" "I") (by decide +kernel)) (fun _ h9 => h9) rfl dX8_count_87 ?_
    exact fw_endI (rv := fun b : Int32 => b) (wp := fun b : Int32 => [((xo 0), .inr (6, [.ref (ta 0), .ref xr, .int (xi 2), .ref (sa 0), .ref xm, .ref xg, .ref (tr 0), .ref xs, .ref xp, .ref xq, .ref xe, .ref xt]))] ++ (tpW k ta tp ++ ([((sa 0), .inr (4, [.ref (xa 0), .ref (ca 0), .ref (na 0), .int (si 3), .int (si 4)]))] ++ (rmW k xa rm ++ (acW k ca ac ++ (ntW k na nt)))))) hx hb hr hlocks h rfl hP hD hS dX8_count_90
  have h := fw_f c3 h
  by_cases c4 : x1 = 3
  · have h := fw_t c4 h
    refine lv_tableIn (off := 82) (tgt := 91) hx hb dX8_count_9 (by rw [c4]; decide) (by rw [c4]; decide) (by rw [c4]; rfl) (by decide) ?_
    refine lv_aload_n hx hb dX8_count_91 rfl (lv_at hl 1 rfl) ?_
    refine va_get (D := D) (ci := 6) (v := .int (xi 2)) (C := RX8) (T := TX8) (N := 12) hx hb hts in8 hown hG.1 hP 0 rfl rfl 2 (by decide) (hts (.fieldLink RX8 22 "ChairCane" "ruleCount" "I") (by decide +kernel)) (fun _ h9 => h9) rfl dX8_count_92 ?_
    exact fw_endI (rv := fun b : Int32 => b) (wp := fun b : Int32 => [((xo 0), .inr (6, [.ref (ta 0), .ref xr, .int (xi 2), .ref (sa 0), .ref xm, .ref xg, .ref (tr 0), .ref xs, .ref xp, .ref xq, .ref xe, .ref xt]))] ++ (tpW k ta tp ++ ([((sa 0), .inr (4, [.ref (xa 0), .ref (ca 0), .ref (na 0), .int (si 3), .int (si 4)]))] ++ (rmW k xa rm ++ (acW k ca ac ++ (ntW k na nt)))))) hx hb hr hlocks h rfl hP hD hS dX8_count_95
  have h := fw_f c4 h
  by_cases c5 : x1 = 4
  · have h := fw_t c5 h
    refine lv_tableIn (off := 87) (tgt := 96) hx hb dX8_count_9 (by rw [c5]; decide) (by rw [c5]; decide) (by rw [c5]; rfl) (by decide) ?_
    refine lv_aload_n hx hb dX8_count_96 rfl (lv_at hl 1 rfl) ?_
    refine va_get (D := D) (ci := 6) (v := .ref (sa 0)) (C := RX8) (T := TX8) (N := 12) hx hb hts in8 hown hG.1 hP 0 rfl rfl 3 (by decide) (hts (.fieldLink RX8 29 "ChairCane" "now" "LChairCane$Standing;") (by decide +kernel)) (fun _ h9 => h9) rfl dX8_count_97 ?_
    refine va_get (D := D) (ci := 4) (v := .int (si 3)) (C := RX6) (T := TX6) (N := 5) hx hb hts in6 hown hG.1 hP 6 rfl rfl 3 (by decide) (hts (.fieldLink RX8 112 "ChairCane$Standing" "inForce" "I") (by decide +kernel)) (fun _ h9 => h9) rfl dX8_count_100 ?_
    exact fw_endI (rv := fun b : Int32 => b) (wp := fun b : Int32 => [((xo 0), .inr (6, [.ref (ta 0), .ref xr, .int (xi 2), .ref (sa 0), .ref xm, .ref xg, .ref (tr 0), .ref xs, .ref xp, .ref xq, .ref xe, .ref xt]))] ++ (tpW k ta tp ++ ([((sa 0), .inr (4, [.ref (xa 0), .ref (ca 0), .ref (na 0), .int (si 3), .int (si 4)]))] ++ (rmW k xa rm ++ (acW k ca ac ++ (ntW k na nt)))))) hx hb hr hlocks h rfl hP hD hS dX8_count_103
  have h := fw_f c5 h
  by_cases c6 : x1 = 5
  · have h := fw_t c6 h
    refine lv_tableIn (off := 95) (tgt := 104) hx hb dX8_count_9 (by rw [c6]; decide) (by rw [c6]; decide) (by rw [c6]; rfl) (by decide) ?_
    refine lv_aload_n hx hb dX8_count_104 rfl (lv_at hl 0 rfl) ?_
    refine va_get (D := D) (ci := 2) (v := .int (rm.1 12)) (C := RX3) (T := TX3) (N := 17) hx hb hts in3 hown hG.1 hP 7 rfl rfl 12 (by decide) (hts (.fieldLink RX8 154 "ChairCane$Room" "minute" "I") (by decide +kernel)) (fun _ h9 => h9) rfl dX8_count_105 ?_
    exact fw_endI (rv := fun b : Int32 => b) (wp := fun b : Int32 => [((xo 0), .inr (6, [.ref (ta 0), .ref xr, .int (xi 2), .ref (sa 0), .ref xm, .ref xg, .ref (tr 0), .ref xs, .ref xp, .ref xq, .ref xe, .ref xt]))] ++ (tpW k ta tp ++ ([((sa 0), .inr (4, [.ref (xa 0), .ref (ca 0), .ref (na 0), .int (si 3), .int (si 4)]))] ++ (rmW k xa rm ++ (acW k ca ac ++ (ntW k na nt)))))) hx hb hr hlocks h rfl hP hD hS dX8_count_108
  have h := fw_f c6 h
  by_cases c7 : x1 = 6
  · have h := fw_t c7 h
    refine lv_tableIn (off := 100) (tgt := 109) hx hb dX8_count_9 (by rw [c7]; decide) (by rw [c7]; decide) (by rw [c7]; rfl) (by decide) ?_
    refine lv_aload_n hx hb dX8_count_109 rfl (lv_at hl 0 rfl) ?_
    refine va_get (D := D) (ci := 2) (v := .int (rm.1 10)) (C := RX3) (T := TX3) (N := 17) hx hb hts in3 hown hG.1 hP 7 rfl rfl 10 (by decide) (hts (.fieldLink RX8 200 "ChairCane$Room" "sits" "I") (by decide +kernel)) (fun _ h9 => h9) rfl dX8_count_110 ?_
    exact fw_endI (rv := fun b : Int32 => b) (wp := fun b : Int32 => [((xo 0), .inr (6, [.ref (ta 0), .ref xr, .int (xi 2), .ref (sa 0), .ref xm, .ref xg, .ref (tr 0), .ref xs, .ref xp, .ref xq, .ref xe, .ref xt]))] ++ (tpW k ta tp ++ ([((sa 0), .inr (4, [.ref (xa 0), .ref (ca 0), .ref (na 0), .int (si 3), .int (si 4)]))] ++ (rmW k xa rm ++ (acW k ca ac ++ (ntW k na nt)))))) hx hb hr hlocks h rfl hP hD hS dX8_count_113
  have h := fw_f c7 h
  by_cases c8 : x1 = 7
  · have h := fw_t c8 h
    refine lv_tableIn (off := 105) (tgt := 114) hx hb dX8_count_9 (by rw [c8]; decide) (by rw [c8]; decide) (by rw [c8]; rfl) (by decide) ?_
    refine lv_aload_n hx hb dX8_count_114 rfl (lv_at hl 0 rfl) ?_
    refine va_get (D := D) (ci := 2) (v := .int (rm.1 11)) (C := RX3) (T := TX3) (N := 17) hx hb hts in3 hown hG.1 hP 7 rfl rfl 11 (by decide) (hts (.fieldLink RX8 179 "ChairCane$Room" "dropped" "I") (by decide +kernel)) (fun _ h9 => h9) rfl dX8_count_115 ?_
    exact fw_endI (rv := fun b : Int32 => b) (wp := fun b : Int32 => [((xo 0), .inr (6, [.ref (ta 0), .ref xr, .int (xi 2), .ref (sa 0), .ref xm, .ref xg, .ref (tr 0), .ref xs, .ref xp, .ref xq, .ref xe, .ref xt]))] ++ (tpW k ta tp ++ ([((sa 0), .inr (4, [.ref (xa 0), .ref (ca 0), .ref (na 0), .int (si 3), .int (si 4)]))] ++ (rmW k xa rm ++ (acW k ca ac ++ (ntW k na nt)))))) hx hb hr hlocks h rfl hP hD hS dX8_count_118
  have h := fw_f c8 h
  by_cases c9 : x1 = 8
  · have h := fw_t c9 h
    refine lv_tableIn (off := 110) (tgt := 119) hx hb dX8_count_9 (by rw [c9]; decide) (by rw [c9]; decide) (by rw [c9]; rfl) (by decide) ?_
    refine lv_aload_n hx hb dX8_count_119 rfl (lv_at hl 0 rfl) ?_
    refine fw_Vi (As := []) (rest := []) (n := 0) (wr := [((xo 0), .inr (6, [.ref (ta 0), .ref xr, .int (xi 2), .ref (sa 0), .ref xm, .ref xg, .ref (tr 0), .ref xs, .ref xp, .ref xq, .ref xe, .ref xt]))] ++ (tpW k ta tp ++ ([((sa 0), .inr (4, [.ref (xa 0), .ref (ca 0), .ref (na 0), .int (si 3), .int (si 4)]))] ++ (acW k ca ac ++ (ntW k na nt))))) (rv := fun b : Int32 => b) (wp := fun b : Int32 => rmW k xa rm) h hx hb hml hown hts hG hA hP hD hS hl.1 [7, 8, 9, 10, 11, 12, 13, 14, 15] [0, 1, 2, 3, 4, 5, 6, 16, 17, 18, 19, 20, 21, 22, 23] (fun q hq9 => c_X3_givesInAll l D k _  xa F  rm  hq9) (ci := 2) (q0 := 7) rfl rfl gX8_count_X3_givesInAll rfl ⟨rfl, rfl, Nat.le_of_ble_eq_true rfl, Nat.le_of_ble_eq_true rfl⟩ (by decide +kernel) rfl rfl ⟨by decide, by decide, by decide⟩ ⟨rfl, rfl, Nat.le_of_ble_eq_true rfl, Nat.le_of_ble_eq_true rfl, Nat.le_of_ble_eq_true rfl⟩ dX8_count_120 (fun q10 H locs h hP hD hS => ?_)
    have hP : va_P D vwCl ([((xo 0), .inr (6, [.ref (ta 0), .ref xr, .int (xi 2), .ref (sa 0), .ref xm, .ref xg, .ref (tr 0), .ref xs, .ref xp, .ref xq, .ref xe, .ref xt]))] ++ (tpW k ta tp ++ ([((sa 0), .inr (4, [.ref (xa 0), .ref (ca 0), .ref (na 0), .int (si 3), .int (si 4)]))] ++ (acW k ca ac ++ (ntW k na nt ++ (rmW k xa rm)))))) H := hP
    have hD : va_D A ([((xo 0), .inr (6, [.ref (ta 0), .ref xr, .int (xi 2), .ref (sa 0), .ref xm, .ref xg, .ref (tr 0), .ref xs, .ref xp, .ref xq, .ref xe, .ref xt]))] ++ (tpW k ta tp ++ ([((sa 0), .inr (4, [.ref (xa 0), .ref (ca 0), .ref (na 0), .int (si 3), .int (si 4)]))] ++ (acW k ca ac ++ (ntW k na nt ++ (rmW k xa rm)))))) := hD
    refine hc_is (z := q10) rfl ?_
    exact fw_endI (rv := fun b : Int32 => b) (wp := fun b : Int32 => [((xo 0), .inr (6, [.ref (ta 0), .ref xr, .int (xi 2), .ref (sa 0), .ref xm, .ref xg, .ref (tr 0), .ref xs, .ref xp, .ref xq, .ref xe, .ref xt]))] ++ (tpW k ta tp ++ ([((sa 0), .inr (4, [.ref (xa 0), .ref (ca 0), .ref (na 0), .int (si 3), .int (si 4)]))] ++ (rmW k xa rm ++ (acW k ca ac ++ (ntW k na nt)))))) hx hb hr hlocks h rfl (hP.sub [0, 1, 2, 3, 4, 5, 6, 15, 16, 17, 18, 19, 20, 21, 22, 23, 7, 8, 9, 10, 11, 12, 13, 14] rfl) (hD.sub [0, 1, 2, 3, 4, 5, 6, 15, 16, 17, 18, 19, 20, 21, 22, 23, 7, 8, 9, 10, 11, 12, 13, 14] (by decide) rfl) hS dX8_count_123
  have h := fw_f c9 h
  by_cases c11 : x1 = 9
  · have h := fw_t c11 h
    refine lv_tableIn (off := 115) (tgt := 124) hx hb dX8_count_9 (by rw [c11]; decide) (by rw [c11]; decide) (by rw [c11]; rfl) (by decide) ?_
    refine lv_aload_n hx hb dX8_count_124 rfl (lv_at hl 1 rfl) ?_
    refine va_get (D := D) (ci := 6) (v := .ref (sa 0)) (C := RX8) (T := TX8) (N := 12) hx hb hts in8 hown hG.1 hP 0 rfl rfl 3 (by decide) (hts (.fieldLink RX8 29 "ChairCane" "now" "LChairCane$Standing;") (by decide +kernel)) (fun _ h9 => h9) rfl dX8_count_125 ?_
    refine va_get (D := D) (ci := 4) (v := .ref (na 0)) (C := RX6) (T := TX6) (N := 5) hx hb hts in6 hown hG.1 hP 6 rfl rfl 2 (by decide) (hts (.fieldLink RX8 97 "ChairCane$Standing" "notes" "LChairCane$Notes;") (by decide +kernel)) (fun _ h9 => h9) rfl dX8_count_128 ?_
    refine va_get (D := D) (ci := 1) (v := .int (nt.1 3)) (C := RX2) (T := TX2) (N := 4) hx hb hts in2 hown hG.1 hP 20 rfl rfl 3 (by decide) (hts (.fieldLink RX8 244 "ChairCane$Notes" "many" "I") (by decide +kernel)) (fun _ h9 => h9) rfl dX8_count_131 ?_
    exact fw_endI (rv := fun b : Int32 => b) (wp := fun b : Int32 => [((xo 0), .inr (6, [.ref (ta 0), .ref xr, .int (xi 2), .ref (sa 0), .ref xm, .ref xg, .ref (tr 0), .ref xs, .ref xp, .ref xq, .ref xe, .ref xt]))] ++ (tpW k ta tp ++ ([((sa 0), .inr (4, [.ref (xa 0), .ref (ca 0), .ref (na 0), .int (si 3), .int (si 4)]))] ++ (rmW k xa rm ++ (acW k ca ac ++ (ntW k na nt)))))) hx hb hr hlocks h rfl hP hD hS dX8_count_134
  have h := fw_f c11 h
  by_cases c12 : x1 = 10
  · have h := fw_t c12 h
    refine lv_tableIn (off := 126) (tgt := 135) hx hb dX8_count_9 (by rw [c12]; decide) (by rw [c12]; decide) (by rw [c12]; rfl) (by decide) ?_
    refine lv_aload_n hx hb dX8_count_135 rfl (lv_at hl 1 rfl) ?_
    refine va_get (D := D) (ci := 6) (v := .ref (sa 0)) (C := RX8) (T := TX8) (N := 12) hx hb hts in8 hown hG.1 hP 0 rfl rfl 3 (by decide) (hts (.fieldLink RX8 29 "ChairCane" "now" "LChairCane$Standing;") (by decide +kernel)) (fun _ h9 => h9) rfl dX8_count_136 ?_
    refine va_get (D := D) (ci := 4) (v := .ref (ca 0)) (C := RX6) (T := TX6) (N := 5) hx hb hts in6 hown hG.1 hP 6 rfl rfl 1 (by decide) (hts (.fieldLink RX8 88 "ChairCane$Standing" "acts" "LChairCane$Acts;") (by decide +kernel)) (fun _ h9 => h9) rfl dX8_count_139 ?_
    refine va_get (D := D) (ci := 0) (v := .int (ac.1 4)) (C := RX0) (T := TX0) (N := 5) hx hb hts in0 hown hG.1 hP 16 rfl rfl 4 (by decide) (hts (.fieldLink RX8 187 "ChairCane$Acts" "kept" "I") (by decide +kernel)) (fun _ h9 => h9) rfl dX8_count_142 ?_
    exact fw_endI (rv := fun b : Int32 => b) (wp := fun b : Int32 => [((xo 0), .inr (6, [.ref (ta 0), .ref xr, .int (xi 2), .ref (sa 0), .ref xm, .ref xg, .ref (tr 0), .ref xs, .ref xp, .ref xq, .ref xe, .ref xt]))] ++ (tpW k ta tp ++ ([((sa 0), .inr (4, [.ref (xa 0), .ref (ca 0), .ref (na 0), .int (si 3), .int (si 4)]))] ++ (rmW k xa rm ++ (acW k ca ac ++ (ntW k na nt)))))) hx hb hr hlocks h rfl hP hD hS dX8_count_145
  have h := fw_f c12 h
  by_cases c13 : x1 = 11
  · have h := fw_t c13 h
    refine lv_tableIn (off := 137) (tgt := 146) hx hb dX8_count_9 (by rw [c13]; decide) (by rw [c13]; decide) (by rw [c13]; rfl) (by decide) ?_
    refine lv_aload_n hx hb dX8_count_146 rfl (lv_at hl 1 rfl) ?_
    refine va_get (D := D) (ci := 6) (v := .ref (sa 0)) (C := RX8) (T := TX8) (N := 12) hx hb hts in8 hown hG.1 hP 0 rfl rfl 3 (by decide) (hts (.fieldLink RX8 29 "ChairCane" "now" "LChairCane$Standing;") (by decide +kernel)) (fun _ h9 => h9) rfl dX8_count_147 ?_
    refine va_get (D := D) (ci := 4) (v := .int (si 4)) (C := RX6) (T := TX6) (N := 5) hx hb hts in6 hown hG.1 hP 6 rfl rfl 4 (by decide) (hts (.fieldLink RX8 292 "ChairCane$Standing" "x" "I") (by decide +kernel)) (fun _ h9 => h9) rfl dX8_count_150 ?_
    exact fw_endI (rv := fun b : Int32 => b) (wp := fun b : Int32 => [((xo 0), .inr (6, [.ref (ta 0), .ref xr, .int (xi 2), .ref (sa 0), .ref xm, .ref xg, .ref (tr 0), .ref xs, .ref xp, .ref xq, .ref xe, .ref xt]))] ++ (tpW k ta tp ++ ([((sa 0), .inr (4, [.ref (xa 0), .ref (ca 0), .ref (na 0), .int (si 3), .int (si 4)]))] ++ (rmW k xa rm ++ (acW k ca ac ++ (ntW k na nt)))))) hx hb hr hlocks h rfl hP hD hS dX8_count_153
  have h := fw_f c13 h
  by_cases c14 : x1 = 12
  · have h := fw_t c14 h
    refine lv_tableIn (off := 145) (tgt := 154) hx hb dX8_count_9 (by rw [c14]; decide) (by rw [c14]; decide) (by rw [c14]; rfl) (by decide) ?_
    refine lv_aload_n hx hb dX8_count_154 rfl (lv_at hl 1 rfl) ?_
    refine va_get (D := D) (ci := 6) (v := .ref (ta 0)) (C := RX8) (T := TX8) (N := 12) hx hb hts in8 hown hG.1 hP 0 rfl rfl 0 (by decide) (hts (.fieldLink RX8 10 "ChairCane" "tape" "LChairCane$Tape;") (by decide +kernel)) (fun _ h9 => h9) rfl dX8_count_155 ?_
    refine va_get (D := D) (ci := 5) (v := .int (tp.1 1)) (C := RX7) (T := TX7) (N := 8) hx hb hts in7 hown hG.1 hP 1 rfl rfl 1 (by decide) (hts (.fieldLink RX8 65 "ChairCane$Tape" "length" "I") (by decide +kernel)) (fun _ h9 => h9) rfl dX8_count_158 ?_
    exact fw_endI (rv := fun b : Int32 => b) (wp := fun b : Int32 => [((xo 0), .inr (6, [.ref (ta 0), .ref xr, .int (xi 2), .ref (sa 0), .ref xm, .ref xg, .ref (tr 0), .ref xs, .ref xp, .ref xq, .ref xe, .ref xt]))] ++ (tpW k ta tp ++ ([((sa 0), .inr (4, [.ref (xa 0), .ref (ca 0), .ref (na 0), .int (si 3), .int (si 4)]))] ++ (rmW k xa rm ++ (acW k ca ac ++ (ntW k na nt)))))) hx hb hr hlocks h rfl hP hD hS dX8_count_161
  have h := fw_f c14 h
  simp only [sp_eq, show (0 : Int32).toInt = 0 from by decide, show (1 : Int32).toInt = 1 from by decide, show (2 : Int32).toInt = 2 from by decide, show (3 : Int32).toInt = 3 from by decide, show (4 : Int32).toInt = 4 from by decide, show (5 : Int32).toInt = 5 from by decide, show (6 : Int32).toInt = 6 from by decide, show (7 : Int32).toInt = 7 from by decide, show (8 : Int32).toInt = 8 from by decide, show (9 : Int32).toInt = 9 from by decide, show (10 : Int32).toInt = 10 from by decide, show (11 : Int32).toInt = 11 from by decide, show (12 : Int32).toInt = 12 from by decide] at c1 c2 c3 c4 c5 c6 c7 c8 c9 c11 c12 c13 c14
  refine lv_tableOut (tgt := 162) hx hb dX8_count_9 (by omega) (by decide) ?_
  refine lv_iconst (v := (-1)) hx hb dX8_count_162 (by decide) ?_
  exact fw_endI (rv := fun b : Int32 => b) (wp := fun b : Int32 => [((xo 0), .inr (6, [.ref (ta 0), .ref xr, .int (xi 2), .ref (sa 0), .ref xm, .ref xg, .ref (tr 0), .ref xs, .ref xp, .ref xq, .ref xe, .ref xt]))] ++ (tpW k ta tp ++ ([((sa 0), .inr (4, [.ref (xa 0), .ref (ca 0), .ref (na 0), .int (si 3), .int (si 4)]))] ++ (rmW k xa rm ++ (acW k ca ac ++ (ntW k na nt)))))) hx hb hr hlocks h rfl hP hD hS dX8_count_163
