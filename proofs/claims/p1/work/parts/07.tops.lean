/-! the class: first calls that are refused or change little -/
theorem dX2_forget_0 : decode cX2_forget 0 = .ok (.aload_n 0, 1) := by decide +kernel
theorem dX2_forget_1 : decode cX2_forget 1 = .ok (.iconst 0, 1) := by decide +kernel
theorem dX2_forget_2 : decode cX2_forget 2 = .ok (.putfield 21, 3) := by decide +kernel
theorem dX2_forget_5 : decode cX2_forget 5 = .ok (.return_, 1) := by decide +kernel
theorem dX3_givesInAll_0 : decode cX3_givesInAll 0 = .ok (.iconst 0, 1) := by decide +kernel
theorem dX3_givesInAll_1 : decode cX3_givesInAll 1 = .ok (.istore_n 1, 1) := by decide +kernel
theorem dX3_givesInAll_2 : decode cX3_givesInAll 2 = .ok (.iconst 0, 1) := by decide +kernel
theorem dX3_givesInAll_3 : decode cX3_givesInAll 3 = .ok (.istore_n 2, 1) := by decide +kernel
theorem dX3_givesInAll_4 : decode cX3_givesInAll 4 = .ok (.iload_n 2, 1) := by decide +kernel
theorem dX3_givesInAll_5 : decode cX3_givesInAll 5 = .ok (.aload_n 0, 1) := by decide +kernel
theorem dX3_givesInAll_6 : decode cX3_givesInAll 6 = .ok (.getfield 22, 3) := by decide +kernel
theorem dX3_givesInAll_9 : decode cX3_givesInAll 9 = .ok (.if_icmp .ge 17, 3) := by decide +kernel
theorem dX3_givesInAll_26 : decode cX3_givesInAll 26 = .ok (.iload_n 1, 1) := by decide +kernel
theorem dX3_givesInAll_27 : decode cX3_givesInAll 27 = .ok (.ireturn, 1) := by decide +kernel
theorem dX3_hasChair_0 : decode cX3_hasChair 0 = .ok (.iload_n 1, 1) := by decide +kernel
theorem dX3_hasChair_1 : decode cX3_hasChair 1 = .ok (.ifCond .lt 15, 3) := by decide +kernel
theorem dX3_hasChair_4 : decode cX3_hasChair 4 = .ok (.iload_n 1, 1) := by decide +kernel
theorem dX3_hasChair_5 : decode cX3_hasChair 5 = .ok (.aload_n 0, 1) := by decide +kernel
theorem dX3_hasChair_6 : decode cX3_hasChair 6 = .ok (.getfield 19, 3) := by decide +kernel
theorem dX3_hasChair_9 : decode cX3_hasChair 9 = .ok (.if_icmp .ge 7, 3) := by decide +kernel
theorem dX3_hasChair_16 : decode cX3_hasChair 16 = .ok (.iconst 0, 1) := by decide +kernel
theorem dX3_hasChair_17 : decode cX3_hasChair 17 = .ok (.ireturn, 1) := by decide +kernel
theorem dX3_hasSitter_0 : decode cX3_hasSitter 0 = .ok (.iload_n 1, 1) := by decide +kernel
theorem dX3_hasSitter_1 : decode cX3_hasSitter 1 = .ok (.ifCond .lt 15, 3) := by decide +kernel
theorem dX3_hasSitter_4 : decode cX3_hasSitter 4 = .ok (.iload_n 1, 1) := by decide +kernel
theorem dX3_hasSitter_5 : decode cX3_hasSitter 5 = .ok (.aload_n 0, 1) := by decide +kernel
theorem dX3_hasSitter_6 : decode cX3_hasSitter 6 = .ok (.getfield 22, 3) := by decide +kernel
theorem dX3_hasSitter_9 : decode cX3_hasSitter 9 = .ok (.if_icmp .ge 7, 3) := by decide +kernel
theorem dX3_hasSitter_16 : decode cX3_hasSitter 16 = .ok (.iconst 0, 1) := by decide +kernel
theorem dX3_hasSitter_17 : decode cX3_hasSitter 17 = .ok (.ireturn, 1) := by decide +kernel
theorem dX3_hasStrand_0 : decode cX3_hasStrand 0 = .ok (.iload_n 1, 1) := by decide +kernel
theorem dX3_hasStrand_1 : decode cX3_hasStrand 1 = .ok (.ifCond .lt 15, 3) := by decide +kernel
theorem dX3_hasStrand_4 : decode cX3_hasStrand 4 = .ok (.iload_n 1, 1) := by decide +kernel
theorem dX3_hasStrand_5 : decode cX3_hasStrand 5 = .ok (.aload_n 0, 1) := by decide +kernel
theorem dX3_hasStrand_6 : decode cX3_hasStrand 6 = .ok (.getfield 15, 3) := by decide +kernel
theorem dX3_hasStrand_9 : decode cX3_hasStrand 9 = .ok (.if_icmp .ge 7, 3) := by decide +kernel
theorem dX3_hasStrand_16 : decode cX3_hasStrand 16 = .ok (.iconst 0, 1) := by decide +kernel
theorem dX3_hasStrand_17 : decode cX3_hasStrand 17 = .ok (.ireturn, 1) := by decide +kernel
theorem dX3_isDown_0 : decode cX3_isDown 0 = .ok (.iload_n 1, 1) := by decide +kernel
theorem dX3_isDown_1 : decode cX3_isDown 1 = .ok (.ifCond .lt 26, 3) := by decide +kernel
theorem dX3_isDown_4 : decode cX3_isDown 4 = .ok (.iload_n 1, 1) := by decide +kernel
theorem dX3_isDown_5 : decode cX3_isDown 5 = .ok (.aload_n 0, 1) := by decide +kernel
theorem dX3_isDown_6 : decode cX3_isDown 6 = .ok (.getfield 22, 3) := by decide +kernel
theorem dX3_isDown_9 : decode cX3_isDown 9 = .ok (.if_icmp .ge 18, 3) := by decide +kernel
theorem dX3_isDown_27 : decode cX3_isDown 27 = .ok (.iconst 0, 1) := by decide +kernel
theorem dX3_isDown_28 : decode cX3_isDown 28 = .ok (.ireturn, 1) := by decide +kernel
theorem dX3_isUp_0 : decode cX3_isUp 0 = .ok (.iload_n 1, 1) := by decide +kernel
theorem dX3_isUp_1 : decode cX3_isUp 1 = .ok (.ifCond .lt 26, 3) := by decide +kernel
theorem dX3_isUp_4 : decode cX3_isUp 4 = .ok (.iload_n 1, 1) := by decide +kernel
theorem dX3_isUp_5 : decode cX3_isUp 5 = .ok (.aload_n 0, 1) := by decide +kernel
theorem dX3_isUp_6 : decode cX3_isUp 6 = .ok (.getfield 22, 3) := by decide +kernel
theorem dX3_isUp_9 : decode cX3_isUp 9 = .ok (.if_icmp .ge 18, 3) := by decide +kernel
theorem dX3_isUp_27 : decode cX3_isUp 27 = .ok (.iconst 0, 1) := by decide +kernel
theorem dX3_isUp_28 : decode cX3_isUp 28 = .ok (.ireturn, 1) := by decide +kernel
theorem dX3_stateOf_0 : decode cX3_stateOf 0 = .ok (.aload_n 0, 1) := by decide +kernel
theorem dX3_stateOf_1 : decode cX3_stateOf 1 = .ok (.iload_n 1, 1) := by decide +kernel
theorem dX3_stateOf_2 : decode cX3_stateOf 2 = .ok (.invokevirtual 74, 3) := by decide +kernel
theorem dX3_stateOf_5 : decode cX3_stateOf 5 = .ok (.ifCond .ne 5, 3) := by decide +kernel
theorem dX3_stateOf_8 : decode cX3_stateOf 8 = .ok (.iconst (-1), 1) := by decide +kernel
theorem dX3_stateOf_9 : decode cX3_stateOf 9 = .ok (.ireturn, 1) := by decide +kernel
theorem dX8_ahead_0 : decode cX8_ahead 0 = .ok (.aload_n 0, 1) := by decide +kernel
theorem dX8_ahead_1 : decode cX8_ahead 1 = .ok (.getfield 29, 3) := by decide +kernel
theorem dX8_ahead_4 : decode cX8_ahead 4 = .ok (.getfield 81, 3) := by decide +kernel
theorem dX8_ahead_7 : decode cX8_ahead 7 = .ok (.astore 4, 2) := by decide +kernel
theorem dX8_ahead_9 : decode cX8_ahead 9 = .ok (.aload 4, 2) := by decide +kernel
theorem dX8_ahead_11 : decode cX8_ahead 11 = .ok (.getfield 150, 3) := by decide +kernel
theorem dX8_ahead_14 : decode cX8_ahead 14 = .ok (.ifCond .eq 22, 3) := by decide +kernel
theorem dX8_ahead_36 : decode cX8_ahead 36 = .ok (.iconst (-1), 1) := by decide +kernel
theorem dX8_ahead_37 : decode cX8_ahead 37 = .ok (.ireturn, 1) := by decide +kernel
theorem dX8_chair_0 : decode cX8_chair 0 = .ok (.aload_n 0, 1) := by decide +kernel
theorem dX8_chair_1 : decode cX8_chair 1 = .ok (.getfield 29, 3) := by decide +kernel
theorem dX8_chair_4 : decode cX8_chair 4 = .ok (.getfield 81, 3) := by decide +kernel
theorem dX8_chair_7 : decode cX8_chair 7 = .ok (.astore_n 3, 1) := by decide +kernel
theorem dX8_chair_8 : decode cX8_chair 8 = .ok (.aload_n 3, 1) := by decide +kernel
theorem dX8_chair_9 : decode cX8_chair 9 = .ok (.iload_n 1, 1) := by decide +kernel
theorem dX8_chair_10 : decode cX8_chair 10 = .ok (.invokevirtual 122, 3) := by decide +kernel
theorem dX8_chair_13 : decode cX8_chair 13 = .ok (.ifCond .ne 6, 3) := by decide +kernel
theorem dX8_chair_16 : decode cX8_chair 16 = .ok (.bipush (-2), 2) := by decide +kernel
theorem dX8_chair_18 : decode cX8_chair 18 = .ok (.ireturn, 1) := by decide +kernel
theorem dX8_ease_0 : decode cX8_ease 0 = .ok (.aload_n 0, 1) := by decide +kernel
theorem dX8_ease_1 : decode cX8_ease 1 = .ok (.getfield 29, 3) := by decide +kernel
theorem dX8_ease_4 : decode cX8_ease 4 = .ok (.getfield 81, 3) := by decide +kernel
theorem dX8_ease_7 : decode cX8_ease 7 = .ok (.astore_n 2, 1) := by decide +kernel
theorem dX8_ease_8 : decode cX8_ease 8 = .ok (.aload_n 2, 1) := by decide +kernel
theorem dX8_ease_9 : decode cX8_ease 9 = .ok (.getfield 150, 3) := by decide +kernel
theorem dX8_ease_12 : decode cX8_ease 12 = .ok (.ifCond .eq 12, 3) := by decide +kernel
theorem dX8_ease_24 : decode cX8_ease 24 = .ok (.iconst (-1), 1) := by decide +kernel
theorem dX8_ease_25 : decode cX8_ease 25 = .ok (.ireturn, 1) := by decide +kernel
theorem dX8_end_0 : decode cX8_end 0 = .ok (.iload_n 1, 1) := by decide +kernel
theorem dX8_end_1 : decode cX8_end 1 = .ok (.ifCond .lt 14, 3) := by decide +kernel
theorem dX8_end_4 : decode cX8_end 4 = .ok (.iload_n 1, 1) := by decide +kernel
theorem dX8_end_5 : decode cX8_end 5 = .ok (.aload_n 0, 1) := by decide +kernel
theorem dX8_end_6 : decode cX8_end 6 = .ok (.getfield 10, 3) := by decide +kernel
theorem dX8_end_9 : decode cX8_end 9 = .ok (.getfield 65, 3) := by decide +kernel
theorem dX8_end_12 : decode cX8_end 12 = .ok (.if_icmp .le 5, 3) := by decide +kernel
theorem dX8_end_15 : decode cX8_end 15 = .ok (.iconst (-1), 1) := by decide +kernel
theorem dX8_end_16 : decode cX8_end 16 = .ok (.ireturn, 1) := by decide +kernel
theorem dX8_end_17 : decode cX8_end 17 = .ok (.aload_n 0, 1) := by decide +kernel
theorem dX8_end_18 : decode cX8_end 18 = .ok (.getfield 10, 3) := by decide +kernel
theorem dX8_end_21 : decode cX8_end 21 = .ok (.iload_n 1, 1) := by decide +kernel
theorem dX8_end_22 : decode cX8_end 22 = .ok (.putfield 65, 3) := by decide +kernel
theorem dX8_end_25 : decode cX8_end 25 = .ok (.iload_n 1, 1) := by decide +kernel
theorem dX8_end_26 : decode cX8_end 26 = .ok (.ireturn, 1) := by decide +kernel
theorem dX8_falls_0 : decode cX8_falls 0 = .ok (.aload_n 0, 1) := by decide +kernel
theorem dX8_falls_1 : decode cX8_falls 1 = .ok (.getfield 29, 3) := by decide +kernel
theorem dX8_falls_4 : decode cX8_falls 4 = .ok (.getfield 81, 3) := by decide +kernel
theorem dX8_falls_7 : decode cX8_falls 7 = .ok (.getfield 150, 3) := by decide +kernel
theorem dX8_falls_10 : decode cX8_falls 10 = .ok (.ifCond .eq 12, 3) := by decide +kernel
theorem dX8_falls_22 : decode cX8_falls 22 = .ok (.iconst (-1), 1) := by decide +kernel
theorem dX8_falls_23 : decode cX8_falls 23 = .ok (.ireturn, 1) := by decide +kernel
theorem dX8_felled_0 : decode cX8_felled 0 = .ok (.aload_n 0, 1) := by decide +kernel
theorem dX8_felled_1 : decode cX8_felled 1 = .ok (.getfield 29, 3) := by decide +kernel
theorem dX8_felled_4 : decode cX8_felled 4 = .ok (.getfield 81, 3) := by decide +kernel
theorem dX8_felled_7 : decode cX8_felled 7 = .ok (.iload_n 1, 1) := by decide +kernel
theorem dX8_felled_8 : decode cX8_felled 8 = .ok (.invokevirtual 176, 3) := by decide +kernel
theorem dX8_felled_11 : decode cX8_felled 11 = .ok (.ifCond .eq 11, 3) := by decide +kernel
theorem dX8_felled_22 : decode cX8_felled 22 = .ok (.iconst (-1), 1) := by decide +kernel
theorem dX8_felled_23 : decode cX8_felled 23 = .ok (.ireturn, 1) := by decide +kernel
theorem dX8_force_0 : decode cX8_force 0 = .ok (.iload_n 1, 1) := by decide +kernel
theorem dX8_force_1 : decode cX8_force 1 = .ok (.iconst (-1), 1) := by decide +kernel
theorem dX8_force_2 : decode cX8_force 2 = .ok (.if_icmp .lt 11, 3) := by decide +kernel
theorem dX8_force_5 : decode cX8_force 5 = .ok (.iload_n 1, 1) := by decide +kernel
theorem dX8_force_6 : decode cX8_force 6 = .ok (.aload_n 0, 1) := by decide +kernel
theorem dX8_force_7 : decode cX8_force 7 = .ok (.getfield 22, 3) := by decide +kernel
theorem dX8_force_10 : decode cX8_force 10 = .ok (.if_icmp .lt 6, 3) := by decide +kernel
theorem dX8_force_13 : decode cX8_force 13 = .ok (.bipush (-2), 2) := by decide +kernel
theorem dX8_force_15 : decode cX8_force 15 = .ok (.ireturn, 1) := by decide +kernel
theorem dX8_force_16 : decode cX8_force 16 = .ok (.aload_n 0, 1) := by decide +kernel
theorem dX8_force_17 : decode cX8_force 17 = .ok (.getfield 29, 3) := by decide +kernel
theorem dX8_force_20 : decode cX8_force 20 = .ok (.getfield 112, 3) := by decide +kernel
theorem dX8_force_23 : decode cX8_force 23 = .ok (.istore_n 2, 1) := by decide +kernel
theorem dX8_force_24 : decode cX8_force 24 = .ok (.aload_n 0, 1) := by decide +kernel
theorem dX8_force_25 : decode cX8_force 25 = .ok (.getfield 29, 3) := by decide +kernel
theorem dX8_force_28 : decode cX8_force 28 = .ok (.iload_n 1, 1) := by decide +kernel
theorem dX8_force_29 : decode cX8_force 29 = .ok (.putfield 112, 3) := by decide +kernel
theorem dX8_force_32 : decode cX8_force 32 = .ok (.iload_n 2, 1) := by decide +kernel
theorem dX8_force_33 : decode cX8_force 33 = .ok (.ireturn, 1) := by decide +kernel
theorem dX8_heavy_0 : decode cX8_heavy 0 = .ok (.aload_n 0, 1) := by decide +kernel
theorem dX8_heavy_1 : decode cX8_heavy 1 = .ok (.getfield 29, 3) := by decide +kernel
theorem dX8_heavy_4 : decode cX8_heavy 4 = .ok (.getfield 81, 3) := by decide +kernel
theorem dX8_heavy_7 : decode cX8_heavy 7 = .ok (.astore_n 3, 1) := by decide +kernel
theorem dX8_heavy_8 : decode cX8_heavy 8 = .ok (.aload_n 3, 1) := by decide +kernel
theorem dX8_heavy_9 : decode cX8_heavy 9 = .ok (.iload_n 1, 1) := by decide +kernel
theorem dX8_heavy_10 : decode cX8_heavy 10 = .ok (.invokevirtual 221, 3) := by decide +kernel
theorem dX8_heavy_13 : decode cX8_heavy 13 = .ok (.ifCond .eq 12, 3) := by decide +kernel
theorem dX8_heavy_25 : decode cX8_heavy 25 = .ok (.iconst (-1), 1) := by decide +kernel
theorem dX8_heavy_26 : decode cX8_heavy 26 = .ok (.ireturn, 1) := by decide +kernel
theorem dX8_help_0 : decode cX8_help 0 = .ok (.aload_n 0, 1) := by decide +kernel
theorem dX8_help_1 : decode cX8_help 1 = .ok (.getfield 29, 3) := by decide +kernel
theorem dX8_help_4 : decode cX8_help 4 = .ok (.getfield 81, 3) := by decide +kernel
theorem dX8_help_7 : decode cX8_help 7 = .ok (.iload_n 1, 1) := by decide +kernel
theorem dX8_help_8 : decode cX8_help 8 = .ok (.invokevirtual 147, 3) := by decide +kernel
theorem dX8_help_11 : decode cX8_help 11 = .ok (.iconst 2, 1) := by decide +kernel
theorem dX8_help_12 : decode cX8_help 12 = .ok (.if_icmp .eq 5, 3) := by decide +kernel
theorem dX8_help_15 : decode cX8_help 15 = .ok (.iconst (-1), 1) := by decide +kernel
theorem dX8_help_16 : decode cX8_help 16 = .ok (.ireturn, 1) := by decide +kernel
theorem dX8_let_0 : decode cX8_let 0 = .ok (.aload_n 0, 1) := by decide +kernel
theorem dX8_let_1 : decode cX8_let 1 = .ok (.getfield 29, 3) := by decide +kernel
theorem dX8_let_4 : decode cX8_let 4 = .ok (.getfield 81, 3) := by decide +kernel
theorem dX8_let_7 : decode cX8_let 7 = .ok (.astore_n 3, 1) := by decide +kernel
theorem dX8_let_8 : decode cX8_let 8 = .ok (.aload_n 3, 1) := by decide +kernel
theorem dX8_let_9 : decode cX8_let 9 = .ok (.iload_n 1, 1) := by decide +kernel
theorem dX8_let_10 : decode cX8_let 10 = .ok (.invokevirtual 115, 3) := by decide +kernel
theorem dX8_let_13 : decode cX8_let 13 = .ok (.ifCond .eq 23, 3) := by decide +kernel
theorem dX8_let_36 : decode cX8_let 36 = .ok (.iconst (-1), 1) := by decide +kernel
theorem dX8_let_37 : decode cX8_let 37 = .ok (.ireturn, 1) := by decide +kernel
theorem dX8_look_0 : decode cX8_look 0 = .ok (.aload_n 0, 1) := by decide +kernel
theorem dX8_look_1 : decode cX8_look 1 = .ok (.getfield 29, 3) := by decide +kernel
theorem dX8_look_4 : decode cX8_look 4 = .ok (.getfield 81, 3) := by decide +kernel
theorem dX8_look_7 : decode cX8_look 7 = .ok (.astore_n 3, 1) := by decide +kernel
theorem dX8_look_8 : decode cX8_look 8 = .ok (.aload_n 3, 1) := by decide +kernel
theorem dX8_look_9 : decode cX8_look 9 = .ok (.getfield 150, 3) := by decide +kernel
theorem dX8_look_12 : decode cX8_look 12 = .ok (.ifCond .eq 22, 3) := by decide +kernel
theorem dX8_look_34 : decode cX8_look 34 = .ok (.iconst (-1), 1) := by decide +kernel
theorem dX8_look_35 : decode cX8_look 35 = .ok (.ireturn, 1) := by decide +kernel
theorem dX8_minute_0 : decode cX8_minute 0 = .ok (.aload_n 0, 1) := by decide +kernel
theorem dX8_minute_1 : decode cX8_minute 1 = .ok (.getfield 29, 3) := by decide +kernel
theorem dX8_minute_4 : decode cX8_minute 4 = .ok (.getfield 81, 3) := by decide +kernel
theorem dX8_minute_7 : decode cX8_minute 7 = .ok (.astore_n 1, 1) := by decide +kernel
theorem dX8_minute_8 : decode cX8_minute 8 = .ok (.aload_n 1, 1) := by decide +kernel
theorem dX8_minute_9 : decode cX8_minute 9 = .ok (.getfield 150, 3) := by decide +kernel
theorem dX8_minute_12 : decode cX8_minute 12 = .ok (.ifCond .eq 13, 3) := by decide +kernel
theorem dX8_minute_25 : decode cX8_minute 25 = .ok (.iconst (-1), 1) := by decide +kernel
theorem dX8_minute_26 : decode cX8_minute 26 = .ok (.ireturn, 1) := by decide +kernel
theorem dX8_most_0 : decode cX8_most 0 = .ok (.aload_n 0, 1) := by decide +kernel
theorem dX8_most_1 : decode cX8_most 1 = .ok (.getfield 29, 3) := by decide +kernel
theorem dX8_most_4 : decode cX8_most 4 = .ok (.getfield 81, 3) := by decide +kernel
theorem dX8_most_7 : decode cX8_most 7 = .ok (.iload_n 1, 1) := by decide +kernel
theorem dX8_most_8 : decode cX8_most 8 = .ok (.invokevirtual 115, 3) := by decide +kernel
theorem dX8_most_11 : decode cX8_most 11 = .ok (.ifCond .ne 5, 3) := by decide +kernel
theorem dX8_most_14 : decode cX8_most 14 = .ok (.iconst (-1), 1) := by decide +kernel
theorem dX8_most_15 : decode cX8_most 15 = .ok (.ireturn, 1) := by decide +kernel
theorem dX8_note_0 : decode cX8_note 0 = .ok (.iload_n 1, 1) := by decide +kernel
theorem dX8_note_1 : decode cX8_note 1 = .ok (.iconst (-1), 1) := by decide +kernel
theorem dX8_note_2 : decode cX8_note 2 = .ok (.if_icmp .ne 15, 3) := by decide +kernel
theorem dX8_note_5 : decode cX8_note 5 = .ok (.aload_n 0, 1) := by decide +kernel
theorem dX8_note_6 : decode cX8_note 6 = .ok (.getfield 29, 3) := by decide +kernel
theorem dX8_note_9 : decode cX8_note 9 = .ok (.getfield 97, 3) := by decide +kernel
theorem dX8_note_12 : decode cX8_note 12 = .ok (.invokevirtual 101, 3) := by decide +kernel
theorem dX8_note_15 : decode cX8_note 15 = .ok (.iconst 0, 1) := by decide +kernel
theorem dX8_note_16 : decode cX8_note 16 = .ok (.ireturn, 1) := by decide +kernel
theorem dX8_note_17 : decode cX8_note 17 = .ok (.iload_n 1, 1) := by decide +kernel
theorem dX8_note_18 : decode cX8_note 18 = .ok (.ifCond .lt 32, 3) := by decide +kernel
theorem dX8_note_21 : decode cX8_note 21 = .ok (.iload_n 1, 1) := by decide +kernel
theorem dX8_note_22 : decode cX8_note 22 = .ok (.bipush 60, 2) := by decide +kernel
theorem dX8_note_24 : decode cX8_note 24 = .ok (.if_icmp .gt 26, 3) := by decide +kernel
theorem dX8_note_27 : decode cX8_note 27 = .ok (.aload_n 0, 1) := by decide +kernel
theorem dX8_note_28 : decode cX8_note 28 = .ok (.getfield 29, 3) := by decide +kernel
theorem dX8_note_31 : decode cX8_note 31 = .ok (.getfield 81, 3) := by decide +kernel
theorem dX8_note_34 : decode cX8_note 34 = .ok (.iload_n 2, 1) := by decide +kernel
theorem dX8_note_35 : decode cX8_note 35 = .ok (.invokevirtual 138, 3) := by decide +kernel
theorem dX8_note_38 : decode cX8_note 38 = .ok (.ifCond .eq 12, 3) := by decide +kernel
theorem dX8_note_50 : decode cX8_note 50 = .ok (.bipush (-2), 2) := by decide +kernel
theorem dX8_note_52 : decode cX8_note 52 = .ok (.ireturn, 1) := by decide +kernel
theorem dX8_pence_0 : decode cX8_pence 0 = .ok (.aload_n 0, 1) := by decide +kernel
theorem dX8_pence_1 : decode cX8_pence 1 = .ok (.getfield 29, 3) := by decide +kernel
theorem dX8_pence_4 : decode cX8_pence 4 = .ok (.getfield 81, 3) := by decide +kernel
theorem dX8_pence_7 : decode cX8_pence 7 = .ok (.astore_n 3, 1) := by decide +kernel
theorem dX8_pence_8 : decode cX8_pence 8 = .ok (.iload_n 1, 1) := by decide +kernel
theorem dX8_pence_9 : decode cX8_pence 9 = .ok (.ifCond .lt 18, 3) := by decide +kernel
theorem dX8_pence_12 : decode cX8_pence 12 = .ok (.iload_n 1, 1) := by decide +kernel
theorem dX8_pence_13 : decode cX8_pence 13 = .ok (.sipush 9999, 3) := by decide +kernel
theorem dX8_pence_16 : decode cX8_pence 16 = .ok (.if_icmp .gt 11, 3) := by decide +kernel
theorem dX8_pence_19 : decode cX8_pence 19 = .ok (.aload_n 3, 1) := by decide +kernel
theorem dX8_pence_20 : decode cX8_pence 20 = .ok (.iload_n 2, 1) := by decide +kernel
theorem dX8_pence_21 : decode cX8_pence 21 = .ok (.invokevirtual 138, 3) := by decide +kernel
theorem dX8_pence_24 : decode cX8_pence 24 = .ok (.ifCond .ne 5, 3) := by decide +kernel
theorem dX8_pence_27 : decode cX8_pence 27 = .ok (.iconst (-1), 1) := by decide +kernel
theorem dX8_pence_28 : decode cX8_pence 28 = .ok (.ireturn, 1) := by decide +kernel
theorem dX8_rests_0 : decode cX8_rests 0 = .ok (.aload_n 0, 1) := by decide +kernel
theorem dX8_rests_1 : decode cX8_rests 1 = .ok (.getfield 29, 3) := by decide +kernel
theorem dX8_rests_4 : decode cX8_rests 4 = .ok (.getfield 81, 3) := by decide +kernel
theorem dX8_rests_7 : decode cX8_rests 7 = .ok (.astore 5, 2) := by decide +kernel
theorem dX8_rests_9 : decode cX8_rests 9 = .ok (.aload 5, 2) := by decide +kernel
theorem dX8_rests_11 : decode cX8_rests 11 = .ok (.iload_n 1, 1) := by decide +kernel
theorem dX8_rests_12 : decode cX8_rests 12 = .ok (.invokevirtual 221, 3) := by decide +kernel
theorem dX8_rests_15 : decode cX8_rests 15 = .ok (.ifCond .eq 17, 3) := by decide +kernel
theorem dX8_rests_32 : decode cX8_rests 32 = .ok (.iconst (-1), 1) := by decide +kernel
theorem dX8_rests_33 : decode cX8_rests 33 = .ok (.ireturn, 1) := by decide +kernel
theorem dX8_ring_0 : decode cX8_ring 0 = .ok (.aload_n 0, 1) := by decide +kernel
theorem dX8_ring_1 : decode cX8_ring 1 = .ok (.getfield 29, 3) := by decide +kernel
theorem dX8_ring_4 : decode cX8_ring 4 = .ok (.getfield 81, 3) := by decide +kernel
theorem dX8_ring_7 : decode cX8_ring 7 = .ok (.getfield 150, 3) := by decide +kernel
theorem dX8_ring_10 : decode cX8_ring 10 = .ok (.ifCond .eq 12, 3) := by decide +kernel
theorem dX8_ring_22 : decode cX8_ring 22 = .ok (.iconst (-1), 1) := by decide +kernel
theorem dX8_ring_23 : decode cX8_ring 23 = .ok (.ireturn, 1) := by decide +kernel
theorem dX8_rise_0 : decode cX8_rise 0 = .ok (.aload_n 0, 1) := by decide +kernel
theorem dX8_rise_1 : decode cX8_rise 1 = .ok (.getfield 29, 3) := by decide +kernel
theorem dX8_rise_4 : decode cX8_rise 4 = .ok (.getfield 81, 3) := by decide +kernel
theorem dX8_rise_7 : decode cX8_rise 7 = .ok (.iload_n 1, 1) := by decide +kernel
theorem dX8_rise_8 : decode cX8_rise 8 = .ok (.invokevirtual 176, 3) := by decide +kernel
theorem dX8_rise_11 : decode cX8_rise 11 = .ok (.ifCond .ne 5, 3) := by decide +kernel
theorem dX8_rise_14 : decode cX8_rise 14 = .ok (.iconst (-1), 1) := by decide +kernel
theorem dX8_rise_15 : decode cX8_rise 15 = .ok (.ireturn, 1) := by decide +kernel
theorem dX8_ruled_0 : decode cX8_ruled 0 = .ok (.aload_n 0, 1) := by decide +kernel
theorem dX8_ruled_1 : decode cX8_ruled 1 = .ok (.getfield 29, 3) := by decide +kernel
theorem dX8_ruled_4 : decode cX8_ruled 4 = .ok (.getfield 81, 3) := by decide +kernel
theorem dX8_ruled_7 : decode cX8_ruled 7 = .ok (.getfield 150, 3) := by decide +kernel
theorem dX8_ruled_10 : decode cX8_ruled 10 = .ok (.ifCond .eq 12, 3) := by decide +kernel
theorem dX8_ruled_22 : decode cX8_ruled 22 = .ok (.bipush (-3), 2) := by decide +kernel
theorem dX8_ruled_24 : decode cX8_ruled 24 = .ok (.ireturn, 1) := by decide +kernel
theorem dX8_seed_0 : decode cX8_seed 0 = .ok (.iload_n 1, 1) := by decide +kernel
theorem dX8_seed_1 : decode cX8_seed 1 = .ok (.ifCond .ge 5, 3) := by decide +kernel
theorem dX8_seed_4 : decode cX8_seed 4 = .ok (.iconst (-1), 1) := by decide +kernel
theorem dX8_seed_5 : decode cX8_seed 5 = .ok (.ireturn, 1) := by decide +kernel
theorem dX8_seed_6 : decode cX8_seed 6 = .ok (.aload_n 0, 1) := by decide +kernel
theorem dX8_seed_7 : decode cX8_seed 7 = .ok (.getfield 29, 3) := by decide +kernel
theorem dX8_seed_10 : decode cX8_seed 10 = .ok (.getfield 292, 3) := by decide +kernel
theorem dX8_seed_13 : decode cX8_seed 13 = .ok (.istore_n 2, 1) := by decide +kernel
theorem dX8_seed_14 : decode cX8_seed 14 = .ok (.aload_n 0, 1) := by decide +kernel
theorem dX8_seed_15 : decode cX8_seed 15 = .ok (.getfield 29, 3) := by decide +kernel
theorem dX8_seed_18 : decode cX8_seed 18 = .ok (.iload_n 1, 1) := by decide +kernel
theorem dX8_seed_19 : decode cX8_seed 19 = .ok (.putfield 292, 3) := by decide +kernel
theorem dX8_seed_22 : decode cX8_seed 22 = .ok (.iload_n 2, 1) := by decide +kernel
theorem dX8_seed_23 : decode cX8_seed 23 = .ok (.ireturn, 1) := by decide +kernel
theorem dX8_sit_0 : decode cX8_sit 0 = .ok (.aload_n 0, 1) := by decide +kernel
theorem dX8_sit_1 : decode cX8_sit 1 = .ok (.getfield 29, 3) := by decide +kernel
theorem dX8_sit_4 : decode cX8_sit 4 = .ok (.getfield 81, 3) := by decide +kernel
theorem dX8_sit_7 : decode cX8_sit 7 = .ok (.iload_n 1, 1) := by decide +kernel
theorem dX8_sit_8 : decode cX8_sit 8 = .ok (.invokevirtual 147, 3) := by decide +kernel
theorem dX8_sit_11 : decode cX8_sit 11 = .ok (.ifCond .eq 5, 3) := by decide +kernel
theorem dX8_sit_14 : decode cX8_sit 14 = .ok (.iconst (-1), 1) := by decide +kernel
theorem dX8_sit_15 : decode cX8_sit 15 = .ok (.ireturn, 1) := by decide +kernel
theorem dX8_sitter_0 : decode cX8_sitter 0 = .ok (.aload_n 0, 1) := by decide +kernel
theorem dX8_sitter_1 : decode cX8_sitter 1 = .ok (.getfield 29, 3) := by decide +kernel
theorem dX8_sitter_4 : decode cX8_sitter 4 = .ok (.getfield 81, 3) := by decide +kernel
theorem dX8_sitter_7 : decode cX8_sitter 7 = .ok (.astore_n 3, 1) := by decide +kernel
theorem dX8_sitter_8 : decode cX8_sitter 8 = .ok (.aload_n 3, 1) := by decide +kernel
theorem dX8_sitter_9 : decode cX8_sitter 9 = .ok (.iload_n 1, 1) := by decide +kernel
theorem dX8_sitter_10 : decode cX8_sitter 10 = .ok (.invokevirtual 138, 3) := by decide +kernel
theorem dX8_sitter_13 : decode cX8_sitter 13 = .ok (.ifCond .ne 5, 3) := by decide +kernel
theorem dX8_sitter_16 : decode cX8_sitter 16 = .ok (.iconst (-1), 1) := by decide +kernel
theorem dX8_sitter_17 : decode cX8_sitter 17 = .ok (.ireturn, 1) := by decide +kernel
theorem dX8_strand_0 : decode cX8_strand 0 = .ok (.aload_n 0, 1) := by decide +kernel
theorem dX8_strand_1 : decode cX8_strand 1 = .ok (.getfield 29, 3) := by decide +kernel
theorem dX8_strand_4 : decode cX8_strand 4 = .ok (.getfield 81, 3) := by decide +kernel
theorem dX8_strand_7 : decode cX8_strand 7 = .ok (.iload_n 1, 1) := by decide +kernel
theorem dX8_strand_8 : decode cX8_strand 8 = .ok (.invokevirtual 115, 3) := by decide +kernel
theorem dX8_strand_11 : decode cX8_strand 11 = .ok (.ifCond .eq 18, 3) := by decide +kernel
theorem dX8_strand_29 : decode cX8_strand 29 = .ok (.iconst (-1), 1) := by decide +kernel
theorem dX8_strand_30 : decode cX8_strand 30 = .ok (.ireturn, 1) := by decide +kernel
theorem dX8_strung_0 : decode cX8_strung 0 = .ok (.aload_n 0, 1) := by decide +kernel
theorem dX8_strung_1 : decode cX8_strung 1 = .ok (.getfield 29, 3) := by decide +kernel
theorem dX8_strung_4 : decode cX8_strung 4 = .ok (.getfield 81, 3) := by decide +kernel
theorem dX8_strung_7 : decode cX8_strung 7 = .ok (.astore_n 2, 1) := by decide +kernel
theorem dX8_strung_8 : decode cX8_strung 8 = .ok (.aload_n 2, 1) := by decide +kernel
theorem dX8_strung_9 : decode cX8_strung 9 = .ok (.iload_n 1, 1) := by decide +kernel
theorem dX8_strung_10 : decode cX8_strung 10 = .ok (.invokevirtual 122, 3) := by decide +kernel
theorem dX8_strung_13 : decode cX8_strung 13 = .ok (.ifCond .ne 5, 3) := by decide +kernel
theorem dX8_strung_16 : decode cX8_strung 16 = .ok (.iconst (-1), 1) := by decide +kernel
theorem dX8_strung_17 : decode cX8_strung 17 = .ok (.ireturn, 1) := by decide +kernel
theorem dX8_tall_0 : decode cX8_tall 0 = .ok (.aload_n 0, 1) := by decide +kernel
theorem dX8_tall_1 : decode cX8_tall 1 = .ok (.getfield 29, 3) := by decide +kernel
theorem dX8_tall_4 : decode cX8_tall 4 = .ok (.getfield 81, 3) := by decide +kernel
theorem dX8_tall_7 : decode cX8_tall 7 = .ok (.astore_n 2, 1) := by decide +kernel
theorem dX8_tall_8 : decode cX8_tall 8 = .ok (.aload_n 2, 1) := by decide +kernel
theorem dX8_tall_9 : decode cX8_tall 9 = .ok (.getfield 150, 3) := by decide +kernel
theorem dX8_tall_12 : decode cX8_tall 12 = .ok (.ifCond .eq 12, 3) := by decide +kernel
theorem dX8_tall_24 : decode cX8_tall 24 = .ok (.iconst (-1), 1) := by decide +kernel
theorem dX8_tall_25 : decode cX8_tall 25 = .ok (.ireturn, 1) := by decide +kernel
theorem dX8_toasts_0 : decode cX8_toasts 0 = .ok (.aload_n 0, 1) := by decide +kernel
theorem dX8_toasts_1 : decode cX8_toasts 1 = .ok (.getfield 29, 3) := by decide +kernel
theorem dX8_toasts_4 : decode cX8_toasts 4 = .ok (.getfield 81, 3) := by decide +kernel
theorem dX8_toasts_7 : decode cX8_toasts 7 = .ok (.getfield 150, 3) := by decide +kernel
theorem dX8_toasts_10 : decode cX8_toasts 10 = .ok (.ifCond .eq 25, 3) := by decide +kernel
theorem dX8_toasts_35 : decode cX8_toasts 35 = .ok (.iconst (-1), 1) := by decide +kernel
theorem dX8_toasts_36 : decode cX8_toasts 36 = .ok (.ireturn, 1) := by decide +kernel
theorem dX8_undo_0 : decode cX8_undo 0 = .ok (.aload_n 0, 1) := by decide +kernel
theorem dX8_undo_1 : decode cX8_undo 1 = .ok (.getfield 29, 3) := by decide +kernel
theorem dX8_undo_4 : decode cX8_undo 4 = .ok (.getfield 88, 3) := by decide +kernel
theorem dX8_undo_7 : decode cX8_undo 7 = .ok (.getfield 187, 3) := by decide +kernel
theorem dX8_undo_10 : decode cX8_undo 10 = .ok (.ifCond .gt 6, 3) := by decide +kernel
theorem dX8_undo_13 : decode cX8_undo 13 = .ok (.bipush (-2), 2) := by decide +kernel
theorem dX8_undo_15 : decode cX8_undo 15 = .ok (.ireturn, 1) := by decide +kernel
theorem dX8_way_0 : decode cX8_way 0 = .ok (.aload_n 0, 1) := by decide +kernel
theorem dX8_way_1 : decode cX8_way 1 = .ok (.getfield 29, 3) := by decide +kernel
theorem dX8_way_4 : decode cX8_way 4 = .ok (.getfield 81, 3) := by decide +kernel
theorem dX8_way_7 : decode cX8_way 7 = .ok (.astore_n 2, 1) := by decide +kernel
theorem dX8_way_8 : decode cX8_way 8 = .ok (.aload_n 2, 1) := by decide +kernel
theorem dX8_way_9 : decode cX8_way 9 = .ok (.getfield 150, 3) := by decide +kernel
theorem dX8_way_12 : decode cX8_way 12 = .ok (.ifCond .eq 13, 3) := by decide +kernel
theorem dX8_way_25 : decode cX8_way 25 = .ok (.bipush (-3), 2) := by decide +kernel
theorem dX8_way_27 : decode cX8_way 27 = .ok (.ireturn, 1) := by decide +kernel
set_option maxRecDepth 20000 in
theorem ggX3_stateOf_X3_hasSitter : GoodIn wsX3_stateOf wsX3_hasSitter := goodIn_r _ [7, 8, 9, 10, 11, 12, 13, 14, 15, 16, 17, 18, 19, 20, 21, 22, 23, 24, 25] (by decide +kernel) (by decide +kernel)
set_option maxRecDepth 20000 in
theorem gX3_stateOf_X3_hasSitter : GoodIn wsX3_stateOf (wsV RX3 74 RX3 yX3_hasSitter wsX3_hasSitter) := goodIn_app (goodIn_of _ (by decide +kernel)) ggX3_stateOf_X3_hasSitter
set_option maxRecDepth 20000 in
theorem ggX8_chair_X3_hasChair : GoodIn wsX8_chair wsX3_hasChair := goodIn_r _ [9, 10, 43, 44, 45, 46, 47, 48, 49, 50, 51, 52, 53, 54, 55, 56, 57, 58, 59] (by decide +kernel) (by decide +kernel)
set_option maxRecDepth 20000 in
theorem gX8_chair_X3_hasChair : GoodIn wsX8_chair (wsV RX8 122 RX3 yX3_hasChair wsX3_hasChair) := goodIn_app (goodIn_of _ (by decide +kernel)) ggX8_chair_X3_hasChair
set_option maxRecDepth 20000 in
theorem ggX8_felled_X3_isDown : GoodIn wsX8_felled wsX3_isDown := goodIn_r _ [7, 8, 9, 84, 85, 86, 87, 88, 89, 90, 91, 92, 93, 94, 95, 96, 97, 98, 99, 100] (by decide +kernel) (by decide +kernel)
set_option maxRecDepth 20000 in
theorem gX8_felled_X3_isDown : GoodIn wsX8_felled (wsV RX8 176 RX3 yX3_isDown wsX3_isDown) := goodIn_app (goodIn_of _ (by decide +kernel)) ggX8_felled_X3_isDown
set_option maxRecDepth 20000 in
theorem ggX8_heavy_X3_isUp : GoodIn wsX8_heavy wsX3_isUp := goodIn_r _ [10, 11, 12, 76, 77, 78, 79, 80, 81, 82, 83, 84, 85, 86, 87, 88, 89, 90, 91, 92] (by decide +kernel) (by decide +kernel)
set_option maxRecDepth 20000 in
theorem gX8_heavy_X3_isUp : GoodIn wsX8_heavy (wsV RX8 221 RX3 yX3_isUp wsX3_isUp) := goodIn_app (goodIn_of _ (by decide +kernel)) ggX8_heavy_X3_isUp
set_option maxRecDepth 20000 in
theorem ggX8_help_X3_stateOf : GoodIn wsX8_help wsX3_stateOf := goodIn_r _ [9, 10, 11, 12, 13, 14, 8, 15, 16, 59, 60, 61, 62, 63, 64, 65, 66, 67, 68, 69, 70, 71, 72, 73, 74, 75] (by decide +kernel) (by decide +kernel)
set_option maxRecDepth 20000 in
theorem gX8_help_X3_stateOf : GoodIn wsX8_help (wsV RX8 147 RX3 yX3_stateOf wsX3_stateOf) := goodIn_app (goodIn_of _ (by decide +kernel)) ggX8_help_X3_stateOf
set_option maxRecDepth 20000 in
theorem ggX8_let_X3_hasStrand : GoodIn wsX8_let wsX3_hasStrand := goodIn_r _ [9, 10, 80, 81, 82, 83, 84, 85, 86, 87, 88, 89, 90, 91, 92, 93, 94, 95, 96] (by decide +kernel) (by decide +kernel)
set_option maxRecDepth 20000 in
theorem gX8_let_X3_hasStrand : GoodIn wsX8_let (wsV RX8 115 RX3 yX3_hasStrand wsX3_hasStrand) := goodIn_app (goodIn_of _ (by decide +kernel)) ggX8_let_X3_hasStrand
set_option maxRecDepth 20000 in
theorem ggX8_most_X3_hasStrand : GoodIn wsX8_most wsX3_hasStrand := goodIn_r _ [9, 10, 59, 60, 61, 62, 63, 64, 65, 66, 67, 68, 69, 70, 71, 72, 73, 74, 75] (by decide +kernel) (by decide +kernel)
set_option maxRecDepth 20000 in
theorem gX8_most_X3_hasStrand : GoodIn wsX8_most (wsV RX8 115 RX3 yX3_hasStrand wsX3_hasStrand) := goodIn_app (goodIn_of _ (by decide +kernel)) ggX8_most_X3_hasStrand
set_option maxRecDepth 20000 in
theorem ggX8_note_X2_forget : GoodIn wsX8_note wsX2_forget := goodIn_r _ [9, 10, 41, 42, 43, 44] (by decide +kernel) (by decide +kernel)
set_option maxRecDepth 20000 in
theorem gX8_note_X2_forget : GoodIn wsX8_note (wsV RX8 101 RX2 yX2_forget wsX2_forget) := goodIn_app (goodIn_of _ (by decide +kernel)) ggX8_note_X2_forget
set_option maxRecDepth 20000 in
theorem ggX8_note_X3_hasSitter : GoodIn wsX8_note wsX3_hasSitter := goodIn_r _ [15, 16, 45, 46, 47, 48, 49, 50, 51, 52, 53, 54, 55, 56, 57, 58, 59, 60, 61] (by decide +kernel) (by decide +kernel)
set_option maxRecDepth 20000 in
theorem gX8_note_X3_hasSitter : GoodIn wsX8_note (wsV RX8 138 RX3 yX3_hasSitter wsX3_hasSitter) := goodIn_app (goodIn_of _ (by decide +kernel)) ggX8_note_X3_hasSitter
set_option maxRecDepth 20000 in
theorem ggX8_pence_X3_hasSitter : GoodIn wsX8_pence wsX3_hasSitter := goodIn_r _ [8, 9, 42, 43, 44, 45, 46, 47, 48, 49, 50, 51, 52, 53, 54, 55, 56, 57, 58] (by decide +kernel) (by decide +kernel)
set_option maxRecDepth 20000 in
theorem gX8_pence_X3_hasSitter : GoodIn wsX8_pence (wsV RX8 138 RX3 yX3_hasSitter wsX3_hasSitter) := goodIn_app (goodIn_of _ (by decide +kernel)) ggX8_pence_X3_hasSitter
set_option maxRecDepth 20000 in
theorem ggX8_rests_X3_isUp : GoodIn wsX8_rests wsX3_isUp := goodIn_r _ [9, 10, 11, 146, 147, 148, 149, 150, 151, 152, 153, 154, 155, 156, 157, 158, 159, 160, 161, 162] (by decide +kernel) (by decide +kernel)
set_option maxRecDepth 20000 in
theorem gX8_rests_X3_isUp : GoodIn wsX8_rests (wsV RX8 221 RX3 yX3_isUp wsX3_isUp) := goodIn_app (goodIn_of _ (by decide +kernel)) ggX8_rests_X3_isUp
set_option maxRecDepth 20000 in
theorem ggX8_rise_X3_isDown : GoodIn wsX8_rise wsX3_isDown := goodIn_r _ [8, 9, 10, 83, 84, 85, 86, 87, 88, 89, 90, 91, 92, 93, 94, 95, 96, 97, 98, 99] (by decide +kernel) (by decide +kernel)
set_option maxRecDepth 20000 in
theorem gX8_rise_X3_isDown : GoodIn wsX8_rise (wsV RX8 176 RX3 yX3_isDown wsX3_isDown) := goodIn_app (goodIn_of _ (by decide +kernel)) ggX8_rise_X3_isDown
set_option maxRecDepth 20000 in
theorem ggX8_sit_X3_stateOf : GoodIn wsX8_sit wsX3_stateOf := goodIn_r _ [8, 9, 10, 11, 12, 13, 7, 14, 15, 90, 91, 92, 93, 94, 95, 96, 97, 98, 99, 100, 101, 102, 103, 104, 105, 106] (by decide +kernel) (by decide +kernel)
set_option maxRecDepth 20000 in
theorem gX8_sit_X3_stateOf : GoodIn wsX8_sit (wsV RX8 147 RX3 yX3_stateOf wsX3_stateOf) := goodIn_app (goodIn_of _ (by decide +kernel)) ggX8_sit_X3_stateOf
set_option maxRecDepth 20000 in
theorem ggX8_sitter_X3_hasSitter : GoodIn wsX8_sitter wsX3_hasSitter := goodIn_r _ [9, 10, 35, 36, 37, 38, 39, 40, 41, 42, 43, 44, 45, 46, 47, 48, 49, 50, 51] (by decide +kernel) (by decide +kernel)
set_option maxRecDepth 20000 in
theorem gX8_sitter_X3_hasSitter : GoodIn wsX8_sitter (wsV RX8 138 RX3 yX3_hasSitter wsX3_hasSitter) := goodIn_app (goodIn_of _ (by decide +kernel)) ggX8_sitter_X3_hasSitter
set_option maxRecDepth 20000 in
theorem ggX8_strand_X3_hasStrand : GoodIn wsX8_strand wsX3_hasStrand := goodIn_r _ [8, 9, 27, 28, 29, 30, 31, 32, 33, 34, 35, 36, 37, 38, 39, 40, 41, 42, 43] (by decide +kernel) (by decide +kernel)
set_option maxRecDepth 20000 in
theorem gX8_strand_X3_hasStrand : GoodIn wsX8_strand (wsV RX8 115 RX3 yX3_hasStrand wsX3_hasStrand) := goodIn_app (goodIn_of _ (by decide +kernel)) ggX8_strand_X3_hasStrand
set_option maxRecDepth 20000 in
theorem ggX8_strung_X3_hasChair : GoodIn wsX8_strung wsX3_hasChair := goodIn_r _ [8, 9, 176, 177, 178, 179, 180, 181, 182, 183, 184, 185, 186, 187, 188, 189, 190, 191, 192] (by decide +kernel) (by decide +kernel)
set_option maxRecDepth 20000 in
theorem gX8_strung_X3_hasChair : GoodIn wsX8_strung (wsV RX8 122 RX3 yX3_hasChair wsX3_hasChair) := goodIn_app (goodIn_of _ (by decide +kernel)) ggX8_strung_X3_hasChair
set_option maxHeartbeats 4000000 in
set_option maxRecDepth 100000 in
theorem c_X3_hasStrand (l : Launch) (D : va_G) (k : Nat → ClassId) (sz : Nat) (h0 a0 a1 a2 a3 a4 a5 a6 a7 : Nat) (x1 : Int32) : CtI l yX3_hasStrand wsX3_hasStrand (rmK 1 0 0) [.ref h0, .int x1] D k sz ([(h0, .inr (2, [.int 0, .int 0, .int 0, .int 0, .ref a0, .ref a1, .ref a2, .ref a3, .ref a4, .ref a5, .int 0, .int 0, .int 0, .ref a6, .ref a7, .int 0, .int 0]))]) (fun (r : Int32) (_ : Unit) => r = 0) (fun _ : Unit => [(h0, .inr (2, [.int 0, .int 0, .int 0, .int 0, .ref a0, .ref a1, .ref a2, .ref a3, .ref a4, .ref a5, .int 0, .int 0, .int 0, .ref a6, .ref a7, .int 0, .int 0]))]) 0 0 := by
  refine CtI.mk (cc := cX3_hasStrand) (maxL := 2) (ret := (some .boolean)) (by decide) rfl (Nat.le_of_ble_eq_true rfl) ?_
  intro p e s m below meth c A ls E hP hD hS hl
  obtain ⟨hx, hb, hr, hml, hown, hts, hlocks, hin, hG, hA⟩ := E
  have hown : s.vm.findClass RX3 = some m.cls := hown
  have in3 : ∀ w ∈ u_ws RX3 TX3 17, w ∈ wsX3_hasStrand := fun _ h => List.mem_cons_of_mem _ (List.mem_append_right _ h)
  have hl : lv_has ls 2 [(0, .ref h0), (1, .int x1)] := hl
  refine lv_iload_n hx hb dX3_hasStrand_0 rfl (lv_at hl 1 rfl) ?_
  refine lv_if_lt (tgt := 16) hx hb dX3_hasStrand_1 (by decide) (fun c_1 => ?_) (fun c_1 => ?_)
  · refine lv_iconst (v := 0) hx hb dX3_hasStrand_16 (by decide) ?_
    exact hc_endZ hx hb hr hlocks rfl () rfl hP hD hS dX3_hasStrand_17
  · refine lv_iload_n hx hb dX3_hasStrand_4 rfl (lv_at hl 1 rfl) ?_
    refine lv_aload_n hx hb dX3_hasStrand_5 rfl (lv_at hl 0 rfl) ?_
    refine va_get (D := D) (ci := 2) (v := .int 0) (C := RX3) (T := TX3) (N := 17) hx hb hts in3 hown hG.1 hP 0 rfl rfl 1 (by decide) (hts (.fieldLink RX3 15 "ChairCane$Room" "strands" "I") (by decide +kernel)) (fun _ h9 => h9) rfl dX3_hasStrand_6 ?_
    refine lv_icmp_ge (tgt := 16) hx hb dX3_hasStrand_9 (by decide) (fun _ => ?_) (fun h => absurd (Int32.not_lt.mp c_1) h)
    refine lv_iconst (v := 0) hx hb dX3_hasStrand_16 (by decide) ?_
    exact hc_endZ hx hb hr hlocks rfl () rfl hP hD hS dX3_hasStrand_17
set_option maxHeartbeats 4000000 in
set_option maxRecDepth 100000 in
theorem c_X3_hasChair (l : Launch) (D : va_G) (k : Nat → ClassId) (sz : Nat) (h0 a0 a1 a2 a3 a4 a5 a6 a7 : Nat) (x1 : Int32) : CtI l yX3_hasChair wsX3_hasChair (rmK 1 0 0) [.ref h0, .int x1] D k sz ([(h0, .inr (2, [.int 0, .int 0, .int 0, .int 0, .ref a0, .ref a1, .ref a2, .ref a3, .ref a4, .ref a5, .int 0, .int 0, .int 0, .ref a6, .ref a7, .int 0, .int 0]))]) (fun (r : Int32) (_ : Unit) => r = 0) (fun _ : Unit => [(h0, .inr (2, [.int 0, .int 0, .int 0, .int 0, .ref a0, .ref a1, .ref a2, .ref a3, .ref a4, .ref a5, .int 0, .int 0, .int 0, .ref a6, .ref a7, .int 0, .int 0]))]) 0 0 := by
  refine CtI.mk (cc := cX3_hasChair) (maxL := 2) (ret := (some .boolean)) (by decide) rfl (Nat.le_of_ble_eq_true rfl) ?_
  intro p e s m below meth c A ls E hP hD hS hl
  obtain ⟨hx, hb, hr, hml, hown, hts, hlocks, hin, hG, hA⟩ := E
  have hown : s.vm.findClass RX3 = some m.cls := hown
  have in3 : ∀ w ∈ u_ws RX3 TX3 17, w ∈ wsX3_hasChair := fun _ h => List.mem_cons_of_mem _ (List.mem_append_right _ h)
  have hl : lv_has ls 2 [(0, .ref h0), (1, .int x1)] := hl
  refine lv_iload_n hx hb dX3_hasChair_0 rfl (lv_at hl 1 rfl) ?_
  refine lv_if_lt (tgt := 16) hx hb dX3_hasChair_1 (by decide) (fun c_1 => ?_) (fun c_1 => ?_)
  · refine lv_iconst (v := 0) hx hb dX3_hasChair_16 (by decide) ?_
    exact hc_endZ hx hb hr hlocks rfl () rfl hP hD hS dX3_hasChair_17
  · refine lv_iload_n hx hb dX3_hasChair_4 rfl (lv_at hl 1 rfl) ?_
    refine lv_aload_n hx hb dX3_hasChair_5 rfl (lv_at hl 0 rfl) ?_
    refine va_get (D := D) (ci := 2) (v := .int 0) (C := RX3) (T := TX3) (N := 17) hx hb hts in3 hown hG.1 hP 0 rfl rfl 2 (by decide) (hts (.fieldLink RX3 19 "ChairCane$Room" "chairs" "I") (by decide +kernel)) (fun _ h9 => h9) rfl dX3_hasChair_6 ?_
    refine lv_icmp_ge (tgt := 16) hx hb dX3_hasChair_9 (by decide) (fun _ => ?_) (fun h => absurd (Int32.not_lt.mp c_1) h)
    refine lv_iconst (v := 0) hx hb dX3_hasChair_16 (by decide) ?_
    exact hc_endZ hx hb hr hlocks rfl () rfl hP hD hS dX3_hasChair_17
set_option maxHeartbeats 4000000 in
set_option maxRecDepth 100000 in
theorem c_X3_hasSitter (l : Launch) (D : va_G) (k : Nat → ClassId) (sz : Nat) (h0 a0 a1 a2 a3 a4 a5 a6 a7 : Nat) (x1 : Int32) : CtI l yX3_hasSitter wsX3_hasSitter (rmK 1 0 0) [.ref h0, .int x1] D k sz ([(h0, .inr (2, [.int 0, .int 0, .int 0, .int 0, .ref a0, .ref a1, .ref a2, .ref a3, .ref a4, .ref a5, .int 0, .int 0, .int 0, .ref a6, .ref a7, .int 0, .int 0]))]) (fun (r : Int32) (_ : Unit) => r = 0) (fun _ : Unit => [(h0, .inr (2, [.int 0, .int 0, .int 0, .int 0, .ref a0, .ref a1, .ref a2, .ref a3, .ref a4, .ref a5, .int 0, .int 0, .int 0, .ref a6, .ref a7, .int 0, .int 0]))]) 0 0 := by
  refine CtI.mk (cc := cX3_hasSitter) (maxL := 2) (ret := (some .boolean)) (by decide) rfl (Nat.le_of_ble_eq_true rfl) ?_
  intro p e s m below meth c A ls E hP hD hS hl
  obtain ⟨hx, hb, hr, hml, hown, hts, hlocks, hin, hG, hA⟩ := E
  have hown : s.vm.findClass RX3 = some m.cls := hown
  have in3 : ∀ w ∈ u_ws RX3 TX3 17, w ∈ wsX3_hasSitter := fun _ h => List.mem_cons_of_mem _ (List.mem_append_right _ h)
  have hl : lv_has ls 2 [(0, .ref h0), (1, .int x1)] := hl
  refine lv_iload_n hx hb dX3_hasSitter_0 rfl (lv_at hl 1 rfl) ?_
  refine lv_if_lt (tgt := 16) hx hb dX3_hasSitter_1 (by decide) (fun c_1 => ?_) (fun c_1 => ?_)
  · refine lv_iconst (v := 0) hx hb dX3_hasSitter_16 (by decide) ?_
    exact hc_endZ hx hb hr hlocks rfl () rfl hP hD hS dX3_hasSitter_17
  · refine lv_iload_n hx hb dX3_hasSitter_4 rfl (lv_at hl 1 rfl) ?_
    refine lv_aload_n hx hb dX3_hasSitter_5 rfl (lv_at hl 0 rfl) ?_
    refine va_get (D := D) (ci := 2) (v := .int 0) (C := RX3) (T := TX3) (N := 17) hx hb hts in3 hown hG.1 hP 0 rfl rfl 3 (by decide) (hts (.fieldLink RX3 22 "ChairCane$Room" "sitters" "I") (by decide +kernel)) (fun _ h9 => h9) rfl dX3_hasSitter_6 ?_
    refine lv_icmp_ge (tgt := 16) hx hb dX3_hasSitter_9 (by decide) (fun _ => ?_) (fun h => absurd (Int32.not_lt.mp c_1) h)
    refine lv_iconst (v := 0) hx hb dX3_hasSitter_16 (by decide) ?_
    exact hc_endZ hx hb hr hlocks rfl () rfl hP hD hS dX3_hasSitter_17
set_option maxHeartbeats 4000000 in
set_option maxRecDepth 100000 in
theorem c_X3_isUp (l : Launch) (D : va_G) (k : Nat → ClassId) (sz : Nat) (h0 a0 a1 a2 a3 a4 a5 a6 a7 : Nat) (x1 : Int32) : CtI l yX3_isUp wsX3_isUp (rmK 1 0 0) [.ref h0, .int x1] D k sz ([(h0, .inr (2, [.int 0, .int 0, .int 0, .int 0, .ref a0, .ref a1, .ref a2, .ref a3, .ref a4, .ref a5, .int 0, .int 0, .int 0, .ref a6, .ref a7, .int 0, .int 0]))]) (fun (r : Int32) (_ : Unit) => r = 0) (fun _ : Unit => [(h0, .inr (2, [.int 0, .int 0, .int 0, .int 0, .ref a0, .ref a1, .ref a2, .ref a3, .ref a4, .ref a5, .int 0, .int 0, .int 0, .ref a6, .ref a7, .int 0, .int 0]))]) 0 0 := by
  refine CtI.mk (cc := cX3_isUp) (maxL := 2) (ret := (some .boolean)) (by decide) rfl (Nat.le_of_ble_eq_true rfl) ?_
  intro p e s m below meth c A ls E hP hD hS hl
  obtain ⟨hx, hb, hr, hml, hown, hts, hlocks, hin, hG, hA⟩ := E
  have hown : s.vm.findClass RX3 = some m.cls := hown
  have in3 : ∀ w ∈ u_ws RX3 TX3 17, w ∈ wsX3_isUp := fun _ h => List.mem_cons_of_mem _ (List.mem_append_right _ h)
  have hl : lv_has ls 2 [(0, .ref h0), (1, .int x1)] := hl
  refine lv_iload_n hx hb dX3_isUp_0 rfl (lv_at hl 1 rfl) ?_
  refine lv_if_lt (tgt := 27) hx hb dX3_isUp_1 (by decide) (fun c_1 => ?_) (fun c_1 => ?_)
  · refine lv_iconst (v := 0) hx hb dX3_isUp_27 (by decide) ?_
    exact hc_endZ hx hb hr hlocks rfl () rfl hP hD hS dX3_isUp_28
  · refine lv_iload_n hx hb dX3_isUp_4 rfl (lv_at hl 1 rfl) ?_
    refine lv_aload_n hx hb dX3_isUp_5 rfl (lv_at hl 0 rfl) ?_
    refine va_get (D := D) (ci := 2) (v := .int 0) (C := RX3) (T := TX3) (N := 17) hx hb hts in3 hown hG.1 hP 0 rfl rfl 3 (by decide) (hts (.fieldLink RX3 22 "ChairCane$Room" "sitters" "I") (by decide +kernel)) (fun _ h9 => h9) rfl dX3_isUp_6 ?_
    refine lv_icmp_ge (tgt := 27) hx hb dX3_isUp_9 (by decide) (fun _ => ?_) (fun h => absurd (Int32.not_lt.mp c_1) h)
    refine lv_iconst (v := 0) hx hb dX3_isUp_27 (by decide) ?_
    exact hc_endZ hx hb hr hlocks rfl () rfl hP hD hS dX3_isUp_28
set_option maxHeartbeats 4000000 in
set_option maxRecDepth 100000 in
theorem c_X3_isDown (l : Launch) (D : va_G) (k : Nat → ClassId) (sz : Nat) (h0 a0 a1 a2 a3 a4 a5 a6 a7 : Nat) (x1 : Int32) : CtI l yX3_isDown wsX3_isDown (rmK 1 0 0) [.ref h0, .int x1] D k sz ([(h0, .inr (2, [.int 0, .int 0, .int 0, .int 0, .ref a0, .ref a1, .ref a2, .ref a3, .ref a4, .ref a5, .int 0, .int 0, .int 0, .ref a6, .ref a7, .int 0, .int 0]))]) (fun (r : Int32) (_ : Unit) => r = 0) (fun _ : Unit => [(h0, .inr (2, [.int 0, .int 0, .int 0, .int 0, .ref a0, .ref a1, .ref a2, .ref a3, .ref a4, .ref a5, .int 0, .int 0, .int 0, .ref a6, .ref a7, .int 0, .int 0]))]) 0 0 := by
  refine CtI.mk (cc := cX3_isDown) (maxL := 2) (ret := (some .boolean)) (by decide) rfl (Nat.le_of_ble_eq_true rfl) ?_
  intro p e s m below meth c A ls E hP hD hS hl
  obtain ⟨hx, hb, hr, hml, hown, hts, hlocks, hin, hG, hA⟩ := E
  have hown : s.vm.findClass RX3 = some m.cls := hown
  have in3 : ∀ w ∈ u_ws RX3 TX3 17, w ∈ wsX3_isDown := fun _ h => List.mem_cons_of_mem _ (List.mem_append_right _ h)
  have hl : lv_has ls 2 [(0, .ref h0), (1, .int x1)] := hl
  refine lv_iload_n hx hb dX3_isDown_0 rfl (lv_at hl 1 rfl) ?_
  refine lv_if_lt (tgt := 27) hx hb dX3_isDown_1 (by decide) (fun c_1 => ?_) (fun c_1 => ?_)
  · refine lv_iconst (v := 0) hx hb dX3_isDown_27 (by decide) ?_
    exact hc_endZ hx hb hr hlocks rfl () rfl hP hD hS dX3_isDown_28
  · refine lv_iload_n hx hb dX3_isDown_4 rfl (lv_at hl 1 rfl) ?_
    refine lv_aload_n hx hb dX3_isDown_5 rfl (lv_at hl 0 rfl) ?_
    refine va_get (D := D) (ci := 2) (v := .int 0) (C := RX3) (T := TX3) (N := 17) hx hb hts in3 hown hG.1 hP 0 rfl rfl 3 (by decide) (hts (.fieldLink RX3 22 "ChairCane$Room" "sitters" "I") (by decide +kernel)) (fun _ h9 => h9) rfl dX3_isDown_6 ?_
    refine lv_icmp_ge (tgt := 27) hx hb dX3_isDown_9 (by decide) (fun _ => ?_) (fun h => absurd (Int32.not_lt.mp c_1) h)
    refine lv_iconst (v := 0) hx hb dX3_isDown_27 (by decide) ?_
    exact hc_endZ hx hb hr hlocks rfl () rfl hP hD hS dX3_isDown_28
set_option maxHeartbeats 4000000 in
set_option maxRecDepth 100000 in
theorem c_X3_stateOf (l : Launch) (D : va_G) (k : Nat → ClassId) (sz : Nat) (h0 a0 a1 a2 a3 a4 a5 a6 a7 : Nat) (x1 : Int32) : CtI l yX3_stateOf wsX3_stateOf (rmK 2 0 0) [.ref h0, .int x1] D k sz ([(h0, .inr (2, [.int 0, .int 0, .int 0, .int 0, .ref a0, .ref a1, .ref a2, .ref a3, .ref a4, .ref a5, .int 0, .int 0, .int 0, .ref a6, .ref a7, .int 0, .int 0]))]) (fun (r : Int32) (_ : Unit) => r = (-1)) (fun _ : Unit => [(h0, .inr (2, [.int 0, .int 0, .int 0, .int 0, .ref a0, .ref a1, .ref a2, .ref a3, .ref a4, .ref a5, .int 0, .int 0, .int 0, .ref a6, .ref a7, .int 0, .int 0]))]) 0 0 := by
  refine CtI.mk (cc := cX3_stateOf) (maxL := 2) (ret := (some .int)) (by decide) rfl (Nat.le_of_ble_eq_true rfl) ?_
  intro p e s m below meth c A ls E hP hD hS hl
  obtain ⟨hx, hb, hr, hml, hown, hts, hlocks, hin, hG, hA⟩ := E
  have hown : s.vm.findClass RX3 = some m.cls := hown
  have in3 : ∀ w ∈ u_ws RX3 TX3 17, w ∈ wsX3_stateOf := fun _ h => List.mem_cons_of_mem _ (List.mem_append_right _ h)
  have hl : lv_has ls 2 [(0, .ref h0), (1, .int x1)] := hl
  refine lv_aload_n hx hb dX3_stateOf_0 rfl (lv_at hl 0 rfl) ?_
  refine lv_iload_n hx hb dX3_stateOf_1 rfl (lv_at hl 1 rfl) ?_
  refine hc_Vi (As := [.int x1]) (rest := []) (n := 1) (wr := []) hx hb hml hown hts hG hA hP hD hS hl.1 [0] [] (c_X3_hasSitter l D k _ h0 a0 a1 a2 a3 a4 a5 a6 a7 x1) (ci := 2) (q0 := 0) rfl rfl gX3_stateOf_X3_hasSitter rfl ⟨rfl, rfl, Nat.le_of_ble_eq_true rfl, Nat.le_of_ble_eq_true rfl⟩ (by decide +kernel) rfl rfl ⟨by decide, by decide, by decide⟩ ⟨rfl, rfl, Nat.le_of_ble_eq_true rfl, Nat.le_of_ble_eq_true rfl, Nat.le_of_ble_eq_true rfl⟩ dX3_stateOf_2 (fun r_2 u_1 H locs hw hP hD hS => ?_)
  have hP : va_P D vwCl ([(h0, .inr (2, [.int 0, .int 0, .int 0, .int 0, .ref a0, .ref a1, .ref a2, .ref a3, .ref a4, .ref a5, .int 0, .int 0, .int 0, .ref a6, .ref a7, .int 0, .int 0]))]) H := hP
  have hD : va_D A ([(h0, .inr (2, [.int 0, .int 0, .int 0, .int 0, .ref a0, .ref a1, .ref a2, .ref a3, .ref a4, .ref a5, .int 0, .int 0, .int 0, .ref a6, .ref a7, .int 0, .int 0]))]) := hD
  obtain rfl : r_2 = 0 := hw
  refine lv_if_ne (tgt := 10) hx hb dX3_stateOf_5 (by decide) (fun h => absurd h (by decide)) (fun _ => ?_)
  refine lv_iconst (v := (-1)) hx hb dX3_stateOf_8 (by decide) ?_
  exact hc_end hx hb hr hlocks () rfl hP hD hS dX3_stateOf_9
set_option maxHeartbeats 4000000 in
set_option maxRecDepth 100000 in
theorem c_X3_givesInAll (l : Launch) (D : va_G) (k : Nat → ClassId) (sz : Nat) (h0 a0 a1 a2 a3 a4 a5 a6 a7 : Nat) : CtI l yX3_givesInAll wsX3_givesInAll (rmK 1 0 0) [.ref h0] D k sz ([(h0, .inr (2, [.int 0, .int 0, .int 0, .int 0, .ref a0, .ref a1, .ref a2, .ref a3, .ref a4, .ref a5, .int 0, .int 0, .int 0, .ref a6, .ref a7, .int 0, .int 0]))]) (fun (r : Int32) (_ : Unit) => r = 0) (fun _ : Unit => [(h0, .inr (2, [.int 0, .int 0, .int 0, .int 0, .ref a0, .ref a1, .ref a2, .ref a3, .ref a4, .ref a5, .int 0, .int 0, .int 0, .ref a6, .ref a7, .int 0, .int 0]))]) 0 0 := by
  refine CtI.mk (cc := cX3_givesInAll) (maxL := 3) (ret := (some .int)) (by decide) rfl (Nat.le_of_ble_eq_true rfl) ?_
  intro p e s m below meth c A ls E hP hD hS hl
  obtain ⟨hx, hb, hr, hml, hown, hts, hlocks, hin, hG, hA⟩ := E
  have hown : s.vm.findClass RX3 = some m.cls := hown
  have in3 : ∀ w ∈ u_ws RX3 TX3 17, w ∈ wsX3_givesInAll := fun _ h => List.mem_cons_of_mem _ (List.mem_append_right _ h)
  have hl : lv_has ls 3 [(0, .ref h0)] := hl
  refine lv_iconst (v := 0) hx hb dX3_givesInAll_0 (by decide) ?_
  refine lv_istore_n (lv' := [(1, .int 0), (0, .ref h0)]) hx hb dX3_givesInAll_1 rfl hl (by decide) rfl (fun ls hl => ?_)
  refine lv_iconst (v := 0) hx hb dX3_givesInAll_2 (by decide) ?_
  refine lv_istore_n (lv' := [(2, .int 0), (1, .int 0), (0, .ref h0)]) hx hb dX3_givesInAll_3 rfl hl (by decide) rfl (fun ls hl => ?_)
  refine lv_iload_n hx hb dX3_givesInAll_4 rfl (lv_at hl 0 rfl) ?_
  refine lv_aload_n hx hb dX3_givesInAll_5 rfl (lv_at hl 2 rfl) ?_
  refine va_get (D := D) (ci := 2) (v := .int 0) (C := RX3) (T := TX3) (N := 17) hx hb hts in3 hown hG.1 hP 0 rfl rfl 3 (by decide) (hts (.fieldLink RX3 22 "ChairCane$Room" "sitters" "I") (by decide +kernel)) (fun _ h9 => h9) rfl dX3_givesInAll_6 ?_
  refine lv_icmp_ge (tgt := 26) hx hb dX3_givesInAll_9 (by decide) (fun _ => ?_) (fun h => absurd (by decide) h)
  refine lv_iload_n hx hb dX3_givesInAll_26 rfl (lv_at hl 1 rfl) ?_
  exact hc_end hx hb hr hlocks () rfl hP hD hS dX3_givesInAll_27
set_option maxHeartbeats 4000000 in
set_option maxRecDepth 100000 in
theorem c_X2_forget (l : Launch) (D : va_G) (k : Nat → ClassId) (sz : Nat) (h0 a0 a1 a2 : Nat) : CtV l yX2_forget wsX2_forget (rmK 1 0 0) [.ref h0] D k sz ([(h0, .inr (1, [.ref a0, .ref a1, .ref a2, .int 0]))]) (fun _ : Unit => True) (fun _ : Unit => [(h0, .inr (1, [.ref a0, .ref a1, .ref a2, .int 0]))]) 0 0 := by
  refine CtV.mk (cc := cX2_forget) (maxL := 1) (ret := none) (by decide) rfl (Nat.le_of_ble_eq_true rfl) ?_
  intro p e s m below meth c A ls E hP hD hS hl
  obtain ⟨hx, hb, hr, hml, hown, hts, hlocks, hin, hG, hA⟩ := E
  have hown : s.vm.findClass RX2 = some m.cls := hown
  have in2 : ∀ w ∈ u_ws RX2 TX2 4, w ∈ wsX2_forget := fun _ h => List.mem_cons_of_mem _ (List.mem_append_right _ h)
  have hl : lv_has ls 1 [(0, .ref h0)] := hl
  refine lv_aload_n hx hb dX2_forget_0 rfl (lv_at hl 0 rfl) ?_
  refine lv_iconst (v := 0) hx hb dX2_forget_1 (by decide) ?_
  refine va_put (D := D) (ci := 1) (v := .int 0) (C := RX2) (T := TX2) (N := 4) hx hb hts in2 tyX2 tyX2_ok nmX2 hown hG.1 hP hD hS 0 rfl rfl 3 (by decide) (hts (.fieldLink RX2 21 "ChairCane$Notes" "many" "I") (by decide +kernel)) (fun _ h9 => h9) rfl (tyX2_ok 3 (by decide)) rfl rfl (Nat.le_of_ble_eq_true rfl) dX2_forget_2 (fun H locs hP hD hS => ?_)
  have hP : va_P D vwCl ([(h0, .inr (1, [.ref a0, .ref a1, .ref a2, .int 0]))]) H := hP
  have hD : va_D A ([(h0, .inr (1, [.ref a0, .ref a1, .ref a2, .int 0]))]) := hD
  exact hc_endV hx hb hr hlocks () trivial hP hD hS dX2_forget_5
set_option maxHeartbeats 4000000 in
set_option maxRecDepth 100000 in
theorem c_X8_end (l : Launch) (D : va_G) (k : Nat → ClassId) (sz : Nat) (h0 : Nat) (q qt qn i0 i1 i2 i3 : Nat → Nat) (x1 : Int32) : CtI l yX8_end wsX8_end (rmK 4 0 0) [.ref h0, .int x1] D k sz ([(h0, .inr (6, [.ref (q 0), .ref (q 1), .int 0, .ref (q 2), .ref (q 3), .ref (q 4), .ref (q 5), .ref (q 6), .ref (q 7), .ref (q 8), .ref (q 9), .ref (q 10)])), ((q 0), .inr (5, [.ref (qt 0), .int 0, .ref (qt 1), .ref (qt 2), .ref (qt 3), .int 0, .int 0, .int 0]))]) (fun (r : Int32) (_ : Unit) => r = spEnd x1) (fun _ : Unit => []) 0 0 := by
  refine CtI.mk (cc := cX8_end) (maxL := 2) (ret := (some .int)) (by decide) rfl (Nat.le_of_ble_eq_true rfl) ?_
  intro p e s m below meth c A ls E hP hD hS hl
  obtain ⟨hx, hb, hr, hml, hown, hts, hlocks, hin, hG, hA⟩ := E
  have hown : s.vm.findClass RX8 = some m.cls := hown
  have in7 : ∀ w ∈ u_ws RX7 TX7 8, w ∈ wsX8_end := fun _ h => List.mem_cons_of_mem _ (List.mem_append_right _ h)
  have in8 : ∀ w ∈ u_ws RX8 TX8 12, w ∈ wsX8_end := fun _ h => List.mem_cons_of_mem _ (List.mem_append_left _ (List.mem_append_right _ h))
  have hl : lv_has ls 2 [(0, .ref h0), (1, .int x1)] := hl
  refine lv_iload_n hx hb dX8_end_0 rfl (lv_at hl 1 rfl) ?_
  refine lv_if_lt (tgt := 15) hx hb dX8_end_1 (by decide) (fun c_1 => ?_) (fun c_1 => ?_)
  · refine lv_iconst (v := (-1)) hx hb dX8_end_15 (by decide) ?_
    exact hc_end hx hb hr hlocks () (by unfold spEnd; split <;> rename_i h <;> first | rfl | exact h | exact h.symm | (exfalso; simp only [sp_lt, sp_le, sp_eq, sp0, spm1, sp1, sp3, sp4, sp12] at h c_1 <;> omega)) (hP.sub [] rfl) (hD.sub [] (by decide) rfl) hS dX8_end_16
  · refine lv_iload_n hx hb dX8_end_4 rfl (lv_at hl 1 rfl) ?_
    refine lv_aload_n hx hb dX8_end_5 rfl (lv_at hl 0 rfl) ?_
    refine va_get (D := D) (ci := 6) (v := .ref (q 0)) (C := RX8) (T := TX8) (N := 12) hx hb hts in8 hown hG.1 hP 0 rfl rfl 0 (by decide) (hts (.fieldLink RX8 10 "ChairCane" "tape" "LChairCane$Tape;") (by decide +kernel)) (fun _ h9 => h9) rfl dX8_end_6 ?_
    refine va_get (D := D) (ci := 5) (v := .int 0) (C := RX7) (T := TX7) (N := 8) hx hb hts in7 hown hG.1 hP 1 rfl rfl 1 (by decide) (hts (.fieldLink RX8 65 "ChairCane$Tape" "length" "I") (by decide +kernel)) (fun _ h9 => h9) rfl dX8_end_9 ?_
    refine lv_icmp_le (tgt := 17) hx hb dX8_end_12 (by decide) (fun c_2 => ?_) (fun c_2 => ?_)
    · refine lv_aload_n hx hb dX8_end_17 rfl (lv_at hl 0 rfl) ?_
      refine va_get (D := D) (ci := 6) (v := .ref (q 0)) (C := RX8) (T := TX8) (N := 12) hx hb hts in8 hown hG.1 hP 0 rfl rfl 0 (by decide) (hts (.fieldLink RX8 10 "ChairCane" "tape" "LChairCane$Tape;") (by decide +kernel)) (fun _ h9 => h9) rfl dX8_end_18 ?_
      refine lv_iload_n hx hb dX8_end_21 rfl (lv_at hl 1 rfl) ?_
      refine va_put (D := D) (ci := 5) (v := .int x1) (C := RX7) (T := TX7) (N := 8) hx hb hts in7 tyX7 tyX7_ok nmX7 hown hG.1 hP hD hS 1 rfl rfl 1 (by decide) (hts (.fieldLink RX8 65 "ChairCane$Tape" "length" "I") (by decide +kernel)) (fun _ h9 => h9) rfl (tyX7_ok 1 (by decide)) rfl rfl (Nat.le_of_ble_eq_true rfl) dX8_end_22 (fun H locs hP hD hS => ?_)
      have hP : va_P D vwCl ([(h0, .inr (6, [.ref (q 0), .ref (q 1), .int 0, .ref (q 2), .ref (q 3), .ref (q 4), .ref (q 5), .ref (q 6), .ref (q 7), .ref (q 8), .ref (q 9), .ref (q 10)])), ((q 0), .inr (5, [.ref (qt 0), .int x1, .ref (qt 1), .ref (qt 2), .ref (qt 3), .int 0, .int 0, .int 0]))]) H := hP
      have hD : va_D A ([(h0, .inr (6, [.ref (q 0), .ref (q 1), .int 0, .ref (q 2), .ref (q 3), .ref (q 4), .ref (q 5), .ref (q 6), .ref (q 7), .ref (q 8), .ref (q 9), .ref (q 10)])), ((q 0), .inr (5, [.ref (qt 0), .int x1, .ref (qt 1), .ref (qt 2), .ref (qt 3), .int 0, .int 0, .int 0]))]) := hD
      refine lv_iload_n hx hb dX8_end_25 rfl (lv_at hl 1 rfl) ?_
      exact hc_end hx hb hr hlocks () (by unfold spEnd; split <;> rename_i h <;> first | rfl | exact h | exact h.symm | (exfalso; simp only [sp_lt, sp_le, sp_eq, sp0, spm1, sp1, sp3, sp4, sp12] at h c_1 c_2 <;> omega)) (hP.sub [] rfl) (hD.sub [] (by decide) rfl) hS dX8_end_26
    · refine lv_iconst (v := (-1)) hx hb dX8_end_15 (by decide) ?_
      exact hc_end hx hb hr hlocks () (by unfold spEnd; split <;> rename_i h <;> first | rfl | exact h | exact h.symm | (exfalso; simp only [sp_lt, sp_le, sp_eq, sp0, spm1, sp1, sp3, sp4, sp12] at h c_1 c_2 <;> omega)) (hP.sub [] rfl) (hD.sub [] (by decide) rfl) hS dX8_end_16
set_option maxHeartbeats 4000000 in
set_option maxRecDepth 100000 in
theorem c_X8_force (l : Launch) (D : va_G) (k : Nat → ClassId) (sz : Nat) (h0 : Nat) (q qt qn i0 i1 i2 i3 : Nat → Nat) (x1 : Int32) : CtI l yX8_force wsX8_force (rmK 4 0 0) [.ref h0, .int x1] D k sz ([(h0, .inr (6, [.ref (q 0), .ref (q 1), .int 0, .ref (q 2), .ref (q 3), .ref (q 4), .ref (q 5), .ref (q 6), .ref (q 7), .ref (q 8), .ref (q 9), .ref (q 10)])), ((q 2), .inr (4, [.ref (qn 0), .ref (qn 1), .ref (qn 2), .int (-1), .int 0]))]) (fun (r : Int32) (_ : Unit) => r = spForce x1) (fun _ : Unit => []) 0 0 := by
  refine CtI.mk (cc := cX8_force) (maxL := 3) (ret := (some .int)) (by decide) rfl (Nat.le_of_ble_eq_true rfl) ?_
  intro p e s m below meth c A ls E hP hD hS hl
  obtain ⟨hx, hb, hr, hml, hown, hts, hlocks, hin, hG, hA⟩ := E
  have hown : s.vm.findClass RX8 = some m.cls := hown
  have in6 : ∀ w ∈ u_ws RX6 TX6 5, w ∈ wsX8_force := fun _ h => List.mem_cons_of_mem _ (List.mem_append_right _ h)
  have in8 : ∀ w ∈ u_ws RX8 TX8 12, w ∈ wsX8_force := fun _ h => List.mem_cons_of_mem _ (List.mem_append_left _ (List.mem_append_right _ h))
  have hl : lv_has ls 3 [(0, .ref h0), (1, .int x1)] := hl
  refine lv_iload_n hx hb dX8_force_0 rfl (lv_at hl 1 rfl) ?_
  refine lv_iconst (v := (-1)) hx hb dX8_force_1 (by decide) ?_
  refine lv_icmp_lt (tgt := 13) hx hb dX8_force_2 (by decide) (fun c_1 => ?_) (fun c_1 => ?_)
  · refine lv_bipush (v := (-2)) hx hb dX8_force_13 (by decide) ?_
    exact hc_end hx hb hr hlocks () (by unfold spForce; split <;> rename_i h <;> first | rfl | exact h | exact h.symm | (exfalso; simp only [sp_lt, sp_le, sp_eq, sp0, spm1, sp1, sp3, sp4, sp12] at h c_1 <;> omega)) (hP.sub [] rfl) (hD.sub [] (by decide) rfl) hS dX8_force_15
  · refine lv_iload_n hx hb dX8_force_5 rfl (lv_at hl 1 rfl) ?_
    refine lv_aload_n hx hb dX8_force_6 rfl (lv_at hl 0 rfl) ?_
    refine va_get (D := D) (ci := 6) (v := .int 0) (C := RX8) (T := TX8) (N := 12) hx hb hts in8 hown hG.1 hP 0 rfl rfl 2 (by decide) (hts (.fieldLink RX8 22 "ChairCane" "ruleCount" "I") (by decide +kernel)) (fun _ h9 => h9) rfl dX8_force_7 ?_
    refine lv_icmp_lt (tgt := 16) hx hb dX8_force_10 (by decide) (fun c_2 => ?_) (fun c_2 => ?_)
    · refine lv_aload_n hx hb dX8_force_16 rfl (lv_at hl 0 rfl) ?_
      refine va_get (D := D) (ci := 6) (v := .ref (q 2)) (C := RX8) (T := TX8) (N := 12) hx hb hts in8 hown hG.1 hP 0 rfl rfl 3 (by decide) (hts (.fieldLink RX8 29 "ChairCane" "now" "LChairCane$Standing;") (by decide +kernel)) (fun _ h9 => h9) rfl dX8_force_17 ?_
      refine va_get (D := D) (ci := 4) (v := .int (-1)) (C := RX6) (T := TX6) (N := 5) hx hb hts in6 hown hG.1 hP 1 rfl rfl 3 (by decide) (hts (.fieldLink RX8 112 "ChairCane$Standing" "inForce" "I") (by decide +kernel)) (fun _ h9 => h9) rfl dX8_force_20 ?_
      refine lv_istore_n (lv' := [(2, .int (-1)), (0, .ref h0), (1, .int x1)]) hx hb dX8_force_23 rfl hl (by decide) rfl (fun ls hl => ?_)
      refine lv_aload_n hx hb dX8_force_24 rfl (lv_at hl 1 rfl) ?_
      refine va_get (D := D) (ci := 6) (v := .ref (q 2)) (C := RX8) (T := TX8) (N := 12) hx hb hts in8 hown hG.1 hP 0 rfl rfl 3 (by decide) (hts (.fieldLink RX8 29 "ChairCane" "now" "LChairCane$Standing;") (by decide +kernel)) (fun _ h9 => h9) rfl dX8_force_25 ?_
      refine lv_iload_n hx hb dX8_force_28 rfl (lv_at hl 2 rfl) ?_
      refine va_put (D := D) (ci := 4) (v := .int x1) (C := RX6) (T := TX6) (N := 5) hx hb hts in6 tyX6 tyX6_ok nmX6 hown hG.1 hP hD hS 1 rfl rfl 3 (by decide) (hts (.fieldLink RX8 112 "ChairCane$Standing" "inForce" "I") (by decide +kernel)) (fun _ h9 => h9) rfl (tyX6_ok 3 (by decide)) rfl rfl (Nat.le_of_ble_eq_true rfl) dX8_force_29 (fun H locs hP hD hS => ?_)
      have hP : va_P D vwCl ([(h0, .inr (6, [.ref (q 0), .ref (q 1), .int 0, .ref (q 2), .ref (q 3), .ref (q 4), .ref (q 5), .ref (q 6), .ref (q 7), .ref (q 8), .ref (q 9), .ref (q 10)])), ((q 2), .inr (4, [.ref (qn 0), .ref (qn 1), .ref (qn 2), .int x1, .int 0]))]) H := hP
      have hD : va_D A ([(h0, .inr (6, [.ref (q 0), .ref (q 1), .int 0, .ref (q 2), .ref (q 3), .ref (q 4), .ref (q 5), .ref (q 6), .ref (q 7), .ref (q 8), .ref (q 9), .ref (q 10)])), ((q 2), .inr (4, [.ref (qn 0), .ref (qn 1), .ref (qn 2), .int x1, .int 0]))]) := hD
      refine lv_iload_n hx hb dX8_force_32 rfl (lv_at hl 0 rfl) ?_
      exact hc_end hx hb hr hlocks () (by unfold spForce; split <;> rename_i h <;> first | rfl | exact h | exact h.symm | (exfalso; simp only [sp_lt, sp_le, sp_eq, sp0, spm1, sp1, sp3, sp4, sp12] at h c_1 c_2 <;> omega)) (hP.sub [] rfl) (hD.sub [] (by decide) rfl) hS dX8_force_33
    · refine lv_bipush (v := (-2)) hx hb dX8_force_13 (by decide) ?_
      exact hc_end hx hb hr hlocks () (by unfold spForce; split <;> rename_i h <;> first | rfl | exact h | exact h.symm | (exfalso; simp only [sp_lt, sp_le, sp_eq, sp0, spm1, sp1, sp3, sp4, sp12] at h c_1 c_2 <;> omega)) (hP.sub [] rfl) (hD.sub [] (by decide) rfl) hS dX8_force_15
set_option maxHeartbeats 4000000 in
set_option maxRecDepth 100000 in
theorem c_X8_strand (l : Launch) (D : va_G) (k : Nat → ClassId) (sz : Nat) (h0 : Nat) (q qt qn i0 i1 i2 i3 : Nat → Nat) (x1 : Int32) : CtI l yX8_strand wsX8_strand (rmK 4 0 0) [.ref h0, .int x1] D k sz ([(h0, .inr (6, [.ref (q 0), .ref (q 1), .int 0, .ref (q 2), .ref (q 3), .ref (q 4), .ref (q 5), .ref (q 6), .ref (q 7), .ref (q 8), .ref (q 9), .ref (q 10)])), ((q 2), .inr (4, [.ref (qn 0), .ref (qn 1), .ref (qn 2), .int (-1), .int 0])), ((qn 0), .inr (2, [.int 0, .int 0, .int 0, .int 0, .ref (qn 3), .ref (qn 4), .ref (qn 5), .ref (qn 6), .ref (qn 7), .ref (qn 8), .int 0, .int 0, .int 0, .ref (qn 9), .ref (qn 10), .int 0, .int 0]))]) (fun (r : Int32) (_ : Unit) => r = (-1)) (fun _ : Unit => []) 0 0 := by
  refine CtI.mk (cc := cX8_strand) (maxL := 2) (ret := (some .int)) (by decide) rfl (Nat.le_of_ble_eq_true rfl) ?_
  intro p e s m below meth c A ls E hP hD hS hl
  obtain ⟨hx, hb, hr, hml, hown, hts, hlocks, hin, hG, hA⟩ := E
  have hown : s.vm.findClass RX8 = some m.cls := hown
  have in3 : ∀ w ∈ u_ws RX3 TX3 17, w ∈ wsX8_strand := fun _ h => List.mem_cons_of_mem _ (List.mem_append_right _ h)
  have in6 : ∀ w ∈ u_ws RX6 TX6 5, w ∈ wsX8_strand := fun _ h => List.mem_cons_of_mem _ (List.mem_append_left _ (List.mem_append_right _ h))
  have in8 : ∀ w ∈ u_ws RX8 TX8 12, w ∈ wsX8_strand := fun _ h => List.mem_cons_of_mem _ (List.mem_append_left _ (List.mem_append_left _ (List.mem_append_right _ h)))
  have hl : lv_has ls 2 [(0, .ref h0), (1, .int x1)] := hl
  refine lv_aload_n hx hb dX8_strand_0 rfl (lv_at hl 0 rfl) ?_
  refine va_get (D := D) (ci := 6) (v := .ref (q 2)) (C := RX8) (T := TX8) (N := 12) hx hb hts in8 hown hG.1 hP 0 rfl rfl 3 (by decide) (hts (.fieldLink RX8 29 "ChairCane" "now" "LChairCane$Standing;") (by decide +kernel)) (fun _ h9 => h9) rfl dX8_strand_1 ?_
  refine va_get (D := D) (ci := 4) (v := .ref (qn 0)) (C := RX6) (T := TX6) (N := 5) hx hb hts in6 hown hG.1 hP 1 rfl rfl 0 (by decide) (hts (.fieldLink RX8 81 "ChairCane$Standing" "room" "LChairCane$Room;") (by decide +kernel)) (fun _ h9 => h9) rfl dX8_strand_4 ?_
  refine lv_iload_n hx hb dX8_strand_7 rfl (lv_at hl 1 rfl) ?_
  refine hc_Vi (As := [.int x1]) (rest := []) (n := 1) (wr := [(h0, .inr (6, [.ref (q 0), .ref (q 1), .int 0, .ref (q 2), .ref (q 3), .ref (q 4), .ref (q 5), .ref (q 6), .ref (q 7), .ref (q 8), .ref (q 9), .ref (q 10)])), ((q 2), .inr (4, [.ref (qn 0), .ref (qn 1), .ref (qn 2), .int (-1), .int 0]))]) hx hb hml hown hts hG hA hP hD hS hl.1 [2] [0, 1] (c_X3_hasStrand l D k _ (qn 0) (qn 3) (qn 4) (qn 5) (qn 6) (qn 7) (qn 8) (qn 9) (qn 10) x1) (ci := 2) (q0 := 2) rfl rfl gX8_strand_X3_hasStrand rfl ⟨rfl, rfl, Nat.le_of_ble_eq_true rfl, Nat.le_of_ble_eq_true rfl⟩ (by decide +kernel) rfl rfl ⟨by decide, by decide, by decide⟩ ⟨rfl, rfl, Nat.le_of_ble_eq_true rfl, Nat.le_of_ble_eq_true rfl, Nat.le_of_ble_eq_true rfl⟩ dX8_strand_8 (fun r_2 u_1 H locs hw hP hD hS => ?_)
  have hP : va_P D vwCl ([(h0, .inr (6, [.ref (q 0), .ref (q 1), .int 0, .ref (q 2), .ref (q 3), .ref (q 4), .ref (q 5), .ref (q 6), .ref (q 7), .ref (q 8), .ref (q 9), .ref (q 10)])), ((q 2), .inr (4, [.ref (qn 0), .ref (qn 1), .ref (qn 2), .int (-1), .int 0])), ((qn 0), .inr (2, [.int 0, .int 0, .int 0, .int 0, .ref (qn 3), .ref (qn 4), .ref (qn 5), .ref (qn 6), .ref (qn 7), .ref (qn 8), .int 0, .int 0, .int 0, .ref (qn 9), .ref (qn 10), .int 0, .int 0]))]) H := hP
  have hD : va_D A ([(h0, .inr (6, [.ref (q 0), .ref (q 1), .int 0, .ref (q 2), .ref (q 3), .ref (q 4), .ref (q 5), .ref (q 6), .ref (q 7), .ref (q 8), .ref (q 9), .ref (q 10)])), ((q 2), .inr (4, [.ref (qn 0), .ref (qn 1), .ref (qn 2), .int (-1), .int 0])), ((qn 0), .inr (2, [.int 0, .int 0, .int 0, .int 0, .ref (qn 3), .ref (qn 4), .ref (qn 5), .ref (qn 6), .ref (qn 7), .ref (qn 8), .int 0, .int 0, .int 0, .ref (qn 9), .ref (qn 10), .int 0, .int 0]))]) := hD
  obtain rfl : r_2 = 0 := hw
  refine lv_if_eq (tgt := 29) hx hb dX8_strand_11 (by decide) (fun _ => ?_) (fun h => absurd (by decide) h)
  refine lv_iconst (v := (-1)) hx hb dX8_strand_29 (by decide) ?_
  exact hc_end hx hb hr hlocks () rfl (hP.sub [] rfl) (hD.sub [] (by decide) rfl) hS dX8_strand_30
set_option maxHeartbeats 4000000 in
set_option maxRecDepth 100000 in
theorem c_X8_chair (l : Launch) (D : va_G) (k : Nat → ClassId) (sz : Nat) (h0 : Nat) (q qt qn i0 i1 i2 i3 : Nat → Nat) (x1 x2 : Int32) : CtI l yX8_chair wsX8_chair (rmK 4 0 0) [.ref h0, .int x1, .int x2] D k sz ([(h0, .inr (6, [.ref (q 0), .ref (q 1), .int 0, .ref (q 2), .ref (q 3), .ref (q 4), .ref (q 5), .ref (q 6), .ref (q 7), .ref (q 8), .ref (q 9), .ref (q 10)])), ((q 2), .inr (4, [.ref (qn 0), .ref (qn 1), .ref (qn 2), .int (-1), .int 0])), ((qn 0), .inr (2, [.int 0, .int 0, .int 0, .int 0, .ref (qn 3), .ref (qn 4), .ref (qn 5), .ref (qn 6), .ref (qn 7), .ref (qn 8), .int 0, .int 0, .int 0, .ref (qn 9), .ref (qn 10), .int 0, .int 0]))]) (fun (r : Int32) (_ : Unit) => r = (-2)) (fun _ : Unit => []) 0 0 := by
  refine CtI.mk (cc := cX8_chair) (maxL := 4) (ret := (some .int)) (by decide) rfl (Nat.le_of_ble_eq_true rfl) ?_
  intro p e s m below meth c A ls E hP hD hS hl
  obtain ⟨hx, hb, hr, hml, hown, hts, hlocks, hin, hG, hA⟩ := E
  have hown : s.vm.findClass RX8 = some m.cls := hown
  have in3 : ∀ w ∈ u_ws RX3 TX3 17, w ∈ wsX8_chair := fun _ h => List.mem_cons_of_mem _ (List.mem_append_right _ h)
  have in6 : ∀ w ∈ u_ws RX6 TX6 5, w ∈ wsX8_chair := fun _ h => List.mem_cons_of_mem _ (List.mem_append_left _ (List.mem_append_right _ h))
  have in8 : ∀ w ∈ u_ws RX8 TX8 12, w ∈ wsX8_chair := fun _ h => List.mem_cons_of_mem _ (List.mem_append_left _ (List.mem_append_left _ (List.mem_append_right _ h)))
  have hl : lv_has ls 4 [(0, .ref h0), (1, .int x1), (2, .int x2)] := hl
  refine lv_aload_n hx hb dX8_chair_0 rfl (lv_at hl 0 rfl) ?_
  refine va_get (D := D) (ci := 6) (v := .ref (q 2)) (C := RX8) (T := TX8) (N := 12) hx hb hts in8 hown hG.1 hP 0 rfl rfl 3 (by decide) (hts (.fieldLink RX8 29 "ChairCane" "now" "LChairCane$Standing;") (by decide +kernel)) (fun _ h9 => h9) rfl dX8_chair_1 ?_
  refine va_get (D := D) (ci := 4) (v := .ref (qn 0)) (C := RX6) (T := TX6) (N := 5) hx hb hts in6 hown hG.1 hP 1 rfl rfl 0 (by decide) (hts (.fieldLink RX8 81 "ChairCane$Standing" "room" "LChairCane$Room;") (by decide +kernel)) (fun _ h9 => h9) rfl dX8_chair_4 ?_
  refine lv_astore_n (lv' := [(3, .ref (qn 0)), (0, .ref h0), (1, .int x1), (2, .int x2)]) hx hb dX8_chair_7 rfl hl (by decide) rfl (fun ls hl => ?_)
  refine lv_aload_n hx hb dX8_chair_8 rfl (lv_at hl 0 rfl) ?_
  refine lv_iload_n hx hb dX8_chair_9 rfl (lv_at hl 2 rfl) ?_
  refine hc_Vi (As := [.int x1]) (rest := []) (n := 1) (wr := [(h0, .inr (6, [.ref (q 0), .ref (q 1), .int 0, .ref (q 2), .ref (q 3), .ref (q 4), .ref (q 5), .ref (q 6), .ref (q 7), .ref (q 8), .ref (q 9), .ref (q 10)])), ((q 2), .inr (4, [.ref (qn 0), .ref (qn 1), .ref (qn 2), .int (-1), .int 0]))]) hx hb hml hown hts hG hA hP hD hS hl.1 [2] [0, 1] (c_X3_hasChair l D k _ (qn 0) (qn 3) (qn 4) (qn 5) (qn 6) (qn 7) (qn 8) (qn 9) (qn 10) x1) (ci := 2) (q0 := 2) rfl rfl gX8_chair_X3_hasChair rfl ⟨rfl, rfl, Nat.le_of_ble_eq_true rfl, Nat.le_of_ble_eq_true rfl⟩ (by decide +kernel) rfl rfl ⟨by decide, by decide, by decide⟩ ⟨rfl, rfl, Nat.le_of_ble_eq_true rfl, Nat.le_of_ble_eq_true rfl, Nat.le_of_ble_eq_true rfl⟩ dX8_chair_10 (fun r_2 u_1 H locs hw hP hD hS => ?_)
  have hP : va_P D vwCl ([(h0, .inr (6, [.ref (q 0), .ref (q 1), .int 0, .ref (q 2), .ref (q 3), .ref (q 4), .ref (q 5), .ref (q 6), .ref (q 7), .ref (q 8), .ref (q 9), .ref (q 10)])), ((q 2), .inr (4, [.ref (qn 0), .ref (qn 1), .ref (qn 2), .int (-1), .int 0])), ((qn 0), .inr (2, [.int 0, .int 0, .int 0, .int 0, .ref (qn 3), .ref (qn 4), .ref (qn 5), .ref (qn 6), .ref (qn 7), .ref (qn 8), .int 0, .int 0, .int 0, .ref (qn 9), .ref (qn 10), .int 0, .int 0]))]) H := hP
  have hD : va_D A ([(h0, .inr (6, [.ref (q 0), .ref (q 1), .int 0, .ref (q 2), .ref (q 3), .ref (q 4), .ref (q 5), .ref (q 6), .ref (q 7), .ref (q 8), .ref (q 9), .ref (q 10)])), ((q 2), .inr (4, [.ref (qn 0), .ref (qn 1), .ref (qn 2), .int (-1), .int 0])), ((qn 0), .inr (2, [.int 0, .int 0, .int 0, .int 0, .ref (qn 3), .ref (qn 4), .ref (qn 5), .ref (qn 6), .ref (qn 7), .ref (qn 8), .int 0, .int 0, .int 0, .ref (qn 9), .ref (qn 10), .int 0, .int 0]))]) := hD
  obtain rfl : r_2 = 0 := hw
  refine lv_if_ne (tgt := 19) hx hb dX8_chair_13 (by decide) (fun h => absurd h (by decide)) (fun _ => ?_)
  refine lv_bipush (v := (-2)) hx hb dX8_chair_16 (by decide) ?_
  exact hc_end hx hb hr hlocks () rfl (hP.sub [] rfl) (hD.sub [] (by decide) rfl) hS dX8_chair_18
set_option maxHeartbeats 4000000 in
set_option maxRecDepth 100000 in
theorem c_X8_sitter (l : Launch) (D : va_G) (k : Nat → ClassId) (sz : Nat) (h0 : Nat) (q qt qn i0 i1 i2 i3 : Nat → Nat) (x1 x2 : Int32) : CtI l yX8_sitter wsX8_sitter (rmK 4 0 0) [.ref h0, .int x1, .int x2] D k sz ([(h0, .inr (6, [.ref (q 0), .ref (q 1), .int 0, .ref (q 2), .ref (q 3), .ref (q 4), .ref (q 5), .ref (q 6), .ref (q 7), .ref (q 8), .ref (q 9), .ref (q 10)])), ((q 2), .inr (4, [.ref (qn 0), .ref (qn 1), .ref (qn 2), .int (-1), .int 0])), ((qn 0), .inr (2, [.int 0, .int 0, .int 0, .int 0, .ref (qn 3), .ref (qn 4), .ref (qn 5), .ref (qn 6), .ref (qn 7), .ref (qn 8), .int 0, .int 0, .int 0, .ref (qn 9), .ref (qn 10), .int 0, .int 0]))]) (fun (r : Int32) (_ : Unit) => r = (-1)) (fun _ : Unit => []) 0 0 := by
  refine CtI.mk (cc := cX8_sitter) (maxL := 4) (ret := (some .int)) (by decide) rfl (Nat.le_of_ble_eq_true rfl) ?_
  intro p e s m below meth c A ls E hP hD hS hl
  obtain ⟨hx, hb, hr, hml, hown, hts, hlocks, hin, hG, hA⟩ := E
  have hown : s.vm.findClass RX8 = some m.cls := hown
  have in3 : ∀ w ∈ u_ws RX3 TX3 17, w ∈ wsX8_sitter := fun _ h => List.mem_cons_of_mem _ (List.mem_append_right _ h)
  have in6 : ∀ w ∈ u_ws RX6 TX6 5, w ∈ wsX8_sitter := fun _ h => List.mem_cons_of_mem _ (List.mem_append_left _ (List.mem_append_right _ h))
  have in8 : ∀ w ∈ u_ws RX8 TX8 12, w ∈ wsX8_sitter := fun _ h => List.mem_cons_of_mem _ (List.mem_append_left _ (List.mem_append_left _ (List.mem_append_right _ h)))
  have hl : lv_has ls 4 [(0, .ref h0), (1, .int x1), (2, .int x2)] := hl
  refine lv_aload_n hx hb dX8_sitter_0 rfl (lv_at hl 0 rfl) ?_
  refine va_get (D := D) (ci := 6) (v := .ref (q 2)) (C := RX8) (T := TX8) (N := 12) hx hb hts in8 hown hG.1 hP 0 rfl rfl 3 (by decide) (hts (.fieldLink RX8 29 "ChairCane" "now" "LChairCane$Standing;") (by decide +kernel)) (fun _ h9 => h9) rfl dX8_sitter_1 ?_
  refine va_get (D := D) (ci := 4) (v := .ref (qn 0)) (C := RX6) (T := TX6) (N := 5) hx hb hts in6 hown hG.1 hP 1 rfl rfl 0 (by decide) (hts (.fieldLink RX8 81 "ChairCane$Standing" "room" "LChairCane$Room;") (by decide +kernel)) (fun _ h9 => h9) rfl dX8_sitter_4 ?_
  refine lv_astore_n (lv' := [(3, .ref (qn 0)), (0, .ref h0), (1, .int x1), (2, .int x2)]) hx hb dX8_sitter_7 rfl hl (by decide) rfl (fun ls hl => ?_)
  refine lv_aload_n hx hb dX8_sitter_8 rfl (lv_at hl 0 rfl) ?_
  refine lv_iload_n hx hb dX8_sitter_9 rfl (lv_at hl 2 rfl) ?_
  refine hc_Vi (As := [.int x1]) (rest := []) (n := 1) (wr := [(h0, .inr (6, [.ref (q 0), .ref (q 1), .int 0, .ref (q 2), .ref (q 3), .ref (q 4), .ref (q 5), .ref (q 6), .ref (q 7), .ref (q 8), .ref (q 9), .ref (q 10)])), ((q 2), .inr (4, [.ref (qn 0), .ref (qn 1), .ref (qn 2), .int (-1), .int 0]))]) hx hb hml hown hts hG hA hP hD hS hl.1 [2] [0, 1] (c_X3_hasSitter l D k _ (qn 0) (qn 3) (qn 4) (qn 5) (qn 6) (qn 7) (qn 8) (qn 9) (qn 10) x1) (ci := 2) (q0 := 2) rfl rfl gX8_sitter_X3_hasSitter rfl ⟨rfl, rfl, Nat.le_of_ble_eq_true rfl, Nat.le_of_ble_eq_true rfl⟩ (by decide +kernel) rfl rfl ⟨by decide, by decide, by decide⟩ ⟨rfl, rfl, Nat.le_of_ble_eq_true rfl, Nat.le_of_ble_eq_true rfl, Nat.le_of_ble_eq_true rfl⟩ dX8_sitter_10 (fun r_2 u_1 H locs hw hP hD hS => ?_)
  have hP : va_P D vwCl ([(h0, .inr (6, [.ref (q 0), .ref (q 1), .int 0, .ref (q 2), .ref (q 3), .ref (q 4), .ref (q 5), .ref (q 6), .ref (q 7), .ref (q 8), .ref (q 9), .ref (q 10)])), ((q 2), .inr (4, [.ref (qn 0), .ref (qn 1), .ref (qn 2), .int (-1), .int 0])), ((qn 0), .inr (2, [.int 0, .int 0, .int 0, .int 0, .ref (qn 3), .ref (qn 4), .ref (qn 5), .ref (qn 6), .ref (qn 7), .ref (qn 8), .int 0, .int 0, .int 0, .ref (qn 9), .ref (qn 10), .int 0, .int 0]))]) H := hP
  have hD : va_D A ([(h0, .inr (6, [.ref (q 0), .ref (q 1), .int 0, .ref (q 2), .ref (q 3), .ref (q 4), .ref (q 5), .ref (q 6), .ref (q 7), .ref (q 8), .ref (q 9), .ref (q 10)])), ((q 2), .inr (4, [.ref (qn 0), .ref (qn 1), .ref (qn 2), .int (-1), .int 0])), ((qn 0), .inr (2, [.int 0, .int 0, .int 0, .int 0, .ref (qn 3), .ref (qn 4), .ref (qn 5), .ref (qn 6), .ref (qn 7), .ref (qn 8), .int 0, .int 0, .int 0, .ref (qn 9), .ref (qn 10), .int 0, .int 0]))]) := hD
  obtain rfl : r_2 = 0 := hw
  refine lv_if_ne (tgt := 18) hx hb dX8_sitter_13 (by decide) (fun h => absurd h (by decide)) (fun _ => ?_)
  refine lv_iconst (v := (-1)) hx hb dX8_sitter_16 (by decide) ?_
  exact hc_end hx hb hr hlocks () rfl (hP.sub [] rfl) (hD.sub [] (by decide) rfl) hS dX8_sitter_17
set_option maxHeartbeats 4000000 in
set_option maxRecDepth 100000 in
theorem c_X8_minute (l : Launch) (D : va_G) (k : Nat → ClassId) (sz : Nat) (h0 : Nat) (q qt qn i0 i1 i2 i3 : Nat → Nat) : CtI l yX8_minute wsX8_minute (rmK 4 0 0) [.ref h0] D k sz ([(h0, .inr (6, [.ref (q 0), .ref (q 1), .int 0, .ref (q 2), .ref (q 3), .ref (q 4), .ref (q 5), .ref (q 6), .ref (q 7), .ref (q 8), .ref (q 9), .ref (q 10)])), ((q 2), .inr (4, [.ref (qn 0), .ref (qn 1), .ref (qn 2), .int (-1), .int 0])), ((qn 0), .inr (2, [.int 0, .int 0, .int 0, .int 0, .ref (qn 3), .ref (qn 4), .ref (qn 5), .ref (qn 6), .ref (qn 7), .ref (qn 8), .int 0, .int 0, .int 0, .ref (qn 9), .ref (qn 10), .int 0, .int 0]))]) (fun (r : Int32) (_ : Unit) => r = (-1)) (fun _ : Unit => []) 0 0 := by
  refine CtI.mk (cc := cX8_minute) (maxL := 2) (ret := (some .int)) (by decide) rfl (Nat.le_of_ble_eq_true rfl) ?_
  intro p e s m below meth c A ls E hP hD hS hl
  obtain ⟨hx, hb, hr, hml, hown, hts, hlocks, hin, hG, hA⟩ := E
  have hown : s.vm.findClass RX8 = some m.cls := hown
  have in0 : ∀ w ∈ u_ws RX0 TX0 5, w ∈ wsX8_minute := fun _ h => List.mem_cons_of_mem _ (List.mem_append_left _ (List.mem_append_right _ h))
  have in3 : ∀ w ∈ u_ws RX3 TX3 17, w ∈ wsX8_minute := fun _ h => List.mem_cons_of_mem _ (List.mem_append_left _ (List.mem_append_left _ (List.mem_append_right _ h)))
  have in4 : ∀ w ∈ u_ws RX4 TX4 8, w ∈ wsX8_minute := fun _ h => List.mem_cons_of_mem _ (List.mem_append_right _ h)
  have in6 : ∀ w ∈ u_ws RX6 TX6 5, w ∈ wsX8_minute := fun _ h => List.mem_cons_of_mem _ (List.mem_append_left _ (List.mem_append_left _ (List.mem_append_left _ (List.mem_append_right _ h))))
  have in8 : ∀ w ∈ u_ws RX8 TX8 12, w ∈ wsX8_minute := fun _ h => List.mem_cons_of_mem _ (List.mem_append_left _ (List.mem_append_left _ (List.mem_append_left _ (List.mem_append_left _ (List.mem_append_right _ h)))))
  have hl : lv_has ls 2 [(0, .ref h0)] := hl
  refine lv_aload_n hx hb dX8_minute_0 rfl (lv_at hl 0 rfl) ?_
  refine va_get (D := D) (ci := 6) (v := .ref (q 2)) (C := RX8) (T := TX8) (N := 12) hx hb hts in8 hown hG.1 hP 0 rfl rfl 3 (by decide) (hts (.fieldLink RX8 29 "ChairCane" "now" "LChairCane$Standing;") (by decide +kernel)) (fun _ h9 => h9) rfl dX8_minute_1 ?_
  refine va_get (D := D) (ci := 4) (v := .ref (qn 0)) (C := RX6) (T := TX6) (N := 5) hx hb hts in6 hown hG.1 hP 1 rfl rfl 0 (by decide) (hts (.fieldLink RX8 81 "ChairCane$Standing" "room" "LChairCane$Room;") (by decide +kernel)) (fun _ h9 => h9) rfl dX8_minute_4 ?_
  refine lv_astore_n (lv' := [(1, .ref (qn 0)), (0, .ref h0)]) hx hb dX8_minute_7 rfl hl (by decide) rfl (fun ls hl => ?_)
  refine lv_aload_n hx hb dX8_minute_8 rfl (lv_at hl 0 rfl) ?_
  refine va_get (D := D) (ci := 2) (v := .int 0) (C := RX3) (T := TX3) (N := 17) hx hb hts in3 hown hG.1 hP 2 rfl rfl 0 (by decide) (hts (.fieldLink RX8 150 "ChairCane$Room" "told" "Z") (by decide +kernel)) (fun _ h9 => h9) rfl dX8_minute_9 ?_
  refine lv_if_eq (tgt := 25) hx hb dX8_minute_12 (by decide) (fun _ => ?_) (fun h => absurd (by decide) h)
  refine lv_iconst (v := (-1)) hx hb dX8_minute_25 (by decide) ?_
  exact hc_end hx hb hr hlocks () rfl (hP.sub [] rfl) (hD.sub [] (by decide) rfl) hS dX8_minute_26
set_option maxHeartbeats 4000000 in
set_option maxRecDepth 100000 in
theorem c_X8_sit (l : Launch) (D : va_G) (k : Nat → ClassId) (sz : Nat) (h0 : Nat) (q qt qn i0 i1 i2 i3 : Nat → Nat) (x1 : Int32) : CtI l yX8_sit wsX8_sit (rmK 4 0 0) [.ref h0, .int x1] D k sz ([(h0, .inr (6, [.ref (q 0), .ref (q 1), .int 0, .ref (q 2), .ref (q 3), .ref (q 4), .ref (q 5), .ref (q 6), .ref (q 7), .ref (q 8), .ref (q 9), .ref (q 10)])), ((q 2), .inr (4, [.ref (qn 0), .ref (qn 1), .ref (qn 2), .int (-1), .int 0])), ((qn 0), .inr (2, [.int 0, .int 0, .int 0, .int 0, .ref (qn 3), .ref (qn 4), .ref (qn 5), .ref (qn 6), .ref (qn 7), .ref (qn 8), .int 0, .int 0, .int 0, .ref (qn 9), .ref (qn 10), .int 0, .int 0]))]) (fun (r : Int32) (_ : Unit) => r = (-1)) (fun _ : Unit => []) 0 0 := by
  refine CtI.mk (cc := cX8_sit) (maxL := 2) (ret := (some .int)) (by decide) rfl (Nat.le_of_ble_eq_true rfl) ?_
  intro p e s m below meth c A ls E hP hD hS hl
  obtain ⟨hx, hb, hr, hml, hown, hts, hlocks, hin, hG, hA⟩ := E
  have hown : s.vm.findClass RX8 = some m.cls := hown
  have in0 : ∀ w ∈ u_ws RX0 TX0 5, w ∈ wsX8_sit := fun _ h => List.mem_cons_of_mem _ (List.mem_append_right _ h)
  have in3 : ∀ w ∈ u_ws RX3 TX3 17, w ∈ wsX8_sit := fun _ h => List.mem_cons_of_mem _ (List.mem_append_left _ (List.mem_append_right _ h))
  have in6 : ∀ w ∈ u_ws RX6 TX6 5, w ∈ wsX8_sit := fun _ h => List.mem_cons_of_mem _ (List.mem_append_left _ (List.mem_append_left _ (List.mem_append_right _ h)))
  have in8 : ∀ w ∈ u_ws RX8 TX8 12, w ∈ wsX8_sit := fun _ h => List.mem_cons_of_mem _ (List.mem_append_left _ (List.mem_append_left _ (List.mem_append_left _ (List.mem_append_right _ h))))
  have hl : lv_has ls 2 [(0, .ref h0), (1, .int x1)] := hl
  refine lv_aload_n hx hb dX8_sit_0 rfl (lv_at hl 0 rfl) ?_
  refine va_get (D := D) (ci := 6) (v := .ref (q 2)) (C := RX8) (T := TX8) (N := 12) hx hb hts in8 hown hG.1 hP 0 rfl rfl 3 (by decide) (hts (.fieldLink RX8 29 "ChairCane" "now" "LChairCane$Standing;") (by decide +kernel)) (fun _ h9 => h9) rfl dX8_sit_1 ?_
  refine va_get (D := D) (ci := 4) (v := .ref (qn 0)) (C := RX6) (T := TX6) (N := 5) hx hb hts in6 hown hG.1 hP 1 rfl rfl 0 (by decide) (hts (.fieldLink RX8 81 "ChairCane$Standing" "room" "LChairCane$Room;") (by decide +kernel)) (fun _ h9 => h9) rfl dX8_sit_4 ?_
  refine lv_iload_n hx hb dX8_sit_7 rfl (lv_at hl 1 rfl) ?_
  refine hc_Vi (As := [.int x1]) (rest := []) (n := 1) (wr := [(h0, .inr (6, [.ref (q 0), .ref (q 1), .int 0, .ref (q 2), .ref (q 3), .ref (q 4), .ref (q 5), .ref (q 6), .ref (q 7), .ref (q 8), .ref (q 9), .ref (q 10)])), ((q 2), .inr (4, [.ref (qn 0), .ref (qn 1), .ref (qn 2), .int (-1), .int 0]))]) hx hb hml hown hts hG hA hP hD hS hl.1 [2] [0, 1] (c_X3_stateOf l D k _ (qn 0) (qn 3) (qn 4) (qn 5) (qn 6) (qn 7) (qn 8) (qn 9) (qn 10) x1) (ci := 2) (q0 := 2) rfl rfl gX8_sit_X3_stateOf rfl ⟨rfl, rfl, Nat.le_of_ble_eq_true rfl, Nat.le_of_ble_eq_true rfl⟩ (by decide +kernel) rfl rfl ⟨by decide, by decide, by decide⟩ ⟨rfl, rfl, Nat.le_of_ble_eq_true rfl, Nat.le_of_ble_eq_true rfl, Nat.le_of_ble_eq_true rfl⟩ dX8_sit_8 (fun r_2 u_1 H locs hw hP hD hS => ?_)
  have hP : va_P D vwCl ([(h0, .inr (6, [.ref (q 0), .ref (q 1), .int 0, .ref (q 2), .ref (q 3), .ref (q 4), .ref (q 5), .ref (q 6), .ref (q 7), .ref (q 8), .ref (q 9), .ref (q 10)])), ((q 2), .inr (4, [.ref (qn 0), .ref (qn 1), .ref (qn 2), .int (-1), .int 0])), ((qn 0), .inr (2, [.int 0, .int 0, .int 0, .int 0, .ref (qn 3), .ref (qn 4), .ref (qn 5), .ref (qn 6), .ref (qn 7), .ref (qn 8), .int 0, .int 0, .int 0, .ref (qn 9), .ref (qn 10), .int 0, .int 0]))]) H := hP
  have hD : va_D A ([(h0, .inr (6, [.ref (q 0), .ref (q 1), .int 0, .ref (q 2), .ref (q 3), .ref (q 4), .ref (q 5), .ref (q 6), .ref (q 7), .ref (q 8), .ref (q 9), .ref (q 10)])), ((q 2), .inr (4, [.ref (qn 0), .ref (qn 1), .ref (qn 2), .int (-1), .int 0])), ((qn 0), .inr (2, [.int 0, .int 0, .int 0, .int 0, .ref (qn 3), .ref (qn 4), .ref (qn 5), .ref (qn 6), .ref (qn 7), .ref (qn 8), .int 0, .int 0, .int 0, .ref (qn 9), .ref (qn 10), .int 0, .int 0]))]) := hD
  obtain rfl : r_2 = (-1) := hw
  refine lv_if_eq (tgt := 16) hx hb dX8_sit_11 (by decide) (fun h => absurd h (by decide)) (fun _ => ?_)
  refine lv_iconst (v := (-1)) hx hb dX8_sit_14 (by decide) ?_
  exact hc_end hx hb hr hlocks () rfl (hP.sub [] rfl) (hD.sub [] (by decide) rfl) hS dX8_sit_15
set_option maxHeartbeats 4000000 in
set_option maxRecDepth 100000 in
theorem c_X8_rise (l : Launch) (D : va_G) (k : Nat → ClassId) (sz : Nat) (h0 : Nat) (q qt qn i0 i1 i2 i3 : Nat → Nat) (x1 : Int32) : CtI l yX8_rise wsX8_rise (rmK 4 0 0) [.ref h0, .int x1] D k sz ([(h0, .inr (6, [.ref (q 0), .ref (q 1), .int 0, .ref (q 2), .ref (q 3), .ref (q 4), .ref (q 5), .ref (q 6), .ref (q 7), .ref (q 8), .ref (q 9), .ref (q 10)])), ((q 2), .inr (4, [.ref (qn 0), .ref (qn 1), .ref (qn 2), .int (-1), .int 0])), ((qn 0), .inr (2, [.int 0, .int 0, .int 0, .int 0, .ref (qn 3), .ref (qn 4), .ref (qn 5), .ref (qn 6), .ref (qn 7), .ref (qn 8), .int 0, .int 0, .int 0, .ref (qn 9), .ref (qn 10), .int 0, .int 0]))]) (fun (r : Int32) (_ : Unit) => r = (-1)) (fun _ : Unit => []) 0 0 := by
  refine CtI.mk (cc := cX8_rise) (maxL := 2) (ret := (some .int)) (by decide) rfl (Nat.le_of_ble_eq_true rfl) ?_
  intro p e s m below meth c A ls E hP hD hS hl
  obtain ⟨hx, hb, hr, hml, hown, hts, hlocks, hin, hG, hA⟩ := E
  have hown : s.vm.findClass RX8 = some m.cls := hown
  have in0 : ∀ w ∈ u_ws RX0 TX0 5, w ∈ wsX8_rise := fun _ h => List.mem_cons_of_mem _ (List.mem_append_right _ h)
  have in3 : ∀ w ∈ u_ws RX3 TX3 17, w ∈ wsX8_rise := fun _ h => List.mem_cons_of_mem _ (List.mem_append_left _ (List.mem_append_right _ h))
  have in6 : ∀ w ∈ u_ws RX6 TX6 5, w ∈ wsX8_rise := fun _ h => List.mem_cons_of_mem _ (List.mem_append_left _ (List.mem_append_left _ (List.mem_append_right _ h)))
  have in8 : ∀ w ∈ u_ws RX8 TX8 12, w ∈ wsX8_rise := fun _ h => List.mem_cons_of_mem _ (List.mem_append_left _ (List.mem_append_left _ (List.mem_append_left _ (List.mem_append_right _ h))))
  have hl : lv_has ls 2 [(0, .ref h0), (1, .int x1)] := hl
  refine lv_aload_n hx hb dX8_rise_0 rfl (lv_at hl 0 rfl) ?_
  refine va_get (D := D) (ci := 6) (v := .ref (q 2)) (C := RX8) (T := TX8) (N := 12) hx hb hts in8 hown hG.1 hP 0 rfl rfl 3 (by decide) (hts (.fieldLink RX8 29 "ChairCane" "now" "LChairCane$Standing;") (by decide +kernel)) (fun _ h9 => h9) rfl dX8_rise_1 ?_
  refine va_get (D := D) (ci := 4) (v := .ref (qn 0)) (C := RX6) (T := TX6) (N := 5) hx hb hts in6 hown hG.1 hP 1 rfl rfl 0 (by decide) (hts (.fieldLink RX8 81 "ChairCane$Standing" "room" "LChairCane$Room;") (by decide +kernel)) (fun _ h9 => h9) rfl dX8_rise_4 ?_
  refine lv_iload_n hx hb dX8_rise_7 rfl (lv_at hl 1 rfl) ?_
  refine hc_Vi (As := [.int x1]) (rest := []) (n := 1) (wr := [(h0, .inr (6, [.ref (q 0), .ref (q 1), .int 0, .ref (q 2), .ref (q 3), .ref (q 4), .ref (q 5), .ref (q 6), .ref (q 7), .ref (q 8), .ref (q 9), .ref (q 10)])), ((q 2), .inr (4, [.ref (qn 0), .ref (qn 1), .ref (qn 2), .int (-1), .int 0]))]) hx hb hml hown hts hG hA hP hD hS hl.1 [2] [0, 1] (c_X3_isDown l D k _ (qn 0) (qn 3) (qn 4) (qn 5) (qn 6) (qn 7) (qn 8) (qn 9) (qn 10) x1) (ci := 2) (q0 := 2) rfl rfl gX8_rise_X3_isDown rfl ⟨rfl, rfl, Nat.le_of_ble_eq_true rfl, Nat.le_of_ble_eq_true rfl⟩ (by decide +kernel) rfl rfl ⟨by decide, by decide, by decide⟩ ⟨rfl, rfl, Nat.le_of_ble_eq_true rfl, Nat.le_of_ble_eq_true rfl, Nat.le_of_ble_eq_true rfl⟩ dX8_rise_8 (fun r_2 u_1 H locs hw hP hD hS => ?_)
  have hP : va_P D vwCl ([(h0, .inr (6, [.ref (q 0), .ref (q 1), .int 0, .ref (q 2), .ref (q 3), .ref (q 4), .ref (q 5), .ref (q 6), .ref (q 7), .ref (q 8), .ref (q 9), .ref (q 10)])), ((q 2), .inr (4, [.ref (qn 0), .ref (qn 1), .ref (qn 2), .int (-1), .int 0])), ((qn 0), .inr (2, [.int 0, .int 0, .int 0, .int 0, .ref (qn 3), .ref (qn 4), .ref (qn 5), .ref (qn 6), .ref (qn 7), .ref (qn 8), .int 0, .int 0, .int 0, .ref (qn 9), .ref (qn 10), .int 0, .int 0]))]) H := hP
  have hD : va_D A ([(h0, .inr (6, [.ref (q 0), .ref (q 1), .int 0, .ref (q 2), .ref (q 3), .ref (q 4), .ref (q 5), .ref (q 6), .ref (q 7), .ref (q 8), .ref (q 9), .ref (q 10)])), ((q 2), .inr (4, [.ref (qn 0), .ref (qn 1), .ref (qn 2), .int (-1), .int 0])), ((qn 0), .inr (2, [.int 0, .int 0, .int 0, .int 0, .ref (qn 3), .ref (qn 4), .ref (qn 5), .ref (qn 6), .ref (qn 7), .ref (qn 8), .int 0, .int 0, .int 0, .ref (qn 9), .ref (qn 10), .int 0, .int 0]))]) := hD
  obtain rfl : r_2 = 0 := hw
  refine lv_if_ne (tgt := 16) hx hb dX8_rise_11 (by decide) (fun h => absurd h (by decide)) (fun _ => ?_)
  refine lv_iconst (v := (-1)) hx hb dX8_rise_14 (by decide) ?_
  exact hc_end hx hb hr hlocks () rfl (hP.sub [] rfl) (hD.sub [] (by decide) rfl) hS dX8_rise_15
set_option maxHeartbeats 4000000 in
set_option maxRecDepth 100000 in
theorem c_X8_help (l : Launch) (D : va_G) (k : Nat → ClassId) (sz : Nat) (h0 : Nat) (q qt qn i0 i1 i2 i3 : Nat → Nat) (x1 : Int32) : CtI l yX8_help wsX8_help (rmK 4 0 0) [.ref h0, .int x1] D k sz ([(h0, .inr (6, [.ref (q 0), .ref (q 1), .int 0, .ref (q 2), .ref (q 3), .ref (q 4), .ref (q 5), .ref (q 6), .ref (q 7), .ref (q 8), .ref (q 9), .ref (q 10)])), ((q 2), .inr (4, [.ref (qn 0), .ref (qn 1), .ref (qn 2), .int (-1), .int 0])), ((qn 0), .inr (2, [.int 0, .int 0, .int 0, .int 0, .ref (qn 3), .ref (qn 4), .ref (qn 5), .ref (qn 6), .ref (qn 7), .ref (qn 8), .int 0, .int 0, .int 0, .ref (qn 9), .ref (qn 10), .int 0, .int 0]))]) (fun (r : Int32) (_ : Unit) => r = (-1)) (fun _ : Unit => []) 0 0 := by
  refine CtI.mk (cc := cX8_help) (maxL := 2) (ret := (some .int)) (by decide) rfl (Nat.le_of_ble_eq_true rfl) ?_
  intro p e s m below meth c A ls E hP hD hS hl
  obtain ⟨hx, hb, hr, hml, hown, hts, hlocks, hin, hG, hA⟩ := E
  have hown : s.vm.findClass RX8 = some m.cls := hown
  have in0 : ∀ w ∈ u_ws RX0 TX0 5, w ∈ wsX8_help := fun _ h => List.mem_cons_of_mem _ (List.mem_append_right _ h)
  have in3 : ∀ w ∈ u_ws RX3 TX3 17, w ∈ wsX8_help := fun _ h => List.mem_cons_of_mem _ (List.mem_append_left _ (List.mem_append_right _ h))
  have in6 : ∀ w ∈ u_ws RX6 TX6 5, w ∈ wsX8_help := fun _ h => List.mem_cons_of_mem _ (List.mem_append_left _ (List.mem_append_left _ (List.mem_append_right _ h)))
  have in8 : ∀ w ∈ u_ws RX8 TX8 12, w ∈ wsX8_help := fun _ h => List.mem_cons_of_mem _ (List.mem_append_left _ (List.mem_append_left _ (List.mem_append_left _ (List.mem_append_right _ h))))
  have hl : lv_has ls 2 [(0, .ref h0), (1, .int x1)] := hl
  refine lv_aload_n hx hb dX8_help_0 rfl (lv_at hl 0 rfl) ?_
  refine va_get (D := D) (ci := 6) (v := .ref (q 2)) (C := RX8) (T := TX8) (N := 12) hx hb hts in8 hown hG.1 hP 0 rfl rfl 3 (by decide) (hts (.fieldLink RX8 29 "ChairCane" "now" "LChairCane$Standing;") (by decide +kernel)) (fun _ h9 => h9) rfl dX8_help_1 ?_
  refine va_get (D := D) (ci := 4) (v := .ref (qn 0)) (C := RX6) (T := TX6) (N := 5) hx hb hts in6 hown hG.1 hP 1 rfl rfl 0 (by decide) (hts (.fieldLink RX8 81 "ChairCane$Standing" "room" "LChairCane$Room;") (by decide +kernel)) (fun _ h9 => h9) rfl dX8_help_4 ?_
  refine lv_iload_n hx hb dX8_help_7 rfl (lv_at hl 1 rfl) ?_
  refine hc_Vi (As := [.int x1]) (rest := []) (n := 1) (wr := [(h0, .inr (6, [.ref (q 0), .ref (q 1), .int 0, .ref (q 2), .ref (q 3), .ref (q 4), .ref (q 5), .ref (q 6), .ref (q 7), .ref (q 8), .ref (q 9), .ref (q 10)])), ((q 2), .inr (4, [.ref (qn 0), .ref (qn 1), .ref (qn 2), .int (-1), .int 0]))]) hx hb hml hown hts hG hA hP hD hS hl.1 [2] [0, 1] (c_X3_stateOf l D k _ (qn 0) (qn 3) (qn 4) (qn 5) (qn 6) (qn 7) (qn 8) (qn 9) (qn 10) x1) (ci := 2) (q0 := 2) rfl rfl gX8_help_X3_stateOf rfl ⟨rfl, rfl, Nat.le_of_ble_eq_true rfl, Nat.le_of_ble_eq_true rfl⟩ (by decide +kernel) rfl rfl ⟨by decide, by decide, by decide⟩ ⟨rfl, rfl, Nat.le_of_ble_eq_true rfl, Nat.le_of_ble_eq_true rfl, Nat.le_of_ble_eq_true rfl⟩ dX8_help_8 (fun r_2 u_1 H locs hw hP hD hS => ?_)
  have hP : va_P D vwCl ([(h0, .inr (6, [.ref (q 0), .ref (q 1), .int 0, .ref (q 2), .ref (q 3), .ref (q 4), .ref (q 5), .ref (q 6), .ref (q 7), .ref (q 8), .ref (q 9), .ref (q 10)])), ((q 2), .inr (4, [.ref (qn 0), .ref (qn 1), .ref (qn 2), .int (-1), .int 0])), ((qn 0), .inr (2, [.int 0, .int 0, .int 0, .int 0, .ref (qn 3), .ref (qn 4), .ref (qn 5), .ref (qn 6), .ref (qn 7), .ref (qn 8), .int 0, .int 0, .int 0, .ref (qn 9), .ref (qn 10), .int 0, .int 0]))]) H := hP
  have hD : va_D A ([(h0, .inr (6, [.ref (q 0), .ref (q 1), .int 0, .ref (q 2), .ref (q 3), .ref (q 4), .ref (q 5), .ref (q 6), .ref (q 7), .ref (q 8), .ref (q 9), .ref (q 10)])), ((q 2), .inr (4, [.ref (qn 0), .ref (qn 1), .ref (qn 2), .int (-1), .int 0])), ((qn 0), .inr (2, [.int 0, .int 0, .int 0, .int 0, .ref (qn 3), .ref (qn 4), .ref (qn 5), .ref (qn 6), .ref (qn 7), .ref (qn 8), .int 0, .int 0, .int 0, .ref (qn 9), .ref (qn 10), .int 0, .int 0]))]) := hD
  obtain rfl : r_2 = (-1) := hw
  refine lv_iconst (v := 2) hx hb dX8_help_11 (by decide) ?_
  refine lv_icmp_eq (tgt := 17) hx hb dX8_help_12 (by decide) (fun h => absurd h (by decide)) (fun _ => ?_)
  refine lv_iconst (v := (-1)) hx hb dX8_help_15 (by decide) ?_
  exact hc_end hx hb hr hlocks () rfl (hP.sub [] rfl) (hD.sub [] (by decide) rfl) hS dX8_help_16
set_option maxHeartbeats 4000000 in
set_option maxRecDepth 100000 in
theorem c_X8_let (l : Launch) (D : va_G) (k : Nat → ClassId) (sz : Nat) (h0 : Nat) (q qt qn i0 i1 i2 i3 : Nat → Nat) (x1 x2 : Int32) : CtI l yX8_let wsX8_let (rmK 4 0 0) [.ref h0, .int x1, .int x2] D k sz ([(h0, .inr (6, [.ref (q 0), .ref (q 1), .int 0, .ref (q 2), .ref (q 3), .ref (q 4), .ref (q 5), .ref (q 6), .ref (q 7), .ref (q 8), .ref (q 9), .ref (q 10)])), ((q 2), .inr (4, [.ref (qn 0), .ref (qn 1), .ref (qn 2), .int (-1), .int 0])), ((qn 0), .inr (2, [.int 0, .int 0, .int 0, .int 0, .ref (qn 3), .ref (qn 4), .ref (qn 5), .ref (qn 6), .ref (qn 7), .ref (qn 8), .int 0, .int 0, .int 0, .ref (qn 9), .ref (qn 10), .int 0, .int 0]))]) (fun (r : Int32) (_ : Unit) => r = (-1)) (fun _ : Unit => []) 0 0 := by
  refine CtI.mk (cc := cX8_let) (maxL := 4) (ret := (some .int)) (by decide) rfl (Nat.le_of_ble_eq_true rfl) ?_
  intro p e s m below meth c A ls E hP hD hS hl
  obtain ⟨hx, hb, hr, hml, hown, hts, hlocks, hin, hG, hA⟩ := E
  have hown : s.vm.findClass RX8 = some m.cls := hown
  have in0 : ∀ w ∈ u_ws RX0 TX0 5, w ∈ wsX8_let := fun _ h => List.mem_cons_of_mem _ (List.mem_append_right _ h)
  have in3 : ∀ w ∈ u_ws RX3 TX3 17, w ∈ wsX8_let := fun _ h => List.mem_cons_of_mem _ (List.mem_append_left _ (List.mem_append_right _ h))
  have in6 : ∀ w ∈ u_ws RX6 TX6 5, w ∈ wsX8_let := fun _ h => List.mem_cons_of_mem _ (List.mem_append_left _ (List.mem_append_left _ (List.mem_append_right _ h)))
  have in8 : ∀ w ∈ u_ws RX8 TX8 12, w ∈ wsX8_let := fun _ h => List.mem_cons_of_mem _ (List.mem_append_left _ (List.mem_append_left _ (List.mem_append_left _ (List.mem_append_right _ h))))
  have hl : lv_has ls 4 [(0, .ref h0), (1, .int x1), (2, .int x2)] := hl
  refine lv_aload_n hx hb dX8_let_0 rfl (lv_at hl 0 rfl) ?_
  refine va_get (D := D) (ci := 6) (v := .ref (q 2)) (C := RX8) (T := TX8) (N := 12) hx hb hts in8 hown hG.1 hP 0 rfl rfl 3 (by decide) (hts (.fieldLink RX8 29 "ChairCane" "now" "LChairCane$Standing;") (by decide +kernel)) (fun _ h9 => h9) rfl dX8_let_1 ?_
  refine va_get (D := D) (ci := 4) (v := .ref (qn 0)) (C := RX6) (T := TX6) (N := 5) hx hb hts in6 hown hG.1 hP 1 rfl rfl 0 (by decide) (hts (.fieldLink RX8 81 "ChairCane$Standing" "room" "LChairCane$Room;") (by decide +kernel)) (fun _ h9 => h9) rfl dX8_let_4 ?_
  refine lv_astore_n (lv' := [(3, .ref (qn 0)), (0, .ref h0), (1, .int x1), (2, .int x2)]) hx hb dX8_let_7 rfl hl (by decide) rfl (fun ls hl => ?_)
  refine lv_aload_n hx hb dX8_let_8 rfl (lv_at hl 0 rfl) ?_
  refine lv_iload_n hx hb dX8_let_9 rfl (lv_at hl 2 rfl) ?_
  refine hc_Vi (As := [.int x1]) (rest := []) (n := 1) (wr := [(h0, .inr (6, [.ref (q 0), .ref (q 1), .int 0, .ref (q 2), .ref (q 3), .ref (q 4), .ref (q 5), .ref (q 6), .ref (q 7), .ref (q 8), .ref (q 9), .ref (q 10)])), ((q 2), .inr (4, [.ref (qn 0), .ref (qn 1), .ref (qn 2), .int (-1), .int 0]))]) hx hb hml hown hts hG hA hP hD hS hl.1 [2] [0, 1] (c_X3_hasStrand l D k _ (qn 0) (qn 3) (qn 4) (qn 5) (qn 6) (qn 7) (qn 8) (qn 9) (qn 10) x1) (ci := 2) (q0 := 2) rfl rfl gX8_let_X3_hasStrand rfl ⟨rfl, rfl, Nat.le_of_ble_eq_true rfl, Nat.le_of_ble_eq_true rfl⟩ (by decide +kernel) rfl rfl ⟨by decide, by decide, by decide⟩ ⟨rfl, rfl, Nat.le_of_ble_eq_true rfl, Nat.le_of_ble_eq_true rfl, Nat.le_of_ble_eq_true rfl⟩ dX8_let_10 (fun r_2 u_1 H locs hw hP hD hS => ?_)
  have hP : va_P D vwCl ([(h0, .inr (6, [.ref (q 0), .ref (q 1), .int 0, .ref (q 2), .ref (q 3), .ref (q 4), .ref (q 5), .ref (q 6), .ref (q 7), .ref (q 8), .ref (q 9), .ref (q 10)])), ((q 2), .inr (4, [.ref (qn 0), .ref (qn 1), .ref (qn 2), .int (-1), .int 0])), ((qn 0), .inr (2, [.int 0, .int 0, .int 0, .int 0, .ref (qn 3), .ref (qn 4), .ref (qn 5), .ref (qn 6), .ref (qn 7), .ref (qn 8), .int 0, .int 0, .int 0, .ref (qn 9), .ref (qn 10), .int 0, .int 0]))]) H := hP
  have hD : va_D A ([(h0, .inr (6, [.ref (q 0), .ref (q 1), .int 0, .ref (q 2), .ref (q 3), .ref (q 4), .ref (q 5), .ref (q 6), .ref (q 7), .ref (q 8), .ref (q 9), .ref (q 10)])), ((q 2), .inr (4, [.ref (qn 0), .ref (qn 1), .ref (qn 2), .int (-1), .int 0])), ((qn 0), .inr (2, [.int 0, .int 0, .int 0, .int 0, .ref (qn 3), .ref (qn 4), .ref (qn 5), .ref (qn 6), .ref (qn 7), .ref (qn 8), .int 0, .int 0, .int 0, .ref (qn 9), .ref (qn 10), .int 0, .int 0]))]) := hD
  obtain rfl : r_2 = 0 := hw
  refine lv_if_eq (tgt := 36) hx hb dX8_let_13 (by decide) (fun _ => ?_) (fun h => absurd (by decide) h)
  refine lv_iconst (v := (-1)) hx hb dX8_let_36 (by decide) ?_
  exact hc_end hx hb hr hlocks () rfl (hP.sub [] rfl) (hD.sub [] (by decide) rfl) hS dX8_let_37
set_option maxHeartbeats 4000000 in
set_option maxRecDepth 100000 in
theorem c_X8_undo (l : Launch) (D : va_G) (k : Nat → ClassId) (sz : Nat) (h0 : Nat) (q qt qn i0 i1 i2 i3 : Nat → Nat) : CtI l yX8_undo wsX8_undo (rmK 4 0 0) [.ref h0] D k sz ([(h0, .inr (6, [.ref (q 0), .ref (q 1), .int 0, .ref (q 2), .ref (q 3), .ref (q 4), .ref (q 5), .ref (q 6), .ref (q 7), .ref (q 8), .ref (q 9), .ref (q 10)])), ((q 2), .inr (4, [.ref (qn 0), .ref (qn 1), .ref (qn 2), .int (-1), .int 0])), ((qn 1), .inr (0, [.ref (qn 11), .ref (qn 12), .ref (qn 13), .int 0, .int 0]))]) (fun (r : Int32) (_ : Unit) => r = (-2)) (fun _ : Unit => []) 0 0 := by
  refine CtI.mk (cc := cX8_undo) (maxL := 1) (ret := (some .int)) (by decide) rfl (Nat.le_of_ble_eq_true rfl) ?_
  intro p e s m below meth c A ls E hP hD hS hl
  obtain ⟨hx, hb, hr, hml, hown, hts, hlocks, hin, hG, hA⟩ := E
  have hown : s.vm.findClass RX8 = some m.cls := hown
  have in0 : ∀ w ∈ u_ws RX0 TX0 5, w ∈ wsX8_undo := fun _ h => List.mem_cons_of_mem _ (List.mem_append_left _ (List.mem_append_right _ h))
  have in3 : ∀ w ∈ u_ws RX3 TX3 17, w ∈ wsX8_undo := fun _ h => List.mem_cons_of_mem _ (List.mem_append_right _ h)
  have in6 : ∀ w ∈ u_ws RX6 TX6 5, w ∈ wsX8_undo := fun _ h => List.mem_cons_of_mem _ (List.mem_append_left _ (List.mem_append_left _ (List.mem_append_right _ h)))
  have in8 : ∀ w ∈ u_ws RX8 TX8 12, w ∈ wsX8_undo := fun _ h => List.mem_cons_of_mem _ (List.mem_append_left _ (List.mem_append_left _ (List.mem_append_left _ (List.mem_append_right _ h))))
  have hl : lv_has ls 1 [(0, .ref h0)] := hl
  refine lv_aload_n hx hb dX8_undo_0 rfl (lv_at hl 0 rfl) ?_
  refine va_get (D := D) (ci := 6) (v := .ref (q 2)) (C := RX8) (T := TX8) (N := 12) hx hb hts in8 hown hG.1 hP 0 rfl rfl 3 (by decide) (hts (.fieldLink RX8 29 "ChairCane" "now" "LChairCane$Standing;") (by decide +kernel)) (fun _ h9 => h9) rfl dX8_undo_1 ?_
  refine va_get (D := D) (ci := 4) (v := .ref (qn 1)) (C := RX6) (T := TX6) (N := 5) hx hb hts in6 hown hG.1 hP 1 rfl rfl 1 (by decide) (hts (.fieldLink RX8 88 "ChairCane$Standing" "acts" "LChairCane$Acts;") (by decide +kernel)) (fun _ h9 => h9) rfl dX8_undo_4 ?_
  refine va_get (D := D) (ci := 0) (v := .int 0) (C := RX0) (T := TX0) (N := 5) hx hb hts in0 hown hG.1 hP 2 rfl rfl 4 (by decide) (hts (.fieldLink RX8 187 "ChairCane$Acts" "kept" "I") (by decide +kernel)) (fun _ h9 => h9) rfl dX8_undo_7 ?_
  refine lv_if_gt (tgt := 16) hx hb dX8_undo_10 (by decide) (fun h => absurd h (by decide)) (fun _ => ?_)
  refine lv_bipush (v := (-2)) hx hb dX8_undo_13 (by decide) ?_
  exact hc_end hx hb hr hlocks () rfl (hP.sub [] rfl) (hD.sub [] (by decide) rfl) hS dX8_undo_15
set_option maxHeartbeats 4000000 in
set_option maxRecDepth 100000 in
theorem c_X8_ahead (l : Launch) (D : va_G) (k : Nat → ClassId) (sz : Nat) (h0 : Nat) (q qt qn i0 i1 i2 i3 : Nat → Nat) (x1 x2 x3 : Int32) : CtI l yX8_ahead wsX8_ahead (rmK 4 0 0) [.ref h0, .int x1, .int x2, .int x3] D k sz ([(h0, .inr (6, [.ref (q 0), .ref (q 1), .int 0, .ref (q 2), .ref (q 3), .ref (q 4), .ref (q 5), .ref (q 6), .ref (q 7), .ref (q 8), .ref (q 9), .ref (q 10)])), ((q 2), .inr (4, [.ref (qn 0), .ref (qn 1), .ref (qn 2), .int (-1), .int 0])), ((qn 0), .inr (2, [.int 0, .int 0, .int 0, .int 0, .ref (qn 3), .ref (qn 4), .ref (qn 5), .ref (qn 6), .ref (qn 7), .ref (qn 8), .int 0, .int 0, .int 0, .ref (qn 9), .ref (qn 10), .int 0, .int 0]))]) (fun (r : Int32) (_ : Unit) => r = (-1)) (fun _ : Unit => []) 0 0 := by
  refine CtI.mk (cc := cX8_ahead) (maxL := 5) (ret := (some .int)) (by decide) rfl (Nat.le_of_ble_eq_true rfl) ?_
  intro p e s m below meth c A ls E hP hD hS hl
  obtain ⟨hx, hb, hr, hml, hown, hts, hlocks, hin, hG, hA⟩ := E
  have hown : s.vm.findClass RX8 = some m.cls := hown
  have in3 : ∀ w ∈ u_ws RX3 TX3 17, w ∈ wsX8_ahead := fun _ h => List.mem_cons_of_mem _ (List.mem_append_left _ (List.mem_append_right _ h))
  have in4 : ∀ w ∈ u_ws RX4 TX4 8, w ∈ wsX8_ahead := fun _ h => List.mem_cons_of_mem _ (List.mem_append_right _ h)
  have in6 : ∀ w ∈ u_ws RX6 TX6 5, w ∈ wsX8_ahead := fun _ h => List.mem_cons_of_mem _ (List.mem_append_left _ (List.mem_append_left _ (List.mem_append_right _ h)))
  have in8 : ∀ w ∈ u_ws RX8 TX8 12, w ∈ wsX8_ahead := fun _ h => List.mem_cons_of_mem _ (List.mem_append_left _ (List.mem_append_left _ (List.mem_append_left _ (List.mem_append_right _ h))))
  have hl : lv_has ls 5 [(0, .ref h0), (1, .int x1), (2, .int x2), (3, .int x3)] := hl
  refine lv_aload_n hx hb dX8_ahead_0 rfl (lv_at hl 0 rfl) ?_
  refine va_get (D := D) (ci := 6) (v := .ref (q 2)) (C := RX8) (T := TX8) (N := 12) hx hb hts in8 hown hG.1 hP 0 rfl rfl 3 (by decide) (hts (.fieldLink RX8 29 "ChairCane" "now" "LChairCane$Standing;") (by decide +kernel)) (fun _ h9 => h9) rfl dX8_ahead_1 ?_
  refine va_get (D := D) (ci := 4) (v := .ref (qn 0)) (C := RX6) (T := TX6) (N := 5) hx hb hts in6 hown hG.1 hP 1 rfl rfl 0 (by decide) (hts (.fieldLink RX8 81 "ChairCane$Standing" "room" "LChairCane$Room;") (by decide +kernel)) (fun _ h9 => h9) rfl dX8_ahead_4 ?_
  refine lv_astore (lv' := [(4, .ref (qn 0)), (0, .ref h0), (1, .int x1), (2, .int x2), (3, .int x3)]) hx hb dX8_ahead_7 hl (by decide) rfl (fun ls hl => ?_)
  refine lv_aload hx hb dX8_ahead_9 (lv_at hl 0 rfl) ?_
  refine va_get (D := D) (ci := 2) (v := .int 0) (C := RX3) (T := TX3) (N := 17) hx hb hts in3 hown hG.1 hP 2 rfl rfl 0 (by decide) (hts (.fieldLink RX8 150 "ChairCane$Room" "told" "Z") (by decide +kernel)) (fun _ h9 => h9) rfl dX8_ahead_11 ?_
  refine lv_if_eq (tgt := 36) hx hb dX8_ahead_14 (by decide) (fun _ => ?_) (fun h => absurd (by decide) h)
  refine lv_iconst (v := (-1)) hx hb dX8_ahead_36 (by decide) ?_
  exact hc_end hx hb hr hlocks () rfl (hP.sub [] rfl) (hD.sub [] (by decide) rfl) hS dX8_ahead_37
set_option maxHeartbeats 4000000 in
set_option maxRecDepth 100000 in
theorem c_X8_falls (l : Launch) (D : va_G) (k : Nat → ClassId) (sz : Nat) (h0 : Nat) (q qt qn i0 i1 i2 i3 : Nat → Nat) (x1 : Int32) : CtI l yX8_falls wsX8_falls (rmK 4 0 0) [.ref h0, .int x1] D k sz ([(h0, .inr (6, [.ref (q 0), .ref (q 1), .int 0, .ref (q 2), .ref (q 3), .ref (q 4), .ref (q 5), .ref (q 6), .ref (q 7), .ref (q 8), .ref (q 9), .ref (q 10)])), ((q 2), .inr (4, [.ref (qn 0), .ref (qn 1), .ref (qn 2), .int (-1), .int 0])), ((qn 0), .inr (2, [.int 0, .int 0, .int 0, .int 0, .ref (qn 3), .ref (qn 4), .ref (qn 5), .ref (qn 6), .ref (qn 7), .ref (qn 8), .int 0, .int 0, .int 0, .ref (qn 9), .ref (qn 10), .int 0, .int 0]))]) (fun (r : Int32) (_ : Unit) => r = (-1)) (fun _ : Unit => []) 0 0 := by
  refine CtI.mk (cc := cX8_falls) (maxL := 6) (ret := (some .int)) (by decide) rfl (Nat.le_of_ble_eq_true rfl) ?_
  intro p e s m below meth c A ls E hP hD hS hl
  obtain ⟨hx, hb, hr, hml, hown, hts, hlocks, hin, hG, hA⟩ := E
  have hown : s.vm.findClass RX8 = some m.cls := hown
  have in3 : ∀ w ∈ u_ws RX3 TX3 17, w ∈ wsX8_falls := fun _ h => List.mem_cons_of_mem _ (List.mem_append_left _ (List.mem_append_right _ h))
  have in4 : ∀ w ∈ u_ws RX4 TX4 8, w ∈ wsX8_falls := fun _ h => List.mem_cons_of_mem _ (List.mem_append_right _ h)
  have in6 : ∀ w ∈ u_ws RX6 TX6 5, w ∈ wsX8_falls := fun _ h => List.mem_cons_of_mem _ (List.mem_append_left _ (List.mem_append_left _ (List.mem_append_right _ h)))
  have in8 : ∀ w ∈ u_ws RX8 TX8 12, w ∈ wsX8_falls := fun _ h => List.mem_cons_of_mem _ (List.mem_append_left _ (List.mem_append_left _ (List.mem_append_left _ (List.mem_append_right _ h))))
  have hl : lv_has ls 6 [(0, .ref h0), (1, .int x1)] := hl
  refine lv_aload_n hx hb dX8_falls_0 rfl (lv_at hl 0 rfl) ?_
  refine va_get (D := D) (ci := 6) (v := .ref (q 2)) (C := RX8) (T := TX8) (N := 12) hx hb hts in8 hown hG.1 hP 0 rfl rfl 3 (by decide) (hts (.fieldLink RX8 29 "ChairCane" "now" "LChairCane$Standing;") (by decide +kernel)) (fun _ h9 => h9) rfl dX8_falls_1 ?_
  refine va_get (D := D) (ci := 4) (v := .ref (qn 0)) (C := RX6) (T := TX6) (N := 5) hx hb hts in6 hown hG.1 hP 1 rfl rfl 0 (by decide) (hts (.fieldLink RX8 81 "ChairCane$Standing" "room" "LChairCane$Room;") (by decide +kernel)) (fun _ h9 => h9) rfl dX8_falls_4 ?_
  refine va_get (D := D) (ci := 2) (v := .int 0) (C := RX3) (T := TX3) (N := 17) hx hb hts in3 hown hG.1 hP 2 rfl rfl 0 (by decide) (hts (.fieldLink RX8 150 "ChairCane$Room" "told" "Z") (by decide +kernel)) (fun _ h9 => h9) rfl dX8_falls_7 ?_
  refine lv_if_eq (tgt := 22) hx hb dX8_falls_10 (by decide) (fun _ => ?_) (fun h => absurd (by decide) h)
  refine lv_iconst (v := (-1)) hx hb dX8_falls_22 (by decide) ?_
  exact hc_end hx hb hr hlocks () rfl (hP.sub [] rfl) (hD.sub [] (by decide) rfl) hS dX8_falls_23
set_option maxHeartbeats 4000000 in
set_option maxRecDepth 100000 in
theorem c_X8_felled (l : Launch) (D : va_G) (k : Nat → ClassId) (sz : Nat) (h0 : Nat) (q qt qn i0 i1 i2 i3 : Nat → Nat) (x1 : Int32) : CtI l yX8_felled wsX8_felled (rmK 4 0 0) [.ref h0, .int x1] D k sz ([(h0, .inr (6, [.ref (q 0), .ref (q 1), .int 0, .ref (q 2), .ref (q 3), .ref (q 4), .ref (q 5), .ref (q 6), .ref (q 7), .ref (q 8), .ref (q 9), .ref (q 10)])), ((q 2), .inr (4, [.ref (qn 0), .ref (qn 1), .ref (qn 2), .int (-1), .int 0])), ((qn 0), .inr (2, [.int 0, .int 0, .int 0, .int 0, .ref (qn 3), .ref (qn 4), .ref (qn 5), .ref (qn 6), .ref (qn 7), .ref (qn 8), .int 0, .int 0, .int 0, .ref (qn 9), .ref (qn 10), .int 0, .int 0]))]) (fun (r : Int32) (_ : Unit) => r = (-1)) (fun _ : Unit => []) 0 0 := by
  refine CtI.mk (cc := cX8_felled) (maxL := 2) (ret := (some .int)) (by decide) rfl (Nat.le_of_ble_eq_true rfl) ?_
  intro p e s m below meth c A ls E hP hD hS hl
  obtain ⟨hx, hb, hr, hml, hown, hts, hlocks, hin, hG, hA⟩ := E
  have hown : s.vm.findClass RX8 = some m.cls := hown
  have in3 : ∀ w ∈ u_ws RX3 TX3 17, w ∈ wsX8_felled := fun _ h => List.mem_cons_of_mem _ (List.mem_append_right _ h)
  have in6 : ∀ w ∈ u_ws RX6 TX6 5, w ∈ wsX8_felled := fun _ h => List.mem_cons_of_mem _ (List.mem_append_left _ (List.mem_append_right _ h))
  have in8 : ∀ w ∈ u_ws RX8 TX8 12, w ∈ wsX8_felled := fun _ h => List.mem_cons_of_mem _ (List.mem_append_left _ (List.mem_append_left _ (List.mem_append_right _ h)))
  have hl : lv_has ls 2 [(0, .ref h0), (1, .int x1)] := hl
  refine lv_aload_n hx hb dX8_felled_0 rfl (lv_at hl 0 rfl) ?_
  refine va_get (D := D) (ci := 6) (v := .ref (q 2)) (C := RX8) (T := TX8) (N := 12) hx hb hts in8 hown hG.1 hP 0 rfl rfl 3 (by decide) (hts (.fieldLink RX8 29 "ChairCane" "now" "LChairCane$Standing;") (by decide +kernel)) (fun _ h9 => h9) rfl dX8_felled_1 ?_
  refine va_get (D := D) (ci := 4) (v := .ref (qn 0)) (C := RX6) (T := TX6) (N := 5) hx hb hts in6 hown hG.1 hP 1 rfl rfl 0 (by decide) (hts (.fieldLink RX8 81 "ChairCane$Standing" "room" "LChairCane$Room;") (by decide +kernel)) (fun _ h9 => h9) rfl dX8_felled_4 ?_
  refine lv_iload_n hx hb dX8_felled_7 rfl (lv_at hl 1 rfl) ?_
  refine hc_Vi (As := [.int x1]) (rest := []) (n := 1) (wr := [(h0, .inr (6, [.ref (q 0), .ref (q 1), .int 0, .ref (q 2), .ref (q 3), .ref (q 4), .ref (q 5), .ref (q 6), .ref (q 7), .ref (q 8), .ref (q 9), .ref (q 10)])), ((q 2), .inr (4, [.ref (qn 0), .ref (qn 1), .ref (qn 2), .int (-1), .int 0]))]) hx hb hml hown hts hG hA hP hD hS hl.1 [2] [0, 1] (c_X3_isDown l D k _ (qn 0) (qn 3) (qn 4) (qn 5) (qn 6) (qn 7) (qn 8) (qn 9) (qn 10) x1) (ci := 2) (q0 := 2) rfl rfl gX8_felled_X3_isDown rfl ⟨rfl, rfl, Nat.le_of_ble_eq_true rfl, Nat.le_of_ble_eq_true rfl⟩ (by decide +kernel) rfl rfl ⟨by decide, by decide, by decide⟩ ⟨rfl, rfl, Nat.le_of_ble_eq_true rfl, Nat.le_of_ble_eq_true rfl, Nat.le_of_ble_eq_true rfl⟩ dX8_felled_8 (fun r_2 u_1 H locs hw hP hD hS => ?_)
  have hP : va_P D vwCl ([(h0, .inr (6, [.ref (q 0), .ref (q 1), .int 0, .ref (q 2), .ref (q 3), .ref (q 4), .ref (q 5), .ref (q 6), .ref (q 7), .ref (q 8), .ref (q 9), .ref (q 10)])), ((q 2), .inr (4, [.ref (qn 0), .ref (qn 1), .ref (qn 2), .int (-1), .int 0])), ((qn 0), .inr (2, [.int 0, .int 0, .int 0, .int 0, .ref (qn 3), .ref (qn 4), .ref (qn 5), .ref (qn 6), .ref (qn 7), .ref (qn 8), .int 0, .int 0, .int 0, .ref (qn 9), .ref (qn 10), .int 0, .int 0]))]) H := hP
  have hD : va_D A ([(h0, .inr (6, [.ref (q 0), .ref (q 1), .int 0, .ref (q 2), .ref (q 3), .ref (q 4), .ref (q 5), .ref (q 6), .ref (q 7), .ref (q 8), .ref (q 9), .ref (q 10)])), ((q 2), .inr (4, [.ref (qn 0), .ref (qn 1), .ref (qn 2), .int (-1), .int 0])), ((qn 0), .inr (2, [.int 0, .int 0, .int 0, .int 0, .ref (qn 3), .ref (qn 4), .ref (qn 5), .ref (qn 6), .ref (qn 7), .ref (qn 8), .int 0, .int 0, .int 0, .ref (qn 9), .ref (qn 10), .int 0, .int 0]))]) := hD
  obtain rfl : r_2 = 0 := hw
  refine lv_if_eq (tgt := 22) hx hb dX8_felled_11 (by decide) (fun _ => ?_) (fun h => absurd (by decide) h)
  refine lv_iconst (v := (-1)) hx hb dX8_felled_22 (by decide) ?_
  exact hc_end hx hb hr hlocks () rfl (hP.sub [] rfl) (hD.sub [] (by decide) rfl) hS dX8_felled_23
set_option maxHeartbeats 4000000 in
set_option maxRecDepth 100000 in
theorem c_X8_tall (l : Launch) (D : va_G) (k : Nat → ClassId) (sz : Nat) (h0 : Nat) (q qt qn i0 i1 i2 i3 : Nat → Nat) (x1 : Int32) : CtI l yX8_tall wsX8_tall (rmK 4 0 0) [.ref h0, .int x1] D k sz ([(h0, .inr (6, [.ref (q 0), .ref (q 1), .int 0, .ref (q 2), .ref (q 3), .ref (q 4), .ref (q 5), .ref (q 6), .ref (q 7), .ref (q 8), .ref (q 9), .ref (q 10)])), ((q 2), .inr (4, [.ref (qn 0), .ref (qn 1), .ref (qn 2), .int (-1), .int 0])), ((qn 0), .inr (2, [.int 0, .int 0, .int 0, .int 0, .ref (qn 3), .ref (qn 4), .ref (qn 5), .ref (qn 6), .ref (qn 7), .ref (qn 8), .int 0, .int 0, .int 0, .ref (qn 9), .ref (qn 10), .int 0, .int 0]))]) (fun (r : Int32) (_ : Unit) => r = (-1)) (fun _ : Unit => []) 0 0 := by
  refine CtI.mk (cc := cX8_tall) (maxL := 7) (ret := (some .int)) (by decide) rfl (Nat.le_of_ble_eq_true rfl) ?_
  intro p e s m below meth c A ls E hP hD hS hl
  obtain ⟨hx, hb, hr, hml, hown, hts, hlocks, hin, hG, hA⟩ := E
  have hown : s.vm.findClass RX8 = some m.cls := hown
  have in3 : ∀ w ∈ u_ws RX3 TX3 17, w ∈ wsX8_tall := fun _ h => List.mem_cons_of_mem _ (List.mem_append_right _ h)
  have in6 : ∀ w ∈ u_ws RX6 TX6 5, w ∈ wsX8_tall := fun _ h => List.mem_cons_of_mem _ (List.mem_append_left _ (List.mem_append_right _ h))
  have in8 : ∀ w ∈ u_ws RX8 TX8 12, w ∈ wsX8_tall := fun _ h => List.mem_cons_of_mem _ (List.mem_append_left _ (List.mem_append_left _ (List.mem_append_right _ h)))
  have hl : lv_has ls 7 [(0, .ref h0), (1, .int x1)] := hl
  refine lv_aload_n hx hb dX8_tall_0 rfl (lv_at hl 0 rfl) ?_
  refine va_get (D := D) (ci := 6) (v := .ref (q 2)) (C := RX8) (T := TX8) (N := 12) hx hb hts in8 hown hG.1 hP 0 rfl rfl 3 (by decide) (hts (.fieldLink RX8 29 "ChairCane" "now" "LChairCane$Standing;") (by decide +kernel)) (fun _ h9 => h9) rfl dX8_tall_1 ?_
  refine va_get (D := D) (ci := 4) (v := .ref (qn 0)) (C := RX6) (T := TX6) (N := 5) hx hb hts in6 hown hG.1 hP 1 rfl rfl 0 (by decide) (hts (.fieldLink RX8 81 "ChairCane$Standing" "room" "LChairCane$Room;") (by decide +kernel)) (fun _ h9 => h9) rfl dX8_tall_4 ?_
  refine lv_astore_n (lv' := [(2, .ref (qn 0)), (0, .ref h0), (1, .int x1)]) hx hb dX8_tall_7 rfl hl (by decide) rfl (fun ls hl => ?_)
  refine lv_aload_n hx hb dX8_tall_8 rfl (lv_at hl 0 rfl) ?_
  refine va_get (D := D) (ci := 2) (v := .int 0) (C := RX3) (T := TX3) (N := 17) hx hb hts in3 hown hG.1 hP 2 rfl rfl 0 (by decide) (hts (.fieldLink RX8 150 "ChairCane$Room" "told" "Z") (by decide +kernel)) (fun _ h9 => h9) rfl dX8_tall_9 ?_
  refine lv_if_eq (tgt := 24) hx hb dX8_tall_12 (by decide) (fun _ => ?_) (fun h => absurd (by decide) h)
  refine lv_iconst (v := (-1)) hx hb dX8_tall_24 (by decide) ?_
  exact hc_end hx hb hr hlocks () rfl (hP.sub [] rfl) (hD.sub [] (by decide) rfl) hS dX8_tall_25
set_option maxHeartbeats 4000000 in
set_option maxRecDepth 100000 in
theorem c_X8_ease (l : Launch) (D : va_G) (k : Nat → ClassId) (sz : Nat) (h0 : Nat) (q qt qn i0 i1 i2 i3 : Nat → Nat) (x1 : Int32) : CtI l yX8_ease wsX8_ease (rmK 4 0 0) [.ref h0, .int x1] D k sz ([(h0, .inr (6, [.ref (q 0), .ref (q 1), .int 0, .ref (q 2), .ref (q 3), .ref (q 4), .ref (q 5), .ref (q 6), .ref (q 7), .ref (q 8), .ref (q 9), .ref (q 10)])), ((q 2), .inr (4, [.ref (qn 0), .ref (qn 1), .ref (qn 2), .int (-1), .int 0])), ((qn 0), .inr (2, [.int 0, .int 0, .int 0, .int 0, .ref (qn 3), .ref (qn 4), .ref (qn 5), .ref (qn 6), .ref (qn 7), .ref (qn 8), .int 0, .int 0, .int 0, .ref (qn 9), .ref (qn 10), .int 0, .int 0]))]) (fun (r : Int32) (_ : Unit) => r = (-1)) (fun _ : Unit => []) 0 0 := by
  refine CtI.mk (cc := cX8_ease) (maxL := 7) (ret := (some .int)) (by decide) rfl (Nat.le_of_ble_eq_true rfl) ?_
  intro p e s m below meth c A ls E hP hD hS hl
  obtain ⟨hx, hb, hr, hml, hown, hts, hlocks, hin, hG, hA⟩ := E
  have hown : s.vm.findClass RX8 = some m.cls := hown
  have in3 : ∀ w ∈ u_ws RX3 TX3 17, w ∈ wsX8_ease := fun _ h => List.mem_cons_of_mem _ (List.mem_append_right _ h)
  have in6 : ∀ w ∈ u_ws RX6 TX6 5, w ∈ wsX8_ease := fun _ h => List.mem_cons_of_mem _ (List.mem_append_left _ (List.mem_append_right _ h))
  have in8 : ∀ w ∈ u_ws RX8 TX8 12, w ∈ wsX8_ease := fun _ h => List.mem_cons_of_mem _ (List.mem_append_left _ (List.mem_append_left _ (List.mem_append_right _ h)))
  have hl : lv_has ls 7 [(0, .ref h0), (1, .int x1)] := hl
  refine lv_aload_n hx hb dX8_ease_0 rfl (lv_at hl 0 rfl) ?_
  refine va_get (D := D) (ci := 6) (v := .ref (q 2)) (C := RX8) (T := TX8) (N := 12) hx hb hts in8 hown hG.1 hP 0 rfl rfl 3 (by decide) (hts (.fieldLink RX8 29 "ChairCane" "now" "LChairCane$Standing;") (by decide +kernel)) (fun _ h9 => h9) rfl dX8_ease_1 ?_
  refine va_get (D := D) (ci := 4) (v := .ref (qn 0)) (C := RX6) (T := TX6) (N := 5) hx hb hts in6 hown hG.1 hP 1 rfl rfl 0 (by decide) (hts (.fieldLink RX8 81 "ChairCane$Standing" "room" "LChairCane$Room;") (by decide +kernel)) (fun _ h9 => h9) rfl dX8_ease_4 ?_
  refine lv_astore_n (lv' := [(2, .ref (qn 0)), (0, .ref h0), (1, .int x1)]) hx hb dX8_ease_7 rfl hl (by decide) rfl (fun ls hl => ?_)
  refine lv_aload_n hx hb dX8_ease_8 rfl (lv_at hl 0 rfl) ?_
  refine va_get (D := D) (ci := 2) (v := .int 0) (C := RX3) (T := TX3) (N := 17) hx hb hts in3 hown hG.1 hP 2 rfl rfl 0 (by decide) (hts (.fieldLink RX8 150 "ChairCane$Room" "told" "Z") (by decide +kernel)) (fun _ h9 => h9) rfl dX8_ease_9 ?_
  refine lv_if_eq (tgt := 24) hx hb dX8_ease_12 (by decide) (fun _ => ?_) (fun h => absurd (by decide) h)
  refine lv_iconst (v := (-1)) hx hb dX8_ease_24 (by decide) ?_
  exact hc_end hx hb hr hlocks () rfl (hP.sub [] rfl) (hD.sub [] (by decide) rfl) hS dX8_ease_25
set_option maxHeartbeats 4000000 in
set_option maxRecDepth 100000 in
theorem c_X8_way (l : Launch) (D : va_G) (k : Nat → ClassId) (sz : Nat) (h0 : Nat) (q qt qn i0 i1 i2 i3 : Nat → Nat) (x1 : Int32) : CtI l yX8_way wsX8_way (rmK 4 0 0) [.ref h0, .int x1] D k sz ([(h0, .inr (6, [.ref (q 0), .ref (q 1), .int 0, .ref (q 2), .ref (q 3), .ref (q 4), .ref (q 5), .ref (q 6), .ref (q 7), .ref (q 8), .ref (q 9), .ref (q 10)])), ((q 2), .inr (4, [.ref (qn 0), .ref (qn 1), .ref (qn 2), .int (-1), .int 0])), ((qn 0), .inr (2, [.int 0, .int 0, .int 0, .int 0, .ref (qn 3), .ref (qn 4), .ref (qn 5), .ref (qn 6), .ref (qn 7), .ref (qn 8), .int 0, .int 0, .int 0, .ref (qn 9), .ref (qn 10), .int 0, .int 0]))]) (fun (r : Int32) (_ : Unit) => r = (-3)) (fun _ : Unit => []) 0 0 := by
  refine CtI.mk (cc := cX8_way) (maxL := 6) (ret := (some .int)) (by decide) rfl (Nat.le_of_ble_eq_true rfl) ?_
  intro p e s m below meth c A ls E hP hD hS hl
  obtain ⟨hx, hb, hr, hml, hown, hts, hlocks, hin, hG, hA⟩ := E
  have hown : s.vm.findClass RX8 = some m.cls := hown
  have in3 : ∀ w ∈ u_ws RX3 TX3 17, w ∈ wsX8_way := fun _ h => List.mem_cons_of_mem _ (List.mem_append_right _ h)
  have in6 : ∀ w ∈ u_ws RX6 TX6 5, w ∈ wsX8_way := fun _ h => List.mem_cons_of_mem _ (List.mem_append_left _ (List.mem_append_right _ h))
  have in8 : ∀ w ∈ u_ws RX8 TX8 12, w ∈ wsX8_way := fun _ h => List.mem_cons_of_mem _ (List.mem_append_left _ (List.mem_append_left _ (List.mem_append_right _ h)))
  have hl : lv_has ls 6 [(0, .ref h0), (1, .int x1)] := hl
  refine lv_aload_n hx hb dX8_way_0 rfl (lv_at hl 0 rfl) ?_
  refine va_get (D := D) (ci := 6) (v := .ref (q 2)) (C := RX8) (T := TX8) (N := 12) hx hb hts in8 hown hG.1 hP 0 rfl rfl 3 (by decide) (hts (.fieldLink RX8 29 "ChairCane" "now" "LChairCane$Standing;") (by decide +kernel)) (fun _ h9 => h9) rfl dX8_way_1 ?_
  refine va_get (D := D) (ci := 4) (v := .ref (qn 0)) (C := RX6) (T := TX6) (N := 5) hx hb hts in6 hown hG.1 hP 1 rfl rfl 0 (by decide) (hts (.fieldLink RX8 81 "ChairCane$Standing" "room" "LChairCane$Room;") (by decide +kernel)) (fun _ h9 => h9) rfl dX8_way_4 ?_
  refine lv_astore_n (lv' := [(2, .ref (qn 0)), (0, .ref h0), (1, .int x1)]) hx hb dX8_way_7 rfl hl (by decide) rfl (fun ls hl => ?_)
  refine lv_aload_n hx hb dX8_way_8 rfl (lv_at hl 0 rfl) ?_
  refine va_get (D := D) (ci := 2) (v := .int 0) (C := RX3) (T := TX3) (N := 17) hx hb hts in3 hown hG.1 hP 2 rfl rfl 0 (by decide) (hts (.fieldLink RX8 150 "ChairCane$Room" "told" "Z") (by decide +kernel)) (fun _ h9 => h9) rfl dX8_way_9 ?_
  refine lv_if_eq (tgt := 25) hx hb dX8_way_12 (by decide) (fun _ => ?_) (fun h => absurd (by decide) h)
  refine lv_bipush (v := (-3)) hx hb dX8_way_25 (by decide) ?_
  exact hc_end hx hb hr hlocks () rfl (hP.sub [] rfl) (hD.sub [] (by decide) rfl) hS dX8_way_27
set_option maxHeartbeats 4000000 in
set_option maxRecDepth 100000 in
theorem c_X8_most (l : Launch) (D : va_G) (k : Nat → ClassId) (sz : Nat) (h0 : Nat) (q qt qn i0 i1 i2 i3 : Nat → Nat) (x1 : Int32) : CtI l yX8_most wsX8_most (rmK 4 0 0) [.ref h0, .int x1] D k sz ([(h0, .inr (6, [.ref (q 0), .ref (q 1), .int 0, .ref (q 2), .ref (q 3), .ref (q 4), .ref (q 5), .ref (q 6), .ref (q 7), .ref (q 8), .ref (q 9), .ref (q 10)])), ((q 2), .inr (4, [.ref (qn 0), .ref (qn 1), .ref (qn 2), .int (-1), .int 0])), ((qn 0), .inr (2, [.int 0, .int 0, .int 0, .int 0, .ref (qn 3), .ref (qn 4), .ref (qn 5), .ref (qn 6), .ref (qn 7), .ref (qn 8), .int 0, .int 0, .int 0, .ref (qn 9), .ref (qn 10), .int 0, .int 0]))]) (fun (r : Int32) (_ : Unit) => r = (-1)) (fun _ : Unit => []) 0 0 := by
  refine CtI.mk (cc := cX8_most) (maxL := 3) (ret := (some .int)) (by decide) rfl (Nat.le_of_ble_eq_true rfl) ?_
  intro p e s m below meth c A ls E hP hD hS hl
  obtain ⟨hx, hb, hr, hml, hown, hts, hlocks, hin, hG, hA⟩ := E
  have hown : s.vm.findClass RX8 = some m.cls := hown
  have in3 : ∀ w ∈ u_ws RX3 TX3 17, w ∈ wsX8_most := fun _ h => List.mem_cons_of_mem _ (List.mem_append_right _ h)
  have in6 : ∀ w ∈ u_ws RX6 TX6 5, w ∈ wsX8_most := fun _ h => List.mem_cons_of_mem _ (List.mem_append_left _ (List.mem_append_right _ h))
  have in8 : ∀ w ∈ u_ws RX8 TX8 12, w ∈ wsX8_most := fun _ h => List.mem_cons_of_mem _ (List.mem_append_left _ (List.mem_append_left _ (List.mem_append_right _ h)))
  have hl : lv_has ls 3 [(0, .ref h0), (1, .int x1)] := hl
  refine lv_aload_n hx hb dX8_most_0 rfl (lv_at hl 0 rfl) ?_
  refine va_get (D := D) (ci := 6) (v := .ref (q 2)) (C := RX8) (T := TX8) (N := 12) hx hb hts in8 hown hG.1 hP 0 rfl rfl 3 (by decide) (hts (.fieldLink RX8 29 "ChairCane" "now" "LChairCane$Standing;") (by decide +kernel)) (fun _ h9 => h9) rfl dX8_most_1 ?_
  refine va_get (D := D) (ci := 4) (v := .ref (qn 0)) (C := RX6) (T := TX6) (N := 5) hx hb hts in6 hown hG.1 hP 1 rfl rfl 0 (by decide) (hts (.fieldLink RX8 81 "ChairCane$Standing" "room" "LChairCane$Room;") (by decide +kernel)) (fun _ h9 => h9) rfl dX8_most_4 ?_
  refine lv_iload_n hx hb dX8_most_7 rfl (lv_at hl 1 rfl) ?_
  refine hc_Vi (As := [.int x1]) (rest := []) (n := 1) (wr := [(h0, .inr (6, [.ref (q 0), .ref (q 1), .int 0, .ref (q 2), .ref (q 3), .ref (q 4), .ref (q 5), .ref (q 6), .ref (q 7), .ref (q 8), .ref (q 9), .ref (q 10)])), ((q 2), .inr (4, [.ref (qn 0), .ref (qn 1), .ref (qn 2), .int (-1), .int 0]))]) hx hb hml hown hts hG hA hP hD hS hl.1 [2] [0, 1] (c_X3_hasStrand l D k _ (qn 0) (qn 3) (qn 4) (qn 5) (qn 6) (qn 7) (qn 8) (qn 9) (qn 10) x1) (ci := 2) (q0 := 2) rfl rfl gX8_most_X3_hasStrand rfl ⟨rfl, rfl, Nat.le_of_ble_eq_true rfl, Nat.le_of_ble_eq_true rfl⟩ (by decide +kernel) rfl rfl ⟨by decide, by decide, by decide⟩ ⟨rfl, rfl, Nat.le_of_ble_eq_true rfl, Nat.le_of_ble_eq_true rfl, Nat.le_of_ble_eq_true rfl⟩ dX8_most_8 (fun r_2 u_1 H locs hw hP hD hS => ?_)
  have hP : va_P D vwCl ([(h0, .inr (6, [.ref (q 0), .ref (q 1), .int 0, .ref (q 2), .ref (q 3), .ref (q 4), .ref (q 5), .ref (q 6), .ref (q 7), .ref (q 8), .ref (q 9), .ref (q 10)])), ((q 2), .inr (4, [.ref (qn 0), .ref (qn 1), .ref (qn 2), .int (-1), .int 0])), ((qn 0), .inr (2, [.int 0, .int 0, .int 0, .int 0, .ref (qn 3), .ref (qn 4), .ref (qn 5), .ref (qn 6), .ref (qn 7), .ref (qn 8), .int 0, .int 0, .int 0, .ref (qn 9), .ref (qn 10), .int 0, .int 0]))]) H := hP
  have hD : va_D A ([(h0, .inr (6, [.ref (q 0), .ref (q 1), .int 0, .ref (q 2), .ref (q 3), .ref (q 4), .ref (q 5), .ref (q 6), .ref (q 7), .ref (q 8), .ref (q 9), .ref (q 10)])), ((q 2), .inr (4, [.ref (qn 0), .ref (qn 1), .ref (qn 2), .int (-1), .int 0])), ((qn 0), .inr (2, [.int 0, .int 0, .int 0, .int 0, .ref (qn 3), .ref (qn 4), .ref (qn 5), .ref (qn 6), .ref (qn 7), .ref (qn 8), .int 0, .int 0, .int 0, .ref (qn 9), .ref (qn 10), .int 0, .int 0]))]) := hD
  obtain rfl : r_2 = 0 := hw
  refine lv_if_ne (tgt := 16) hx hb dX8_most_11 (by decide) (fun h => absurd h (by decide)) (fun _ => ?_)
  refine lv_iconst (v := (-1)) hx hb dX8_most_14 (by decide) ?_
  exact hc_end hx hb hr hlocks () rfl (hP.sub [] rfl) (hD.sub [] (by decide) rfl) hS dX8_most_15
set_option maxHeartbeats 4000000 in
set_option maxRecDepth 100000 in
theorem c_X8_heavy (l : Launch) (D : va_G) (k : Nat → ClassId) (sz : Nat) (h0 : Nat) (q qt qn i0 i1 i2 i3 : Nat → Nat) (x1 x2 : Int32) : CtI l yX8_heavy wsX8_heavy (rmK 4 0 0) [.ref h0, .int x1, .int x2] D k sz ([(h0, .inr (6, [.ref (q 0), .ref (q 1), .int 0, .ref (q 2), .ref (q 3), .ref (q 4), .ref (q 5), .ref (q 6), .ref (q 7), .ref (q 8), .ref (q 9), .ref (q 10)])), ((q 2), .inr (4, [.ref (qn 0), .ref (qn 1), .ref (qn 2), .int (-1), .int 0])), ((qn 0), .inr (2, [.int 0, .int 0, .int 0, .int 0, .ref (qn 3), .ref (qn 4), .ref (qn 5), .ref (qn 6), .ref (qn 7), .ref (qn 8), .int 0, .int 0, .int 0, .ref (qn 9), .ref (qn 10), .int 0, .int 0]))]) (fun (r : Int32) (_ : Unit) => r = (-1)) (fun _ : Unit => []) 0 0 := by
  refine CtI.mk (cc := cX8_heavy) (maxL := 7) (ret := (some .int)) (by decide) rfl (Nat.le_of_ble_eq_true rfl) ?_
  intro p e s m below meth c A ls E hP hD hS hl
  obtain ⟨hx, hb, hr, hml, hown, hts, hlocks, hin, hG, hA⟩ := E
  have hown : s.vm.findClass RX8 = some m.cls := hown
  have in3 : ∀ w ∈ u_ws RX3 TX3 17, w ∈ wsX8_heavy := fun _ h => List.mem_cons_of_mem _ (List.mem_append_right _ h)
  have in6 : ∀ w ∈ u_ws RX6 TX6 5, w ∈ wsX8_heavy := fun _ h => List.mem_cons_of_mem _ (List.mem_append_left _ (List.mem_append_right _ h))
  have in8 : ∀ w ∈ u_ws RX8 TX8 12, w ∈ wsX8_heavy := fun _ h => List.mem_cons_of_mem _ (List.mem_append_left _ (List.mem_append_left _ (List.mem_append_right _ h)))
  have hl : lv_has ls 7 [(0, .ref h0), (1, .int x1), (2, .int x2)] := hl
  refine lv_aload_n hx hb dX8_heavy_0 rfl (lv_at hl 0 rfl) ?_
  refine va_get (D := D) (ci := 6) (v := .ref (q 2)) (C := RX8) (T := TX8) (N := 12) hx hb hts in8 hown hG.1 hP 0 rfl rfl 3 (by decide) (hts (.fieldLink RX8 29 "ChairCane" "now" "LChairCane$Standing;") (by decide +kernel)) (fun _ h9 => h9) rfl dX8_heavy_1 ?_
  refine va_get (D := D) (ci := 4) (v := .ref (qn 0)) (C := RX6) (T := TX6) (N := 5) hx hb hts in6 hown hG.1 hP 1 rfl rfl 0 (by decide) (hts (.fieldLink RX8 81 "ChairCane$Standing" "room" "LChairCane$Room;") (by decide +kernel)) (fun _ h9 => h9) rfl dX8_heavy_4 ?_
  refine lv_astore_n (lv' := [(3, .ref (qn 0)), (0, .ref h0), (1, .int x1), (2, .int x2)]) hx hb dX8_heavy_7 rfl hl (by decide) rfl (fun ls hl => ?_)
  refine lv_aload_n hx hb dX8_heavy_8 rfl (lv_at hl 0 rfl) ?_
  refine lv_iload_n hx hb dX8_heavy_9 rfl (lv_at hl 2 rfl) ?_
  refine hc_Vi (As := [.int x1]) (rest := []) (n := 1) (wr := [(h0, .inr (6, [.ref (q 0), .ref (q 1), .int 0, .ref (q 2), .ref (q 3), .ref (q 4), .ref (q 5), .ref (q 6), .ref (q 7), .ref (q 8), .ref (q 9), .ref (q 10)])), ((q 2), .inr (4, [.ref (qn 0), .ref (qn 1), .ref (qn 2), .int (-1), .int 0]))]) hx hb hml hown hts hG hA hP hD hS hl.1 [2] [0, 1] (c_X3_isUp l D k _ (qn 0) (qn 3) (qn 4) (qn 5) (qn 6) (qn 7) (qn 8) (qn 9) (qn 10) x1) (ci := 2) (q0 := 2) rfl rfl gX8_heavy_X3_isUp rfl ⟨rfl, rfl, Nat.le_of_ble_eq_true rfl, Nat.le_of_ble_eq_true rfl⟩ (by decide +kernel) rfl rfl ⟨by decide, by decide, by decide⟩ ⟨rfl, rfl, Nat.le_of_ble_eq_true rfl, Nat.le_of_ble_eq_true rfl, Nat.le_of_ble_eq_true rfl⟩ dX8_heavy_10 (fun r_2 u_1 H locs hw hP hD hS => ?_)
  have hP : va_P D vwCl ([(h0, .inr (6, [.ref (q 0), .ref (q 1), .int 0, .ref (q 2), .ref (q 3), .ref (q 4), .ref (q 5), .ref (q 6), .ref (q 7), .ref (q 8), .ref (q 9), .ref (q 10)])), ((q 2), .inr (4, [.ref (qn 0), .ref (qn 1), .ref (qn 2), .int (-1), .int 0])), ((qn 0), .inr (2, [.int 0, .int 0, .int 0, .int 0, .ref (qn 3), .ref (qn 4), .ref (qn 5), .ref (qn 6), .ref (qn 7), .ref (qn 8), .int 0, .int 0, .int 0, .ref (qn 9), .ref (qn 10), .int 0, .int 0]))]) H := hP
  have hD : va_D A ([(h0, .inr (6, [.ref (q 0), .ref (q 1), .int 0, .ref (q 2), .ref (q 3), .ref (q 4), .ref (q 5), .ref (q 6), .ref (q 7), .ref (q 8), .ref (q 9), .ref (q 10)])), ((q 2), .inr (4, [.ref (qn 0), .ref (qn 1), .ref (qn 2), .int (-1), .int 0])), ((qn 0), .inr (2, [.int 0, .int 0, .int 0, .int 0, .ref (qn 3), .ref (qn 4), .ref (qn 5), .ref (qn 6), .ref (qn 7), .ref (qn 8), .int 0, .int 0, .int 0, .ref (qn 9), .ref (qn 10), .int 0, .int 0]))]) := hD
  obtain rfl : r_2 = 0 := hw
  refine lv_if_eq (tgt := 25) hx hb dX8_heavy_13 (by decide) (fun _ => ?_) (fun h => absurd (by decide) h)
  refine lv_iconst (v := (-1)) hx hb dX8_heavy_25 (by decide) ?_
  exact hc_end hx hb hr hlocks () rfl (hP.sub [] rfl) (hD.sub [] (by decide) rfl) hS dX8_heavy_26
set_option maxHeartbeats 4000000 in
set_option maxRecDepth 100000 in
theorem c_X8_strung (l : Launch) (D : va_G) (k : Nat → ClassId) (sz : Nat) (h0 : Nat) (q qt qn i0 i1 i2 i3 : Nat → Nat) (x1 : Int32) : CtI l yX8_strung wsX8_strung (rmK 4 0 0) [.ref h0, .int x1] D k sz ([(h0, .inr (6, [.ref (q 0), .ref (q 1), .int 0, .ref (q 2), .ref (q 3), .ref (q 4), .ref (q 5), .ref (q 6), .ref (q 7), .ref (q 8), .ref (q 9), .ref (q 10)])), ((q 2), .inr (4, [.ref (qn 0), .ref (qn 1), .ref (qn 2), .int (-1), .int 0])), ((qn 0), .inr (2, [.int 0, .int 0, .int 0, .int 0, .ref (qn 3), .ref (qn 4), .ref (qn 5), .ref (qn 6), .ref (qn 7), .ref (qn 8), .int 0, .int 0, .int 0, .ref (qn 9), .ref (qn 10), .int 0, .int 0]))]) (fun (r : Int32) (_ : Unit) => r = (-1)) (fun _ : Unit => []) 0 0 := by
  refine CtI.mk (cc := cX8_strung) (maxL := 5) (ret := (some .int)) (by decide) rfl (Nat.le_of_ble_eq_true rfl) ?_
  intro p e s m below meth c A ls E hP hD hS hl
  obtain ⟨hx, hb, hr, hml, hown, hts, hlocks, hin, hG, hA⟩ := E
  have hown : s.vm.findClass RX8 = some m.cls := hown
  have in2 : ∀ w ∈ u_ws RX2 TX2 4, w ∈ wsX8_strung := fun _ h => List.mem_cons_of_mem _ (List.mem_append_left _ (List.mem_append_right _ h))
  have in3 : ∀ w ∈ u_ws RX3 TX3 17, w ∈ wsX8_strung := fun _ h => List.mem_cons_of_mem _ (List.mem_append_left _ (List.mem_append_left _ (List.mem_append_right _ h)))
  have in4 : ∀ w ∈ u_ws RX4 TX4 8, w ∈ wsX8_strung := fun _ h => List.mem_cons_of_mem _ (List.mem_append_right _ h)
  have in6 : ∀ w ∈ u_ws RX6 TX6 5, w ∈ wsX8_strung := fun _ h => List.mem_cons_of_mem _ (List.mem_append_left _ (List.mem_append_left _ (List.mem_append_left _ (List.mem_append_right _ h))))
  have in8 : ∀ w ∈ u_ws RX8 TX8 12, w ∈ wsX8_strung := fun _ h => List.mem_cons_of_mem _ (List.mem_append_left _ (List.mem_append_left _ (List.mem_append_left _ (List.mem_append_left _ (List.mem_append_right _ h)))))
  have hl : lv_has ls 5 [(0, .ref h0), (1, .int x1)] := hl
  refine lv_aload_n hx hb dX8_strung_0 rfl (lv_at hl 0 rfl) ?_
  refine va_get (D := D) (ci := 6) (v := .ref (q 2)) (C := RX8) (T := TX8) (N := 12) hx hb hts in8 hown hG.1 hP 0 rfl rfl 3 (by decide) (hts (.fieldLink RX8 29 "ChairCane" "now" "LChairCane$Standing;") (by decide +kernel)) (fun _ h9 => h9) rfl dX8_strung_1 ?_
  refine va_get (D := D) (ci := 4) (v := .ref (qn 0)) (C := RX6) (T := TX6) (N := 5) hx hb hts in6 hown hG.1 hP 1 rfl rfl 0 (by decide) (hts (.fieldLink RX8 81 "ChairCane$Standing" "room" "LChairCane$Room;") (by decide +kernel)) (fun _ h9 => h9) rfl dX8_strung_4 ?_
  refine lv_astore_n (lv' := [(2, .ref (qn 0)), (0, .ref h0), (1, .int x1)]) hx hb dX8_strung_7 rfl hl (by decide) rfl (fun ls hl => ?_)
  refine lv_aload_n hx hb dX8_strung_8 rfl (lv_at hl 0 rfl) ?_
  refine lv_iload_n hx hb dX8_strung_9 rfl (lv_at hl 2 rfl) ?_
  refine hc_Vi (As := [.int x1]) (rest := []) (n := 1) (wr := [(h0, .inr (6, [.ref (q 0), .ref (q 1), .int 0, .ref (q 2), .ref (q 3), .ref (q 4), .ref (q 5), .ref (q 6), .ref (q 7), .ref (q 8), .ref (q 9), .ref (q 10)])), ((q 2), .inr (4, [.ref (qn 0), .ref (qn 1), .ref (qn 2), .int (-1), .int 0]))]) hx hb hml hown hts hG hA hP hD hS hl.1 [2] [0, 1] (c_X3_hasChair l D k _ (qn 0) (qn 3) (qn 4) (qn 5) (qn 6) (qn 7) (qn 8) (qn 9) (qn 10) x1) (ci := 2) (q0 := 2) rfl rfl gX8_strung_X3_hasChair rfl ⟨rfl, rfl, Nat.le_of_ble_eq_true rfl, Nat.le_of_ble_eq_true rfl⟩ (by decide +kernel) rfl rfl ⟨by decide, by decide, by decide⟩ ⟨rfl, rfl, Nat.le_of_ble_eq_true rfl, Nat.le_of_ble_eq_true rfl, Nat.le_of_ble_eq_true rfl⟩ dX8_strung_10 (fun r_2 u_1 H locs hw hP hD hS => ?_)
  have hP : va_P D vwCl ([(h0, .inr (6, [.ref (q 0), .ref (q 1), .int 0, .ref (q 2), .ref (q 3), .ref (q 4), .ref (q 5), .ref (q 6), .ref (q 7), .ref (q 8), .ref (q 9), .ref (q 10)])), ((q 2), .inr (4, [.ref (qn 0), .ref (qn 1), .ref (qn 2), .int (-1), .int 0])), ((qn 0), .inr (2, [.int 0, .int 0, .int 0, .int 0, .ref (qn 3), .ref (qn 4), .ref (qn 5), .ref (qn 6), .ref (qn 7), .ref (qn 8), .int 0, .int 0, .int 0, .ref (qn 9), .ref (qn 10), .int 0, .int 0]))]) H := hP
  have hD : va_D A ([(h0, .inr (6, [.ref (q 0), .ref (q 1), .int 0, .ref (q 2), .ref (q 3), .ref (q 4), .ref (q 5), .ref (q 6), .ref (q 7), .ref (q 8), .ref (q 9), .ref (q 10)])), ((q 2), .inr (4, [.ref (qn 0), .ref (qn 1), .ref (qn 2), .int (-1), .int 0])), ((qn 0), .inr (2, [.int 0, .int 0, .int 0, .int 0, .ref (qn 3), .ref (qn 4), .ref (qn 5), .ref (qn 6), .ref (qn 7), .ref (qn 8), .int 0, .int 0, .int 0, .ref (qn 9), .ref (qn 10), .int 0, .int 0]))]) := hD
  obtain rfl : r_2 = 0 := hw
  refine lv_if_ne (tgt := 18) hx hb dX8_strung_13 (by decide) (fun h => absurd h (by decide)) (fun _ => ?_)
  refine lv_iconst (v := (-1)) hx hb dX8_strung_16 (by decide) ?_
  exact hc_end hx hb hr hlocks () rfl (hP.sub [] rfl) (hD.sub [] (by decide) rfl) hS dX8_strung_17
set_option maxHeartbeats 4000000 in
set_option maxRecDepth 100000 in
theorem c_X8_rests (l : Launch) (D : va_G) (k : Nat → ClassId) (sz : Nat) (h0 : Nat) (q qt qn i0 i1 i2 i3 : Nat → Nat) (x1 x2 x3 x4 : Int32) : CtI l yX8_rests wsX8_rests (rmK 4 0 0) [.ref h0, .int x1, .int x2, .int x3, .int x4] D k sz ([(h0, .inr (6, [.ref (q 0), .ref (q 1), .int 0, .ref (q 2), .ref (q 3), .ref (q 4), .ref (q 5), .ref (q 6), .ref (q 7), .ref (q 8), .ref (q 9), .ref (q 10)])), ((q 2), .inr (4, [.ref (qn 0), .ref (qn 1), .ref (qn 2), .int (-1), .int 0])), ((qn 0), .inr (2, [.int 0, .int 0, .int 0, .int 0, .ref (qn 3), .ref (qn 4), .ref (qn 5), .ref (qn 6), .ref (qn 7), .ref (qn 8), .int 0, .int 0, .int 0, .ref (qn 9), .ref (qn 10), .int 0, .int 0]))]) (fun (r : Int32) (_ : Unit) => r = (-1)) (fun _ : Unit => []) 0 0 := by
  refine CtI.mk (cc := cX8_rests) (maxL := 9) (ret := (some .int)) (by decide) rfl (Nat.le_of_ble_eq_true rfl) ?_
  intro p e s m below meth c A ls E hP hD hS hl
  obtain ⟨hx, hb, hr, hml, hown, hts, hlocks, hin, hG, hA⟩ := E
  have hown : s.vm.findClass RX8 = some m.cls := hown
  have in3 : ∀ w ∈ u_ws RX3 TX3 17, w ∈ wsX8_rests := fun _ h => List.mem_cons_of_mem _ (List.mem_append_left _ (List.mem_append_right _ h))
  have in4 : ∀ w ∈ u_ws RX4 TX4 8, w ∈ wsX8_rests := fun _ h => List.mem_cons_of_mem _ (List.mem_append_right _ h)
  have in6 : ∀ w ∈ u_ws RX6 TX6 5, w ∈ wsX8_rests := fun _ h => List.mem_cons_of_mem _ (List.mem_append_left _ (List.mem_append_left _ (List.mem_append_right _ h)))
  have in8 : ∀ w ∈ u_ws RX8 TX8 12, w ∈ wsX8_rests := fun _ h => List.mem_cons_of_mem _ (List.mem_append_left _ (List.mem_append_left _ (List.mem_append_left _ (List.mem_append_right _ h))))
  have hl : lv_has ls 9 [(0, .ref h0), (1, .int x1), (2, .int x2), (3, .int x3), (4, .int x4)] := hl
  refine lv_aload_n hx hb dX8_rests_0 rfl (lv_at hl 0 rfl) ?_
  refine va_get (D := D) (ci := 6) (v := .ref (q 2)) (C := RX8) (T := TX8) (N := 12) hx hb hts in8 hown hG.1 hP 0 rfl rfl 3 (by decide) (hts (.fieldLink RX8 29 "ChairCane" "now" "LChairCane$Standing;") (by decide +kernel)) (fun _ h9 => h9) rfl dX8_rests_1 ?_
  refine va_get (D := D) (ci := 4) (v := .ref (qn 0)) (C := RX6) (T := TX6) (N := 5) hx hb hts in6 hown hG.1 hP 1 rfl rfl 0 (by decide) (hts (.fieldLink RX8 81 "ChairCane$Standing" "room" "LChairCane$Room;") (by decide +kernel)) (fun _ h9 => h9) rfl dX8_rests_4 ?_
  refine lv_astore (lv' := [(5, .ref (qn 0)), (0, .ref h0), (1, .int x1), (2, .int x2), (3, .int x3), (4, .int x4)]) hx hb dX8_rests_7 hl (by decide) rfl (fun ls hl => ?_)
  refine lv_aload hx hb dX8_rests_9 (lv_at hl 0 rfl) ?_
  refine lv_iload_n hx hb dX8_rests_11 rfl (lv_at hl 2 rfl) ?_
  refine hc_Vi (As := [.int x1]) (rest := []) (n := 1) (wr := [(h0, .inr (6, [.ref (q 0), .ref (q 1), .int 0, .ref (q 2), .ref (q 3), .ref (q 4), .ref (q 5), .ref (q 6), .ref (q 7), .ref (q 8), .ref (q 9), .ref (q 10)])), ((q 2), .inr (4, [.ref (qn 0), .ref (qn 1), .ref (qn 2), .int (-1), .int 0]))]) hx hb hml hown hts hG hA hP hD hS hl.1 [2] [0, 1] (c_X3_isUp l D k _ (qn 0) (qn 3) (qn 4) (qn 5) (qn 6) (qn 7) (qn 8) (qn 9) (qn 10) x1) (ci := 2) (q0 := 2) rfl rfl gX8_rests_X3_isUp rfl ⟨rfl, rfl, Nat.le_of_ble_eq_true rfl, Nat.le_of_ble_eq_true rfl⟩ (by decide +kernel) rfl rfl ⟨by decide, by decide, by decide⟩ ⟨rfl, rfl, Nat.le_of_ble_eq_true rfl, Nat.le_of_ble_eq_true rfl, Nat.le_of_ble_eq_true rfl⟩ dX8_rests_12 (fun r_2 u_1 H locs hw hP hD hS => ?_)
  have hP : va_P D vwCl ([(h0, .inr (6, [.ref (q 0), .ref (q 1), .int 0, .ref (q 2), .ref (q 3), .ref (q 4), .ref (q 5), .ref (q 6), .ref (q 7), .ref (q 8), .ref (q 9), .ref (q 10)])), ((q 2), .inr (4, [.ref (qn 0), .ref (qn 1), .ref (qn 2), .int (-1), .int 0])), ((qn 0), .inr (2, [.int 0, .int 0, .int 0, .int 0, .ref (qn 3), .ref (qn 4), .ref (qn 5), .ref (qn 6), .ref (qn 7), .ref (qn 8), .int 0, .int 0, .int 0, .ref (qn 9), .ref (qn 10), .int 0, .int 0]))]) H := hP
  have hD : va_D A ([(h0, .inr (6, [.ref (q 0), .ref (q 1), .int 0, .ref (q 2), .ref (q 3), .ref (q 4), .ref (q 5), .ref (q 6), .ref (q 7), .ref (q 8), .ref (q 9), .ref (q 10)])), ((q 2), .inr (4, [.ref (qn 0), .ref (qn 1), .ref (qn 2), .int (-1), .int 0])), ((qn 0), .inr (2, [.int 0, .int 0, .int 0, .int 0, .ref (qn 3), .ref (qn 4), .ref (qn 5), .ref (qn 6), .ref (qn 7), .ref (qn 8), .int 0, .int 0, .int 0, .ref (qn 9), .ref (qn 10), .int 0, .int 0]))]) := hD
  obtain rfl : r_2 = 0 := hw
  refine lv_if_eq (tgt := 32) hx hb dX8_rests_15 (by decide) (fun _ => ?_) (fun h => absurd (by decide) h)
  refine lv_iconst (v := (-1)) hx hb dX8_rests_32 (by decide) ?_
  exact hc_end hx hb hr hlocks () rfl (hP.sub [] rfl) (hD.sub [] (by decide) rfl) hS dX8_rests_33
set_option maxHeartbeats 4000000 in
set_option maxRecDepth 100000 in
theorem c_X8_ring (l : Launch) (D : va_G) (k : Nat → ClassId) (sz : Nat) (h0 : Nat) (q qt qn i0 i1 i2 i3 : Nat → Nat) (x1 : Int32) : CtI l yX8_ring wsX8_ring (rmK 4 0 0) [.ref h0, .int x1] D k sz ([(h0, .inr (6, [.ref (q 0), .ref (q 1), .int 0, .ref (q 2), .ref (q 3), .ref (q 4), .ref (q 5), .ref (q 6), .ref (q 7), .ref (q 8), .ref (q 9), .ref (q 10)])), ((q 2), .inr (4, [.ref (qn 0), .ref (qn 1), .ref (qn 2), .int (-1), .int 0])), ((qn 0), .inr (2, [.int 0, .int 0, .int 0, .int 0, .ref (qn 3), .ref (qn 4), .ref (qn 5), .ref (qn 6), .ref (qn 7), .ref (qn 8), .int 0, .int 0, .int 0, .ref (qn 9), .ref (qn 10), .int 0, .int 0]))]) (fun (r : Int32) (_ : Unit) => r = (-1)) (fun _ : Unit => []) 0 0 := by
  refine CtI.mk (cc := cX8_ring) (maxL := 4) (ret := (some .int)) (by decide) rfl (Nat.le_of_ble_eq_true rfl) ?_
  intro p e s m below meth c A ls E hP hD hS hl
  obtain ⟨hx, hb, hr, hml, hown, hts, hlocks, hin, hG, hA⟩ := E
  have hown : s.vm.findClass RX8 = some m.cls := hown
  have in3 : ∀ w ∈ u_ws RX3 TX3 17, w ∈ wsX8_ring := fun _ h => List.mem_cons_of_mem _ (List.mem_append_left _ (List.mem_append_right _ h))
  have in4 : ∀ w ∈ u_ws RX4 TX4 8, w ∈ wsX8_ring := fun _ h => List.mem_cons_of_mem _ (List.mem_append_right _ h)
  have in6 : ∀ w ∈ u_ws RX6 TX6 5, w ∈ wsX8_ring := fun _ h => List.mem_cons_of_mem _ (List.mem_append_left _ (List.mem_append_left _ (List.mem_append_right _ h)))
  have in8 : ∀ w ∈ u_ws RX8 TX8 12, w ∈ wsX8_ring := fun _ h => List.mem_cons_of_mem _ (List.mem_append_left _ (List.mem_append_left _ (List.mem_append_left _ (List.mem_append_right _ h))))
  have hl : lv_has ls 4 [(0, .ref h0), (1, .int x1)] := hl
  refine lv_aload_n hx hb dX8_ring_0 rfl (lv_at hl 0 rfl) ?_
  refine va_get (D := D) (ci := 6) (v := .ref (q 2)) (C := RX8) (T := TX8) (N := 12) hx hb hts in8 hown hG.1 hP 0 rfl rfl 3 (by decide) (hts (.fieldLink RX8 29 "ChairCane" "now" "LChairCane$Standing;") (by decide +kernel)) (fun _ h9 => h9) rfl dX8_ring_1 ?_
  refine va_get (D := D) (ci := 4) (v := .ref (qn 0)) (C := RX6) (T := TX6) (N := 5) hx hb hts in6 hown hG.1 hP 1 rfl rfl 0 (by decide) (hts (.fieldLink RX8 81 "ChairCane$Standing" "room" "LChairCane$Room;") (by decide +kernel)) (fun _ h9 => h9) rfl dX8_ring_4 ?_
  refine va_get (D := D) (ci := 2) (v := .int 0) (C := RX3) (T := TX3) (N := 17) hx hb hts in3 hown hG.1 hP 2 rfl rfl 0 (by decide) (hts (.fieldLink RX8 150 "ChairCane$Room" "told" "Z") (by decide +kernel)) (fun _ h9 => h9) rfl dX8_ring_7 ?_
  refine lv_if_eq (tgt := 22) hx hb dX8_ring_10 (by decide) (fun _ => ?_) (fun h => absurd (by decide) h)
  refine lv_iconst (v := (-1)) hx hb dX8_ring_22 (by decide) ?_
  exact hc_end hx hb hr hlocks () rfl (hP.sub [] rfl) (hD.sub [] (by decide) rfl) hS dX8_ring_23
set_option maxHeartbeats 4000000 in
set_option maxRecDepth 100000 in
theorem c_X8_pence (l : Launch) (D : va_G) (k : Nat → ClassId) (sz : Nat) (h0 : Nat) (q qt qn i0 i1 i2 i3 : Nat → Nat) (x1 x2 : Int32) : CtI l yX8_pence wsX8_pence (rmK 4 0 0) [.ref h0, .int x1, .int x2] D k sz ([(h0, .inr (6, [.ref (q 0), .ref (q 1), .int 0, .ref (q 2), .ref (q 3), .ref (q 4), .ref (q 5), .ref (q 6), .ref (q 7), .ref (q 8), .ref (q 9), .ref (q 10)])), ((q 2), .inr (4, [.ref (qn 0), .ref (qn 1), .ref (qn 2), .int (-1), .int 0])), ((qn 0), .inr (2, [.int 0, .int 0, .int 0, .int 0, .ref (qn 3), .ref (qn 4), .ref (qn 5), .ref (qn 6), .ref (qn 7), .ref (qn 8), .int 0, .int 0, .int 0, .ref (qn 9), .ref (qn 10), .int 0, .int 0]))]) (fun (r : Int32) (_ : Unit) => r = (-1)) (fun _ : Unit => []) 0 0 := by
  refine CtI.mk (cc := cX8_pence) (maxL := 10) (ret := (some .int)) (by decide) rfl (Nat.le_of_ble_eq_true rfl) ?_
  intro p e s m below meth c A ls E hP hD hS hl
  obtain ⟨hx, hb, hr, hml, hown, hts, hlocks, hin, hG, hA⟩ := E
  have hown : s.vm.findClass RX8 = some m.cls := hown
  have in3 : ∀ w ∈ u_ws RX3 TX3 17, w ∈ wsX8_pence := fun _ h => List.mem_cons_of_mem _ (List.mem_append_right _ h)
  have in6 : ∀ w ∈ u_ws RX6 TX6 5, w ∈ wsX8_pence := fun _ h => List.mem_cons_of_mem _ (List.mem_append_left _ (List.mem_append_right _ h))
  have in8 : ∀ w ∈ u_ws RX8 TX8 12, w ∈ wsX8_pence := fun _ h => List.mem_cons_of_mem _ (List.mem_append_left _ (List.mem_append_left _ (List.mem_append_right _ h)))
  have hl : lv_has ls 10 [(0, .ref h0), (1, .int x1), (2, .int x2)] := hl
  refine lv_aload_n hx hb dX8_pence_0 rfl (lv_at hl 0 rfl) ?_
  refine va_get (D := D) (ci := 6) (v := .ref (q 2)) (C := RX8) (T := TX8) (N := 12) hx hb hts in8 hown hG.1 hP 0 rfl rfl 3 (by decide) (hts (.fieldLink RX8 29 "ChairCane" "now" "LChairCane$Standing;") (by decide +kernel)) (fun _ h9 => h9) rfl dX8_pence_1 ?_
  refine va_get (D := D) (ci := 4) (v := .ref (qn 0)) (C := RX6) (T := TX6) (N := 5) hx hb hts in6 hown hG.1 hP 1 rfl rfl 0 (by decide) (hts (.fieldLink RX8 81 "ChairCane$Standing" "room" "LChairCane$Room;") (by decide +kernel)) (fun _ h9 => h9) rfl dX8_pence_4 ?_
  refine lv_astore_n (lv' := [(3, .ref (qn 0)), (0, .ref h0), (1, .int x1), (2, .int x2)]) hx hb dX8_pence_7 rfl hl (by decide) rfl (fun ls hl => ?_)
  refine lv_iload_n hx hb dX8_pence_8 rfl (lv_at hl 2 rfl) ?_
  refine lv_if_lt (tgt := 27) hx hb dX8_pence_9 (by decide) (fun c_1 => ?_) (fun c_1 => ?_)
  · refine lv_iconst (v := (-1)) hx hb dX8_pence_27 (by decide) ?_
    exact hc_end hx hb hr hlocks () rfl (hP.sub [] rfl) (hD.sub [] (by decide) rfl) hS dX8_pence_28
  · refine lv_iload_n hx hb dX8_pence_12 rfl (lv_at hl 2 rfl) ?_
    refine lv_sipush (v := 9999) hx hb dX8_pence_13 (by decide) ?_
    refine lv_icmp_gt (tgt := 27) hx hb dX8_pence_16 (by decide) (fun c_2 => ?_) (fun c_2 => ?_)
    · refine lv_iconst (v := (-1)) hx hb dX8_pence_27 (by decide) ?_
      exact hc_end hx hb hr hlocks () rfl (hP.sub [] rfl) (hD.sub [] (by decide) rfl) hS dX8_pence_28
    · refine lv_aload_n hx hb dX8_pence_19 rfl (lv_at hl 0 rfl) ?_
      refine lv_iload_n hx hb dX8_pence_20 rfl (lv_at hl 3 rfl) ?_
      refine hc_Vi (As := [.int x2]) (rest := []) (n := 1) (wr := [(h0, .inr (6, [.ref (q 0), .ref (q 1), .int 0, .ref (q 2), .ref (q 3), .ref (q 4), .ref (q 5), .ref (q 6), .ref (q 7), .ref (q 8), .ref (q 9), .ref (q 10)])), ((q 2), .inr (4, [.ref (qn 0), .ref (qn 1), .ref (qn 2), .int (-1), .int 0]))]) hx hb hml hown hts hG hA hP hD hS hl.1 [2] [0, 1] (c_X3_hasSitter l D k _ (qn 0) (qn 3) (qn 4) (qn 5) (qn 6) (qn 7) (qn 8) (qn 9) (qn 10) x2) (ci := 2) (q0 := 2) rfl rfl gX8_pence_X3_hasSitter rfl ⟨rfl, rfl, Nat.le_of_ble_eq_true rfl, Nat.le_of_ble_eq_true rfl⟩ (by decide +kernel) rfl rfl ⟨by decide, by decide, by decide⟩ ⟨rfl, rfl, Nat.le_of_ble_eq_true rfl, Nat.le_of_ble_eq_true rfl, Nat.le_of_ble_eq_true rfl⟩ dX8_pence_21 (fun r_4 u_3 H locs hw hP hD hS => ?_)
      have hP : va_P D vwCl ([(h0, .inr (6, [.ref (q 0), .ref (q 1), .int 0, .ref (q 2), .ref (q 3), .ref (q 4), .ref (q 5), .ref (q 6), .ref (q 7), .ref (q 8), .ref (q 9), .ref (q 10)])), ((q 2), .inr (4, [.ref (qn 0), .ref (qn 1), .ref (qn 2), .int (-1), .int 0])), ((qn 0), .inr (2, [.int 0, .int 0, .int 0, .int 0, .ref (qn 3), .ref (qn 4), .ref (qn 5), .ref (qn 6), .ref (qn 7), .ref (qn 8), .int 0, .int 0, .int 0, .ref (qn 9), .ref (qn 10), .int 0, .int 0]))]) H := hP
      have hD : va_D A ([(h0, .inr (6, [.ref (q 0), .ref (q 1), .int 0, .ref (q 2), .ref (q 3), .ref (q 4), .ref (q 5), .ref (q 6), .ref (q 7), .ref (q 8), .ref (q 9), .ref (q 10)])), ((q 2), .inr (4, [.ref (qn 0), .ref (qn 1), .ref (qn 2), .int (-1), .int 0])), ((qn 0), .inr (2, [.int 0, .int 0, .int 0, .int 0, .ref (qn 3), .ref (qn 4), .ref (qn 5), .ref (qn 6), .ref (qn 7), .ref (qn 8), .int 0, .int 0, .int 0, .ref (qn 9), .ref (qn 10), .int 0, .int 0]))]) := hD
      obtain rfl : r_4 = 0 := hw
      refine lv_if_ne (tgt := 29) hx hb dX8_pence_24 (by decide) (fun h => absurd h (by decide)) (fun _ => ?_)
      refine lv_iconst (v := (-1)) hx hb dX8_pence_27 (by decide) ?_
      exact hc_end hx hb hr hlocks () rfl (hP.sub [] rfl) (hD.sub [] (by decide) rfl) hS dX8_pence_28
set_option maxHeartbeats 4000000 in
set_option maxRecDepth 100000 in
theorem c_X8_note (l : Launch) (D : va_G) (k : Nat → ClassId) (sz : Nat) (h0 : Nat) (q qt qn i0 i1 i2 i3 : Nat → Nat) (x1 x2 x3 : Int32) : CtI l yX8_note wsX8_note (rmK 4 0 0) [.ref h0, .int x1, .int x2, .int x3] D k sz ([(h0, .inr (6, [.ref (q 0), .ref (q 1), .int 0, .ref (q 2), .ref (q 3), .ref (q 4), .ref (q 5), .ref (q 6), .ref (q 7), .ref (q 8), .ref (q 9), .ref (q 10)])), ((q 2), .inr (4, [.ref (qn 0), .ref (qn 1), .ref (qn 2), .int (-1), .int 0])), ((qn 0), .inr (2, [.int 0, .int 0, .int 0, .int 0, .ref (qn 3), .ref (qn 4), .ref (qn 5), .ref (qn 6), .ref (qn 7), .ref (qn 8), .int 0, .int 0, .int 0, .ref (qn 9), .ref (qn 10), .int 0, .int 0])), ((qn 2), .inr (1, [.ref (qn 14), .ref (qn 15), .ref (qn 16), .int 0]))]) (fun (r : Int32) (_ : Unit) => r = spNote x1) (fun _ : Unit => []) 0 0 := by
  refine CtI.mk (cc := cX8_note) (maxL := 4) (ret := (some .int)) (by decide) rfl (Nat.le_of_ble_eq_true rfl) ?_
  intro p e s m below meth c A ls E hP hD hS hl
  obtain ⟨hx, hb, hr, hml, hown, hts, hlocks, hin, hG, hA⟩ := E
  have hown : s.vm.findClass RX8 = some m.cls := hown
  have in2 : ∀ w ∈ u_ws RX2 TX2 4, w ∈ wsX8_note := fun _ h => List.mem_cons_of_mem _ (List.mem_append_left _ (List.mem_append_right _ h))
  have in3 : ∀ w ∈ u_ws RX3 TX3 17, w ∈ wsX8_note := fun _ h => List.mem_cons_of_mem _ (List.mem_append_right _ h)
  have in6 : ∀ w ∈ u_ws RX6 TX6 5, w ∈ wsX8_note := fun _ h => List.mem_cons_of_mem _ (List.mem_append_left _ (List.mem_append_left _ (List.mem_append_right _ h)))
  have in8 : ∀ w ∈ u_ws RX8 TX8 12, w ∈ wsX8_note := fun _ h => List.mem_cons_of_mem _ (List.mem_append_left _ (List.mem_append_left _ (List.mem_append_left _ (List.mem_append_right _ h))))
  have hl : lv_has ls 4 [(0, .ref h0), (1, .int x1), (2, .int x2), (3, .int x3)] := hl
  refine lv_iload_n hx hb dX8_note_0 rfl (lv_at hl 1 rfl) ?_
  refine lv_iconst (v := (-1)) hx hb dX8_note_1 (by decide) ?_
  refine lv_icmp_ne (tgt := 17) hx hb dX8_note_2 (by decide) (fun c_1 => ?_) (fun c_1 => ?_)
  · refine lv_iload_n hx hb dX8_note_17 rfl (lv_at hl 1 rfl) ?_
    refine lv_if_lt (tgt := 50) hx hb dX8_note_18 (by decide) (fun c_2 => ?_) (fun c_2 => ?_)
    · refine lv_bipush (v := (-2)) hx hb dX8_note_50 (by decide) ?_
      exact hc_end hx hb hr hlocks () (by unfold spNote; split <;> rename_i h <;> first | rfl | exact h | exact h.symm | (exfalso; simp only [sp_lt, sp_le, sp_eq, sp0, spm1, sp1, sp3, sp4, sp12] at h c_1 c_2 <;> omega)) (hP.sub [] rfl) (hD.sub [] (by decide) rfl) hS dX8_note_52
    · refine lv_iload_n hx hb dX8_note_21 rfl (lv_at hl 1 rfl) ?_
      refine lv_bipush (v := 60) hx hb dX8_note_22 (by decide) ?_
      refine lv_icmp_gt (tgt := 50) hx hb dX8_note_24 (by decide) (fun c_3 => ?_) (fun c_3 => ?_)
      · refine lv_bipush (v := (-2)) hx hb dX8_note_50 (by decide) ?_
        exact hc_end hx hb hr hlocks () (by unfold spNote; split <;> rename_i h <;> first | rfl | exact h | exact h.symm | (exfalso; simp only [sp_lt, sp_le, sp_eq, sp0, spm1, sp1, sp3, sp4, sp12] at h c_1 c_2 c_3 <;> omega)) (hP.sub [] rfl) (hD.sub [] (by decide) rfl) hS dX8_note_52
      · refine lv_aload_n hx hb dX8_note_27 rfl (lv_at hl 0 rfl) ?_
        refine va_get (D := D) (ci := 6) (v := .ref (q 2)) (C := RX8) (T := TX8) (N := 12) hx hb hts in8 hown hG.1 hP 0 rfl rfl 3 (by decide) (hts (.fieldLink RX8 29 "ChairCane" "now" "LChairCane$Standing;") (by decide +kernel)) (fun _ h9 => h9) rfl dX8_note_28 ?_
        refine va_get (D := D) (ci := 4) (v := .ref (qn 0)) (C := RX6) (T := TX6) (N := 5) hx hb hts in6 hown hG.1 hP 1 rfl rfl 0 (by decide) (hts (.fieldLink RX8 81 "ChairCane$Standing" "room" "LChairCane$Room;") (by decide +kernel)) (fun _ h9 => h9) rfl dX8_note_31 ?_
        refine lv_iload_n hx hb dX8_note_34 rfl (lv_at hl 2 rfl) ?_
        refine hc_Vi (As := [.int x2]) (rest := []) (n := 1) (wr := [(h0, .inr (6, [.ref (q 0), .ref (q 1), .int 0, .ref (q 2), .ref (q 3), .ref (q 4), .ref (q 5), .ref (q 6), .ref (q 7), .ref (q 8), .ref (q 9), .ref (q 10)])), ((q 2), .inr (4, [.ref (qn 0), .ref (qn 1), .ref (qn 2), .int (-1), .int 0])), ((qn 2), .inr (1, [.ref (qn 14), .ref (qn 15), .ref (qn 16), .int 0]))]) hx hb hml hown hts hG hA hP hD hS hl.1 [2] [0, 1, 3] (c_X3_hasSitter l D k _ (qn 0) (qn 3) (qn 4) (qn 5) (qn 6) (qn 7) (qn 8) (qn 9) (qn 10) x2) (ci := 2) (q0 := 2) rfl rfl gX8_note_X3_hasSitter rfl ⟨rfl, rfl, Nat.le_of_ble_eq_true rfl, Nat.le_of_ble_eq_true rfl⟩ (by decide +kernel) rfl rfl ⟨by decide, by decide, by decide⟩ ⟨rfl, rfl, Nat.le_of_ble_eq_true rfl, Nat.le_of_ble_eq_true rfl, Nat.le_of_ble_eq_true rfl⟩ dX8_note_35 (fun r_5 u_4 H locs hw hP hD hS => ?_)
        have hP : va_P D vwCl ([(h0, .inr (6, [.ref (q 0), .ref (q 1), .int 0, .ref (q 2), .ref (q 3), .ref (q 4), .ref (q 5), .ref (q 6), .ref (q 7), .ref (q 8), .ref (q 9), .ref (q 10)])), ((q 2), .inr (4, [.ref (qn 0), .ref (qn 1), .ref (qn 2), .int (-1), .int 0])), ((qn 2), .inr (1, [.ref (qn 14), .ref (qn 15), .ref (qn 16), .int 0])), ((qn 0), .inr (2, [.int 0, .int 0, .int 0, .int 0, .ref (qn 3), .ref (qn 4), .ref (qn 5), .ref (qn 6), .ref (qn 7), .ref (qn 8), .int 0, .int 0, .int 0, .ref (qn 9), .ref (qn 10), .int 0, .int 0]))]) H := hP
        have hD : va_D A ([(h0, .inr (6, [.ref (q 0), .ref (q 1), .int 0, .ref (q 2), .ref (q 3), .ref (q 4), .ref (q 5), .ref (q 6), .ref (q 7), .ref (q 8), .ref (q 9), .ref (q 10)])), ((q 2), .inr (4, [.ref (qn 0), .ref (qn 1), .ref (qn 2), .int (-1), .int 0])), ((qn 2), .inr (1, [.ref (qn 14), .ref (qn 15), .ref (qn 16), .int 0])), ((qn 0), .inr (2, [.int 0, .int 0, .int 0, .int 0, .ref (qn 3), .ref (qn 4), .ref (qn 5), .ref (qn 6), .ref (qn 7), .ref (qn 8), .int 0, .int 0, .int 0, .ref (qn 9), .ref (qn 10), .int 0, .int 0]))]) := hD
        obtain rfl : r_5 = 0 := hw
        refine lv_if_eq (tgt := 50) hx hb dX8_note_38 (by decide) (fun _ => ?_) (fun h => absurd (by decide) h)
        refine lv_bipush (v := (-2)) hx hb dX8_note_50 (by decide) ?_
        exact hc_end hx hb hr hlocks () (by unfold spNote; split <;> rename_i h <;> first | rfl | exact h | exact h.symm | (exfalso; simp only [sp_lt, sp_le, sp_eq, sp0, spm1, sp1, sp3, sp4, sp12] at h c_1 c_2 c_3 <;> omega)) (hP.sub [] rfl) (hD.sub [] (by decide) rfl) hS dX8_note_52
  · refine lv_aload_n hx hb dX8_note_5 rfl (lv_at hl 0 rfl) ?_
    refine va_get (D := D) (ci := 6) (v := .ref (q 2)) (C := RX8) (T := TX8) (N := 12) hx hb hts in8 hown hG.1 hP 0 rfl rfl 3 (by decide) (hts (.fieldLink RX8 29 "ChairCane" "now" "LChairCane$Standing;") (by decide +kernel)) (fun _ h9 => h9) rfl dX8_note_6 ?_
    refine va_get (D := D) (ci := 4) (v := .ref (qn 2)) (C := RX6) (T := TX6) (N := 5) hx hb hts in6 hown hG.1 hP 1 rfl rfl 2 (by decide) (hts (.fieldLink RX8 97 "ChairCane$Standing" "notes" "LChairCane$Notes;") (by decide +kernel)) (fun _ h9 => h9) rfl dX8_note_9 ?_
    refine hc_Vv (As := []) (rest := []) (n := 0) (wr := [(h0, .inr (6, [.ref (q 0), .ref (q 1), .int 0, .ref (q 2), .ref (q 3), .ref (q 4), .ref (q 5), .ref (q 6), .ref (q 7), .ref (q 8), .ref (q 9), .ref (q 10)])), ((q 2), .inr (4, [.ref (qn 0), .ref (qn 1), .ref (qn 2), .int (-1), .int 0])), ((qn 0), .inr (2, [.int 0, .int 0, .int 0, .int 0, .ref (qn 3), .ref (qn 4), .ref (qn 5), .ref (qn 6), .ref (qn 7), .ref (qn 8), .int 0, .int 0, .int 0, .ref (qn 9), .ref (qn 10), .int 0, .int 0]))]) hx hb hml hown hts hG hA hP hD hS hl.1 [3] [0, 1, 2] (c_X2_forget l D k _ (qn 2) (qn 14) (qn 15) (qn 16)) (ci := 1) (q0 := 3) rfl rfl gX8_note_X2_forget rfl ⟨rfl, rfl, Nat.le_of_ble_eq_true rfl, Nat.le_of_ble_eq_true rfl⟩ (by decide +kernel) rfl rfl ⟨by decide, by decide, by decide⟩ ⟨rfl, rfl, Nat.le_of_ble_eq_true rfl, Nat.le_of_ble_eq_true rfl, Nat.le_of_ble_eq_true rfl⟩ dX8_note_12 (fun u_6 H locs hw hP hD hS => ?_)
    have hP : va_P D vwCl ([(h0, .inr (6, [.ref (q 0), .ref (q 1), .int 0, .ref (q 2), .ref (q 3), .ref (q 4), .ref (q 5), .ref (q 6), .ref (q 7), .ref (q 8), .ref (q 9), .ref (q 10)])), ((q 2), .inr (4, [.ref (qn 0), .ref (qn 1), .ref (qn 2), .int (-1), .int 0])), ((qn 0), .inr (2, [.int 0, .int 0, .int 0, .int 0, .ref (qn 3), .ref (qn 4), .ref (qn 5), .ref (qn 6), .ref (qn 7), .ref (qn 8), .int 0, .int 0, .int 0, .ref (qn 9), .ref (qn 10), .int 0, .int 0])), ((qn 2), .inr (1, [.ref (qn 14), .ref (qn 15), .ref (qn 16), .int 0]))]) H := hP
    have hD : va_D A ([(h0, .inr (6, [.ref (q 0), .ref (q 1), .int 0, .ref (q 2), .ref (q 3), .ref (q 4), .ref (q 5), .ref (q 6), .ref (q 7), .ref (q 8), .ref (q 9), .ref (q 10)])), ((q 2), .inr (4, [.ref (qn 0), .ref (qn 1), .ref (qn 2), .int (-1), .int 0])), ((qn 0), .inr (2, [.int 0, .int 0, .int 0, .int 0, .ref (qn 3), .ref (qn 4), .ref (qn 5), .ref (qn 6), .ref (qn 7), .ref (qn 8), .int 0, .int 0, .int 0, .ref (qn 9), .ref (qn 10), .int 0, .int 0])), ((qn 2), .inr (1, [.ref (qn 14), .ref (qn 15), .ref (qn 16), .int 0]))]) := hD
    refine lv_iconst (v := 0) hx hb dX8_note_15 (by decide) ?_
    exact hc_end hx hb hr hlocks () (by unfold spNote; split <;> rename_i h <;> first | rfl | exact h | exact h.symm | (exfalso; simp only [sp_lt, sp_le, sp_eq, sp0, spm1, sp1, sp3, sp4, sp12] at h c_1 <;> omega)) (hP.sub [] rfl) (hD.sub [] (by decide) rfl) hS dX8_note_16
set_option maxHeartbeats 4000000 in
set_option maxRecDepth 100000 in
theorem c_X8_ruled (l : Launch) (D : va_G) (k : Nat → ClassId) (sz : Nat) (h0 : Nat) (q qt qn i0 i1 i2 i3 : Nat → Nat) (x1 : Int32) : CtI l yX8_ruled wsX8_ruled (rmK 4 0 0) [.ref h0, .int x1] D k sz ([(h0, .inr (6, [.ref (q 0), .ref (q 1), .int 0, .ref (q 2), .ref (q 3), .ref (q 4), .ref (q 5), .ref (q 6), .ref (q 7), .ref (q 8), .ref (q 9), .ref (q 10)])), ((q 2), .inr (4, [.ref (qn 0), .ref (qn 1), .ref (qn 2), .int (-1), .int 0])), ((qn 0), .inr (2, [.int 0, .int 0, .int 0, .int 0, .ref (qn 3), .ref (qn 4), .ref (qn 5), .ref (qn 6), .ref (qn 7), .ref (qn 8), .int 0, .int 0, .int 0, .ref (qn 9), .ref (qn 10), .int 0, .int 0]))]) (fun (r : Int32) (_ : Unit) => r = (-3)) (fun _ : Unit => []) 0 0 := by
  refine CtI.mk (cc := cX8_ruled) (maxL := 5) (ret := (some .int)) (by decide) rfl (Nat.le_of_ble_eq_true rfl) ?_
  intro p e s m below meth c A ls E hP hD hS hl
  obtain ⟨hx, hb, hr, hml, hown, hts, hlocks, hin, hG, hA⟩ := E
  have hown : s.vm.findClass RX8 = some m.cls := hown
  have in2 : ∀ w ∈ u_ws RX2 TX2 4, w ∈ wsX8_ruled := fun _ h => List.mem_cons_of_mem _ (List.mem_append_left _ (List.mem_append_right _ h))
  have in3 : ∀ w ∈ u_ws RX3 TX3 17, w ∈ wsX8_ruled := fun _ h => List.mem_cons_of_mem _ (List.mem_append_left _ (List.mem_append_left _ (List.mem_append_right _ h)))
  have in4 : ∀ w ∈ u_ws RX4 TX4 8, w ∈ wsX8_ruled := fun _ h => List.mem_cons_of_mem _ (List.mem_append_right _ h)
  have in6 : ∀ w ∈ u_ws RX6 TX6 5, w ∈ wsX8_ruled := fun _ h => List.mem_cons_of_mem _ (List.mem_append_left _ (List.mem_append_left _ (List.mem_append_left _ (List.mem_append_right _ h))))
  have in8 : ∀ w ∈ u_ws RX8 TX8 12, w ∈ wsX8_ruled := fun _ h => List.mem_cons_of_mem _ (List.mem_append_left _ (List.mem_append_left _ (List.mem_append_left _ (List.mem_append_left _ (List.mem_append_right _ h)))))
  have hl : lv_has ls 5 [(0, .ref h0), (1, .int x1)] := hl
  refine lv_aload_n hx hb dX8_ruled_0 rfl (lv_at hl 0 rfl) ?_
  refine va_get (D := D) (ci := 6) (v := .ref (q 2)) (C := RX8) (T := TX8) (N := 12) hx hb hts in8 hown hG.1 hP 0 rfl rfl 3 (by decide) (hts (.fieldLink RX8 29 "ChairCane" "now" "LChairCane$Standing;") (by decide +kernel)) (fun _ h9 => h9) rfl dX8_ruled_1 ?_
  refine va_get (D := D) (ci := 4) (v := .ref (qn 0)) (C := RX6) (T := TX6) (N := 5) hx hb hts in6 hown hG.1 hP 1 rfl rfl 0 (by decide) (hts (.fieldLink RX8 81 "ChairCane$Standing" "room" "LChairCane$Room;") (by decide +kernel)) (fun _ h9 => h9) rfl dX8_ruled_4 ?_
  refine va_get (D := D) (ci := 2) (v := .int 0) (C := RX3) (T := TX3) (N := 17) hx hb hts in3 hown hG.1 hP 2 rfl rfl 0 (by decide) (hts (.fieldLink RX8 150 "ChairCane$Room" "told" "Z") (by decide +kernel)) (fun _ h9 => h9) rfl dX8_ruled_7 ?_
  refine lv_if_eq (tgt := 22) hx hb dX8_ruled_10 (by decide) (fun _ => ?_) (fun h => absurd (by decide) h)
  refine lv_bipush (v := (-3)) hx hb dX8_ruled_22 (by decide) ?_
  exact hc_end hx hb hr hlocks () rfl (hP.sub [] rfl) (hD.sub [] (by decide) rfl) hS dX8_ruled_24
set_option maxHeartbeats 4000000 in
set_option maxRecDepth 100000 in
theorem c_X8_look (l : Launch) (D : va_G) (k : Nat → ClassId) (sz : Nat) (h0 : Nat) (q qt qn i0 i1 i2 i3 : Nat → Nat) (x1 x2 : Int32) : CtI l yX8_look wsX8_look (rmK 4 0 0) [.ref h0, .int x1, .int x2] D k sz ([(h0, .inr (6, [.ref (q 0), .ref (q 1), .int 0, .ref (q 2), .ref (q 3), .ref (q 4), .ref (q 5), .ref (q 6), .ref (q 7), .ref (q 8), .ref (q 9), .ref (q 10)])), ((q 2), .inr (4, [.ref (qn 0), .ref (qn 1), .ref (qn 2), .int (-1), .int 0])), ((qn 0), .inr (2, [.int 0, .int 0, .int 0, .int 0, .ref (qn 3), .ref (qn 4), .ref (qn 5), .ref (qn 6), .ref (qn 7), .ref (qn 8), .int 0, .int 0, .int 0, .ref (qn 9), .ref (qn 10), .int 0, .int 0]))]) (fun (r : Int32) (_ : Unit) => r = (-1)) (fun _ : Unit => []) 0 0 := by
  refine CtI.mk (cc := cX8_look) (maxL := 8) (ret := (some .int)) (by decide) rfl (Nat.le_of_ble_eq_true rfl) ?_
  intro p e s m below meth c A ls E hP hD hS hl
  obtain ⟨hx, hb, hr, hml, hown, hts, hlocks, hin, hG, hA⟩ := E
  have hown : s.vm.findClass RX8 = some m.cls := hown
  have in2 : ∀ w ∈ u_ws RX2 TX2 4, w ∈ wsX8_look := fun _ h => List.mem_cons_of_mem _ (List.mem_append_left _ (List.mem_append_right _ h))
  have in3 : ∀ w ∈ u_ws RX3 TX3 17, w ∈ wsX8_look := fun _ h => List.mem_cons_of_mem _ (List.mem_append_left _ (List.mem_append_left _ (List.mem_append_right _ h)))
  have in4 : ∀ w ∈ u_ws RX4 TX4 8, w ∈ wsX8_look := fun _ h => List.mem_cons_of_mem _ (List.mem_append_right _ h)
  have in6 : ∀ w ∈ u_ws RX6 TX6 5, w ∈ wsX8_look := fun _ h => List.mem_cons_of_mem _ (List.mem_append_left _ (List.mem_append_left _ (List.mem_append_left _ (List.mem_append_right _ h))))
  have in8 : ∀ w ∈ u_ws RX8 TX8 12, w ∈ wsX8_look := fun _ h => List.mem_cons_of_mem _ (List.mem_append_left _ (List.mem_append_left _ (List.mem_append_left _ (List.mem_append_left _ (List.mem_append_right _ h)))))
  have hl : lv_has ls 8 [(0, .ref h0), (1, .int x1), (2, .int x2)] := hl
  refine lv_aload_n hx hb dX8_look_0 rfl (lv_at hl 0 rfl) ?_
  refine va_get (D := D) (ci := 6) (v := .ref (q 2)) (C := RX8) (T := TX8) (N := 12) hx hb hts in8 hown hG.1 hP 0 rfl rfl 3 (by decide) (hts (.fieldLink RX8 29 "ChairCane" "now" "LChairCane$Standing;") (by decide +kernel)) (fun _ h9 => h9) rfl dX8_look_1 ?_
  refine va_get (D := D) (ci := 4) (v := .ref (qn 0)) (C := RX6) (T := TX6) (N := 5) hx hb hts in6 hown hG.1 hP 1 rfl rfl 0 (by decide) (hts (.fieldLink RX8 81 "ChairCane$Standing" "room" "LChairCane$Room;") (by decide +kernel)) (fun _ h9 => h9) rfl dX8_look_4 ?_
  refine lv_astore_n (lv' := [(3, .ref (qn 0)), (0, .ref h0), (1, .int x1), (2, .int x2)]) hx hb dX8_look_7 rfl hl (by decide) rfl (fun ls hl => ?_)
  refine lv_aload_n hx hb dX8_look_8 rfl (lv_at hl 0 rfl) ?_
  refine va_get (D := D) (ci := 2) (v := .int 0) (C := RX3) (T := TX3) (N := 17) hx hb hts in3 hown hG.1 hP 2 rfl rfl 0 (by decide) (hts (.fieldLink RX8 150 "ChairCane$Room" "told" "Z") (by decide +kernel)) (fun _ h9 => h9) rfl dX8_look_9 ?_
  refine lv_if_eq (tgt := 34) hx hb dX8_look_12 (by decide) (fun _ => ?_) (fun h => absurd (by decide) h)
  refine lv_iconst (v := (-1)) hx hb dX8_look_34 (by decide) ?_
  exact hc_end hx hb hr hlocks () rfl (hP.sub [] rfl) (hD.sub [] (by decide) rfl) hS dX8_look_35
set_option maxHeartbeats 4000000 in
set_option maxRecDepth 100000 in
theorem c_X8_seed (l : Launch) (D : va_G) (k : Nat → ClassId) (sz : Nat) (h0 : Nat) (q qt qn i0 i1 i2 i3 : Nat → Nat) (x1 : Int32) : CtI l yX8_seed wsX8_seed (rmK 4 0 0) [.ref h0, .int x1] D k sz ([(h0, .inr (6, [.ref (q 0), .ref (q 1), .int 0, .ref (q 2), .ref (q 3), .ref (q 4), .ref (q 5), .ref (q 6), .ref (q 7), .ref (q 8), .ref (q 9), .ref (q 10)])), ((q 2), .inr (4, [.ref (qn 0), .ref (qn 1), .ref (qn 2), .int (-1), .int 0]))]) (fun (r : Int32) (_ : Unit) => r = spSeed x1) (fun _ : Unit => []) 0 0 := by
  refine CtI.mk (cc := cX8_seed) (maxL := 3) (ret := (some .int)) (by decide) rfl (Nat.le_of_ble_eq_true rfl) ?_
  intro p e s m below meth c A ls E hP hD hS hl
  obtain ⟨hx, hb, hr, hml, hown, hts, hlocks, hin, hG, hA⟩ := E
  have hown : s.vm.findClass RX8 = some m.cls := hown
  have in6 : ∀ w ∈ u_ws RX6 TX6 5, w ∈ wsX8_seed := fun _ h => List.mem_cons_of_mem _ (List.mem_append_right _ h)
  have in8 : ∀ w ∈ u_ws RX8 TX8 12, w ∈ wsX8_seed := fun _ h => List.mem_cons_of_mem _ (List.mem_append_left _ (List.mem_append_right _ h))
  have hl : lv_has ls 3 [(0, .ref h0), (1, .int x1)] := hl
  refine lv_iload_n hx hb dX8_seed_0 rfl (lv_at hl 1 rfl) ?_
  refine lv_if_ge (tgt := 6) hx hb dX8_seed_1 (by decide) (fun c_1 => ?_) (fun c_1 => ?_)
  · refine lv_aload_n hx hb dX8_seed_6 rfl (lv_at hl 0 rfl) ?_
    refine va_get (D := D) (ci := 6) (v := .ref (q 2)) (C := RX8) (T := TX8) (N := 12) hx hb hts in8 hown hG.1 hP 0 rfl rfl 3 (by decide) (hts (.fieldLink RX8 29 "ChairCane" "now" "LChairCane$Standing;") (by decide +kernel)) (fun _ h9 => h9) rfl dX8_seed_7 ?_
    refine va_get (D := D) (ci := 4) (v := .int 0) (C := RX6) (T := TX6) (N := 5) hx hb hts in6 hown hG.1 hP 1 rfl rfl 4 (by decide) (hts (.fieldLink RX8 292 "ChairCane$Standing" "x" "I") (by decide +kernel)) (fun _ h9 => h9) rfl dX8_seed_10 ?_
    refine lv_istore_n (lv' := [(2, .int 0), (0, .ref h0), (1, .int x1)]) hx hb dX8_seed_13 rfl hl (by decide) rfl (fun ls hl => ?_)
    refine lv_aload_n hx hb dX8_seed_14 rfl (lv_at hl 1 rfl) ?_
    refine va_get (D := D) (ci := 6) (v := .ref (q 2)) (C := RX8) (T := TX8) (N := 12) hx hb hts in8 hown hG.1 hP 0 rfl rfl 3 (by decide) (hts (.fieldLink RX8 29 "ChairCane" "now" "LChairCane$Standing;") (by decide +kernel)) (fun _ h9 => h9) rfl dX8_seed_15 ?_
    refine lv_iload_n hx hb dX8_seed_18 rfl (lv_at hl 2 rfl) ?_
    refine va_put (D := D) (ci := 4) (v := .int x1) (C := RX6) (T := TX6) (N := 5) hx hb hts in6 tyX6 tyX6_ok nmX6 hown hG.1 hP hD hS 1 rfl rfl 4 (by decide) (hts (.fieldLink RX8 292 "ChairCane$Standing" "x" "I") (by decide +kernel)) (fun _ h9 => h9) rfl (tyX6_ok 4 (by decide)) rfl rfl (Nat.le_of_ble_eq_true rfl) dX8_seed_19 (fun H locs hP hD hS => ?_)
    have hP : va_P D vwCl ([(h0, .inr (6, [.ref (q 0), .ref (q 1), .int 0, .ref (q 2), .ref (q 3), .ref (q 4), .ref (q 5), .ref (q 6), .ref (q 7), .ref (q 8), .ref (q 9), .ref (q 10)])), ((q 2), .inr (4, [.ref (qn 0), .ref (qn 1), .ref (qn 2), .int (-1), .int x1]))]) H := hP
    have hD : va_D A ([(h0, .inr (6, [.ref (q 0), .ref (q 1), .int 0, .ref (q 2), .ref (q 3), .ref (q 4), .ref (q 5), .ref (q 6), .ref (q 7), .ref (q 8), .ref (q 9), .ref (q 10)])), ((q 2), .inr (4, [.ref (qn 0), .ref (qn 1), .ref (qn 2), .int (-1), .int x1]))]) := hD
    refine lv_iload_n hx hb dX8_seed_22 rfl (lv_at hl 0 rfl) ?_
    exact hc_end hx hb hr hlocks () (by unfold spSeed; split <;> rename_i h <;> first | rfl | exact h | exact h.symm | (exfalso; simp only [sp_lt, sp_le, sp_eq, sp0, spm1, sp1, sp3, sp4, sp12] at h c_1 <;> omega)) (hP.sub [] rfl) (hD.sub [] (by decide) rfl) hS dX8_seed_23
  · refine lv_iconst (v := (-1)) hx hb dX8_seed_4 (by decide) ?_
    exact hc_end hx hb hr hlocks () (by unfold spSeed; split <;> rename_i h <;> first | rfl | exact h | exact h.symm | (exfalso; simp only [sp_lt, sp_le, sp_eq, sp0, spm1, sp1, sp3, sp4, sp12] at h c_1 <;> omega)) (hP.sub [] rfl) (hD.sub [] (by decide) rfl) hS dX8_seed_5
set_option maxHeartbeats 4000000 in
set_option maxRecDepth 100000 in
theorem c_X8_toasts (l : Launch) (D : va_G) (k : Nat → ClassId) (sz : Nat) (h0 : Nat) (q qt qn i0 i1 i2 i3 : Nat → Nat) (x1 x2 x3 x4 : Int32) : CtI l yX8_toasts wsX8_toasts (rmK 4 0 0) [.ref h0, .int x1, .int x2, .int x3, .int x4] D k sz ([(h0, .inr (6, [.ref (q 0), .ref (q 1), .int 0, .ref (q 2), .ref (q 3), .ref (q 4), .ref (q 5), .ref (q 6), .ref (q 7), .ref (q 8), .ref (q 9), .ref (q 10)])), ((q 2), .inr (4, [.ref (qn 0), .ref (qn 1), .ref (qn 2), .int (-1), .int 0])), ((qn 0), .inr (2, [.int 0, .int 0, .int 0, .int 0, .ref (qn 3), .ref (qn 4), .ref (qn 5), .ref (qn 6), .ref (qn 7), .ref (qn 8), .int 0, .int 0, .int 0, .ref (qn 9), .ref (qn 10), .int 0, .int 0]))]) (fun (r : Int32) (_ : Unit) => r = (-1)) (fun _ : Unit => []) 0 0 := by
  refine CtI.mk (cc := cX8_toasts) (maxL := 8) (ret := (some .int)) (by decide) rfl (Nat.le_of_ble_eq_true rfl) ?_
  intro p e s m below meth c A ls E hP hD hS hl
  obtain ⟨hx, hb, hr, hml, hown, hts, hlocks, hin, hG, hA⟩ := E
  have hown : s.vm.findClass RX8 = some m.cls := hown
  have in3 : ∀ w ∈ u_ws RX3 TX3 17, w ∈ wsX8_toasts := fun _ h => List.mem_cons_of_mem _ (List.mem_append_left _ (List.mem_append_right _ h))
  have in4 : ∀ w ∈ u_ws RX4 TX4 8, w ∈ wsX8_toasts := fun _ h => List.mem_cons_of_mem _ (List.mem_append_right _ h)
  have in6 : ∀ w ∈ u_ws RX6 TX6 5, w ∈ wsX8_toasts := fun _ h => List.mem_cons_of_mem _ (List.mem_append_left _ (List.mem_append_left _ (List.mem_append_right _ h)))
  have in8 : ∀ w ∈ u_ws RX8 TX8 12, w ∈ wsX8_toasts := fun _ h => List.mem_cons_of_mem _ (List.mem_append_left _ (List.mem_append_left _ (List.mem_append_left _ (List.mem_append_right _ h))))
  have hl : lv_has ls 8 [(0, .ref h0), (1, .int x1), (2, .int x2), (3, .int x3), (4, .int x4)] := hl
  refine lv_aload_n hx hb dX8_toasts_0 rfl (lv_at hl 0 rfl) ?_
  refine va_get (D := D) (ci := 6) (v := .ref (q 2)) (C := RX8) (T := TX8) (N := 12) hx hb hts in8 hown hG.1 hP 0 rfl rfl 3 (by decide) (hts (.fieldLink RX8 29 "ChairCane" "now" "LChairCane$Standing;") (by decide +kernel)) (fun _ h9 => h9) rfl dX8_toasts_1 ?_
  refine va_get (D := D) (ci := 4) (v := .ref (qn 0)) (C := RX6) (T := TX6) (N := 5) hx hb hts in6 hown hG.1 hP 1 rfl rfl 0 (by decide) (hts (.fieldLink RX8 81 "ChairCane$Standing" "room" "LChairCane$Room;") (by decide +kernel)) (fun _ h9 => h9) rfl dX8_toasts_4 ?_
  refine va_get (D := D) (ci := 2) (v := .int 0) (C := RX3) (T := TX3) (N := 17) hx hb hts in3 hown hG.1 hP 2 rfl rfl 0 (by decide) (hts (.fieldLink RX8 150 "ChairCane$Room" "told" "Z") (by decide +kernel)) (fun _ h9 => h9) rfl dX8_toasts_7 ?_
  refine lv_if_eq (tgt := 35) hx hb dX8_toasts_10 (by decide) (fun _ => ?_) (fun h => absurd (by decide) h)
  refine lv_iconst (v := (-1)) hx hb dX8_toasts_35 (by decide) ?_
  exact hc_end hx hb hr hlocks () rfl (hP.sub [] rfl) (hD.sub [] (by decide) rfl) hS dX8_toasts_36
