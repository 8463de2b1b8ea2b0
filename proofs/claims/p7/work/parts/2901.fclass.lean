/-! 29, 1 -/
theorem dX8_ring_81 : decode cX8_ring 81 = .ok (.iload_n 2, 1) := of_0 ok_iload_n_2 (by decide +kernel)
theorem dX8_ring_82 : decode cX8_ring 82 = .ok (.isub, 1) := of_0 ok_isub (by decide +kernel)
theorem dX8_ring_83 : decode cX8_ring 83 = .ok (.ireturn, 1) := of_0 ok_ireturn (by decide +kernel)
theorem dX8_ring_84 : decode cX8_ring 84 = .ok (.iinc 3 1, 3) := of_ii ok_iinc 1 (by decide +kernel)
theorem dX8_ring_87 : decode cX8_ring 87 = .ok (.goto (-47), 3) := of_s2 ok_goto 255 209 (by decide +kernel)
theorem dX8_ring_90 : decode cX8_ring 90 = .ok (.iinc 2 1, 3) := of_ii ok_iinc 1 (by decide +kernel)
theorem dX8_ring_93 : decode cX8_ring 93 = .ok (.goto (-63), 3) := of_s2 ok_goto 255 193 (by decide +kernel)
theorem dX8_ring_96 : decode cX8_ring 96 = .ok (.bipush (-2), 2) := of_s1 ok_bipush 254 (by decide +kernel)
theorem dX8_ring_98 : decode cX8_ring 98 = .ok (.ireturn, 1) := of_0 ok_ireturn (by decide +kernel)
theorem dX8_rise_0 : decode cX8_rise 0 = .ok (.aload_n 0, 1) := of_0 ok_aload_n_0 (by decide +kernel)
theorem dX8_rise_1 : decode cX8_rise 1 = .ok (.getfield 29, 3) := of_u2 ok_getfield 0 29 (by decide +kernel)
theorem dX8_rise_4 : decode cX8_rise 4 = .ok (.getfield 81, 3) := of_u2 ok_getfield 0 81 (by decide +kernel)
theorem dX8_rise_7 : decode cX8_rise 7 = .ok (.iload_n 1, 1) := of_0 ok_iload_n_1 (by decide +kernel)
theorem dX8_rise_8 : decode cX8_rise 8 = .ok (.invokevirtual 176, 3) := of_u2 ok_invokevirtual 0 176 (by decide +kernel)
theorem dX8_rise_11 : decode cX8_rise 11 = .ok (.ifCond .ne 5, 3) := of_s2 ok_ifCond_ne 0 5 (by decide +kernel)
theorem dX8_rise_14 : decode cX8_rise 14 = .ok (.iconst (-1), 1) := of_0 ok_iconst_m1 (by decide +kernel)
theorem dX8_rise_15 : decode cX8_rise 15 = .ok (.ireturn, 1) := of_0 ok_ireturn (by decide +kernel)
theorem dX8_rise_16 : decode cX8_rise 16 = .ok (.aload_n 0, 1) := of_0 ok_aload_n_0 (by decide +kernel)
theorem dX8_rise_17 : decode cX8_rise 17 = .ok (.getfield 29, 3) := of_u2 ok_getfield 0 29 (by decide +kernel)
theorem dX8_rise_20 : decode cX8_rise 20 = .ok (.getfield 88, 3) := of_u2 ok_getfield 0 88 (by decide +kernel)
theorem dX8_rise_23 : decode cX8_rise 23 = .ok (.aload_n 0, 1) := of_0 ok_aload_n_0 (by decide +kernel)
theorem dX8_rise_24 : decode cX8_rise 24 = .ok (.getfield 29, 3) := of_u2 ok_getfield 0 29 (by decide +kernel)
theorem dX8_rise_27 : decode cX8_rise 27 = .ok (.getfield 81, 3) := of_u2 ok_getfield 0 81 (by decide +kernel)
theorem dX8_rise_30 : decode cX8_rise 30 = .ok (.invokevirtual 157, 3) := of_u2 ok_invokevirtual 0 157 (by decide +kernel)
theorem dX8_rise_33 : decode cX8_rise 33 = .ok (.aload_n 0, 1) := of_0 ok_aload_n_0 (by decide +kernel)
theorem dX8_rise_34 : decode cX8_rise 34 = .ok (.getfield 29, 3) := of_u2 ok_getfield 0 29 (by decide +kernel)
theorem dX8_rise_37 : decode cX8_rise 37 = .ok (.getfield 81, 3) := of_u2 ok_getfield 0 81 (by decide +kernel)
theorem dX8_rise_40 : decode cX8_rise 40 = .ok (.iload_n 1, 1) := of_0 ok_iload_n_1 (by decide +kernel)
theorem dX8_rise_41 : decode cX8_rise 41 = .ok (.iconst 0, 1) := of_0 ok_iconst_0 (by decide +kernel)
theorem dX8_rise_42 : decode cX8_rise 42 = .ok (.invokevirtual 168, 3) := of_u2 ok_invokevirtual 0 168 (by decide +kernel)
theorem dX8_rise_45 : decode cX8_rise 45 = .ok (.aload_n 0, 1) := of_0 ok_aload_n_0 (by decide +kernel)
theorem dX8_rise_46 : decode cX8_rise 46 = .ok (.getfield 29, 3) := of_u2 ok_getfield 0 29 (by decide +kernel)
theorem dX8_rise_49 : decode cX8_rise 49 = .ok (.getfield 81, 3) := of_u2 ok_getfield 0 81 (by decide +kernel)
theorem dX8_rise_52 : decode cX8_rise 52 = .ok (.invokevirtual 172, 3) := of_u2 ok_invokevirtual 0 172 (by decide +kernel)
theorem dX8_rise_55 : decode cX8_rise 55 = .ok (.ireturn, 1) := of_0 ok_ireturn (by decide +kernel)
theorem dX8_rule_0 : decode cX8_rule 0 = .ok (.aload_n 0, 1) := of_0 ok_aload_n_0 (by decide +kernel)
theorem dX8_rule_1 : decode cX8_rule 1 = .ok (.getfield 22, 3) := of_u2 ok_getfield 0 22 (by decide +kernel)
theorem dX8_rule_4 : decode cX8_rule 4 = .ok (.bipush 6, 2) := of_s1 ok_bipush 6 (by decide +kernel)
theorem dX8_rule_6 : decode cX8_rule 6 = .ok (.if_icmp .lt 5, 3) := of_s2 ok_if_icmp_lt 0 5 (by decide +kernel)
theorem dX8_rule_9 : decode cX8_rule 9 = .ok (.iconst (-1), 1) := of_0 ok_iconst_m1 (by decide +kernel)
theorem dX8_rule_10 : decode cX8_rule 10 = .ok (.ireturn, 1) := of_0 ok_ireturn (by decide +kernel)
theorem dX8_rule_11 : decode cX8_rule 11 = .ok (.aload_n 0, 1) := of_0 ok_aload_n_0 (by decide +kernel)
theorem dX8_rule_12 : decode cX8_rule 12 = .ok (.getfield 10, 3) := of_u2 ok_getfield 0 10 (by decide +kernel)
theorem dX8_rule_15 : decode cX8_rule 15 = .ok (.aload_n 0, 1) := of_0 ok_aload_n_0 (by decide +kernel)
theorem dX8_rule_16 : decode cX8_rule 16 = .ok (.getfield 18, 3) := of_u2 ok_getfield 0 18 (by decide +kernel)
theorem dX8_rule_19 : decode cX8_rule 19 = .ok (.aload_n 0, 1) := of_0 ok_aload_n_0 (by decide +kernel)
theorem dX8_rule_20 : decode cX8_rule 20 = .ok (.getfield 22, 3) := of_u2 ok_getfield 0 22 (by decide +kernel)
theorem dX8_rule_23 : decode cX8_rule 23 = .ok (.aaload, 1) := of_0 ok_aaload (by decide +kernel)
theorem dX8_rule_24 : decode cX8_rule 24 = .ok (.invokestatic 107, 3) := of_u2 ok_invokestatic 0 107 (by decide +kernel)
theorem dX8_rule_27 : decode cX8_rule 27 = .ok (.istore_n 1, 1) := of_0 ok_istore_n_1 (by decide +kernel)
theorem dX8_rule_28 : decode cX8_rule 28 = .ok (.aload_n 0, 1) := of_0 ok_aload_n_0 (by decide +kernel)
theorem dX8_rule_29 : decode cX8_rule 29 = .ok (.getfield 10, 3) := of_u2 ok_getfield 0 10 (by decide +kernel)
theorem dX8_rule_32 : decode cX8_rule 32 = .ok (.getfield 78, 3) := of_u2 ok_getfield 0 78 (by decide +kernel)
theorem dX8_rule_35 : decode cX8_rule 35 = .ok (.istore_n 2, 1) := of_0 ok_istore_n_2 (by decide +kernel)
theorem dX8_rule_36 : decode cX8_rule 36 = .ok (.aload_n 0, 1) := of_0 ok_aload_n_0 (by decide +kernel)
theorem dX8_rule_37 : decode cX8_rule 37 = .ok (.getfield 10, 3) := of_u2 ok_getfield 0 10 (by decide +kernel)
theorem dX8_rule_40 : decode cX8_rule 40 = .ok (.iconst 0, 1) := of_0 ok_iconst_0 (by decide +kernel)
theorem dX8_rule_41 : decode cX8_rule 41 = .ok (.putfield 65, 3) := of_u2 ok_putfield 0 65 (by decide +kernel)
theorem dX8_rule_44 : decode cX8_rule 44 = .ok (.iload_n 1, 1) := of_0 ok_iload_n_1 (by decide +kernel)
theorem dX8_rule_45 : decode cX8_rule 45 = .ok (.ifCond .ne 8, 3) := of_s2 ok_ifCond_ne 0 8 (by decide +kernel)
theorem dX8_rule_48 : decode cX8_rule 48 = .ok (.bipush (-2), 2) := of_s1 ok_bipush 254 (by decide +kernel)
theorem dX8_rule_50 : decode cX8_rule 50 = .ok (.iload_n 2, 1) := of_0 ok_iload_n_2 (by decide +kernel)
theorem dX8_rule_51 : decode cX8_rule 51 = .ok (.isub, 1) := of_0 ok_isub (by decide +kernel)
theorem dX8_rule_52 : decode cX8_rule 52 = .ok (.ireturn, 1) := of_0 ok_ireturn (by decide +kernel)
theorem dX8_rule_53 : decode cX8_rule 53 = .ok (.aload_n 0, 1) := of_0 ok_aload_n_0 (by decide +kernel)
theorem dX8_rule_54 : decode cX8_rule 54 = .ok (.dup, 1) := of_0 ok_dup (by decide +kernel)
theorem dX8_rule_55 : decode cX8_rule 55 = .ok (.getfield 22, 3) := of_u2 ok_getfield 0 22 (by decide +kernel)
theorem dX8_rule_58 : decode cX8_rule 58 = .ok (.iconst 1, 1) := of_0 ok_iconst_1 (by decide +kernel)
theorem dX8_rule_59 : decode cX8_rule 59 = .ok (.iadd, 1) := of_0 ok_iadd (by decide +kernel)
theorem dX8_rule_60 : decode cX8_rule 60 = .ok (.putfield 22, 3) := of_u2 ok_putfield 0 22 (by decide +kernel)
theorem dX8_rule_63 : decode cX8_rule 63 = .ok (.aload_n 0, 1) := of_0 ok_aload_n_0 (by decide +kernel)
theorem dX8_rule_64 : decode cX8_rule 64 = .ok (.getfield 22, 3) := of_u2 ok_getfield 0 22 (by decide +kernel)
theorem dX8_rule_67 : decode cX8_rule 67 = .ok (.iconst 1, 1) := of_0 ok_iconst_1 (by decide +kernel)
theorem dX8_rule_68 : decode cX8_rule 68 = .ok (.isub, 1) := of_0 ok_isub (by decide +kernel)
theorem dX8_rule_69 : decode cX8_rule 69 = .ok (.ireturn, 1) := of_0 ok_ireturn (by decide +kernel)
theorem dX8_ruleAt_0 : decode cX8_ruleAt 0 = .ok (.iload_n 1, 1) := of_0 ok_iload_n_1 (by decide +kernel)
theorem dX8_ruleAt_1 : decode cX8_ruleAt 1 = .ok (.ifCond .lt 20, 3) := of_s2 ok_ifCond_lt 0 20 (by decide +kernel)
theorem dX8_ruleAt_4 : decode cX8_ruleAt 4 = .ok (.iload_n 1, 1) := of_0 ok_iload_n_1 (by decide +kernel)
theorem dX8_ruleAt_5 : decode cX8_ruleAt 5 = .ok (.aload_n 0, 1) := of_0 ok_aload_n_0 (by decide +kernel)
theorem dX8_ruleAt_6 : decode cX8_ruleAt 6 = .ok (.getfield 22, 3) := of_u2 ok_getfield 0 22 (by decide +kernel)
theorem dX8_ruleAt_9 : decode cX8_ruleAt 9 = .ok (.if_icmp .ge 12, 3) := of_s2 ok_if_icmp_ge 0 12 (by decide +kernel)
theorem dX8_ruleAt_12 : decode cX8_ruleAt 12 = .ok (.aload_n 0, 1) := of_0 ok_aload_n_0 (by decide +kernel)
theorem dX8_ruleAt_13 : decode cX8_ruleAt 13 = .ok (.getfield 18, 3) := of_u2 ok_getfield 0 18 (by decide +kernel)
theorem dX8_ruleAt_16 : decode cX8_ruleAt 16 = .ok (.iload_n 1, 1) := of_0 ok_iload_n_1 (by decide +kernel)
theorem dX8_ruleAt_17 : decode cX8_ruleAt 17 = .ok (.aaload, 1) := of_0 ok_aaload (by decide +kernel)
theorem dX8_ruleAt_18 : decode cX8_ruleAt 18 = .ok (.goto 4, 3) := of_s2 ok_goto 0 4 (by decide +kernel)
theorem dX8_ruleAt_21 : decode cX8_ruleAt 21 = .ok (.aconst_null, 1) := of_0 ok_aconst_null (by decide +kernel)
theorem dX8_ruleAt_22 : decode cX8_ruleAt 22 = .ok (.areturn, 1) := of_0 ok_areturn (by decide +kernel)
theorem dX8_ruleInForce_0 : decode cX8_ruleInForce 0 = .ok (.aload_n 0, 1) := of_0 ok_aload_n_0 (by decide +kernel)
theorem dX8_ruleInForce_1 : decode cX8_ruleInForce 1 = .ok (.aload_n 0, 1) := of_0 ok_aload_n_0 (by decide +kernel)
theorem dX8_ruleInForce_2 : decode cX8_ruleInForce 2 = .ok (.getfield 29, 3) := of_u2 ok_getfield 0 29 (by decide +kernel)
theorem dX8_ruleInForce_5 : decode cX8_ruleInForce 5 = .ok (.getfield 112, 3) := of_u2 ok_getfield 0 112 (by decide +kernel)
theorem dX8_ruleInForce_8 : decode cX8_ruleInForce 8 = .ok (.invokevirtual 254, 3) := of_u2 ok_invokevirtual 0 254 (by decide +kernel)
theorem dX8_ruleInForce_11 : decode cX8_ruleInForce 11 = .ok (.areturn, 1) := of_0 ok_areturn (by decide +kernel)
theorem dX8_sit_0 : decode cX8_sit 0 = .ok (.aload_n 0, 1) := of_0 ok_aload_n_0 (by decide +kernel)
theorem dX8_sit_1 : decode cX8_sit 1 = .ok (.getfield 29, 3) := of_u2 ok_getfield 0 29 (by decide +kernel)
theorem dX8_sit_4 : decode cX8_sit 4 = .ok (.getfield 81, 3) := of_u2 ok_getfield 0 81 (by decide +kernel)
theorem dX8_sit_7 : decode cX8_sit 7 = .ok (.iload_n 1, 1) := of_0 ok_iload_n_1 (by decide +kernel)
theorem dX8_sit_8 : decode cX8_sit 8 = .ok (.invokevirtual 147, 3) := of_u2 ok_invokevirtual 0 147 (by decide +kernel)
theorem dX8_sit_11 : decode cX8_sit 11 = .ok (.ifCond .eq 5, 3) := of_s2 ok_ifCond_eq 0 5 (by decide +kernel)
theorem dX8_sit_14 : decode cX8_sit 14 = .ok (.iconst (-1), 1) := of_0 ok_iconst_m1 (by decide +kernel)
theorem dX8_sit_15 : decode cX8_sit 15 = .ok (.ireturn, 1) := of_0 ok_ireturn (by decide +kernel)
theorem dX8_sit_16 : decode cX8_sit 16 = .ok (.aload_n 0, 1) := of_0 ok_aload_n_0 (by decide +kernel)
theorem dX8_sit_17 : decode cX8_sit 17 = .ok (.getfield 29, 3) := of_u2 ok_getfield 0 29 (by decide +kernel)
theorem dX8_sit_20 : decode cX8_sit 20 = .ok (.getfield 88, 3) := of_u2 ok_getfield 0 88 (by decide +kernel)
theorem dX8_sit_23 : decode cX8_sit 23 = .ok (.aload_n 0, 1) := of_0 ok_aload_n_0 (by decide +kernel)
theorem dX8_sit_24 : decode cX8_sit 24 = .ok (.getfield 29, 3) := of_u2 ok_getfield 0 29 (by decide +kernel)
theorem dX8_sit_27 : decode cX8_sit 27 = .ok (.getfield 81, 3) := of_u2 ok_getfield 0 81 (by decide +kernel)
theorem dX8_sit_30 : decode cX8_sit 30 = .ok (.invokevirtual 157, 3) := of_u2 ok_invokevirtual 0 157 (by decide +kernel)
theorem dX8_sit_33 : decode cX8_sit 33 = .ok (.aload_n 0, 1) := of_0 ok_aload_n_0 (by decide +kernel)
theorem dX8_sit_34 : decode cX8_sit 34 = .ok (.getfield 29, 3) := of_u2 ok_getfield 0 29 (by decide +kernel)
theorem dX8_sit_37 : decode cX8_sit 37 = .ok (.getfield 81, 3) := of_u2 ok_getfield 0 81 (by decide +kernel)
theorem dX8_sit_40 : decode cX8_sit 40 = .ok (.iload_n 1, 1) := of_0 ok_iload_n_1 (by decide +kernel)
theorem dX8_sit_41 : decode cX8_sit 41 = .ok (.iconst 1, 1) := of_0 ok_iconst_1 (by decide +kernel)
theorem dX8_sit_42 : decode cX8_sit 42 = .ok (.invokevirtual 168, 3) := of_u2 ok_invokevirtual 0 168 (by decide +kernel)
theorem dX8_sit_45 : decode cX8_sit 45 = .ok (.aload_n 0, 1) := of_0 ok_aload_n_0 (by decide +kernel)
theorem dX8_sit_46 : decode cX8_sit 46 = .ok (.getfield 29, 3) := of_u2 ok_getfield 0 29 (by decide +kernel)
theorem dX8_sit_49 : decode cX8_sit 49 = .ok (.getfield 81, 3) := of_u2 ok_getfield 0 81 (by decide +kernel)
theorem dX8_sit_52 : decode cX8_sit 52 = .ok (.invokevirtual 172, 3) := of_u2 ok_invokevirtual 0 172 (by decide +kernel)
theorem dX8_sit_55 : decode cX8_sit 55 = .ok (.ireturn, 1) := of_0 ok_ireturn (by decide +kernel)
theorem dX8_sitter_0 : decode cX8_sitter 0 = .ok (.aload_n 0, 1) := of_0 ok_aload_n_0 (by decide +kernel)
theorem dX8_sitter_1 : decode cX8_sitter 1 = .ok (.getfield 29, 3) := of_u2 ok_getfield 0 29 (by decide +kernel)
theorem dX8_sitter_4 : decode cX8_sitter 4 = .ok (.getfield 81, 3) := of_u2 ok_getfield 0 81 (by decide +kernel)
theorem dX8_sitter_7 : decode cX8_sitter 7 = .ok (.astore_n 3, 1) := of_0 ok_astore_n_3 (by decide +kernel)
theorem dX8_sitter_8 : decode cX8_sitter 8 = .ok (.aload_n 3, 1) := of_0 ok_aload_n_3 (by decide +kernel)
theorem dX8_sitter_9 : decode cX8_sitter 9 = .ok (.iload_n 1, 1) := of_0 ok_iload_n_1 (by decide +kernel)
theorem dX8_sitter_10 : decode cX8_sitter 10 = .ok (.invokevirtual 138, 3) := of_u2 ok_invokevirtual 0 138 (by decide +kernel)
theorem dX8_sitter_13 : decode cX8_sitter 13 = .ok (.ifCond .ne 5, 3) := of_s2 ok_ifCond_ne 0 5 (by decide +kernel)
theorem dX8_sitter_16 : decode cX8_sitter 16 = .ok (.iconst (-1), 1) := of_0 ok_iconst_m1 (by decide +kernel)
theorem dX8_sitter_17 : decode cX8_sitter 17 = .ok (.ireturn, 1) := of_0 ok_ireturn (by decide +kernel)
theorem dX8_sitter_18 : decode cX8_sitter 18 = .ok (.iload_n 2, 1) := of_0 ok_iload_n_2 (by decide +kernel)
theorem dX8_sitter_19 : decode cX8_sitter 19 = .ok (.tableswitch 45 0 2 #[25, 32, 39], 25) := by decide +kernel
theorem dX8_sitter_44 : decode cX8_sitter 44 = .ok (.aload_n 3, 1) := of_0 ok_aload_n_3 (by decide +kernel)
theorem dX8_sitter_45 : decode cX8_sitter 45 = .ok (.getfield 141, 3) := of_u2 ok_getfield 0 141 (by decide +kernel)
theorem dX8_sitter_48 : decode cX8_sitter 48 = .ok (.iload_n 1, 1) := of_0 ok_iload_n_1 (by decide +kernel)
theorem dX8_sitter_49 : decode cX8_sitter 49 = .ok (.iaload, 1) := of_0 ok_iaload (by decide +kernel)
theorem dX8_sitter_50 : decode cX8_sitter 50 = .ok (.ireturn, 1) := of_0 ok_ireturn (by decide +kernel)
theorem dX8_sitter_51 : decode cX8_sitter 51 = .ok (.aload_n 3, 1) := of_0 ok_aload_n_3 (by decide +kernel)
theorem dX8_sitter_52 : decode cX8_sitter 52 = .ok (.getfield 144, 3) := of_u2 ok_getfield 0 144 (by decide +kernel)
theorem dX8_sitter_55 : decode cX8_sitter 55 = .ok (.iload_n 1, 1) := of_0 ok_iload_n_1 (by decide +kernel)
theorem dX8_sitter_56 : decode cX8_sitter 56 = .ok (.iaload, 1) := of_0 ok_iaload (by decide +kernel)
theorem dX8_sitter_57 : decode cX8_sitter 57 = .ok (.ireturn, 1) := of_0 ok_ireturn (by decide +kernel)
theorem dX8_sitter_58 : decode cX8_sitter 58 = .ok (.aload_n 3, 1) := of_0 ok_aload_n_3 (by decide +kernel)
theorem dX8_sitter_59 : decode cX8_sitter 59 = .ok (.iload_n 1, 1) := of_0 ok_iload_n_1 (by decide +kernel)
theorem dX8_sitter_60 : decode cX8_sitter 60 = .ok (.invokevirtual 147, 3) := of_u2 ok_invokevirtual 0 147 (by decide +kernel)
theorem dX8_sitter_63 : decode cX8_sitter 63 = .ok (.ireturn, 1) := of_0 ok_ireturn (by decide +kernel)
theorem dX8_sitter_64 : decode cX8_sitter 64 = .ok (.iconst (-1), 1) := of_0 ok_iconst_m1 (by decide +kernel)
theorem dX8_sitter_65 : decode cX8_sitter 65 = .ok (.ireturn, 1) := of_0 ok_ireturn (by decide +kernel)
theorem dX8_strand_0 : decode cX8_strand 0 = .ok (.aload_n 0, 1) := of_0 ok_aload_n_0 (by decide +kernel)
theorem dX8_strand_1 : decode cX8_strand 1 = .ok (.getfield 29, 3) := of_u2 ok_getfield 0 29 (by decide +kernel)
theorem dX8_strand_4 : decode cX8_strand 4 = .ok (.getfield 81, 3) := of_u2 ok_getfield 0 81 (by decide +kernel)
theorem dX8_strand_7 : decode cX8_strand 7 = .ok (.iload_n 1, 1) := of_0 ok_iload_n_1 (by decide +kernel)
theorem dX8_strand_8 : decode cX8_strand 8 = .ok (.invokevirtual 115, 3) := of_u2 ok_invokevirtual 0 115 (by decide +kernel)
theorem dX8_strand_11 : decode cX8_strand 11 = .ok (.ifCond .eq 18, 3) := of_s2 ok_ifCond_eq 0 18 (by decide +kernel)
theorem dX8_strand_14 : decode cX8_strand 14 = .ok (.aload_n 0, 1) := of_0 ok_aload_n_0 (by decide +kernel)
theorem dX8_strand_15 : decode cX8_strand 15 = .ok (.getfield 29, 3) := of_u2 ok_getfield 0 29 (by decide +kernel)
theorem dX8_strand_18 : decode cX8_strand 18 = .ok (.getfield 81, 3) := of_u2 ok_getfield 0 81 (by decide +kernel)
theorem dX8_strand_21 : decode cX8_strand 21 = .ok (.getfield 119, 3) := of_u2 ok_getfield 0 119 (by decide +kernel)
theorem dX8_strand_24 : decode cX8_strand 24 = .ok (.iload_n 1, 1) := of_0 ok_iload_n_1 (by decide +kernel)
theorem dX8_strand_25 : decode cX8_strand 25 = .ok (.iaload, 1) := of_0 ok_iaload (by decide +kernel)
theorem dX8_strand_26 : decode cX8_strand 26 = .ok (.goto 4, 3) := of_s2 ok_goto 0 4 (by decide +kernel)
theorem dX8_strand_29 : decode cX8_strand 29 = .ok (.iconst (-1), 1) := of_0 ok_iconst_m1 (by decide +kernel)
theorem dX8_strand_30 : decode cX8_strand 30 = .ok (.ireturn, 1) := of_0 ok_ireturn (by decide +kernel)
theorem dX8_tall_0 : decode cX8_tall 0 = .ok (.aload_n 0, 1) := of_0 ok_aload_n_0 (by decide +kernel)
theorem dX8_tall_1 : decode cX8_tall 1 = .ok (.getfield 29, 3) := of_u2 ok_getfield 0 29 (by decide +kernel)
theorem dX8_tall_4 : decode cX8_tall 4 = .ok (.getfield 81, 3) := of_u2 ok_getfield 0 81 (by decide +kernel)
theorem dX8_tall_7 : decode cX8_tall 7 = .ok (.astore_n 2, 1) := of_0 ok_astore_n_2 (by decide +kernel)
theorem dX8_tall_8 : decode cX8_tall 8 = .ok (.aload_n 2, 1) := of_0 ok_aload_n_2 (by decide +kernel)
theorem dX8_tall_9 : decode cX8_tall 9 = .ok (.getfield 150, 3) := of_u2 ok_getfield 0 150 (by decide +kernel)
theorem dX8_tall_12 : decode cX8_tall 12 = .ok (.ifCond .eq 12, 3) := of_s2 ok_ifCond_eq 0 12 (by decide +kernel)
theorem dX8_tall_15 : decode cX8_tall 15 = .ok (.iload_n 1, 1) := of_0 ok_iload_n_1 (by decide +kernel)
theorem dX8_tall_16 : decode cX8_tall 16 = .ok (.ifCond .lt 8, 3) := of_s2 ok_ifCond_lt 0 8 (by decide +kernel)
theorem dX8_tall_19 : decode cX8_tall 19 = .ok (.iload_n 1, 1) := of_0 ok_iload_n_1 (by decide +kernel)
theorem dX8_tall_20 : decode cX8_tall 20 = .ok (.iconst 1, 1) := of_0 ok_iconst_1 (by decide +kernel)
theorem dX8_tall_21 : decode cX8_tall 21 = .ok (.if_icmp .le 5, 3) := of_s2 ok_if_icmp_le 0 5 (by decide +kernel)
theorem dX8_tall_24 : decode cX8_tall 24 = .ok (.iconst (-1), 1) := of_0 ok_iconst_m1 (by decide +kernel)
theorem dX8_tall_25 : decode cX8_tall 25 = .ok (.ireturn, 1) := of_0 ok_ireturn (by decide +kernel)
theorem dX8_tall_26 : decode cX8_tall 26 = .ok (.iconst (-1), 1) := of_0 ok_iconst_m1 (by decide +kernel)
theorem dX8_tall_27 : decode cX8_tall 27 = .ok (.istore_n 3, 1) := of_0 ok_istore_n_3 (by decide +kernel)
theorem dX8_tall_28 : decode cX8_tall 28 = .ok (.iconst (-1), 1) := of_0 ok_iconst_m1 (by decide +kernel)
theorem dX8_tall_29 : decode cX8_tall 29 = .ok (.istore 4, 2) := of_u1 ok_istore (by decide +kernel)
theorem dX8_tall_31 : decode cX8_tall 31 = .ok (.iconst 0, 1) := of_0 ok_iconst_0 (by decide +kernel)
theorem dX8_tall_32 : decode cX8_tall 32 = .ok (.istore 5, 2) := of_u1 ok_istore (by decide +kernel)
theorem dX8_tall_34 : decode cX8_tall 34 = .ok (.iload 5, 2) := of_u1 ok_iload (by decide +kernel)
theorem dX8_tall_36 : decode cX8_tall 36 = .ok (.aload_n 2, 1) := of_0 ok_aload_n_2 (by decide +kernel)
theorem dX8_tall_37 : decode cX8_tall 37 = .ok (.getfield 104, 3) := of_u2 ok_getfield 0 104 (by decide +kernel)
theorem dX8_tall_40 : decode cX8_tall 40 = .ok (.if_icmp .ge 47, 3) := of_s2 ok_if_icmp_ge 0 47 (by decide +kernel)
theorem dX8_tall_43 : decode cX8_tall 43 = .ok (.aload_n 2, 1) := of_0 ok_aload_n_2 (by decide +kernel)
theorem dX8_tall_44 : decode cX8_tall 44 = .ok (.iload 5, 2) := of_u1 ok_iload (by decide +kernel)
theorem dX8_tall_46 : decode cX8_tall 46 = .ok (.invokevirtual 176, 3) := of_u2 ok_invokevirtual 0 176 (by decide +kernel)
theorem dX8_tall_49 : decode cX8_tall 49 = .ok (.ifCond .eq 15, 3) := of_s2 ok_ifCond_eq 0 15 (by decide +kernel)
theorem dX8_tall_52 : decode cX8_tall 52 = .ok (.aload_n 0, 1) := of_0 ok_aload_n_0 (by decide +kernel)
theorem dX8_tall_53 : decode cX8_tall 53 = .ok (.iload 5, 2) := of_u1 ok_iload (by decide +kernel)
theorem dX8_tall_55 : decode cX8_tall 55 = .ok (.invokevirtual 203, 3) := of_u2 ok_invokevirtual 0 203 (by decide +kernel)
theorem dX8_tall_58 : decode cX8_tall 58 = .ok (.invokestatic 182, 3) := of_u2 ok_invokestatic 0 182 (by decide +kernel)
theorem dX8_tall_61 : decode cX8_tall 61 = .ok (.goto 4, 3) := of_s2 ok_goto 0 4 (by decide +kernel)
theorem dX8_tall_64 : decode cX8_tall 64 = .ok (.iconst (-1), 1) := of_0 ok_iconst_m1 (by decide +kernel)
theorem dX8_tall_65 : decode cX8_tall 65 = .ok (.istore 6, 2) := of_u1 ok_istore (by decide +kernel)
theorem dX8_tall_67 : decode cX8_tall 67 = .ok (.iload 6, 2) := of_u1 ok_iload (by decide +kernel)
theorem dX8_tall_69 : decode cX8_tall 69 = .ok (.iload 4, 2) := of_u1 ok_iload (by decide +kernel)
theorem dX8_tall_71 : decode cX8_tall 71 = .ok (.if_icmp .le 10, 3) := of_s2 ok_if_icmp_le 0 10 (by decide +kernel)
theorem dX8_tall_74 : decode cX8_tall 74 = .ok (.iload 5, 2) := of_u1 ok_iload (by decide +kernel)
theorem dX8_tall_76 : decode cX8_tall 76 = .ok (.istore_n 3, 1) := of_0 ok_istore_n_3 (by decide +kernel)
theorem dX8_tall_77 : decode cX8_tall 77 = .ok (.iload 6, 2) := of_u1 ok_iload (by decide +kernel)
theorem dX8_tall_79 : decode cX8_tall 79 = .ok (.istore 4, 2) := of_u1 ok_istore (by decide +kernel)
theorem dX8_tall_81 : decode cX8_tall 81 = .ok (.iinc 5 1, 3) := of_ii ok_iinc 1 (by decide +kernel)
theorem dX8_tall_84 : decode cX8_tall 84 = .ok (.goto (-50), 3) := of_s2 ok_goto 255 206 (by decide +kernel)
theorem dX8_tall_87 : decode cX8_tall 87 = .ok (.iload_n 3, 1) := of_0 ok_iload_n_3 (by decide +kernel)
theorem dX8_tall_88 : decode cX8_tall 88 = .ok (.iconst (-1), 1) := of_0 ok_iconst_m1 (by decide +kernel)
theorem dX8_tall_89 : decode cX8_tall 89 = .ok (.if_icmp .ne 6, 3) := of_s2 ok_if_icmp_ne 0 6 (by decide +kernel)
theorem dX8_tall_92 : decode cX8_tall 92 = .ok (.bipush (-2), 2) := of_s1 ok_bipush 254 (by decide +kernel)
theorem dX8_tall_94 : decode cX8_tall 94 = .ok (.ireturn, 1) := of_0 ok_ireturn (by decide +kernel)
theorem dX8_tall_95 : decode cX8_tall 95 = .ok (.iload_n 1, 1) := of_0 ok_iload_n_1 (by decide +kernel)
theorem dX8_tall_96 : decode cX8_tall 96 = .ok (.ifCond .ne 7, 3) := of_s2 ok_ifCond_ne 0 7 (by decide +kernel)
theorem dX8_tall_99 : decode cX8_tall 99 = .ok (.iload_n 3, 1) := of_0 ok_iload_n_3 (by decide +kernel)
theorem dX8_tall_100 : decode cX8_tall 100 = .ok (.goto 5, 3) := of_s2 ok_goto 0 5 (by decide +kernel)
theorem dX8_tall_103 : decode cX8_tall 103 = .ok (.iload 4, 2) := of_u1 ok_iload (by decide +kernel)
theorem dX8_tall_105 : decode cX8_tall 105 = .ok (.ireturn, 1) := of_0 ok_ireturn (by decide +kernel)
theorem dX8_undo_0 : decode cX8_undo 0 = .ok (.aload_n 0, 1) := of_0 ok_aload_n_0 (by decide +kernel)
theorem dX8_undo_1 : decode cX8_undo 1 = .ok (.getfield 29, 3) := of_u2 ok_getfield 0 29 (by decide +kernel)
theorem dX8_undo_4 : decode cX8_undo 4 = .ok (.getfield 88, 3) := of_u2 ok_getfield 0 88 (by decide +kernel)
theorem dX8_undo_7 : decode cX8_undo 7 = .ok (.getfield 187, 3) := of_u2 ok_getfield 0 187 (by decide +kernel)
theorem dX8_undo_10 : decode cX8_undo 10 = .ok (.ifCond .gt 6, 3) := of_s2 ok_ifCond_gt 0 6 (by decide +kernel)
theorem dX8_undo_13 : decode cX8_undo 13 = .ok (.bipush (-2), 2) := of_s1 ok_bipush 254 (by decide +kernel)
theorem dX8_undo_15 : decode cX8_undo 15 = .ok (.ireturn, 1) := of_0 ok_ireturn (by decide +kernel)
theorem dX8_undo_16 : decode cX8_undo 16 = .ok (.aload_n 0, 1) := of_0 ok_aload_n_0 (by decide +kernel)
theorem dX8_undo_17 : decode cX8_undo 17 = .ok (.getfield 29, 3) := of_u2 ok_getfield 0 29 (by decide +kernel)
theorem dX8_undo_20 : decode cX8_undo 20 = .ok (.getfield 88, 3) := of_u2 ok_getfield 0 88 (by decide +kernel)
theorem dX8_undo_23 : decode cX8_undo 23 = .ok (.aload_n 0, 1) := of_0 ok_aload_n_0 (by decide +kernel)
theorem dX8_undo_24 : decode cX8_undo 24 = .ok (.getfield 29, 3) := of_u2 ok_getfield 0 29 (by decide +kernel)
theorem dX8_undo_27 : decode cX8_undo 27 = .ok (.getfield 81, 3) := of_u2 ok_getfield 0 81 (by decide +kernel)
theorem dX8_undo_30 : decode cX8_undo 30 = .ok (.invokevirtual 190, 3) := of_u2 ok_invokevirtual 0 190 (by decide +kernel)
theorem dX8_undo_33 : decode cX8_undo 33 = .ok (.aload_n 0, 1) := of_0 ok_aload_n_0 (by decide +kernel)
theorem dX8_undo_34 : decode cX8_undo 34 = .ok (.getfield 29, 3) := of_u2 ok_getfield 0 29 (by decide +kernel)
theorem dX8_undo_37 : decode cX8_undo 37 = .ok (.getfield 88, 3) := of_u2 ok_getfield 0 88 (by decide +kernel)
theorem dX8_undo_40 : decode cX8_undo 40 = .ok (.getfield 187, 3) := of_u2 ok_getfield 0 187 (by decide +kernel)
theorem dX8_undo_43 : decode cX8_undo 43 = .ok (.ireturn, 1) := of_0 ok_ireturn (by decide +kernel)
theorem dX8_watchSixty_0 : decode cX8_watchSixty 0 = .ok (.aload_n 0, 1) := of_0 ok_aload_n_0 (by decide +kernel)
theorem dX8_watchSixty_1 : decode cX8_watchSixty 1 = .ok (.invokevirtual 160, 3) := of_u2 ok_invokevirtual 0 160 (by decide +kernel)
theorem dX8_watchSixty_4 : decode cX8_watchSixty 4 = .ok (.astore_n 1, 1) := of_0 ok_astore_n_1 (by decide +kernel)
theorem dX8_watchSixty_5 : decode cX8_watchSixty 5 = .ok (.aload_n 0, 1) := of_0 ok_aload_n_0 (by decide +kernel)
theorem dX8_watchSixty_6 : decode cX8_watchSixty 6 = .ok (.getfield 44, 3) := of_u2 ok_getfield 0 44 (by decide +kernel)
theorem dX8_watchSixty_9 : decode cX8_watchSixty 9 = .ok (.aload_n 0, 1) := of_0 ok_aload_n_0 (by decide +kernel)
theorem dX8_watchSixty_10 : decode cX8_watchSixty 10 = .ok (.getfield 29, 3) := of_u2 ok_getfield 0 29 (by decide +kernel)
theorem dX8_watchSixty_13 : decode cX8_watchSixty 13 = .ok (.getfield 81, 3) := of_u2 ok_getfield 0 81 (by decide +kernel)
theorem dX8_watchSixty_16 : decode cX8_watchSixty 16 = .ok (.invokevirtual 84, 3) := of_u2 ok_invokevirtual 0 84 (by decide +kernel)
theorem dX8_watchSixty_19 : decode cX8_watchSixty 19 = .ok (.iconst 0, 1) := of_0 ok_iconst_0 (by decide +kernel)
theorem dX8_watchSixty_20 : decode cX8_watchSixty 20 = .ok (.istore_n 2, 1) := of_0 ok_istore_n_2 (by decide +kernel)
theorem dX8_watchSixty_21 : decode cX8_watchSixty 21 = .ok (.iload_n 2, 1) := of_0 ok_iload_n_2 (by decide +kernel)
theorem dX8_watchSixty_22 : decode cX8_watchSixty 22 = .ok (.bipush 60, 2) := of_s1 ok_bipush 60 (by decide +kernel)
theorem dX8_watchSixty_24 : decode cX8_watchSixty 24 = .ok (.if_icmp .gt 42, 3) := of_s2 ok_if_icmp_gt 0 42 (by decide +kernel)
theorem dX8_watchSixty_27 : decode cX8_watchSixty 27 = .ok (.aload_n 0, 1) := of_0 ok_aload_n_0 (by decide +kernel)
theorem dX8_watchSixty_28 : decode cX8_watchSixty 28 = .ok (.getfield 58, 3) := of_u2 ok_getfield 0 58 (by decide +kernel)
theorem dX8_watchSixty_31 : decode cX8_watchSixty 31 = .ok (.iload_n 2, 1) := of_0 ok_iload_n_2 (by decide +kernel)
theorem dX8_watchSixty_32 : decode cX8_watchSixty 32 = .ok (.aload_n 0, 1) := of_0 ok_aload_n_0 (by decide +kernel)
theorem dX8_watchSixty_33 : decode cX8_watchSixty 33 = .ok (.getfield 44, 3) := of_u2 ok_getfield 0 44 (by decide +kernel)
theorem dX8_watchSixty_36 : decode cX8_watchSixty 36 = .ok (.getfield 200, 3) := of_u2 ok_getfield 0 200 (by decide +kernel)
theorem dX8_watchSixty_39 : decode cX8_watchSixty 39 = .ok (.aload_n 0, 1) := of_0 ok_aload_n_0 (by decide +kernel)
theorem dX8_watchSixty_40 : decode cX8_watchSixty 40 = .ok (.getfield 44, 3) := of_u2 ok_getfield 0 44 (by decide +kernel)
theorem dX8_watchSixty_43 : decode cX8_watchSixty 43 = .ok (.getfield 179, 3) := of_u2 ok_getfield 0 179 (by decide +kernel)
theorem dX8_watchSixty_46 : decode cX8_watchSixty 46 = .ok (.bipush 8, 2) := of_s1 ok_bipush 8 (by decide +kernel)
theorem dX8_watchSixty_48 : decode cX8_watchSixty 48 = .ok (.ishl, 1) := of_0 ok_ishl (by decide +kernel)
theorem dX8_watchSixty_49 : decode cX8_watchSixty 49 = .ok (.ior, 1) := of_0 ok_ior (by decide +kernel)
theorem dX8_watchSixty_50 : decode cX8_watchSixty 50 = .ok (.iastore, 1) := of_0 ok_iastore (by decide +kernel)
theorem dX8_watchSixty_51 : decode cX8_watchSixty 51 = .ok (.aload_n 0, 1) := of_0 ok_aload_n_0 (by decide +kernel)
theorem dX8_watchSixty_52 : decode cX8_watchSixty 52 = .ok (.getfield 44, 3) := of_u2 ok_getfield 0 44 (by decide +kernel)
theorem dX8_watchSixty_55 : decode cX8_watchSixty 55 = .ok (.aload_n 1, 1) := of_0 ok_aload_n_1 (by decide +kernel)
theorem dX8_watchSixty_56 : decode cX8_watchSixty 56 = .ok (.invokevirtual 164, 3) := of_u2 ok_invokevirtual 0 164 (by decide +kernel)
theorem dX8_watchSixty_59 : decode cX8_watchSixty 59 = .ok (.pop, 1) := of_0 ok_pop (by decide +kernel)
theorem dX8_watchSixty_60 : decode cX8_watchSixty 60 = .ok (.iinc 2 1, 3) := of_ii ok_iinc 1 (by decide +kernel)
theorem dX8_watchSixty_63 : decode cX8_watchSixty 63 = .ok (.goto (-42), 3) := of_s2 ok_goto 255 214 (by decide +kernel)
theorem dX8_watchSixty_66 : decode cX8_watchSixty 66 = .ok (.return_, 1) := of_0 ok_return_ (by decide +kernel)
theorem dX8_way_0 : decode cX8_way 0 = .ok (.aload_n 0, 1) := of_0 ok_aload_n_0 (by decide +kernel)
theorem dX8_way_1 : decode cX8_way 1 = .ok (.getfield 29, 3) := of_u2 ok_getfield 0 29 (by decide +kernel)
theorem dX8_way_4 : decode cX8_way 4 = .ok (.getfield 81, 3) := of_u2 ok_getfield 0 81 (by decide +kernel)
theorem dX8_way_7 : decode cX8_way 7 = .ok (.astore_n 2, 1) := of_0 ok_astore_n_2 (by decide +kernel)
theorem dX8_way_8 : decode cX8_way 8 = .ok (.aload_n 2, 1) := of_0 ok_aload_n_2 (by decide +kernel)
theorem dX8_way_9 : decode cX8_way 9 = .ok (.getfield 150, 3) := of_u2 ok_getfield 0 150 (by decide +kernel)
theorem dX8_way_12 : decode cX8_way 12 = .ok (.ifCond .eq 13, 3) := of_s2 ok_ifCond_eq 0 13 (by decide +kernel)
theorem dX8_way_15 : decode cX8_way 15 = .ok (.iload_n 1, 1) := of_0 ok_iload_n_1 (by decide +kernel)
theorem dX8_way_16 : decode cX8_way 16 = .ok (.ifCond .lt 9, 3) := of_s2 ok_ifCond_lt 0 9 (by decide +kernel)
theorem dX8_way_19 : decode cX8_way 19 = .ok (.iload_n 1, 1) := of_0 ok_iload_n_1 (by decide +kernel)
theorem dX8_way_20 : decode cX8_way 20 = .ok (.bipush 8, 2) := of_s1 ok_bipush 8 (by decide +kernel)
theorem dX8_way_22 : decode cX8_way 22 = .ok (.if_icmp .lt 6, 3) := of_s2 ok_if_icmp_lt 0 6 (by decide +kernel)
theorem dX8_way_25 : decode cX8_way 25 = .ok (.bipush (-3), 2) := of_s1 ok_bipush 253 (by decide +kernel)
theorem dX8_way_27 : decode cX8_way 27 = .ok (.ireturn, 1) := of_0 ok_ireturn (by decide +kernel)
theorem dX8_way_28 : decode cX8_way 28 = .ok (.iload_n 1, 1) := of_0 ok_iload_n_1 (by decide +kernel)
theorem dX8_way_29 : decode cX8_way 29 = .ok (.aload_n 2, 1) := of_0 ok_aload_n_2 (by decide +kernel)
theorem dX8_way_30 : decode cX8_way 30 = .ok (.getfield 200, 3) := of_u2 ok_getfield 0 200 (by decide +kernel)
theorem dX8_way_33 : decode cX8_way 33 = .ok (.invokestatic 182, 3) := of_u2 ok_invokestatic 0 182 (by decide +kernel)
theorem dX8_way_36 : decode cX8_way 36 = .ok (.if_icmp .lt 5, 3) := of_s2 ok_if_icmp_lt 0 5 (by decide +kernel)
theorem dX8_way_39 : decode cX8_way 39 = .ok (.iconst (-1), 1) := of_0 ok_iconst_m1 (by decide +kernel)
theorem dX8_way_40 : decode cX8_way 40 = .ok (.ireturn, 1) := of_0 ok_ireturn (by decide +kernel)
theorem dX8_way_41 : decode cX8_way 41 = .ok (.aload_n 0, 1) := of_0 ok_aload_n_0 (by decide +kernel)
theorem dX8_way_42 : decode cX8_way 42 = .ok (.invokevirtual 212, 3) := of_u2 ok_invokevirtual 0 212 (by decide +kernel)
theorem dX8_way_45 : decode cX8_way 45 = .ok (.aload_n 2, 1) := of_0 ok_aload_n_2 (by decide +kernel)
theorem dX8_way_46 : decode cX8_way 46 = .ok (.getfield 200, 3) := of_u2 ok_getfield 0 200 (by decide +kernel)
theorem dX8_way_49 : decode cX8_way 49 = .ok (.istore_n 3, 1) := of_0 ok_istore_n_3 (by decide +kernel)
theorem dX8_way_50 : decode cX8_way 50 = .ok (.aload_n 0, 1) := of_0 ok_aload_n_0 (by decide +kernel)
theorem dX8_way_51 : decode cX8_way 51 = .ok (.iload_n 3, 1) := of_0 ok_iload_n_3 (by decide +kernel)
theorem dX8_way_52 : decode cX8_way 52 = .ok (.invokevirtual 215, 3) := of_u2 ok_invokevirtual 0 215 (by decide +kernel)
theorem dX8_way_55 : decode cX8_way 55 = .ok (.istore 4, 2) := of_u1 ok_istore (by decide +kernel)
theorem dX8_way_57 : decode cX8_way 57 = .ok (.iconst 0, 1) := of_0 ok_iconst_0 (by decide +kernel)
theorem dX8_way_58 : decode cX8_way 58 = .ok (.istore 5, 2) := of_u1 ok_istore (by decide +kernel)
theorem dX8_way_60 : decode cX8_way 60 = .ok (.iload 5, 2) := of_u1 ok_iload (by decide +kernel)
theorem dX8_way_62 : decode cX8_way 62 = .ok (.iload_n 1, 1) := of_0 ok_iload_n_1 (by decide +kernel)
theorem dX8_way_63 : decode cX8_way 63 = .ok (.if_icmp .ge 31, 3) := of_s2 ok_if_icmp_ge 0 31 (by decide +kernel)
theorem dX8_way_66 : decode cX8_way 66 = .ok (.iload 4, 2) := of_u1 ok_iload (by decide +kernel)
theorem dX8_way_68 : decode cX8_way 68 = .ok (.iconst (-1), 1) := of_0 ok_iconst_m1 (by decide +kernel)
theorem dX8_way_69 : decode cX8_way 69 = .ok (.if_icmp .eq 25, 3) := of_s2 ok_if_icmp_eq 0 25 (by decide +kernel)
theorem dX8_way_72 : decode cX8_way 72 = .ok (.iload_n 3, 1) := of_0 ok_iload_n_3 (by decide +kernel)
theorem dX8_way_73 : decode cX8_way 73 = .ok (.iconst 1, 1) := of_0 ok_iconst_1 (by decide +kernel)
theorem dX8_way_74 : decode cX8_way 74 = .ok (.iload 4, 2) := of_u1 ok_iload (by decide +kernel)
theorem dX8_way_76 : decode cX8_way 76 = .ok (.ishl, 1) := of_0 ok_ishl (by decide +kernel)
theorem dX8_way_77 : decode cX8_way 77 = .ok (.iconst (-1), 1) := of_0 ok_iconst_m1 (by decide +kernel)
theorem dX8_way_78 : decode cX8_way 78 = .ok (.ixor, 1) := of_0 ok_ixor (by decide +kernel)
theorem dX8_way_79 : decode cX8_way 79 = .ok (.iand, 1) := of_0 ok_iand (by decide +kernel)
theorem dX8_way_80 : decode cX8_way 80 = .ok (.istore_n 3, 1) := of_0 ok_istore_n_3 (by decide +kernel)
theorem dX8_way_81 : decode cX8_way 81 = .ok (.aload_n 0, 1) := of_0 ok_aload_n_0 (by decide +kernel)
theorem dX8_way_82 : decode cX8_way 82 = .ok (.iload_n 3, 1) := of_0 ok_iload_n_3 (by decide +kernel)
theorem dX8_way_83 : decode cX8_way 83 = .ok (.invokevirtual 215, 3) := of_u2 ok_invokevirtual 0 215 (by decide +kernel)
theorem dX8_way_86 : decode cX8_way 86 = .ok (.istore 4, 2) := of_u1 ok_istore (by decide +kernel)
theorem dX8_way_88 : decode cX8_way 88 = .ok (.iinc 5 1, 3) := of_ii ok_iinc 1 (by decide +kernel)
theorem dX8_way_91 : decode cX8_way 91 = .ok (.goto (-31), 3) := of_s2 ok_goto 255 225 (by decide +kernel)
theorem dX8_way_94 : decode cX8_way 94 = .ok (.iload 4, 2) := of_u1 ok_iload (by decide +kernel)
theorem dX8_way_96 : decode cX8_way 96 = .ok (.iconst (-1), 1) := of_0 ok_iconst_m1 (by decide +kernel)
theorem dX8_way_97 : decode cX8_way 97 = .ok (.if_icmp .ne 8, 3) := of_s2 ok_if_icmp_ne 0 8 (by decide +kernel)
theorem dX8_way_100 : decode cX8_way 100 = .ok (.bipush (-2), 2) := of_s1 ok_bipush 254 (by decide +kernel)
theorem dX8_way_102 : decode cX8_way 102 = .ok (.goto 5, 3) := of_s2 ok_goto 0 5 (by decide +kernel)
theorem dX8_way_105 : decode cX8_way 105 = .ok (.iload 4, 2) := of_u1 ok_iload (by decide +kernel)
theorem dX8_way_107 : decode cX8_way 107 = .ok (.ireturn, 1) := of_0 ok_ireturn (by decide +kernel)
set_option maxRecDepth 20000 in
theorem bq_wsX8_ahead : subq wsX8_ahead [wsX8_ahead_r1, wsX8_ahead_r2, wsX8_ahead_r3, wsX8_ahead_r4, wsX8_ahead_r5, wsX8_ahead_r6] := ⟨(fun _ h => (List.mem_cons_of_mem _ (List.mem_append_left _ (List.mem_append_left _ (List.mem_append_left _ (List.mem_append_left _ (List.mem_append_left _ h))))))), (fun _ h => (List.mem_cons_of_mem _ (List.mem_append_left _ (List.mem_append_left _ (List.mem_append_left _ (List.mem_append_left _ (List.mem_append_right _ (List.mem_append_left _ h)))))))), (fun _ h => (List.mem_cons_of_mem _ (List.mem_append_left _ (List.mem_append_left _ (List.mem_append_left _ (List.mem_append_left _ (List.mem_append_right _ (List.mem_append_right _ (List.mem_append_left _ h))))))))), (fun _ h => (List.mem_cons_of_mem _ (List.mem_append_left _ (List.mem_append_left _ (List.mem_append_left _ (List.mem_append_left _ (List.mem_append_right _ (List.mem_append_right _ (List.mem_append_right _ (List.mem_append_left _ h)))))))))), (fun _ h => (List.mem_cons_of_mem _ (List.mem_append_left _ (List.mem_append_left _ (List.mem_append_left _ (List.mem_append_left _ (List.mem_append_right _ (List.mem_append_right _ (List.mem_append_right _ (List.mem_append_right _ (List.mem_append_left _ h))))))))))), (fun _ h => (List.mem_cons_of_mem _ (List.mem_append_left _ (List.mem_append_left _ (List.mem_append_left _ (List.mem_append_left _ (List.mem_append_right _ (List.mem_append_right _ (List.mem_append_right _ (List.mem_append_right _ (List.mem_append_right _ h))))))))))), trivial⟩
set_option maxRecDepth 20000 in
theorem ggX8_ahead_J6_bitCount_0f7a4 : GoodIn wsX8_ahead wsJ6_bitCount_0f7a4 := (goodIn_cons (good_rb bq_wsX8_ahead ([(3, 23)] : List (Nat × Nat)) rfl (by decide +kernel)) (good_rb bq_wsX8_ahead ([(4, 0), (4, 1), (4, 2)] : List (Nat × Nat)) rfl (by decide +kernel)))
set_option maxRecDepth 20000 in
theorem gX8_ahead_J6_bitCount_0f7a4 : GoodIn wsX8_ahead (va_wsS RX8 182 yJ6_bitCount_0f7a4 wsJ6_bitCount_0f7a4) := goodIn_app (good_rp ([119, 94, 95] : List Nat) rfl (by decide +kernel)) ggX8_ahead_J6_bitCount_0f7a4
set_option maxRecDepth 20000 in
theorem ggX8_ahead_X3_copyFrom : GoodIn wsX8_ahead wsX3_copyFrom := (goodIn_cons (good_rb bq_wsX8_ahead ([(0, 14)] : List (Nat × Nat)) rfl (by decide +kernel)) (goodIn_app (good_rb bq_wsX8_ahead ([(0, 15), (0, 16), (0, 17), (0, 10), (0, 18), (0, 19), (0, 20), (0, 21), (0, 22), (0, 23), (1, 0), (1, 1), (1, 2), (1, 3), (1, 4), (1, 5), (1, 6), (1, 7), (1, 8), (1, 9)] : List (Nat × Nat)) rfl (by decide +kernel)) (goodIn_sb (fun _ h => (List.mem_cons_of_mem _ (List.mem_append_left _ (List.mem_append_right _ h)))) (by decide +kernel))))
set_option maxRecDepth 20000 in
theorem gX8_ahead_X3_copyFrom : GoodIn wsX8_ahead (wsV RX8 84 RX3 yX3_copyFrom wsX3_copyFrom) := goodIn_app (good_rp ([12, 13, 14, 9] : List Nat) rfl (by decide +kernel)) ggX8_ahead_X3_copyFrom
set_option maxRecDepth 20000 in
theorem ggX8_ahead_X3_givesUnder : GoodIn wsX8_ahead wsX3_givesUnder := (goodIn_cons (good_rb bq_wsX8_ahead ([(3, 19)] : List (Nat × Nat)) rfl (by decide +kernel)) (goodIn_app (good_rb bq_wsX8_ahead ([(0, 10), (1, 6), (1, 0), (1, 1), (1, 4), (1, 3), (1, 2)] : List (Nat × Nat)) rfl (by decide +kernel)) (goodIn_sb (fun _ h => (List.mem_cons_of_mem _ (List.mem_append_left _ (List.mem_append_right _ h)))) (by decide +kernel))))
set_option maxRecDepth 20000 in
theorem gX8_ahead_X3_givesUnder : GoodIn wsX8_ahead (wsV RX8 135 RX3 yX3_givesUnder wsX3_givesUnder) := goodIn_app (good_rp ([124, 90, 91, 9] : List Nat) rfl (by decide +kernel)) ggX8_ahead_X3_givesUnder
set_option maxRecDepth 20000 in
theorem ggX8_ahead_X3_hasSitter : GoodIn wsX8_ahead wsX3_hasSitter := (goodIn_cons (good_rb bq_wsX8_ahead ([(0, 9)] : List (Nat × Nat)) rfl (by decide +kernel)) (goodIn_app (good_rb bq_wsX8_ahead ([(0, 10)] : List (Nat × Nat)) rfl (by decide +kernel)) (goodIn_sb (fun _ h => (List.mem_cons_of_mem _ (List.mem_append_left _ (List.mem_append_right _ h)))) (by decide +kernel))))
set_option maxRecDepth 20000 in
theorem gX8_ahead_X3_hasSitter : GoodIn wsX8_ahead (wsV RX8 138 RX3 yX3_hasSitter wsX3_hasSitter) := goodIn_app (good_rp ([6, 7, 8, 9] : List Nat) rfl (by decide +kernel)) ggX8_ahead_X3_hasSitter
set_option maxRecDepth 20000 in
theorem ggX8_ahead_X3_passMinutes : GoodIn wsX8_ahead wsX3_passMinutes := (goodIn_cons (good_rb bq_wsX8_ahead ([(2, 1)] : List (Nat × Nat)) rfl (by decide +kernel)) (goodIn_app (goodIn_app (goodIn_app (good_rb bq_wsX8_ahead ([(2, 2), (2, 3), (2, 4), (0, 8), (2, 5), (0, 10), (1, 9), (2, 6), (1, 8), (2, 7), (2, 8), (2, 9), (2, 10), (1, 0), (1, 1), (1, 6), (1, 4), (1, 2), (1, 5), (2, 11), (2, 12), (2, 13), (2, 14), (1, 7)] : List (Nat × Nat)) rfl (by decide +kernel)) (goodIn_app (good_rb bq_wsX8_ahead ([(2, 15), (2, 16), (2, 17), (2, 18), (2, 19), (2, 20), (2, 21), (2, 22), (2, 23), (3, 0), (3, 1), (3, 2), (3, 3), (3, 4), (3, 5), (3, 6), (3, 7), (3, 8), (3, 9), (3, 10), (3, 11), (3, 12), (3, 13), (3, 14)] : List (Nat × Nat)) rfl (by decide +kernel)) (goodIn_app (good_rb bq_wsX8_ahead ([(0, 23), (1, 3), (3, 15), (0, 6), (0, 7), (0, 9), (3, 16), (3, 17), (3, 18), (3, 19), (3, 20), (3, 21), (3, 22), (3, 23), (4, 0), (4, 1), (4, 2), (4, 3), (4, 4), (4, 5), (4, 6), (4, 7), (4, 8), (4, 9)] : List (Nat × Nat)) rfl (by decide +kernel)) (good_rb bq_wsX8_ahead ([(4, 10), (4, 11), (4, 12), (4, 13), (4, 14), (4, 15), (4, 16), (4, 17), (4, 18), (4, 19), (4, 20), (4, 21)] : List (Nat × Nat)) rfl (by decide +kernel))))) (goodIn_sb (fun _ h => (List.mem_cons_of_mem _ (List.mem_append_left _ (List.mem_append_right _ h)))) (by decide +kernel))) (goodIn_sb (fun _ h => (List.mem_cons_of_mem _ (List.mem_append_right _ h))) (by decide +kernel))))
set_option maxRecDepth 20000 in
theorem gX8_ahead_X3_passMinutes : GoodIn wsX8_ahead (wsV RX8 193 RX3 yX3_passMinutes wsX3_passMinutes) := goodIn_app (good_rp ([47, 48, 49, 9] : List Nat) rfl (by decide +kernel)) ggX8_ahead_X3_passMinutes
set_option maxRecDepth 20000 in
theorem ggX8_ahead_X3_stateOf : GoodIn wsX8_ahead wsX3_stateOf := (goodIn_cons (good_rb bq_wsX8_ahead ([(5, 2)] : List (Nat × Nat)) rfl (by decide +kernel)) (goodIn_app (good_rb bq_wsX8_ahead ([(1, 7), (1, 6), (3, 15), (0, 6), (0, 7), (0, 8), (0, 9), (0, 10)] : List (Nat × Nat)) rfl (by decide +kernel)) (goodIn_sb (fun _ h => (List.mem_cons_of_mem _ (List.mem_append_left _ (List.mem_append_right _ h)))) (by decide +kernel))))
set_option maxRecDepth 20000 in
theorem gX8_ahead_X3_stateOf : GoodIn wsX8_ahead (wsV RX8 147 RX3 yX3_stateOf wsX3_stateOf) := goodIn_app (good_rp ([120, 121, 122, 9] : List Nat) rfl (by decide +kernel)) ggX8_ahead_X3_stateOf
set_option maxRecDepth 20000 in
theorem ggX8_ahead_X8_ruleInForce : GoodIn wsX8_ahead wsX8_ruleInForce := (goodIn_cons (good_rb bq_wsX8_ahead ([(1, 14)] : List (Nat × Nat)) rfl (by decide +kernel)) (goodIn_app (goodIn_app (good_rb bq_wsX8_ahead ([(0, 0), (1, 15), (1, 16), (1, 17), (1, 18), (1, 13), (1, 19), (1, 20), (1, 21)] : List (Nat × Nat)) rfl (by decide +kernel)) (goodIn_sb (fun _ h => (List.mem_cons_of_mem _ (List.mem_append_left _ (List.mem_append_left _ (List.mem_append_left _ (List.mem_append_right _ h)))))) (by decide +kernel))) (goodIn_sb (fun _ h => (List.mem_cons_of_mem _ (List.mem_append_left _ (List.mem_append_left _ (List.mem_append_right _ h))))) (by decide +kernel))))
set_option maxRecDepth 20000 in
theorem gX8_ahead_X8_ruleInForce : GoodIn wsX8_ahead (wsV RX8 160 RX8 yX8_ruleInForce wsX8_ruleInForce) := goodIn_app (good_rp ([35, 36, 37, 38] : List Nat) rfl (by decide +kernel)) ggX8_ahead_X8_ruleInForce
set_option maxRecDepth 20000 in
theorem bq_wsX8_chair : subq wsX8_chair [wsX8_chair_r1, wsX8_chair_r2] := ⟨(fun _ h => (List.mem_cons_of_mem _ (List.mem_append_left _ (List.mem_append_left _ (List.mem_append_left _ (List.mem_append_left _ h)))))), (fun _ h => (List.mem_cons_of_mem _ (List.mem_append_left _ (List.mem_append_left _ (List.mem_append_left _ (List.mem_append_right _ h)))))), trivial⟩
set_option maxRecDepth 20000 in
theorem ggX8_chair_X3_givesUnder : GoodIn wsX8_chair wsX3_givesUnder := (goodIn_cons (good_rb bq_wsX8_chair ([(0, 19)] : List (Nat × Nat)) rfl (by decide +kernel)) (goodIn_app (good_rb bq_wsX8_chair ([(0, 14), (0, 20), (0, 21), (0, 15), (0, 22), (0, 23), (1, 0)] : List (Nat × Nat)) rfl (by decide +kernel)) (goodIn_sb (fun _ h => (List.mem_cons_of_mem _ (List.mem_append_right _ h))) (by decide +kernel))))
set_option maxRecDepth 20000 in
theorem gX8_chair_X3_givesUnder : GoodIn wsX8_chair (wsV RX8 135 RX3 yX3_givesUnder wsX3_givesUnder) := goodIn_app (good_rp ([17, 18, 19, 8] : List Nat) rfl (by decide +kernel)) ggX8_chair_X3_givesUnder
set_option maxRecDepth 20000 in
theorem ggX8_chair_X3_hasChair : GoodIn wsX8_chair wsX3_hasChair := (goodIn_cons (good_rb bq_wsX8_chair ([(0, 8)] : List (Nat × Nat)) rfl (by decide +kernel)) (goodIn_app (good_rb bq_wsX8_chair ([(0, 9)] : List (Nat × Nat)) rfl (by decide +kernel)) (goodIn_sb (fun _ h => (List.mem_cons_of_mem _ (List.mem_append_right _ h))) (by decide +kernel))))
set_option maxRecDepth 20000 in
theorem gX8_chair_X3_hasChair : GoodIn wsX8_chair (wsV RX8 122 RX3 yX3_hasChair wsX3_hasChair) := goodIn_app (good_rp ([5, 6, 7, 8] : List Nat) rfl (by decide +kernel)) ggX8_chair_X3_hasChair
set_option maxRecDepth 20000 in
theorem ggX8_chair_X3_sitterOn : GoodIn wsX8_chair wsX3_sitterOn := (goodIn_cons (good_rb bq_wsX8_chair ([(0, 13)] : List (Nat × Nat)) rfl (by decide +kernel)) (goodIn_app (good_rb bq_wsX8_chair ([(0, 14), (0, 15)] : List (Nat × Nat)) rfl (by decide +kernel)) (goodIn_sb (fun _ h => (List.mem_cons_of_mem _ (List.mem_append_right _ h))) (by decide +kernel))))
set_option maxRecDepth 20000 in
theorem gX8_chair_X3_sitterOn : GoodIn wsX8_chair (wsV RX8 131 RX3 yX3_sitterOn wsX3_sitterOn) := goodIn_app (good_rp ([11, 12, 13, 8] : List Nat) rfl (by decide +kernel)) ggX8_chair_X3_sitterOn
set_option maxRecDepth 20000 in
theorem bq_wsX8_ease : subq wsX8_ease [wsX8_ease_r1, wsX8_ease_r2, wsX8_ease_r3] := ⟨(fun _ h => (List.mem_cons_of_mem _ (List.mem_append_left _ (List.mem_append_left _ (List.mem_append_left _ (List.mem_append_left _ h)))))), (fun _ h => (List.mem_cons_of_mem _ (List.mem_append_left _ (List.mem_append_left _ (List.mem_append_left _ (List.mem_append_right _ (List.mem_append_left _ h))))))), (fun _ h => (List.mem_cons_of_mem _ (List.mem_append_left _ (List.mem_append_left _ (List.mem_append_left _ (List.mem_append_right _ (List.mem_append_right _ h))))))), trivial⟩
set_option maxRecDepth 20000 in
theorem ggX8_ease_J6_bitCount_0f7a4 : GoodIn wsX8_ease wsJ6_bitCount_0f7a4 := (goodIn_cons (good_rb bq_wsX8_ease ([(1, 13)] : List (Nat × Nat)) rfl (by decide +kernel)) (good_rb bq_wsX8_ease ([(1, 14), (1, 15), (1, 16)] : List (Nat × Nat)) rfl (by decide +kernel)))
set_option maxRecDepth 20000 in
theorem gX8_ease_J6_bitCount_0f7a4 : GoodIn wsX8_ease (va_wsS RX8 182 yJ6_bitCount_0f7a4 wsJ6_bitCount_0f7a4) := goodIn_app (good_rp ([35, 36, 37] : List Nat) rfl (by decide +kernel)) ggX8_ease_J6_bitCount_0f7a4
set_option maxRecDepth 20000 in
theorem ggX8_ease_X3_bears : GoodIn wsX8_ease wsX3_bears := (goodIn_cons (good_rb bq_wsX8_ease ([(1, 20)] : List (Nat × Nat)) rfl (by decide +kernel)) (goodIn_app (goodIn_app (good_rb bq_wsX8_ease ([(0, 11), (1, 21), (1, 22), (1, 23), (0, 8), (2, 0), (1, 6), (1, 7), (0, 10), (1, 2), (1, 3), (1, 4), (2, 1), (2, 2), (2, 3), (2, 4), (2, 5), (2, 6), (2, 7), (2, 8), (2, 9), (2, 10), (2, 11), (2, 12)] : List (Nat × Nat)) rfl (by decide +kernel)) (good_rb bq_wsX8_ease ([(1, 1), (2, 13), (2, 14), (2, 15), (2, 16), (1, 5)] : List (Nat × Nat)) rfl (by decide +kernel))) (goodIn_sb (fun _ h => (List.mem_cons_of_mem _ (List.mem_append_right _ h))) (by decide +kernel))))
set_option maxRecDepth 20000 in
theorem gX8_ease_X3_bears : GoodIn wsX8_ease (wsV RX8 209 RX3 yX3_bears wsX3_bears) := goodIn_app (good_rp ([42, 43, 44, 9] : List Nat) rfl (by decide +kernel)) ggX8_ease_X3_bears
set_option maxRecDepth 20000 in
theorem ggX8_ease_X3_copyFrom : GoodIn wsX8_ease wsX3_copyFrom := (goodIn_cons (good_rb bq_wsX8_ease ([(0, 16)] : List (Nat × Nat)) rfl (by decide +kernel)) (goodIn_app (good_rb bq_wsX8_ease ([(0, 17), (0, 18), (0, 19), (0, 10), (0, 20), (0, 21), (0, 22), (0, 23), (1, 0), (1, 1), (1, 2), (1, 3), (1, 4), (1, 5), (1, 6), (1, 7), (0, 11), (0, 12), (1, 8), (1, 9)] : List (Nat × Nat)) rfl (by decide +kernel)) (goodIn_sb (fun _ h => (List.mem_cons_of_mem _ (List.mem_append_right _ h))) (by decide +kernel))))
set_option maxRecDepth 20000 in
theorem gX8_ease_X3_copyFrom : GoodIn wsX8_ease (wsV RX8 84 RX3 yX3_copyFrom wsX3_copyFrom) := goodIn_app (good_rp ([14, 15, 16, 9] : List Nat) rfl (by decide +kernel)) ggX8_ease_X3_copyFrom
set_option maxRecDepth 20000 in
theorem ggX8_ease_X3_standing : GoodIn wsX8_ease wsX3_standing := (goodIn_cons (good_rb bq_wsX8_ease ([(0, 9)] : List (Nat × Nat)) rfl (by decide +kernel)) (goodIn_app (good_rb bq_wsX8_ease ([(0, 10), (0, 11), (0, 12)] : List (Nat × Nat)) rfl (by decide +kernel)) (goodIn_sb (fun _ h => (List.mem_cons_of_mem _ (List.mem_append_right _ h))) (by decide +kernel))))
set_option maxRecDepth 20000 in
theorem gX8_ease_X3_standing : GoodIn wsX8_ease (wsV RX8 206 RX3 yX3_standing wsX3_standing) := goodIn_app (good_rp ([6, 7, 8, 9] : List Nat) rfl (by decide +kernel)) ggX8_ease_X3_standing
set_option maxRecDepth 20000 in
theorem bq_wsX8_falls : subq wsX8_falls [wsX8_falls_r1, wsX8_falls_r2, wsX8_falls_r3, wsX8_falls_r4, wsX8_falls_r5] := ⟨(fun _ h => (List.mem_cons_of_mem _ (List.mem_append_left _ (List.mem_append_left _ (List.mem_append_left _ (List.mem_append_left _ (List.mem_append_left _ h))))))), (fun _ h => (List.mem_cons_of_mem _ (List.mem_append_left _ (List.mem_append_left _ (List.mem_append_left _ (List.mem_append_left _ (List.mem_append_right _ (List.mem_append_left _ h)))))))), (fun _ h => (List.mem_cons_of_mem _ (List.mem_append_left _ (List.mem_append_left _ (List.mem_append_left _ (List.mem_append_left _ (List.mem_append_right _ (List.mem_append_right _ (List.mem_append_left _ h))))))))), (fun _ h => (List.mem_cons_of_mem _ (List.mem_append_left _ (List.mem_append_left _ (List.mem_append_left _ (List.mem_append_left _ (List.mem_append_right _ (List.mem_append_right _ (List.mem_append_right _ (List.mem_append_left _ h)))))))))), (fun _ h => (List.mem_cons_of_mem _ (List.mem_append_left _ (List.mem_append_left _ (List.mem_append_left _ (List.mem_append_left _ (List.mem_append_right _ (List.mem_append_right _ (List.mem_append_right _ (List.mem_append_right _ h)))))))))), trivial⟩
set_option maxRecDepth 20000 in
theorem ggX8_falls_X3_copyFrom : GoodIn wsX8_falls wsX3_copyFrom := (goodIn_cons (good_rb bq_wsX8_falls ([(0, 21)] : List (Nat × Nat)) rfl (by decide +kernel)) (goodIn_app (good_rb bq_wsX8_falls ([(0, 22), (0, 23), (1, 0), (1, 1), (1, 2), (1, 3), (1, 4), (1, 5), (1, 6), (1, 7), (1, 8), (1, 9), (1, 10), (1, 11), (1, 12), (1, 13), (1, 14), (1, 15), (1, 16), (1, 17)] : List (Nat × Nat)) rfl (by decide +kernel)) (goodIn_sb (fun _ h => (List.mem_cons_of_mem _ (List.mem_append_left _ (List.mem_append_right _ h)))) (by decide +kernel))))
set_option maxRecDepth 20000 in
theorem gX8_falls_X3_copyFrom : GoodIn wsX8_falls (wsV RX8 84 RX3 yX3_copyFrom wsX3_copyFrom) := goodIn_app (good_rp ([18, 19, 20, 21] : List Nat) rfl (by decide +kernel)) ggX8_falls_X3_copyFrom
set_option maxRecDepth 20000 in
theorem ggX8_falls_X3_passMinute : GoodIn wsX8_falls wsX3_passMinute := (goodIn_cons (good_rb bq_wsX8_falls ([(1, 21)] : List (Nat × Nat)) rfl (by decide +kernel)) (goodIn_app (goodIn_app (goodIn_app (good_rb bq_wsX8_falls ([(1, 1), (1, 17), (1, 22), (1, 16), (1, 23), (2, 0), (2, 1), (0, 20), (2, 2), (1, 8), (1, 9), (1, 14), (1, 12), (1, 10), (1, 13), (2, 3), (2, 4), (2, 5), (2, 6), (1, 15), (2, 7), (2, 8), (2, 9), (2, 10)] : List (Nat × Nat)) rfl (by decide +kernel)) (goodIn_app (good_rb bq_wsX8_falls ([(2, 11), (2, 12), (2, 13), (2, 14), (2, 15), (2, 16), (2, 17), (2, 18), (2, 19), (2, 20), (2, 21), (2, 22), (2, 23), (3, 0), (3, 1), (3, 2), (3, 3), (3, 4), (3, 5), (3, 6), (1, 7), (1, 11), (3, 7), (3, 8)] : List (Nat × Nat)) rfl (by decide +kernel)) (goodIn_app (good_rb bq_wsX8_falls ([(3, 9), (3, 10), (3, 11), (3, 12), (3, 13), (3, 14), (3, 15), (3, 16), (3, 17), (3, 18), (3, 19), (3, 20), (3, 21), (3, 22), (3, 23), (4, 0), (4, 1), (4, 2), (4, 3), (4, 4), (4, 5), (4, 6), (4, 7), (4, 8)] : List (Nat × Nat)) rfl (by decide +kernel)) (good_rb bq_wsX8_falls ([(4, 9), (4, 10), (4, 11), (4, 12), (4, 13), (4, 14), (4, 15), (4, 16)] : List (Nat × Nat)) rfl (by decide +kernel))))) (goodIn_sb (fun _ h => (List.mem_cons_of_mem _ (List.mem_append_left _ (List.mem_append_right _ h)))) (by decide +kernel))) (goodIn_sb (fun _ h => (List.mem_cons_of_mem _ (List.mem_append_right _ h))) (by decide +kernel))))
set_option maxRecDepth 20000 in
theorem gX8_falls_X3_passMinute : GoodIn wsX8_falls (wsV RX8 164 RX3 yX3_passMinute wsX3_passMinute) := goodIn_app (good_rp ([43, 44, 45, 21] : List Nat) rfl (by decide +kernel)) ggX8_falls_X3_passMinute
set_option maxRecDepth 20000 in
theorem ggX8_falls_X8_ruleInForce : GoodIn wsX8_falls wsX8_ruleInForce := (goodIn_cons (good_rb bq_wsX8_falls ([(0, 9)] : List (Nat × Nat)) rfl (by decide +kernel)) (goodIn_app (goodIn_app (good_rb bq_wsX8_falls ([(0, 0), (0, 10), (0, 11), (0, 12), (0, 13), (0, 8), (0, 14), (0, 15), (0, 16)] : List (Nat × Nat)) rfl (by decide +kernel)) (goodIn_sb (fun _ h => (List.mem_cons_of_mem _ (List.mem_append_left _ (List.mem_append_left _ (List.mem_append_left _ (List.mem_append_right _ h)))))) (by decide +kernel))) (goodIn_sb (fun _ h => (List.mem_cons_of_mem _ (List.mem_append_left _ (List.mem_append_left _ (List.mem_append_right _ h))))) (by decide +kernel))))
set_option maxRecDepth 20000 in
theorem gX8_falls_X8_ruleInForce : GoodIn wsX8_falls (wsV RX8 160 RX8 yX8_ruleInForce wsX8_ruleInForce) := goodIn_app (good_rp ([6, 7, 8, 9] : List Nat) rfl (by decide +kernel)) ggX8_falls_X8_ruleInForce
set_option maxRecDepth 20000 in
theorem bq_wsX8_feed : subq wsX8_feed [[.fieldLink RX8 10 "ChairCane" "tape" "LChairCane$Tape;", .fieldLink RX8 65 "ChairCane$Tape" "length" "I", .methodLink RX8 68 yX7_append, .instanceMethod yX7_append, .selects RX7 yX7_append yX7_append, .initialized RX7, .code yX7_append cX7_append 3 none, .fieldLink RX7 15 "ChairCane$Tape" "length" "I", .fieldLink RX7 9 "ChairCane$Tape" "bytes" "[B"]] := ⟨(fun _ h => (List.mem_cons_of_mem _ (List.mem_append_left _ (List.mem_append_left _ h)))), trivial⟩
set_option maxRecDepth 20000 in
theorem ggX8_feed_X7_append : GoodIn wsX8_feed wsX7_append := (goodIn_cons (good_rb bq_wsX8_feed ([(0, 6)] : List (Nat × Nat)) rfl (by decide +kernel)) (goodIn_app (good_rb bq_wsX8_feed ([(0, 7), (0, 8)] : List (Nat × Nat)) rfl (by decide +kernel)) (goodIn_sb (fun _ h => (List.mem_cons_of_mem _ (List.mem_append_right _ h))) (by decide +kernel))))
set_option maxRecDepth 20000 in
theorem gX8_feed_X7_append : GoodIn wsX8_feed (wsV RX8 68 RX7 yX7_append wsX7_append) := goodIn_app (good_rp ([3, 4, 5, 6] : List Nat) rfl (by decide +kernel)) ggX8_feed_X7_append
set_option maxRecDepth 20000 in
theorem bq_wsX8_felledBy : subq wsX8_felledBy [wsX8_felledBy_r1, wsX8_felledBy_r2, wsX8_felledBy_r3] := ⟨(fun _ h => (List.mem_cons_of_mem _ (List.mem_append_left _ (List.mem_append_left _ (List.mem_append_left _ (List.mem_append_left _ h)))))), (fun _ h => (List.mem_cons_of_mem _ (List.mem_append_left _ (List.mem_append_left _ (List.mem_append_left _ (List.mem_append_right _ (List.mem_append_left _ h))))))), (fun _ h => (List.mem_cons_of_mem _ (List.mem_append_left _ (List.mem_append_left _ (List.mem_append_left _ (List.mem_append_right _ (List.mem_append_right _ h))))))), trivial⟩
set_option maxRecDepth 20000 in
theorem ggX8_felledBy_X3_copyFrom : GoodIn wsX8_felledBy wsX3_copyFrom := (goodIn_cons (good_rb bq_wsX8_felledBy ([(0, 7)] : List (Nat × Nat)) rfl (by decide +kernel)) (goodIn_app (good_rb bq_wsX8_felledBy ([(0, 8), (0, 9), (0, 10), (0, 11), (0, 12), (0, 13), (0, 14), (0, 15), (0, 16), (0, 17), (0, 18), (0, 19), (0, 20), (0, 21), (0, 22), (0, 23), (1, 0), (1, 1), (1, 2), (1, 3)] : List (Nat × Nat)) rfl (by decide +kernel)) (goodIn_sb (fun _ h => (List.mem_cons_of_mem _ (List.mem_append_right _ h))) (by decide +kernel))))
set_option maxRecDepth 20000 in
theorem gX8_felledBy_X3_copyFrom : GoodIn wsX8_felledBy (wsV RX8 84 RX3 yX3_copyFrom wsX3_copyFrom) := goodIn_app (good_rp ([4, 5, 6, 7] : List Nat) rfl (by decide +kernel)) ggX8_felledBy_X3_copyFrom
set_option maxRecDepth 20000 in
theorem ggX8_felledBy_X3_seat : GoodIn wsX8_felledBy wsX3_seat := (goodIn_cons (good_rb bq_wsX8_felledBy ([(1, 7)] : List (Nat × Nat)) rfl (by decide +kernel)) (goodIn_app (good_rb bq_wsX8_felledBy ([(0, 18), (0, 19), (1, 0), (0, 22), (0, 20), (0, 23), (1, 8), (1, 9), (1, 10), (0, 6), (1, 11), (0, 11), (1, 1), (1, 12), (1, 13), (1, 14), (1, 15)] : List (Nat × Nat)) rfl (by decide +kernel)) (goodIn_sb (fun _ h => (List.mem_cons_of_mem _ (List.mem_append_right _ h))) (by decide +kernel))))
set_option maxRecDepth 20000 in
theorem gX8_felledBy_X3_seat : GoodIn wsX8_felledBy (wsV RX8 168 RX3 yX3_seat wsX3_seat) := goodIn_app (good_rp ([29, 30, 31, 7] : List Nat) rfl (by decide +kernel)) ggX8_felledBy_X3_seat
set_option maxRecDepth 20000 in
theorem ggX8_felledBy_X3_settle : GoodIn wsX8_felledBy wsX3_settle := (goodIn_cons (good_rb bq_wsX8_felledBy ([(1, 19)] : List (Nat × Nat)) rfl (by decide +kernel)) (goodIn_app (goodIn_app (good_rb bq_wsX8_felledBy ([(1, 0), (1, 1), (1, 20), (1, 21), (1, 22), (0, 6), (1, 23), (0, 11), (0, 17), (0, 19), (2, 0), (2, 1), (2, 2), (2, 3), (0, 18), (0, 22), (0, 21), (0, 20), (2, 4), (2, 5), (2, 6), (2, 7), (0, 23), (2, 8)] : List (Nat × Nat)) rfl (by decide +kernel)) (good_rb bq_wsX8_felledBy ([(2, 9), (2, 10), (2, 11), (1, 12), (1, 13), (1, 14), (1, 15)] : List (Nat × Nat)) rfl (by decide +kernel))) (goodIn_sb (fun _ h => (List.mem_cons_of_mem _ (List.mem_append_right _ h))) (by decide +kernel))))
set_option maxRecDepth 20000 in
theorem gX8_felledBy_X3_settle : GoodIn wsX8_felledBy (wsV RX8 172 RX3 yX3_settle wsX3_settle) := goodIn_app (good_rp ([41, 42, 43, 7] : List Nat) rfl (by decide +kernel)) ggX8_felledBy_X3_settle
set_option maxRecDepth 20000 in
theorem bq_wsX8_felled : subq wsX8_felled [wsX8_felled_r1, wsX8_felled_r2, wsX8_felled_r3] := ⟨(fun _ h => (List.mem_cons_of_mem _ (List.mem_append_left _ (List.mem_append_left _ (List.mem_append_left _ (List.mem_append_left _ h)))))), (fun _ h => (List.mem_cons_of_mem _ (List.mem_append_left _ (List.mem_append_left _ (List.mem_append_left _ (List.mem_append_right _ (List.mem_append_left _ h))))))), (fun _ h => (List.mem_cons_of_mem _ (List.mem_append_left _ (List.mem_append_left _ (List.mem_append_left _ (List.mem_append_right _ (List.mem_append_right _ h))))))), trivial⟩
set_option maxRecDepth 20000 in
theorem ggX8_felled_X3_isDown : GoodIn wsX8_felled wsX3_isDown := (goodIn_cons (good_rb bq_wsX8_felled ([(0, 6)] : List (Nat × Nat)) rfl (by decide +kernel)) (goodIn_app (good_rb bq_wsX8_felled ([(0, 7), (0, 8)] : List (Nat × Nat)) rfl (by decide +kernel)) (goodIn_sb (fun _ h => (List.mem_cons_of_mem _ (List.mem_append_right _ h))) (by decide +kernel))))
set_option maxRecDepth 20000 in
theorem gX8_felled_X3_isDown : GoodIn wsX8_felled (wsV RX8 176 RX3 yX3_isDown wsX3_isDown) := goodIn_app (good_rp ([3, 4, 5, 6] : List Nat) rfl (by decide +kernel)) ggX8_felled_X3_isDown
set_option maxRecDepth 20000 in
theorem ggX8_felled_X8_felledBy : GoodIn wsX8_felled wsX8_felledBy := (goodIn_cons (good_rb bq_wsX8_felled ([(0, 13)] : List (Nat × Nat)) rfl (by decide +kernel)) (goodIn_app (goodIn_app (goodIn_app (goodIn_app (good_rb bq_wsX8_felled ([(0, 14), (0, 0), (0, 1), (0, 15), (0, 16), (0, 17), (0, 5), (0, 18), (0, 19), (0, 20), (0, 21), (0, 7), (0, 22), (0, 23), (1, 0), (1, 1), (1, 2), (1, 3), (1, 4), (1, 5), (1, 6), (1, 7), (1, 8), (1, 9)] : List (Nat × Nat)) rfl (by decide +kernel)) (goodIn_app (good_rb bq_wsX8_felled ([(0, 8), (1, 10), (1, 11), (1, 12), (1, 13), (1, 14), (1, 15), (1, 16), (1, 17), (1, 18), (1, 19), (1, 20), (1, 21), (0, 3), (0, 4), (0, 6), (1, 22), (1, 23), (2, 0), (2, 1), (2, 2), (2, 3), (2, 4), (2, 5)] : List (Nat × Nat)) rfl (by decide +kernel)) (good_rb bq_wsX8_felled ([(2, 6), (2, 7), (2, 8), (2, 9), (2, 10), (2, 11), (2, 12), (2, 13), (2, 14), (2, 15), (2, 16), (2, 17)] : List (Nat × Nat)) rfl (by decide +kernel)))) (goodIn_sb (fun _ h => (List.mem_cons_of_mem _ (List.mem_append_left _ (List.mem_append_left _ (List.mem_append_right _ h))))) (by decide +kernel))) (goodIn_sb (fun _ h => (List.mem_cons_of_mem _ (List.mem_append_left _ (List.mem_append_right _ h)))) (by decide +kernel))) (goodIn_sb (fun _ h => (List.mem_cons_of_mem _ (List.mem_append_right _ h))) (by decide +kernel))))
set_option maxRecDepth 20000 in
theorem gX8_felled_X8_felledBy : GoodIn wsX8_felled (wsV RX8 203 RX8 yX8_felledBy wsX8_felledBy) := goodIn_app (good_rp ([10, 11, 12, 13] : List Nat) rfl (by decide +kernel)) ggX8_felled_X8_felledBy
set_option maxRecDepth 20000 in
theorem bq_wsX8_findSafeSets : subq wsX8_findSafeSets [wsX8_findSafeSets_r1, wsX8_findSafeSets_r2, wsX8_findSafeSets_r3] := ⟨(fun _ h => (List.mem_cons_of_mem _ (List.mem_append_left _ (List.mem_append_left _ (List.mem_append_left _ (List.mem_append_left _ h)))))), (fun _ h => (List.mem_cons_of_mem _ (List.mem_append_left _ (List.mem_append_left _ (List.mem_append_left _ (List.mem_append_right _ (List.mem_append_left _ h))))))), (fun _ h => (List.mem_cons_of_mem _ (List.mem_append_left _ (List.mem_append_left _ (List.mem_append_left _ (List.mem_append_right _ (List.mem_append_right _ h))))))), trivial⟩
set_option maxRecDepth 20000 in
theorem ggX8_findSafeSets_X3_bears : GoodIn wsX8_findSafeSets wsX3_bears := (goodIn_cons (good_rb bq_wsX8_findSafeSets ([(1, 14)] : List (Nat × Nat)) rfl (by decide +kernel)) (goodIn_app (goodIn_app (good_rb bq_wsX8_findSafeSets ([(1, 2), (1, 15), (1, 16), (1, 17), (0, 8), (1, 18), (1, 0), (1, 1), (0, 13), (0, 20), (0, 21), (0, 22), (1, 19), (1, 20), (1, 21), (1, 22), (1, 23), (2, 0), (2, 1), (2, 2), (2, 3), (2, 4), (2, 5), (2, 6)] : List (Nat × Nat)) rfl (by decide +kernel)) (good_rb bq_wsX8_findSafeSets ([(0, 19), (2, 7), (2, 8), (2, 9), (2, 10), (0, 23)] : List (Nat × Nat)) rfl (by decide +kernel))) (goodIn_sb (fun _ h => (List.mem_cons_of_mem _ (List.mem_append_right _ h))) (by decide +kernel))))
set_option maxRecDepth 20000 in
theorem gX8_findSafeSets_X3_bears : GoodIn wsX8_findSafeSets (wsV RX8 209 RX3 yX3_bears wsX3_bears) := goodIn_app (good_rp ([36, 37, 38, 9] : List Nat) rfl (by decide +kernel)) ggX8_findSafeSets_X3_bears
set_option maxRecDepth 20000 in
theorem ggX8_findSafeSets_X3_copyFrom : GoodIn wsX8_findSafeSets wsX3_copyFrom := (goodIn_cons (good_rb bq_wsX8_findSafeSets ([(0, 9)] : List (Nat × Nat)) rfl (by decide +kernel)) (goodIn_app (good_rb bq_wsX8_findSafeSets ([(0, 10), (0, 11), (0, 12), (0, 13), (0, 14), (0, 15), (0, 16), (0, 17), (0, 18), (0, 19), (0, 20), (0, 21), (0, 22), (0, 23), (1, 0), (1, 1), (1, 2), (1, 3), (1, 4), (1, 5)] : List (Nat × Nat)) rfl (by decide +kernel)) (goodIn_sb (fun _ h => (List.mem_cons_of_mem _ (List.mem_append_right _ h))) (by decide +kernel))))
set_option maxRecDepth 20000 in
theorem gX8_findSafeSets_X3_copyFrom : GoodIn wsX8_findSafeSets (wsV RX8 84 RX3 yX3_copyFrom wsX3_copyFrom) := goodIn_app (good_rp ([6, 7, 8, 9] : List Nat) rfl (by decide +kernel)) ggX8_findSafeSets_X3_copyFrom
set_option maxRecDepth 20000 in
theorem ggX8_findSafeSets_X8_firstToRise : GoodIn wsX8_findSafeSets wsX8_firstToRise := (goodIn_cons (good_rb bq_wsX8_findSafeSets ([(1, 10)] : List (Nat × Nat)) rfl (by decide +kernel)) (goodIn_app (good_rb bq_wsX8_findSafeSets ([(0, 4)] : List (Nat × Nat)) rfl (by decide +kernel)) (goodIn_sb (fun _ h => (List.mem_cons_of_mem _ (List.mem_append_left _ (List.mem_append_left _ (List.mem_append_right _ h))))) (by decide +kernel))))
set_option maxRecDepth 20000 in
theorem gX8_findSafeSets_X8_firstToRise : GoodIn wsX8_findSafeSets (wsV RX8 215 RX8 yX8_firstToRise wsX8_firstToRise) := goodIn_app (good_rp ([31, 32, 33, 34] : List Nat) rfl (by decide +kernel)) ggX8_findSafeSets_X8_firstToRise
set_option maxRecDepth 20000 in
theorem bq_wsX8_hall : subq wsX8_hall [wsX8_hall_r1, wsX8_hall_r2, wsX8_hall_r3, wsX8_hall_r4, wsX8_hall_r5, wsX8_hall_r6, wsX8_hall_r7, wsX8_hall_r8, wsX8_hall_r9, wsX8_hall_r10] := ⟨(fun _ h => (List.mem_cons_of_mem _ (List.mem_append_left _ (List.mem_append_left _ (List.mem_append_left _ (List.mem_append_left _ (List.mem_append_left _ (List.mem_append_left _ (List.mem_append_left _ h))))))))), (fun _ h => (List.mem_cons_of_mem _ (List.mem_append_left _ (List.mem_append_left _ (List.mem_append_left _ (List.mem_append_left _ (List.mem_append_left _ (List.mem_append_left _ (List.mem_append_right _ (List.mem_append_left _ h)))))))))), (fun _ h => (List.mem_cons_of_mem _ (List.mem_append_left _ (List.mem_append_left _ (List.mem_append_left _ (List.mem_append_left _ (List.mem_append_left _ (List.mem_append_left _ (List.mem_append_right _ (List.mem_append_right _ (List.mem_append_left _ h))))))))))), (fun _ h => (List.mem_cons_of_mem _ (List.mem_append_left _ (List.mem_append_left _ (List.mem_append_left _ (List.mem_append_left _ (List.mem_append_left _ (List.mem_append_left _ (List.mem_append_right _ (List.mem_append_right _ (List.mem_append_right _ (List.mem_append_left _ h)))))))))))), (fun _ h => (List.mem_cons_of_mem _ (List.mem_append_left _ (List.mem_append_left _ (List.mem_append_left _ (List.mem_append_left _ (List.mem_append_left _ (List.mem_append_left _ (List.mem_append_right _ (List.mem_append_right _ (List.mem_append_right _ (List.mem_append_right _ (List.mem_append_left _ h))))))))))))), (fun _ h => (List.mem_cons_of_mem _ (List.mem_append_left _ (List.mem_append_left _ (List.mem_append_left _ (List.mem_append_left _ (List.mem_append_left _ (List.mem_append_left _ (List.mem_append_right _ (List.mem_append_right _ (List.mem_append_right _ (List.mem_append_right _ (List.mem_append_right _ (List.mem_append_left _ h)))))))))))))), (fun _ h => (List.mem_cons_of_mem _ (List.mem_append_left _ (List.mem_append_left _ (List.mem_append_left _ (List.mem_append_left _ (List.mem_append_left _ (List.mem_append_left _ (List.mem_append_right _ (List.mem_append_right _ (List.mem_append_right _ (List.mem_append_right _ (List.mem_append_right _ (List.mem_append_right _ (List.mem_append_left _ h))))))))))))))), (fun _ h => (List.mem_cons_of_mem _ (List.mem_append_left _ (List.mem_append_left _ (List.mem_append_left _ (List.mem_append_left _ (List.mem_append_left _ (List.mem_append_left _ (List.mem_append_right _ (List.mem_append_right _ (List.mem_append_right _ (List.mem_append_right _ (List.mem_append_right _ (List.mem_append_right _ (List.mem_append_right _ (List.mem_append_left _ h)))))))))))))))), (fun _ h => (List.mem_cons_of_mem _ (List.mem_append_left _ (List.mem_append_left _ (List.mem_append_left _ (List.mem_append_left _ (List.mem_append_left _ (List.mem_append_left _ (List.mem_append_right _ (List.mem_append_right _ (List.mem_append_right _ (List.mem_append_right _ (List.mem_append_right _ (List.mem_append_right _ (List.mem_append_right _ (List.mem_append_right _ (List.mem_append_left _ h))))))))))))))))), (fun _ h => (List.mem_cons_of_mem _ (List.mem_append_left _ (List.mem_append_left _ (List.mem_append_left _ (List.mem_append_left _ (List.mem_append_left _ (List.mem_append_left _ (List.mem_append_right _ (List.mem_append_right _ (List.mem_append_right _ (List.mem_append_right _ (List.mem_append_right _ (List.mem_append_right _ (List.mem_append_right _ (List.mem_append_right _ (List.mem_append_right _ h))))))))))))))))), trivial⟩
set_option maxRecDepth 20000 in
theorem ggX8_hall_X0_forget : GoodIn wsX8_hall wsX0_forget := (goodIn_cons (good_rb bq_wsX8_hall ([(8, 22)] : List (Nat × Nat)) rfl (by decide +kernel)) (goodIn_app (good_rb bq_wsX8_hall ([(8, 23)] : List (Nat × Nat)) rfl (by decide +kernel)) (goodIn_sb (fun _ h => (List.mem_cons_of_mem _ (List.mem_append_left _ (List.mem_append_right _ h)))) (by decide +kernel))))
set_option maxRecDepth 20000 in
theorem gX8_hall_X0_forget : GoodIn wsX8_hall (wsV RX8 92 RX0 yX0_forget wsX0_forget) := goodIn_app (good_rp ([211, 212, 213, 214] : List Nat) rfl (by decide +kernel)) ggX8_hall_X0_forget
set_option maxRecDepth 20000 in
theorem ggX8_hall_X1_read : GoodIn wsX8_hall wsX1_read := (goodIn_cons (good_rb bq_wsX8_hall ([(0, 12)] : List (Nat × Nat)) rfl (by decide +kernel)) (goodIn_app (goodIn_app (goodIn_app (good_rb bq_wsX8_hall ([(0, 13), (0, 14), (0, 15), (0, 16), (0, 17), (0, 18), (0, 19), (0, 20), (0, 21), (0, 22), (0, 23), (1, 0), (1, 1), (1, 2), (1, 3), (1, 4), (1, 5), (1, 6), (1, 7), (1, 8), (1, 9), (1, 10), (1, 11), (1, 12)] : List (Nat × Nat)) rfl (by decide +kernel)) (goodIn_app (good_rb bq_wsX8_hall ([(1, 13), (1, 14), (1, 15), (1, 16), (1, 17), (1, 18), (1, 19), (1, 20), (1, 21), (1, 22), (1, 23), (2, 0), (2, 1), (2, 2), (2, 3), (2, 4), (2, 5), (2, 6), (2, 7), (2, 8), (2, 9), (2, 10), (2, 11), (2, 12)] : List (Nat × Nat)) rfl (by decide +kernel)) (goodIn_app (good_rb bq_wsX8_hall ([(2, 13), (2, 14), (2, 15), (2, 16), (2, 17), (2, 18), (2, 19), (2, 20), (2, 21), (2, 22), (2, 23), (3, 0), (3, 1), (3, 2), (3, 3), (3, 4), (3, 5), (3, 6), (3, 7), (3, 8), (3, 9), (3, 10), (3, 11), (3, 12)] : List (Nat × Nat)) rfl (by decide +kernel)) (goodIn_app (good_rb bq_wsX8_hall ([(3, 13), (3, 14), (3, 15), (3, 16), (3, 17), (3, 18), (3, 19), (3, 20), (3, 21), (3, 22), (3, 23), (4, 0), (4, 1), (4, 2), (4, 3), (4, 4), (4, 5), (4, 6), (4, 7), (4, 8), (4, 9), (4, 10), (4, 11), (4, 12)] : List (Nat × Nat)) rfl (by decide +kernel)) (goodIn_app (good_rb bq_wsX8_hall ([(4, 13), (4, 14), (4, 15), (4, 16), (4, 17), (4, 18), (4, 19), (4, 20), (4, 21), (4, 22), (4, 23), (5, 0), (5, 1), (5, 2), (0, 11), (5, 3), (5, 4), (5, 5), (5, 6), (5, 7), (5, 8), (5, 9), (5, 10), (5, 11)] : List (Nat × Nat)) rfl (by decide +kernel)) (goodIn_app (good_rb bq_wsX8_hall ([(5, 12), (5, 13), (5, 14), (5, 15), (5, 16), (5, 17), (5, 18), (5, 19), (5, 20), (5, 21), (5, 22), (5, 23), (6, 0), (6, 1), (6, 2), (6, 3), (6, 4), (6, 5), (6, 6), (6, 7), (6, 8), (6, 9), (6, 10), (6, 11)] : List (Nat × Nat)) rfl (by decide +kernel)) (goodIn_app (good_rb bq_wsX8_hall ([(6, 12), (6, 13), (6, 14), (6, 15), (6, 16), (6, 17), (6, 18), (6, 19), (6, 20), (6, 21), (6, 22), (6, 23), (7, 0), (7, 1), (7, 2), (7, 3), (7, 4), (7, 5), (7, 6), (7, 7), (7, 8), (7, 9), (7, 10), (7, 11)] : List (Nat × Nat)) rfl (by decide +kernel)) (goodIn_app (good_rb bq_wsX8_hall ([(7, 12), (7, 13), (7, 14), (7, 15), (7, 16), (7, 17), (7, 18), (7, 19), (7, 20), (7, 21), (7, 22), (7, 23), (8, 0), (8, 1), (8, 2), (8, 3), (8, 4), (8, 5), (8, 6), (8, 7), (8, 8), (8, 9), (8, 10), (8, 11)] : List (Nat × Nat)) rfl (by decide +kernel)) (good_rb bq_wsX8_hall ([(8, 12)] : List (Nat × Nat)) rfl (by decide +kernel)))))))))) (goodIn_sb (fun _ h => (List.mem_cons_of_mem _ (List.mem_append_left _ (List.mem_append_left _ (List.mem_append_left _ (List.mem_append_left _ (List.mem_append_right _ h))))))) (by decide +kernel))) (goodIn_sb (fun _ h => (List.mem_cons_of_mem _ (List.mem_append_left _ (List.mem_append_left _ (List.mem_append_right _ h))))) (by decide +kernel))))
set_option maxRecDepth 20000 in
theorem gX8_hall_X1_read : GoodIn wsX8_hall (va_wsS RX8 72 yX1_read wsX1_read) := goodIn_app (good_rp ([10, 11, 12] : List Nat) rfl (by decide +kernel)) ggX8_hall_X1_read
set_option maxRecDepth 20000 in
theorem ggX8_hall_X2_forget : GoodIn wsX8_hall wsX2_forget := (goodIn_cons (good_rb bq_wsX8_hall ([(9, 4)] : List (Nat × Nat)) rfl (by decide +kernel)) (goodIn_app (good_rb bq_wsX8_hall ([(9, 5)] : List (Nat × Nat)) rfl (by decide +kernel)) (goodIn_sb (fun _ h => (List.mem_cons_of_mem _ (List.mem_append_right _ h))) (by decide +kernel))))
set_option maxRecDepth 20000 in
theorem gX8_hall_X2_forget : GoodIn wsX8_hall (wsV RX8 101 RX2 yX2_forget wsX2_forget) := goodIn_app (good_rp ([217, 218, 219, 220] : List Nat) rfl (by decide +kernel)) ggX8_hall_X2_forget
set_option maxRecDepth 20000 in
theorem ggX8_hall_X3_copyFrom : GoodIn wsX8_hall wsX3_copyFrom := (goodIn_cons (good_rb bq_wsX8_hall ([(8, 16)] : List (Nat × Nat)) rfl (by decide +kernel)) (goodIn_app (good_rb bq_wsX8_hall ([(4, 21), (4, 22), (4, 23), (5, 0), (7, 7), (7, 9), (7, 10), (7, 11), (7, 12), (8, 17), (7, 23), (7, 2), (8, 0), (7, 8), (7, 21), (7, 22), (7, 13), (7, 14), (7, 15), (7, 16)] : List (Nat × Nat)) rfl (by decide +kernel)) (goodIn_sb (fun _ h => (List.mem_cons_of_mem _ (List.mem_append_left _ (List.mem_append_left _ (List.mem_append_right _ h))))) (by decide +kernel))))
set_option maxRecDepth 20000 in
theorem gX8_hall_X3_copyFrom : GoodIn wsX8_hall (wsV RX8 84 RX3 yX3_copyFrom wsX3_copyFrom) := goodIn_app (good_rp ([206, 207, 208, 116] : List Nat) rfl (by decide +kernel)) ggX8_hall_X3_copyFrom
set_option maxRecDepth 20000 in
theorem bq_wsX8_heavy : subq wsX8_heavy [wsX8_heavy_r1, wsX8_heavy_r2, wsX8_heavy_r3] := ⟨(fun _ h => (List.mem_cons_of_mem _ (List.mem_append_left _ (List.mem_append_left _ (List.mem_append_left _ (List.mem_append_left _ h)))))), (fun _ h => (List.mem_cons_of_mem _ (List.mem_append_left _ (List.mem_append_left _ (List.mem_append_left _ (List.mem_append_right _ (List.mem_append_left _ h))))))), (fun _ h => (List.mem_cons_of_mem _ (List.mem_append_left _ (List.mem_append_left _ (List.mem_append_left _ (List.mem_append_right _ (List.mem_append_right _ h))))))), trivial⟩
set_option maxRecDepth 20000 in
theorem ggX8_heavy_X3_bears : GoodIn wsX8_heavy wsX3_bears := (goodIn_cons (good_rb bq_wsX8_heavy ([(1, 13)] : List (Nat × Nat)) rfl (by decide +kernel)) (goodIn_app (goodIn_app (good_rb bq_wsX8_heavy ([(1, 7), (1, 14), (1, 15), (1, 16), (0, 8), (1, 17), (1, 5), (1, 6), (0, 10), (1, 1), (1, 2), (1, 3), (1, 18), (1, 19), (1, 20), (1, 21), (1, 22), (1, 23), (2, 0), (2, 1), (2, 2), (2, 3), (2, 4), (2, 5)] : List (Nat × Nat)) rfl (by decide +kernel)) (good_rb bq_wsX8_heavy ([(1, 0), (2, 6), (2, 7), (2, 8), (2, 9), (1, 4)] : List (Nat × Nat)) rfl (by decide +kernel))) (goodIn_sb (fun _ h => (List.mem_cons_of_mem _ (List.mem_append_right _ h))) (by decide +kernel))))
set_option maxRecDepth 20000 in
theorem gX8_heavy_X3_bears : GoodIn wsX8_heavy (wsV RX8 209 RX3 yX3_bears wsX3_bears) := goodIn_app (good_rp ([35, 36, 37, 9] : List Nat) rfl (by decide +kernel)) ggX8_heavy_X3_bears
set_option maxRecDepth 20000 in
theorem ggX8_heavy_X3_copyFrom : GoodIn wsX8_heavy wsX3_copyFrom := (goodIn_cons (good_rb bq_wsX8_heavy ([(0, 15)] : List (Nat × Nat)) rfl (by decide +kernel)) (goodIn_app (good_rb bq_wsX8_heavy ([(0, 16), (0, 17), (0, 18), (0, 10), (0, 19), (0, 20), (0, 21), (0, 22), (0, 23), (1, 0), (1, 1), (1, 2), (1, 3), (1, 4), (1, 5), (1, 6), (1, 7), (0, 11), (1, 8), (1, 9)] : List (Nat × Nat)) rfl (by decide +kernel)) (goodIn_sb (fun _ h => (List.mem_cons_of_mem _ (List.mem_append_right _ h))) (by decide +kernel))))
set_option maxRecDepth 20000 in
theorem gX8_heavy_X3_copyFrom : GoodIn wsX8_heavy (wsV RX8 84 RX3 yX3_copyFrom wsX3_copyFrom) := goodIn_app (good_rp ([13, 14, 15, 9] : List Nat) rfl (by decide +kernel)) ggX8_heavy_X3_copyFrom
set_option maxRecDepth 20000 in
theorem ggX8_heavy_X3_isUp : GoodIn wsX8_heavy wsX3_isUp := (goodIn_cons (good_rb bq_wsX8_heavy ([(0, 9)] : List (Nat × Nat)) rfl (by decide +kernel)) (goodIn_app (good_rb bq_wsX8_heavy ([(0, 10), (0, 11)] : List (Nat × Nat)) rfl (by decide +kernel)) (goodIn_sb (fun _ h => (List.mem_cons_of_mem _ (List.mem_append_right _ h))) (by decide +kernel))))
set_option maxRecDepth 20000 in
theorem gX8_heavy_X3_isUp : GoodIn wsX8_heavy (wsV RX8 221 RX3 yX3_isUp wsX3_isUp) := goodIn_app (good_rp ([6, 7, 8, 9] : List Nat) rfl (by decide +kernel)) ggX8_heavy_X3_isUp
set_option maxRecDepth 20000 in
theorem bq_wsX8_help : subq wsX8_help [wsX8_help_r1, wsX8_help_r2] := ⟨(fun _ h => (List.mem_cons_of_mem _ (List.mem_append_left _ (List.mem_append_left _ (List.mem_append_left _ (List.mem_append_left _ (List.mem_append_left _ h))))))), (fun _ h => (List.mem_cons_of_mem _ (List.mem_append_left _ (List.mem_append_left _ (List.mem_append_left _ (List.mem_append_left _ (List.mem_append_right _ h))))))), trivial⟩
set_option maxRecDepth 20000 in
theorem ggX8_help_J6_bitCount_0f7a4 : GoodIn wsX8_help wsJ6_bitCount_0f7a4 := (goodIn_cons (good_rb bq_wsX8_help ([(1, 13)] : List (Nat × Nat)) rfl (by decide +kernel)) (good_rb bq_wsX8_help ([(1, 14), (1, 15), (1, 16)] : List (Nat × Nat)) rfl (by decide +kernel)))
set_option maxRecDepth 20000 in
theorem gX8_help_J6_bitCount_0f7a4 : GoodIn wsX8_help (va_wsS RX8 182 yJ6_bitCount_0f7a4 wsJ6_bitCount_0f7a4) := goodIn_app (good_rp ([35, 36, 37] : List Nat) rfl (by decide +kernel)) ggX8_help_J6_bitCount_0f7a4
set_option maxRecDepth 20000 in
theorem ggX8_help_X0_keep : GoodIn wsX8_help wsX0_keep := (goodIn_cons (good_rb bq_wsX8_help ([(0, 20)] : List (Nat × Nat)) rfl (by decide +kernel)) (goodIn_app (goodIn_app (good_rb bq_wsX8_help ([(0, 21), (0, 22), (0, 23), (1, 0), (1, 1), (1, 2), (1, 3), (1, 4), (1, 5), (1, 6), (1, 7), (1, 8), (1, 9)] : List (Nat × Nat)) rfl (by decide +kernel)) (goodIn_sb (fun _ h => (List.mem_cons_of_mem _ (List.mem_append_right _ h))) (by decide +kernel))) (goodIn_sb (fun _ h => (List.mem_cons_of_mem _ (List.mem_append_left _ (List.mem_append_right _ h)))) (by decide +kernel))))
set_option maxRecDepth 20000 in
theorem gX8_help_X0_keep : GoodIn wsX8_help (wsV RX8 157 RX0 yX0_keep wsX0_keep) := goodIn_app (good_rp ([17, 18, 19, 20] : List Nat) rfl (by decide +kernel)) ggX8_help_X0_keep
set_option maxRecDepth 20000 in
theorem ggX8_help_X3_stateOf : GoodIn wsX8_help wsX3_stateOf := (goodIn_cons (good_rb bq_wsX8_help ([(0, 8)] : List (Nat × Nat)) rfl (by decide +kernel)) (goodIn_app (good_rb bq_wsX8_help ([(0, 9), (0, 10), (0, 11), (0, 12), (0, 13), (0, 7), (0, 14), (0, 15)] : List (Nat × Nat)) rfl (by decide +kernel)) (goodIn_sb (fun _ h => (List.mem_cons_of_mem _ (List.mem_append_left _ (List.mem_append_right _ h)))) (by decide +kernel))))
set_option maxRecDepth 20000 in
theorem gX8_help_X3_stateOf : GoodIn wsX8_help (wsV RX8 147 RX3 yX3_stateOf wsX3_stateOf) := goodIn_app (good_rp ([5, 6, 7, 8] : List Nat) rfl (by decide +kernel)) ggX8_help_X3_stateOf
set_option maxRecDepth 20000 in
theorem bq_wsX8_let : subq wsX8_let [wsX8_let_r1, wsX8_let_r2, wsX8_let_r3] := ⟨(fun _ h => (List.mem_cons_of_mem _ (List.mem_append_left _ (List.mem_append_left _ (List.mem_append_left _ (List.mem_append_left _ (List.mem_append_left _ h))))))), (fun _ h => (List.mem_cons_of_mem _ (List.mem_append_left _ (List.mem_append_left _ (List.mem_append_left _ (List.mem_append_left _ (List.mem_append_right _ (List.mem_append_left _ h)))))))), (fun _ h => (List.mem_cons_of_mem _ (List.mem_append_left _ (List.mem_append_left _ (List.mem_append_left _ (List.mem_append_left _ (List.mem_append_right _ (List.mem_append_right _ h)))))))), trivial⟩
set_option maxRecDepth 20000 in
theorem ggX8_let_X0_keep : GoodIn wsX8_let wsX0_keep := (goodIn_cons (good_rb bq_wsX8_let ([(0, 14)] : List (Nat × Nat)) rfl (by decide +kernel)) (goodIn_app (goodIn_app (good_rb bq_wsX8_let ([(0, 15), (0, 16), (0, 17), (0, 18), (0, 19), (0, 20), (0, 21), (0, 22), (0, 23), (1, 0), (1, 1), (1, 2), (1, 3)] : List (Nat × Nat)) rfl (by decide +kernel)) (goodIn_sb (fun _ h => (List.mem_cons_of_mem _ (List.mem_append_right _ h))) (by decide +kernel))) (goodIn_sb (fun _ h => (List.mem_cons_of_mem _ (List.mem_append_left _ (List.mem_append_right _ h)))) (by decide +kernel))))
set_option maxRecDepth 20000 in
theorem gX8_let_X0_keep : GoodIn wsX8_let (wsV RX8 157 RX0 yX0_keep wsX0_keep) := goodIn_app (good_rp ([11, 12, 13, 14] : List Nat) rfl (by decide +kernel)) ggX8_let_X0_keep
set_option maxRecDepth 20000 in
theorem ggX8_let_X3_hasStrand : GoodIn wsX8_let wsX3_hasStrand := (goodIn_cons (good_rb bq_wsX8_let ([(0, 8)] : List (Nat × Nat)) rfl (by decide +kernel)) (goodIn_app (good_rb bq_wsX8_let ([(0, 9)] : List (Nat × Nat)) rfl (by decide +kernel)) (goodIn_sb (fun _ h => (List.mem_cons_of_mem _ (List.mem_append_left _ (List.mem_append_right _ h)))) (by decide +kernel))))
set_option maxRecDepth 20000 in
theorem gX8_let_X3_hasStrand : GoodIn wsX8_let (wsV RX8 115 RX3 yX3_hasStrand wsX3_hasStrand) := goodIn_app (good_rp ([5, 6, 7, 8] : List Nat) rfl (by decide +kernel)) ggX8_let_X3_hasStrand
