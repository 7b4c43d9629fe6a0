theorem d_S_ending_16 : decode prog_1_method_7_code 16 = .ok (.invokestatic 54, 3) := by decide +kernel
theorem d_S_ending_19 : decode prog_1_method_7_code 19 = .ok (.aload_n 0, 1) := by decide +kernel
theorem d_S_ending_20 : decode prog_1_method_7_code 20 = .ok (.getfield 20, 3) := by decide +kernel
theorem d_S_ending_23 : decode prog_1_method_7_code 23 = .ok (.iload_n 1, 1) := by decide +kernel
theorem d_S_ending_24 : decode prog_1_method_7_code 24 = .ok (.invokevirtual 105, 3) := by decide +kernel
theorem d_S_ending_27 : decode prog_1_method_7_code 27 = .ok (.istore_n 2, 1) := by decide +kernel
theorem d_S_ending_28 : decode prog_1_method_7_code 28 = .ok (.aload_n 0, 1) := by decide +kernel
theorem d_S_ending_29 : decode prog_1_method_7_code 29 = .ok (.invokevirtual 48, 3) := by decide +kernel
theorem d_S_ending_32 : decode prog_1_method_7_code 32 = .ok (.iload_n 2, 1) := by decide +kernel
theorem d_S_ending_33 : decode prog_1_method_7_code 33 = .ok (.ireturn, 1) := by decide +kernel
theorem d_S_rule_0 : decode prog_1_method_8_code 0 = .ok (.iload_n 1, 1) := by decide +kernel
theorem d_S_rule_1 : decode prog_1_method_8_code 1 = .ok (.iconst 0, 1) := by decide +kernel
theorem d_S_rule_2 : decode prog_1_method_8_code 2 = .ok (.bipush 8, 2) := by decide +kernel
theorem d_S_rule_4 : decode prog_1_method_8_code 4 = .ok (.invokestatic 72, 3) := by decide +kernel
theorem d_S_rule_7 : decode prog_1_method_8_code 7 = .ok (.ifCond .eq 18, 3) := by decide +kernel
theorem d_S_rule_10 : decode prog_1_method_8_code 10 = .ok (.iload 4, 2) := by decide +kernel
theorem d_S_rule_12 : decode prog_1_method_8_code 12 = .ok (.iconst 0, 1) := by decide +kernel
theorem d_S_rule_13 : decode prog_1_method_8_code 13 = .ok (.bipush 98, 2) := by decide +kernel
theorem d_S_rule_15 : decode prog_1_method_8_code 15 = .ok (.invokestatic 72, 3) := by decide +kernel
theorem d_S_rule_18 : decode prog_1_method_8_code 18 = .ok (.ifCond .eq 7, 3) := by decide +kernel
theorem d_S_rule_21 : decode prog_1_method_8_code 21 = .ok (.iconst 1, 1) := by decide +kernel
theorem d_S_rule_22 : decode prog_1_method_8_code 22 = .ok (.goto 4, 3) := by decide +kernel
theorem d_S_rule_25 : decode prog_1_method_8_code 25 = .ok (.iconst 0, 1) := by decide +kernel
theorem d_S_rule_26 : decode prog_1_method_8_code 26 = .ok (.invokestatic 76, 3) := by decide +kernel
theorem d_S_rule_29 : decode prog_1_method_8_code 29 = .ok (.iload_n 2, 1) := by decide +kernel
theorem d_S_rule_30 : decode prog_1_method_8_code 30 = .ok (.bipush (-2), 2) := by decide +kernel
theorem d_S_rule_32 : decode prog_1_method_8_code 32 = .ok (.iconst 5, 1) := by decide +kernel
theorem d_S_rule_33 : decode prog_1_method_8_code 33 = .ok (.invokestatic 72, 3) := by decide +kernel
theorem d_S_rule_36 : decode prog_1_method_8_code 36 = .ok (.ifCond .eq 17, 3) := by decide +kernel
theorem d_S_rule_39 : decode prog_1_method_8_code 39 = .ok (.iload_n 3, 1) := by decide +kernel
theorem d_S_rule_40 : decode prog_1_method_8_code 40 = .ok (.bipush (-2), 2) := by decide +kernel
theorem d_S_rule_42 : decode prog_1_method_8_code 42 = .ok (.iconst 5, 1) := by decide +kernel
theorem d_S_rule_43 : decode prog_1_method_8_code 43 = .ok (.invokestatic 72, 3) := by decide +kernel
theorem d_S_rule_46 : decode prog_1_method_8_code 46 = .ok (.ifCond .eq 7, 3) := by decide +kernel
theorem d_S_rule_49 : decode prog_1_method_8_code 49 = .ok (.iconst 1, 1) := by decide +kernel
theorem d_S_rule_50 : decode prog_1_method_8_code 50 = .ok (.goto 4, 3) := by decide +kernel
theorem d_S_rule_53 : decode prog_1_method_8_code 53 = .ok (.iconst 0, 1) := by decide +kernel
theorem d_S_rule_54 : decode prog_1_method_8_code 54 = .ok (.invokestatic 76, 3) := by decide +kernel
theorem d_S_rule_57 : decode prog_1_method_8_code 57 = .ok (.aload_n 0, 1) := by decide +kernel
theorem d_S_rule_58 : decode prog_1_method_8_code 58 = .ok (.getfield 20, 3) := by decide +kernel
theorem d_S_rule_61 : decode prog_1_method_8_code 61 = .ok (.getfield 109, 3) := by decide +kernel
theorem d_S_rule_64 : decode prog_1_method_8_code 64 = .ok (.getfield 113, 3) := by decide +kernel
theorem d_S_rule_67 : decode prog_1_method_8_code 67 = .ok (.bipush 12, 2) := by decide +kernel
theorem d_S_rule_69 : decode prog_1_method_8_code 69 = .ok (.if_icmp .ge 7, 3) := by decide +kernel
theorem d_S_rule_76 : decode prog_1_method_8_code 76 = .ok (.iconst 0, 1) := by decide +kernel
theorem d_S_rule_72 : decode prog_1_method_8_code 72 = .ok (.iconst 1, 1) := by decide +kernel
theorem d_S_rule_73 : decode prog_1_method_8_code 73 = .ok (.goto 4, 3) := by decide +kernel
theorem d_S_rule_77 : decode prog_1_method_8_code 77 = .ok (.invokestatic 54, 3) := by decide +kernel
theorem d_S_rule_80 : decode prog_1_method_8_code 80 = .ok (.aload_n 0, 1) := by decide +kernel
theorem d_S_rule_81 : decode prog_1_method_8_code 81 = .ok (.getfield 20, 3) := by decide +kernel
theorem d_S_rule_84 : decode prog_1_method_8_code 84 = .ok (.getfield 109, 3) := by decide +kernel
theorem d_S_rule_87 : decode prog_1_method_8_code 87 = .ok (.iload_n 1, 1) := by decide +kernel
theorem d_S_rule_88 : decode prog_1_method_8_code 88 = .ok (.iload_n 2, 1) := by decide +kernel
theorem d_S_rule_89 : decode prog_1_method_8_code 89 = .ok (.iload_n 3, 1) := by decide +kernel
theorem d_S_rule_90 : decode prog_1_method_8_code 90 = .ok (.iload 4, 2) := by decide +kernel
theorem d_S_rule_92 : decode prog_1_method_8_code 92 = .ok (.invokevirtual 118, 3) := by decide +kernel
theorem d_S_rule_95 : decode prog_1_method_8_code 95 = .ok (.istore 5, 2) := by decide +kernel
theorem d_S_rule_97 : decode prog_1_method_8_code 97 = .ok (.aload_n 0, 1) := by decide +kernel
theorem d_S_rule_98 : decode prog_1_method_8_code 98 = .ok (.invokevirtual 48, 3) := by decide +kernel
theorem d_S_rule_101 : decode prog_1_method_8_code 101 = .ok (.iload 5, 2) := by decide +kernel
theorem d_S_rule_103 : decode prog_1_method_8_code 103 = .ok (.ireturn, 1) := by decide +kernel
theorem d_S_condition_0 : decode prog_1_method_9_code 0 = .ok (.aload_n 0, 1) := by decide +kernel
theorem d_S_condition_1 : decode prog_1_method_9_code 1 = .ok (.getfield 20, 3) := by decide +kernel
theorem d_S_condition_4 : decode prog_1_method_9_code 4 = .ok (.iload_n 1, 1) := by decide +kernel
theorem d_S_condition_5 : decode prog_1_method_9_code 5 = .ok (.invokevirtual 122, 3) := by decide +kernel
theorem d_S_condition_8 : decode prog_1_method_9_code 8 = .ok (.invokestatic 69, 3) := by decide +kernel
theorem d_S_condition_11 : decode prog_1_method_9_code 11 = .ok (.iload_n 2, 1) := by decide +kernel
theorem d_S_condition_12 : decode prog_1_method_9_code 12 = .ok (.iconst 0, 1) := by decide +kernel
theorem d_S_condition_13 : decode prog_1_method_9_code 13 = .ok (.iconst 4, 1) := by decide +kernel
theorem d_S_condition_14 : decode prog_1_method_9_code 14 = .ok (.invokestatic 72, 3) := by decide +kernel
theorem d_S_condition_17 : decode prog_1_method_9_code 17 = .ok (.invokestatic 76, 3) := by decide +kernel
theorem d_S_condition_20 : decode prog_1_method_9_code 20 = .ok (.aload_n 0, 1) := by decide +kernel
theorem d_S_condition_21 : decode prog_1_method_9_code 21 = .ok (.getfield 20, 3) := by decide +kernel
theorem d_S_condition_24 : decode prog_1_method_9_code 24 = .ok (.iload_n 2, 1) := by decide +kernel
theorem d_S_condition_25 : decode prog_1_method_9_code 25 = .ok (.iload_n 3, 1) := by decide +kernel
theorem d_S_condition_26 : decode prog_1_method_9_code 26 = .ok (.invokevirtual 125, 3) := by decide +kernel
theorem d_S_condition_29 : decode prog_1_method_9_code 29 = .ok (.invokestatic 69, 3) := by decide +kernel
theorem d_S_condition_32 : decode prog_1_method_9_code 32 = .ok (.iload_n 2, 1) := by decide +kernel
theorem d_S_condition_33 : decode prog_1_method_9_code 33 = .ok (.iconst 1, 1) := by decide +kernel
theorem d_S_condition_34 : decode prog_1_method_9_code 34 = .ok (.if_icmp .ne 15, 3) := by decide +kernel
theorem d_S_condition_37 : decode prog_1_method_9_code 37 = .ok (.aload_n 0, 1) := by decide +kernel
theorem d_S_condition_38 : decode prog_1_method_9_code 38 = .ok (.getfield 20, 3) := by decide +kernel
theorem d_S_condition_41 : decode prog_1_method_9_code 41 = .ok (.iload 4, 2) := by decide +kernel
theorem d_S_condition_43 : decode prog_1_method_9_code 43 = .ok (.invokevirtual 83, 3) := by decide +kernel
theorem d_S_condition_46 : decode prog_1_method_9_code 46 = .ok (.ifCond .eq 7, 3) := by decide +kernel
theorem d_S_condition_53 : decode prog_1_method_9_code 53 = .ok (.iconst 0, 1) := by decide +kernel
theorem d_S_condition_49 : decode prog_1_method_9_code 49 = .ok (.iconst 1, 1) := by decide +kernel
theorem d_S_condition_50 : decode prog_1_method_9_code 50 = .ok (.goto 4, 3) := by decide +kernel
theorem d_S_condition_54 : decode prog_1_method_9_code 54 = .ok (.invokestatic 69, 3) := by decide +kernel
theorem d_S_condition_57 : decode prog_1_method_9_code 57 = .ok (.iload_n 2, 1) := by decide +kernel
theorem d_S_condition_58 : decode prog_1_method_9_code 58 = .ok (.iload 4, 2) := by decide +kernel
theorem d_S_condition_60 : decode prog_1_method_9_code 60 = .ok (.invokestatic 129, 3) := by decide +kernel
theorem d_S_condition_63 : decode prog_1_method_9_code 63 = .ok (.invokestatic 76, 3) := by decide +kernel
theorem d_S_condition_66 : decode prog_1_method_9_code 66 = .ok (.aload_n 0, 1) := by decide +kernel
theorem d_S_condition_67 : decode prog_1_method_9_code 67 = .ok (.getfield 20, 3) := by decide +kernel
theorem d_S_condition_70 : decode prog_1_method_9_code 70 = .ok (.getfield 109, 3) := by decide +kernel
theorem d_S_condition_73 : decode prog_1_method_9_code 73 = .ok (.getfield 132, 3) := by decide +kernel
theorem d_S_condition_76 : decode prog_1_method_9_code 76 = .ok (.iload_n 1, 1) := by decide +kernel
theorem d_S_condition_77 : decode prog_1_method_9_code 77 = .ok (.invokevirtual 136, 3) := by decide +kernel
theorem d_S_condition_80 : decode prog_1_method_9_code 80 = .ok (.invokestatic 54, 3) := by decide +kernel
theorem d_S_condition_83 : decode prog_1_method_9_code 83 = .ok (.aload_n 0, 1) := by decide +kernel
theorem d_S_condition_84 : decode prog_1_method_9_code 84 = .ok (.getfield 20, 3) := by decide +kernel
theorem d_S_condition_87 : decode prog_1_method_9_code 87 = .ok (.getfield 109, 3) := by decide +kernel
theorem d_S_condition_90 : decode prog_1_method_9_code 90 = .ok (.getfield 132, 3) := by decide +kernel
theorem d_S_condition_93 : decode prog_1_method_9_code 93 = .ok (.iload_n 1, 1) := by decide +kernel
theorem d_S_condition_94 : decode prog_1_method_9_code 94 = .ok (.iload_n 2, 1) := by decide +kernel
theorem d_S_condition_95 : decode prog_1_method_9_code 95 = .ok (.iload_n 3, 1) := by decide +kernel
theorem d_S_condition_96 : decode prog_1_method_9_code 96 = .ok (.iload 4, 2) := by decide +kernel
theorem d_S_condition_98 : decode prog_1_method_9_code 98 = .ok (.invokevirtual 141, 3) := by decide +kernel
theorem d_S_condition_101 : decode prog_1_method_9_code 101 = .ok (.aload_n 0, 1) := by decide +kernel
theorem d_S_condition_102 : decode prog_1_method_9_code 102 = .ok (.invokevirtual 48, 3) := by decide +kernel
theorem d_S_condition_105 : decode prog_1_method_9_code 105 = .ok (.return_, 1) := by decide +kernel
theorem d_S_effect_0 : decode prog_1_method_10_code 0 = .ok (.aload_n 0, 1) := by decide +kernel
theorem d_S_effect_1 : decode prog_1_method_10_code 1 = .ok (.getfield 20, 3) := by decide +kernel
theorem d_S_effect_4 : decode prog_1_method_10_code 4 = .ok (.iload_n 1, 1) := by decide +kernel
theorem d_S_effect_5 : decode prog_1_method_10_code 5 = .ok (.invokevirtual 122, 3) := by decide +kernel
theorem d_S_effect_8 : decode prog_1_method_10_code 8 = .ok (.invokestatic 69, 3) := by decide +kernel
theorem d_S_effect_11 : decode prog_1_method_10_code 11 = .ok (.iload_n 2, 1) := by decide +kernel
theorem d_S_effect_12 : decode prog_1_method_10_code 12 = .ok (.iconst 0, 1) := by decide +kernel
theorem d_S_effect_13 : decode prog_1_method_10_code 13 = .ok (.iconst 4, 1) := by decide +kernel
theorem d_S_effect_14 : decode prog_1_method_10_code 14 = .ok (.invokestatic 72, 3) := by decide +kernel
theorem d_S_effect_17 : decode prog_1_method_10_code 17 = .ok (.invokestatic 76, 3) := by decide +kernel
theorem d_S_effect_20 : decode prog_1_method_10_code 20 = .ok (.iload_n 2, 1) := by decide +kernel
theorem d_S_effect_21 : decode prog_1_method_10_code 21 = .ok (.iconst 4, 1) := by decide +kernel
theorem d_S_effect_22 : decode prog_1_method_10_code 22 = .ok (.if_icmp .ne 14, 3) := by decide +kernel
theorem d_S_effect_36 : decode prog_1_method_10_code 36 = .ok (.aload_n 0, 1) := by decide +kernel
theorem d_S_effect_37 : decode prog_1_method_10_code 37 = .ok (.getfield 20, 3) := by decide +kernel
theorem d_S_effect_40 : decode prog_1_method_10_code 40 = .ok (.iload_n 2, 1) := by decide +kernel
theorem d_S_effect_41 : decode prog_1_method_10_code 41 = .ok (.iload_n 3, 1) := by decide +kernel
theorem d_S_effect_42 : decode prog_1_method_10_code 42 = .ok (.invokevirtual 125, 3) := by decide +kernel
theorem d_S_effect_25 : decode prog_1_method_10_code 25 = .ok (.aload_n 0, 1) := by decide +kernel
theorem d_S_effect_26 : decode prog_1_method_10_code 26 = .ok (.getfield 20, 3) := by decide +kernel
theorem d_S_effect_29 : decode prog_1_method_10_code 29 = .ok (.iload_n 3, 1) := by decide +kernel
theorem d_S_effect_30 : decode prog_1_method_10_code 30 = .ok (.invokevirtual 143, 3) := by decide +kernel
theorem d_S_effect_33 : decode prog_1_method_10_code 33 = .ok (.goto 12, 3) := by decide +kernel
theorem d_S_effect_45 : decode prog_1_method_10_code 45 = .ok (.invokestatic 69, 3) := by decide +kernel
theorem d_S_effect_48 : decode prog_1_method_10_code 48 = .ok (.iload_n 2, 1) := by decide +kernel
theorem d_S_effect_49 : decode prog_1_method_10_code 49 = .ok (.iconst 1, 1) := by decide +kernel
theorem d_S_effect_50 : decode prog_1_method_10_code 50 = .ok (.if_icmp .ne 15, 3) := by decide +kernel
theorem d_S_effect_53 : decode prog_1_method_10_code 53 = .ok (.aload_n 0, 1) := by decide +kernel
theorem d_S_effect_54 : decode prog_1_method_10_code 54 = .ok (.getfield 20, 3) := by decide +kernel
theorem d_S_effect_57 : decode prog_1_method_10_code 57 = .ok (.iload 4, 2) := by decide +kernel
theorem d_S_effect_59 : decode prog_1_method_10_code 59 = .ok (.invokevirtual 83, 3) := by decide +kernel
theorem d_S_effect_62 : decode prog_1_method_10_code 62 = .ok (.ifCond .eq 7, 3) := by decide +kernel
theorem d_S_effect_69 : decode prog_1_method_10_code 69 = .ok (.iconst 0, 1) := by decide +kernel
theorem d_S_effect_65 : decode prog_1_method_10_code 65 = .ok (.iconst 1, 1) := by decide +kernel
theorem d_S_effect_66 : decode prog_1_method_10_code 66 = .ok (.goto 4, 3) := by decide +kernel
theorem d_S_effect_70 : decode prog_1_method_10_code 70 = .ok (.invokestatic 69, 3) := by decide +kernel
theorem d_S_effect_73 : decode prog_1_method_10_code 73 = .ok (.iload_n 2, 1) := by decide +kernel
theorem d_S_effect_74 : decode prog_1_method_10_code 74 = .ok (.iload 4, 2) := by decide +kernel
theorem d_S_effect_76 : decode prog_1_method_10_code 76 = .ok (.invokestatic 146, 3) := by decide +kernel
theorem d_S_effect_79 : decode prog_1_method_10_code 79 = .ok (.invokestatic 76, 3) := by decide +kernel
theorem d_S_effect_82 : decode prog_1_method_10_code 82 = .ok (.aload_n 0, 1) := by decide +kernel
theorem d_S_effect_83 : decode prog_1_method_10_code 83 = .ok (.getfield 20, 3) := by decide +kernel
theorem d_S_effect_86 : decode prog_1_method_10_code 86 = .ok (.getfield 109, 3) := by decide +kernel
theorem d_S_effect_89 : decode prog_1_method_10_code 89 = .ok (.getfield 149, 3) := by decide +kernel
theorem d_S_effect_92 : decode prog_1_method_10_code 92 = .ok (.iload_n 1, 1) := by decide +kernel
theorem d_S_effect_93 : decode prog_1_method_10_code 93 = .ok (.invokevirtual 136, 3) := by decide +kernel
theorem d_S_effect_96 : decode prog_1_method_10_code 96 = .ok (.invokestatic 54, 3) := by decide +kernel
theorem d_S_effect_99 : decode prog_1_method_10_code 99 = .ok (.aload_n 0, 1) := by decide +kernel
theorem d_S_effect_100 : decode prog_1_method_10_code 100 = .ok (.getfield 20, 3) := by decide +kernel
theorem d_S_effect_103 : decode prog_1_method_10_code 103 = .ok (.getfield 109, 3) := by decide +kernel
theorem d_S_effect_106 : decode prog_1_method_10_code 106 = .ok (.getfield 149, 3) := by decide +kernel
theorem d_S_effect_109 : decode prog_1_method_10_code 109 = .ok (.iload_n 1, 1) := by decide +kernel
theorem d_S_effect_110 : decode prog_1_method_10_code 110 = .ok (.iload_n 2, 1) := by decide +kernel
theorem d_S_effect_111 : decode prog_1_method_10_code 111 = .ok (.iload_n 3, 1) := by decide +kernel
theorem d_S_effect_112 : decode prog_1_method_10_code 112 = .ok (.iload 4, 2) := by decide +kernel
theorem d_S_effect_114 : decode prog_1_method_10_code 114 = .ok (.invokevirtual 141, 3) := by decide +kernel
theorem d_S_effect_117 : decode prog_1_method_10_code 117 = .ok (.aload_n 0, 1) := by decide +kernel
theorem d_S_effect_118 : decode prog_1_method_10_code 118 = .ok (.invokevirtual 48, 3) := by decide +kernel
theorem d_S_effect_121 : decode prog_1_method_10_code 121 = .ok (.return_, 1) := by decide +kernel
theorem d_S_walker_0 : decode prog_1_method_11_code 0 = .ok (.aload_n 0, 1) := by decide +kernel
theorem d_S_walker_1 : decode prog_1_method_11_code 1 = .ok (.getfield 20, 3) := by decide +kernel
theorem d_S_walker_4 : decode prog_1_method_11_code 4 = .ok (.iload_n 1, 1) := by decide +kernel
theorem d_S_walker_5 : decode prog_1_method_11_code 5 = .ok (.invokevirtual 66, 3) := by decide +kernel
theorem d_S_walker_8 : decode prog_1_method_11_code 8 = .ok (.invokestatic 69, 3) := by decide +kernel
theorem d_S_walker_11 : decode prog_1_method_11_code 11 = .ok (.aload_n 0, 1) := by decide +kernel
theorem d_S_walker_12 : decode prog_1_method_11_code 12 = .ok (.getfield 20, 3) := by decide +kernel
theorem d_S_walker_15 : decode prog_1_method_11_code 15 = .ok (.iload_n 2, 1) := by decide +kernel
theorem d_S_walker_16 : decode prog_1_method_11_code 16 = .ok (.invokevirtual 62, 3) := by decide +kernel
theorem d_S_walker_19 : decode prog_1_method_11_code 19 = .ok (.ifCond .eq 30, 3) := by decide +kernel
theorem d_S_walker_22 : decode prog_1_method_11_code 22 = .ok (.aload_n 0, 1) := by decide +kernel
theorem d_S_walker_23 : decode prog_1_method_11_code 23 = .ok (.getfield 20, 3) := by decide +kernel
theorem d_S_walker_26 : decode prog_1_method_11_code 26 = .ok (.iload_n 3, 1) := by decide +kernel
theorem d_S_walker_27 : decode prog_1_method_11_code 27 = .ok (.invokevirtual 62, 3) := by decide +kernel
theorem d_S_walker_30 : decode prog_1_method_11_code 30 = .ok (.ifCond .eq 19, 3) := by decide +kernel
theorem d_S_walker_33 : decode prog_1_method_11_code 33 = .ok (.aload_n 0, 1) := by decide +kernel
theorem d_S_walker_34 : decode prog_1_method_11_code 34 = .ok (.getfield 20, 3) := by decide +kernel
theorem d_S_walker_37 : decode prog_1_method_11_code 37 = .ok (.iload 4, 2) := by decide +kernel
theorem d_S_walker_39 : decode prog_1_method_11_code 39 = .ok (.invokevirtual 62, 3) := by decide +kernel
theorem d_S_walker_42 : decode prog_1_method_11_code 42 = .ok (.ifCond .eq 7, 3) := by decide +kernel
theorem d_S_walker_45 : decode prog_1_method_11_code 45 = .ok (.iconst 1, 1) := by decide +kernel
theorem d_S_walker_46 : decode prog_1_method_11_code 46 = .ok (.goto 4, 3) := by decide +kernel
theorem d_S_walker_49 : decode prog_1_method_11_code 49 = .ok (.iconst 0, 1) := by decide +kernel
theorem d_S_walker_50 : decode prog_1_method_11_code 50 = .ok (.invokestatic 69, 3) := by decide +kernel
theorem d_S_walker_53 : decode prog_1_method_11_code 53 = .ok (.aload_n 0, 1) := by decide +kernel
theorem d_S_walker_54 : decode prog_1_method_11_code 54 = .ok (.getfield 20, 3) := by decide +kernel
theorem d_S_walker_57 : decode prog_1_method_11_code 57 = .ok (.getfield 152, 3) := by decide +kernel
theorem d_S_walker_60 : decode prog_1_method_11_code 60 = .ok (.iconst 2, 1) := by decide +kernel
theorem d_S_walker_61 : decode prog_1_method_11_code 61 = .ok (.if_icmp .ge 18, 3) := by decide +kernel
theorem d_S_walker_64 : decode prog_1_method_11_code 64 = .ok (.aload_n 0, 1) := by decide +kernel
theorem d_S_walker_65 : decode prog_1_method_11_code 65 = .ok (.getfield 20, 3) := by decide +kernel
theorem d_S_walker_68 : decode prog_1_method_11_code 68 = .ok (.iload_n 1, 1) := by decide +kernel
theorem d_S_walker_69 : decode prog_1_method_11_code 69 = .ok (.invokevirtual 155, 3) := by decide +kernel
theorem d_S_walker_72 : decode prog_1_method_11_code 72 = .ok (.ifCond .ne 7, 3) := by decide +kernel
theorem d_S_walker_75 : decode prog_1_method_11_code 75 = .ok (.iconst 1, 1) := by decide +kernel
theorem d_S_walker_76 : decode prog_1_method_11_code 76 = .ok (.goto 4, 3) := by decide +kernel
theorem d_S_walker_79 : decode prog_1_method_11_code 79 = .ok (.iconst 0, 1) := by decide +kernel
theorem d_S_walker_80 : decode prog_1_method_11_code 80 = .ok (.invokestatic 54, 3) := by decide +kernel
theorem d_S_walker_83 : decode prog_1_method_11_code 83 = .ok (.aload_n 0, 1) := by decide +kernel
theorem d_S_walker_84 : decode prog_1_method_11_code 84 = .ok (.getfield 20, 3) := by decide +kernel
theorem d_S_walker_87 : decode prog_1_method_11_code 87 = .ok (.iload_n 1, 1) := by decide +kernel
theorem d_S_walker_88 : decode prog_1_method_11_code 88 = .ok (.iload_n 2, 1) := by decide +kernel
theorem d_S_walker_89 : decode prog_1_method_11_code 89 = .ok (.iload_n 3, 1) := by decide +kernel
theorem d_S_walker_90 : decode prog_1_method_11_code 90 = .ok (.iload 4, 2) := by decide +kernel
theorem d_S_walker_92 : decode prog_1_method_11_code 92 = .ok (.invokevirtual 158, 3) := by decide +kernel
theorem d_S_walker_95 : decode prog_1_method_11_code 95 = .ok (.aload_n 0, 1) := by decide +kernel
theorem d_S_walker_96 : decode prog_1_method_11_code 96 = .ok (.invokevirtual 48, 3) := by decide +kernel
theorem d_S_walker_99 : decode prog_1_method_11_code 99 = .ok (.return_, 1) := by decide +kernel
theorem d_S_timer_0 : decode prog_1_method_12_code 0 = .ok (.aload_n 0, 1) := by decide +kernel
theorem d_S_timer_1 : decode prog_1_method_12_code 1 = .ok (.getfield 20, 3) := by decide +kernel
theorem d_S_timer_4 : decode prog_1_method_12_code 4 = .ok (.iload_n 1, 1) := by decide +kernel
theorem d_S_timer_5 : decode prog_1_method_12_code 5 = .ok (.invokevirtual 122, 3) := by decide +kernel
theorem d_S_timer_8 : decode prog_1_method_12_code 8 = .ok (.invokestatic 69, 3) := by decide +kernel
theorem d_S_timer_11 : decode prog_1_method_12_code 11 = .ok (.iload_n 2, 1) := by decide +kernel
theorem d_S_timer_12 : decode prog_1_method_12_code 12 = .ok (.iconst 1, 1) := by decide +kernel
theorem d_S_timer_13 : decode prog_1_method_12_code 13 = .ok (.bipush 15, 2) := by decide +kernel
theorem d_S_timer_15 : decode prog_1_method_12_code 15 = .ok (.invokestatic 72, 3) := by decide +kernel
theorem d_S_timer_18 : decode prog_1_method_12_code 18 = .ok (.invokestatic 76, 3) := by decide +kernel
theorem d_S_timer_21 : decode prog_1_method_12_code 21 = .ok (.aload_n 0, 1) := by decide +kernel
theorem d_S_timer_22 : decode prog_1_method_12_code 22 = .ok (.getfield 20, 3) := by decide +kernel
theorem d_S_timer_25 : decode prog_1_method_12_code 25 = .ok (.getfield 161, 3) := by decide +kernel
theorem d_S_timer_28 : decode prog_1_method_12_code 28 = .ok (.iconst 2, 1) := by decide +kernel
theorem d_S_timer_29 : decode prog_1_method_12_code 29 = .ok (.if_icmp .ge 22, 3) := by decide +kernel
theorem d_S_timer_32 : decode prog_1_method_12_code 32 = .ok (.aload_n 0, 1) := by decide +kernel
theorem d_S_timer_33 : decode prog_1_method_12_code 33 = .ok (.getfield 20, 3) := by decide +kernel
theorem d_S_timer_36 : decode prog_1_method_12_code 36 = .ok (.getfield 109, 3) := by decide +kernel
theorem d_S_timer_39 : decode prog_1_method_12_code 39 = .ok (.getfield 164, 3) := by decide +kernel
theorem d_S_timer_42 : decode prog_1_method_12_code 42 = .ok (.iload_n 1, 1) := by decide +kernel
theorem d_S_timer_43 : decode prog_1_method_12_code 43 = .ok (.baload, 1) := by decide +kernel
theorem d_S_timer_44 : decode prog_1_method_12_code 44 = .ok (.ifCond .ne 7, 3) := by decide +kernel
theorem d_S_timer_47 : decode prog_1_method_12_code 47 = .ok (.iconst 1, 1) := by decide +kernel
theorem d_S_timer_48 : decode prog_1_method_12_code 48 = .ok (.goto 4, 3) := by decide +kernel
theorem d_S_timer_51 : decode prog_1_method_12_code 51 = .ok (.iconst 0, 1) := by decide +kernel
theorem d_S_timer_52 : decode prog_1_method_12_code 52 = .ok (.invokestatic 54, 3) := by decide +kernel
theorem d_S_timer_55 : decode prog_1_method_12_code 55 = .ok (.aload_n 0, 1) := by decide +kernel
theorem d_S_timer_56 : decode prog_1_method_12_code 56 = .ok (.getfield 20, 3) := by decide +kernel
theorem d_S_timer_59 : decode prog_1_method_12_code 59 = .ok (.iload_n 1, 1) := by decide +kernel
theorem d_S_timer_60 : decode prog_1_method_12_code 60 = .ok (.iload_n 2, 1) := by decide +kernel
theorem d_S_timer_61 : decode prog_1_method_12_code 61 = .ok (.invokevirtual 168, 3) := by decide +kernel
theorem d_S_timer_64 : decode prog_1_method_12_code 64 = .ok (.aload_n 0, 1) := by decide +kernel
theorem d_S_timer_65 : decode prog_1_method_12_code 65 = .ok (.invokevirtual 48, 3) := by decide +kernel
theorem d_S_timer_68 : decode prog_1_method_12_code 68 = .ok (.return_, 1) := by decide +kernel
theorem d_S_begin_0 : decode prog_1_method_13_code 0 = .ok (.aload_n 0, 1) := by decide +kernel
theorem d_S_begin_1 : decode prog_1_method_13_code 1 = .ok (.getfield 20, 3) := by decide +kernel
theorem d_S_begin_4 : decode prog_1_method_13_code 4 = .ok (.getfield 51, 3) := by decide +kernel
theorem d_S_begin_7 : decode prog_1_method_13_code 7 = .ok (.ifCond .le 7, 3) := by decide +kernel
theorem d_S_begin_14 : decode prog_1_method_13_code 14 = .ok (.iconst 0, 1) := by decide +kernel
theorem d_S_begin_15 : decode prog_1_method_13_code 15 = .ok (.invokestatic 54, 3) := by decide +kernel
theorem d_S_begin_10 : decode prog_1_method_13_code 10 = .ok (.iconst 1, 1) := by decide +kernel
theorem d_S_begin_11 : decode prog_1_method_13_code 11 = .ok (.goto 4, 3) := by decide +kernel
theorem d_S_begin_18 : decode prog_1_method_13_code 18 = .ok (.aload_n 0, 1) := by decide +kernel
theorem d_S_begin_19 : decode prog_1_method_13_code 19 = .ok (.invokevirtual 172, 3) := by decide +kernel
theorem d_S_begin_22 : decode prog_1_method_13_code 22 = .ok (.return_, 1) := by decide +kernel
theorem d_S_command_0 : decode prog_1_method_14_code 0 = .ok (.aload_n 0, 1) := by decide +kernel
theorem d_S_command_1 : decode prog_1_method_14_code 1 = .ok (.getfield 20, 3) := by decide +kernel
theorem d_S_command_4 : decode prog_1_method_14_code 4 = .ok (.iload_n 1, 1) := by decide +kernel
theorem d_S_command_5 : decode prog_1_method_14_code 5 = .ok (.iload_n 2, 1) := by decide +kernel
theorem d_S_command_6 : decode prog_1_method_14_code 6 = .ok (.iload_n 3, 1) := by decide +kernel
theorem d_S_command_7 : decode prog_1_method_14_code 7 = .ok (.invokevirtual 175, 3) := by decide +kernel
theorem d_S_command_10 : decode prog_1_method_14_code 10 = .ok (.invokestatic 76, 3) := by decide +kernel
theorem d_S_command_13 : decode prog_1_method_14_code 13 = .ok (.aload_n 0, 1) := by decide +kernel
theorem d_S_command_14 : decode prog_1_method_14_code 14 = .ok (.getfield 20, 3) := by decide +kernel
theorem d_S_command_17 : decode prog_1_method_14_code 17 = .ok (.getfield 51, 3) := by decide +kernel
theorem d_S_command_20 : decode prog_1_method_14_code 20 = .ok (.ifCond .le 16, 3) := by decide +kernel
theorem d_S_command_23 : decode prog_1_method_14_code 23 = .ok (.aload_n 0, 1) := by decide +kernel
theorem d_S_command_24 : decode prog_1_method_14_code 24 = .ok (.getfield 36, 3) := by decide +kernel
theorem d_S_command_27 : decode prog_1_method_14_code 27 = .ok (.bipush 60, 2) := by decide +kernel
theorem d_S_command_29 : decode prog_1_method_14_code 29 = .ok (.if_icmp .ge 7, 3) := by decide +kernel
theorem d_S_command_32 : decode prog_1_method_14_code 32 = .ok (.iconst 1, 1) := by decide +kernel
theorem d_S_command_33 : decode prog_1_method_14_code 33 = .ok (.goto 4, 3) := by decide +kernel
theorem d_S_command_36 : decode prog_1_method_14_code 36 = .ok (.iconst 0, 1) := by decide +kernel
theorem d_S_command_37 : decode prog_1_method_14_code 37 = .ok (.invokestatic 54, 3) := by decide +kernel
theorem d_S_command_40 : decode prog_1_method_14_code 40 = .ok (.aload_n 0, 1) := by decide +kernel
theorem d_S_command_41 : decode prog_1_method_14_code 41 = .ok (.getfield 28, 3) := by decide +kernel
theorem d_S_command_44 : decode prog_1_method_14_code 44 = .ok (.aload_n 0, 1) := by decide +kernel
theorem d_S_command_45 : decode prog_1_method_14_code 45 = .ok (.getfield 36, 3) := by decide +kernel
theorem d_S_command_48 : decode prog_1_method_14_code 48 = .ok (.laload, 1) := by decide +kernel
theorem d_S_command_49 : decode prog_1_method_14_code 49 = .ok (.invokestatic 178, 3) := by decide +kernel
theorem d_S_command_52 : decode prog_1_method_14_code 52 = .ok (.ifCond .eq 5, 3) := by decide +kernel
theorem d_S_command_57 : decode prog_1_method_14_code 57 = .ok (.aload_n 0, 1) := by decide +kernel
theorem d_S_command_58 : decode prog_1_method_14_code 58 = .ok (.getfield 28, 3) := by decide +kernel
theorem d_S_command_61 : decode prog_1_method_14_code 61 = .ok (.aload_n 0, 1) := by decide +kernel
theorem d_S_command_62 : decode prog_1_method_14_code 62 = .ok (.getfield 36, 3) := by decide +kernel
theorem d_S_command_65 : decode prog_1_method_14_code 65 = .ok (.iconst 1, 1) := by decide +kernel
theorem d_S_command_66 : decode prog_1_method_14_code 66 = .ok (.iadd, 1) := by decide +kernel
theorem d_S_command_67 : decode prog_1_method_14_code 67 = .ok (.aload_n 0, 1) := by decide +kernel
theorem d_S_command_68 : decode prog_1_method_14_code 68 = .ok (.getfield 12, 3) := by decide +kernel
theorem d_S_command_71 : decode prog_1_method_14_code 71 = .ok (.aload_n 0, 1) := by decide +kernel
theorem d_S_command_72 : decode prog_1_method_14_code 72 = .ok (.getfield 28, 3) := by decide +kernel
theorem d_S_command_75 : decode prog_1_method_14_code 75 = .ok (.aload_n 0, 1) := by decide +kernel
theorem d_S_command_76 : decode prog_1_method_14_code 76 = .ok (.getfield 36, 3) := by decide +kernel
theorem d_S_command_79 : decode prog_1_method_14_code 79 = .ok (.laload, 1) := by decide +kernel
theorem d_S_command_80 : decode prog_1_method_14_code 80 = .ok (.iload_n 1, 1) := by decide +kernel
theorem d_S_command_81 : decode prog_1_method_14_code 81 = .ok (.iload_n 2, 1) := by decide +kernel
theorem d_S_command_82 : decode prog_1_method_14_code 82 = .ok (.iload_n 3, 1) := by decide +kernel
theorem d_S_command_83 : decode prog_1_method_14_code 83 = .ok (.invokevirtual 184, 3) := by decide +kernel
theorem d_S_command_86 : decode prog_1_method_14_code 86 = .ok (.lastore, 1) := by decide +kernel
theorem d_S_command_87 : decode prog_1_method_14_code 87 = .ok (.aload_n 0, 1) := by decide +kernel
theorem d_S_command_88 : decode prog_1_method_14_code 88 = .ok (.dup, 1) := by decide +kernel
theorem d_S_command_89 : decode prog_1_method_14_code 89 = .ok (.getfield 36, 3) := by decide +kernel
theorem d_S_command_92 : decode prog_1_method_14_code 92 = .ok (.iconst 1, 1) := by decide +kernel
theorem d_S_command_93 : decode prog_1_method_14_code 93 = .ok (.iadd, 1) := by decide +kernel
theorem d_S_command_94 : decode prog_1_method_14_code 94 = .ok (.putfield 36, 3) := by decide +kernel
theorem d_S_command_97 : decode prog_1_method_14_code 97 = .ok (.aload_n 0, 1) := by decide +kernel
theorem d_S_command_98 : decode prog_1_method_14_code 98 = .ok (.aload_n 0, 1) := by decide +kernel
theorem d_S_command_99 : decode prog_1_method_14_code 99 = .ok (.getfield 12, 3) := by decide +kernel
theorem d_S_command_102 : decode prog_1_method_14_code 102 = .ok (.getfield 188, 3) := by decide +kernel
theorem d_S_command_105 : decode prog_1_method_14_code 105 = .ok (.putfield 40, 3) := by decide +kernel
theorem d_S_command_108 : decode prog_1_method_14_code 108 = .ok (.aload_n 0, 1) := by decide +kernel
theorem d_S_command_109 : decode prog_1_method_14_code 109 = .ok (.getfield 12, 3) := by decide +kernel
theorem d_S_command_112 : decode prog_1_method_14_code 112 = .ok (.getfield 189, 3) := by decide +kernel
theorem d_S_command_115 : decode prog_1_method_14_code 115 = .ok (.iconst 0, 1) := by decide +kernel
theorem d_S_command_116 : decode prog_1_method_14_code 116 = .ok (.aload_n 0, 1) := by decide +kernel
theorem d_S_command_117 : decode prog_1_method_14_code 117 = .ok (.getfield 32, 3) := by decide +kernel
theorem d_S_command_120 : decode prog_1_method_14_code 120 = .ok (.iconst 0, 1) := by decide +kernel
theorem d_S_command_121 : decode prog_1_method_14_code 121 = .ok (.aload_n 0, 1) := by decide +kernel
theorem d_S_command_122 : decode prog_1_method_14_code 122 = .ok (.getfield 40, 3) := by decide +kernel
theorem d_S_command_125 : decode prog_1_method_14_code 125 = .ok (.invokestatic 190, 3) := by decide +kernel
theorem d_S_command_128 : decode prog_1_method_14_code 128 = .ok (.aload_n 0, 1) := by decide +kernel
theorem d_S_command_129 : decode prog_1_method_14_code 129 = .ok (.getfield 40, 3) := by decide +kernel
theorem d_S_command_132 : decode prog_1_method_14_code 132 = .ok (.ireturn, 1) := by decide +kernel
theorem d_S_command_55 : decode prog_1_method_14_code 55 = .ok (.iconst (-1), 1) := by decide +kernel
theorem d_S_command_56 : decode prog_1_method_14_code 56 = .ok (.ireturn, 1) := by decide +kernel
theorem d_S_state_0 : decode prog_1_method_17_code 0 = .ok (.aload_n 0, 1) := by decide +kernel
theorem d_S_state_1 : decode prog_1_method_17_code 1 = .ok (.iload_n 1, 1) := by decide +kernel
theorem d_S_state_2 : decode prog_1_method_17_code 2 = .ok (.iload_n 2, 1) := by decide +kernel
theorem d_S_state_3 : decode prog_1_method_17_code 3 = .ok (.invokevirtual 196, 3) := by decide +kernel
theorem d_S_state_6 : decode prog_1_method_17_code 6 = .ok (.invokestatic 69, 3) := by decide +kernel
theorem d_S_state_9 : decode prog_1_method_17_code 9 = .ok (.iload_n 1, 1) := by decide +kernel
theorem d_S_state_10 : decode prog_1_method_17_code 10 = .ok (.iconst 0, 1) := by decide +kernel
theorem d_S_state_11 : decode prog_1_method_17_code 11 = .ok (.bipush 8, 2) := by decide +kernel
theorem d_S_state_13 : decode prog_1_method_17_code 13 = .ok (.invokestatic 72, 3) := by decide +kernel
theorem d_S_state_16 : decode prog_1_method_17_code 16 = .ok (.invokestatic 76, 3) := by decide +kernel
theorem d_S_state_19 : decode prog_1_method_17_code 19 = .ok (.aload_n 0, 1) := by decide +kernel
theorem d_S_state_20 : decode prog_1_method_17_code 20 = .ok (.getfield 20, 3) := by decide +kernel
theorem d_S_state_23 : decode prog_1_method_17_code 23 = .ok (.getfield 51, 3) := by decide +kernel
theorem d_S_state_26 : decode prog_1_method_17_code 26 = .ok (.ifCond .le 7, 3) := by decide +kernel
theorem d_S_state_33 : decode prog_1_method_17_code 33 = .ok (.iconst 0, 1) := by decide +kernel
theorem d_S_state_29 : decode prog_1_method_17_code 29 = .ok (.iconst 1, 1) := by decide +kernel
theorem d_S_state_30 : decode prog_1_method_17_code 30 = .ok (.goto 4, 3) := by decide +kernel
theorem d_S_state_34 : decode prog_1_method_17_code 34 = .ok (.invokestatic 54, 3) := by decide +kernel
theorem d_S_state_37 : decode prog_1_method_17_code 37 = .ok (.aload_n 0, 1) := by decide +kernel
theorem d_S_state_38 : decode prog_1_method_17_code 38 = .ok (.getfield 28, 3) := by decide +kernel
theorem d_S_state_41 : decode prog_1_method_17_code 41 = .ok (.aload_n 0, 1) := by decide +kernel
theorem d_S_state_42 : decode prog_1_method_17_code 42 = .ok (.getfield 36, 3) := by decide +kernel
theorem d_S_state_45 : decode prog_1_method_17_code 45 = .ok (.laload, 1) := by decide +kernel
theorem d_S_state_46 : decode prog_1_method_17_code 46 = .ok (.lstore_n 3, 1) := by decide +kernel
theorem d_S_state_47 : decode prog_1_method_17_code 47 = .ok (.iload_n 1, 1) := by decide +kernel
theorem d_S_state_48 : decode prog_1_method_17_code 48 = .ok (.tableswitch 109 0 7 #[48, 53, 59, 73, 79, 84, 89, 103], 48) := by decide +kernel
theorem d_S_state_96 : decode prog_1_method_17_code 96 = .ok (.lload_n 3, 1) := by decide +kernel
theorem d_S_state_97 : decode prog_1_method_17_code 97 = .ok (.invokestatic 199, 3) := by decide +kernel
theorem d_S_state_100 : decode prog_1_method_17_code 100 = .ok (.ireturn, 1) := by decide +kernel
theorem d_S_state_101 : decode prog_1_method_17_code 101 = .ok (.lload_n 3, 1) := by decide +kernel
theorem d_S_state_102 : decode prog_1_method_17_code 102 = .ok (.iload_n 2, 1) := by decide +kernel
theorem d_S_state_103 : decode prog_1_method_17_code 103 = .ok (.invokestatic 203, 3) := by decide +kernel
theorem d_S_state_106 : decode prog_1_method_17_code 106 = .ok (.ireturn, 1) := by decide +kernel
theorem d_S_state_107 : decode prog_1_method_17_code 107 = .ok (.lload_n 3, 1) := by decide +kernel
theorem d_S_state_108 : decode prog_1_method_17_code 108 = .ok (.iload_n 2, 1) := by decide +kernel
theorem d_S_state_109 : decode prog_1_method_17_code 109 = .ok (.invokestatic 207, 3) := by decide +kernel
theorem d_S_state_112 : decode prog_1_method_17_code 112 = .ok (.ifCond .eq 7, 3) := by decide +kernel
theorem d_S_state_119 : decode prog_1_method_17_code 119 = .ok (.iconst 0, 1) := by decide +kernel
theorem d_S_state_120 : decode prog_1_method_17_code 120 = .ok (.ireturn, 1) := by decide +kernel
theorem d_S_state_115 : decode prog_1_method_17_code 115 = .ok (.iconst 1, 1) := by decide +kernel
theorem d_S_state_116 : decode prog_1_method_17_code 116 = .ok (.goto 4, 3) := by decide +kernel
theorem d_S_state_121 : decode prog_1_method_17_code 121 = .ok (.lload_n 3, 1) := by decide +kernel
theorem d_S_state_122 : decode prog_1_method_17_code 122 = .ok (.iload_n 2, 1) := by decide +kernel
theorem d_S_state_123 : decode prog_1_method_17_code 123 = .ok (.invokestatic 211, 3) := by decide +kernel
theorem d_S_state_126 : decode prog_1_method_17_code 126 = .ok (.ireturn, 1) := by decide +kernel
theorem d_S_state_127 : decode prog_1_method_17_code 127 = .ok (.lload_n 3, 1) := by decide +kernel
theorem d_S_state_128 : decode prog_1_method_17_code 128 = .ok (.invokestatic 214, 3) := by decide +kernel
theorem d_S_state_131 : decode prog_1_method_17_code 131 = .ok (.ireturn, 1) := by decide +kernel
theorem d_S_state_132 : decode prog_1_method_17_code 132 = .ok (.aload_n 0, 1) := by decide +kernel
theorem d_S_state_133 : decode prog_1_method_17_code 133 = .ok (.getfield 36, 3) := by decide +kernel
theorem d_S_state_136 : decode prog_1_method_17_code 136 = .ok (.ireturn, 1) := by decide +kernel
theorem d_S_state_137 : decode prog_1_method_17_code 137 = .ok (.lload_n 3, 1) := by decide +kernel
theorem d_S_state_138 : decode prog_1_method_17_code 138 = .ok (.iload_n 2, 1) := by decide +kernel
theorem d_S_state_139 : decode prog_1_method_17_code 139 = .ok (.invokestatic 217, 3) := by decide +kernel
theorem d_S_state_142 : decode prog_1_method_17_code 142 = .ok (.ifCond .eq 7, 3) := by decide +kernel
theorem d_S_state_149 : decode prog_1_method_17_code 149 = .ok (.iconst 0, 1) := by decide +kernel
theorem d_S_state_150 : decode prog_1_method_17_code 150 = .ok (.ireturn, 1) := by decide +kernel
theorem d_S_state_145 : decode prog_1_method_17_code 145 = .ok (.iconst 1, 1) := by decide +kernel
theorem d_S_state_146 : decode prog_1_method_17_code 146 = .ok (.goto 4, 3) := by decide +kernel
theorem d_S_state_151 : decode prog_1_method_17_code 151 = .ok (.lload_n 3, 1) := by decide +kernel
theorem d_S_state_152 : decode prog_1_method_17_code 152 = .ok (.iload_n 2, 1) := by decide +kernel
theorem d_S_state_153 : decode prog_1_method_17_code 153 = .ok (.invokestatic 220, 3) := by decide +kernel
theorem d_S_state_156 : decode prog_1_method_17_code 156 = .ok (.ireturn, 1) := by decide +kernel
theorem d_S_state_157 : decode prog_1_method_17_code 157 = .ok (.lload_n 3, 1) := by decide +kernel
theorem d_S_state_158 : decode prog_1_method_17_code 158 = .ok (.iload_n 2, 1) := by decide +kernel
theorem d_S_state_159 : decode prog_1_method_17_code 159 = .ok (.invokestatic 223, 3) := by decide +kernel
theorem d_S_state_162 : decode prog_1_method_17_code 162 = .ok (.ireturn, 1) := by decide +kernel
theorem d_S_explore_0 : decode prog_1_method_18_code 0 = .ok (.aload_n 0, 1) := by decide +kernel
theorem d_S_explore_1 : decode prog_1_method_18_code 1 = .ok (.getfield 20, 3) := by decide +kernel
theorem d_S_explore_4 : decode prog_1_method_18_code 4 = .ok (.getfield 51, 3) := by decide +kernel
theorem d_S_explore_7 : decode prog_1_method_18_code 7 = .ok (.ifCond .le 7, 3) := by decide +kernel
theorem d_S_explore_14 : decode prog_1_method_18_code 14 = .ok (.iconst 0, 1) := by decide +kernel
theorem d_S_explore_10 : decode prog_1_method_18_code 10 = .ok (.iconst 1, 1) := by decide +kernel
theorem d_S_explore_11 : decode prog_1_method_18_code 11 = .ok (.goto 4, 3) := by decide +kernel
theorem d_S_explore_15 : decode prog_1_method_18_code 15 = .ok (.invokestatic 54, 3) := by decide +kernel
theorem d_S_explore_18 : decode prog_1_method_18_code 18 = .ok (.iload_n 1, 1) := by decide +kernel
theorem d_S_explore_19 : decode prog_1_method_18_code 19 = .ok (.iconst 0, 1) := by decide +kernel
theorem d_S_explore_20 : decode prog_1_method_18_code 20 = .ok (.sipush 1000, 3) := by decide +kernel
theorem d_S_explore_23 : decode prog_1_method_18_code 23 = .ok (.invokestatic 72, 3) := by decide +kernel
theorem d_S_explore_26 : decode prog_1_method_18_code 26 = .ok (.invokestatic 76, 3) := by decide +kernel
theorem d_S_explore_29 : decode prog_1_method_18_code 29 = .ok (.aload_n 0, 1) := by decide +kernel
theorem d_S_explore_30 : decode prog_1_method_18_code 30 = .ok (.getfield 24, 3) := by decide +kernel
theorem d_S_explore_33 : decode prog_1_method_18_code 33 = .ok (.getfield 226, 3) := by decide +kernel
theorem d_S_explore_36 : decode prog_1_method_18_code 36 = .ok (.ifCond .ne 14, 3) := by decide +kernel
theorem d_S_explore_39 : decode prog_1_method_18_code 39 = .ok (.aload_n 0, 1) := by decide +kernel
theorem d_S_explore_40 : decode prog_1_method_18_code 40 = .ok (.getfield 24, 3) := by decide +kernel
theorem d_S_explore_43 : decode prog_1_method_18_code 43 = .ok (.aload_n 0, 1) := by decide +kernel
theorem d_S_explore_44 : decode prog_1_method_18_code 44 = .ok (.getfield 20, 3) := by decide +kernel
theorem d_S_explore_47 : decode prog_1_method_18_code 47 = .ok (.invokevirtual 229, 3) := by decide +kernel
theorem d_S_explore_50 : decode prog_1_method_18_code 50 = .ok (.iconst 0, 1) := by decide +kernel
theorem d_S_explore_51 : decode prog_1_method_18_code 51 = .ok (.istore_n 2, 1) := by decide +kernel
theorem d_S_explore_52 : decode prog_1_method_18_code 52 = .ok (.iload_n 2, 1) := by decide +kernel
theorem d_S_explore_53 : decode prog_1_method_18_code 53 = .ok (.iload_n 1, 1) := by decide +kernel
theorem d_S_explore_54 : decode prog_1_method_18_code 54 = .ok (.if_icmp .ge 30, 3) := by decide +kernel
theorem d_S_explore_57 : decode prog_1_method_18_code 57 = .ok (.aload_n 0, 1) := by decide +kernel
theorem d_S_explore_58 : decode prog_1_method_18_code 58 = .ok (.getfield 24, 3) := by decide +kernel
theorem d_S_explore_61 : decode prog_1_method_18_code 61 = .ok (.invokevirtual 233, 3) := by decide +kernel
theorem d_S_explore_64 : decode prog_1_method_18_code 64 = .ok (.ifCond .eq 20, 3) := by decide +kernel
theorem d_S_explore_67 : decode prog_1_method_18_code 67 = .ok (.aload_n 0, 1) := by decide +kernel
theorem d_S_explore_68 : decode prog_1_method_18_code 68 = .ok (.getfield 24, 3) := by decide +kernel
theorem d_S_explore_71 : decode prog_1_method_18_code 71 = .ok (.aload_n 0, 1) := by decide +kernel
theorem d_S_explore_72 : decode prog_1_method_18_code 72 = .ok (.getfield 12, 3) := by decide +kernel
theorem d_S_explore_75 : decode prog_1_method_18_code 75 = .ok (.invokevirtual 237, 3) := by decide +kernel
theorem d_S_explore_78 : decode prog_1_method_18_code 78 = .ok (.iinc 2 1, 3) := by decide +kernel
theorem d_S_explore_81 : decode prog_1_method_18_code 81 = .ok (.goto (-29), 3) := by decide +kernel
theorem d_S_explore_84 : decode prog_1_method_18_code 84 = .ok (.aload_n 0, 1) := by decide +kernel
theorem d_S_explore_85 : decode prog_1_method_18_code 85 = .ok (.getfield 24, 3) := by decide +kernel
theorem d_S_explore_88 : decode prog_1_method_18_code 88 = .ok (.getfield 241, 3) := by decide +kernel
theorem d_S_explore_91 : decode prog_1_method_18_code 91 = .ok (.ifCond .eq 5, 3) := by decide +kernel
theorem d_S_explore_96 : decode prog_1_method_18_code 96 = .ok (.aload_n 0, 1) := by decide +kernel
theorem d_S_explore_97 : decode prog_1_method_18_code 97 = .ok (.getfield 24, 3) := by decide +kernel
theorem d_S_explore_100 : decode prog_1_method_18_code 100 = .ok (.invokevirtual 245, 3) := by decide +kernel
theorem d_S_explore_103 : decode prog_1_method_18_code 103 = .ok (.ifCond .eq 7, 3) := by decide +kernel
theorem d_S_explore_110 : decode prog_1_method_18_code 110 = .ok (.iconst 0, 1) := by decide +kernel
theorem d_S_explore_111 : decode prog_1_method_18_code 111 = .ok (.ireturn, 1) := by decide +kernel
theorem d_S_explore_106 : decode prog_1_method_18_code 106 = .ok (.iconst 1, 1) := by decide +kernel
theorem d_S_explore_107 : decode prog_1_method_18_code 107 = .ok (.goto 4, 3) := by decide +kernel
theorem d_S_explore_94 : decode prog_1_method_18_code 94 = .ok (.iconst 2, 1) := by decide +kernel
theorem d_S_explore_95 : decode prog_1_method_18_code 95 = .ok (.ireturn, 1) := by decide +kernel
theorem d_S_reach_0 : decode prog_1_method_19_code 0 = .ok (.aload_n 0, 1) := by decide +kernel
theorem d_S_reach_1 : decode prog_1_method_19_code 1 = .ok (.getfield 20, 3) := by decide +kernel
theorem d_S_reach_4 : decode prog_1_method_19_code 4 = .ok (.getfield 51, 3) := by decide +kernel
theorem d_S_reach_7 : decode prog_1_method_19_code 7 = .ok (.ifCond .le 7, 3) := by decide +kernel
theorem d_S_reach_14 : decode prog_1_method_19_code 14 = .ok (.iconst 0, 1) := by decide +kernel
theorem d_S_reach_10 : decode prog_1_method_19_code 10 = .ok (.iconst 1, 1) := by decide +kernel
theorem d_S_reach_11 : decode prog_1_method_19_code 11 = .ok (.goto 4, 3) := by decide +kernel
theorem d_S_reach_15 : decode prog_1_method_19_code 15 = .ok (.invokestatic 54, 3) := by decide +kernel
theorem d_S_reach_18 : decode prog_1_method_19_code 18 = .ok (.aload_n 0, 1) := by decide +kernel
theorem d_S_reach_19 : decode prog_1_method_19_code 19 = .ok (.getfield 20, 3) := by decide +kernel
theorem d_S_reach_22 : decode prog_1_method_19_code 22 = .ok (.iload_n 1, 1) := by decide +kernel
theorem d_S_reach_23 : decode prog_1_method_19_code 23 = .ok (.invokevirtual 143, 3) := by decide +kernel
theorem d_S_reach_26 : decode prog_1_method_19_code 26 = .ok (.invokestatic 69, 3) := by decide +kernel
theorem d_S_reach_29 : decode prog_1_method_19_code 29 = .ok (.aload_n 0, 1) := by decide +kernel
theorem d_S_reach_30 : decode prog_1_method_19_code 30 = .ok (.getfield 24, 3) := by decide +kernel
theorem d_S_reach_33 : decode prog_1_method_19_code 33 = .ok (.iload_n 1, 1) := by decide +kernel
theorem d_S_reach_34 : decode prog_1_method_19_code 34 = .ok (.invokevirtual 248, 3) := by decide +kernel
theorem d_S_reach_37 : decode prog_1_method_19_code 37 = .ok (.istore_n 3, 1) := by decide +kernel
theorem d_S_reach_38 : decode prog_1_method_19_code 38 = .ok (.iload_n 2, 1) := by decide +kernel
theorem d_S_reach_39 : decode prog_1_method_19_code 39 = .ok (.ifCond .eq 21, 3) := by decide +kernel
theorem d_S_reach_60 : decode prog_1_method_19_code 60 = .ok (.iload_n 3, 1) := by decide +kernel
theorem d_S_reach_61 : decode prog_1_method_19_code 61 = .ok (.iconst (-1), 1) := by decide +kernel
theorem d_S_reach_62 : decode prog_1_method_19_code 62 = .ok (.if_icmp .eq 5, 3) := by decide +kernel
theorem d_S_reach_67 : decode prog_1_method_19_code 67 = .ok (.aload_n 0, 1) := by decide +kernel
theorem d_S_reach_68 : decode prog_1_method_19_code 68 = .ok (.getfield 24, 3) := by decide +kernel
theorem d_S_reach_71 : decode prog_1_method_19_code 71 = .ok (.invokevirtual 245, 3) := by decide +kernel
theorem d_S_reach_74 : decode prog_1_method_19_code 74 = .ok (.ifCond .eq 7, 3) := by decide +kernel
theorem d_S_reach_81 : decode prog_1_method_19_code 81 = .ok (.iconst 2, 1) := by decide +kernel
theorem d_S_reach_82 : decode prog_1_method_19_code 82 = .ok (.ireturn, 1) := by decide +kernel
theorem d_S_reach_77 : decode prog_1_method_19_code 77 = .ok (.iconst 0, 1) := by decide +kernel
theorem d_S_reach_78 : decode prog_1_method_19_code 78 = .ok (.goto 4, 3) := by decide +kernel
theorem d_S_reach_65 : decode prog_1_method_19_code 65 = .ok (.iconst 1, 1) := by decide +kernel
theorem d_S_reach_66 : decode prog_1_method_19_code 66 = .ok (.ireturn, 1) := by decide +kernel
theorem d_S_reach_42 : decode prog_1_method_19_code 42 = .ok (.iload_n 3, 1) := by decide +kernel
theorem d_S_reach_43 : decode prog_1_method_19_code 43 = .ok (.iconst (-1), 1) := by decide +kernel
theorem d_S_reach_44 : decode prog_1_method_19_code 44 = .ok (.if_icmp .ne 7, 3) := by decide +kernel
theorem d_S_reach_51 : decode prog_1_method_19_code 51 = .ok (.aload_n 0, 1) := by decide +kernel
theorem d_S_reach_52 : decode prog_1_method_19_code 52 = .ok (.getfield 24, 3) := by decide +kernel
theorem d_S_reach_55 : decode prog_1_method_19_code 55 = .ok (.iload_n 3, 1) := by decide +kernel
theorem d_S_reach_56 : decode prog_1_method_19_code 56 = .ok (.invokevirtual 252, 3) := by decide +kernel
theorem d_S_reach_59 : decode prog_1_method_19_code 59 = .ok (.ireturn, 1) := by decide +kernel
theorem d_S_reach_47 : decode prog_1_method_19_code 47 = .ok (.iconst (-1), 1) := by decide +kernel
theorem d_S_reach_48 : decode prog_1_method_19_code 48 = .ok (.goto 11, 3) := by decide +kernel
theorem d_S_way_0 : decode prog_1_method_20_code 0 = .ok (.aload_n 0, 1) := by decide +kernel
theorem d_S_way_1 : decode prog_1_method_20_code 1 = .ok (.getfield 20, 3) := by decide +kernel
theorem d_S_way_4 : decode prog_1_method_20_code 4 = .ok (.getfield 51, 3) := by decide +kernel
theorem d_S_way_7 : decode prog_1_method_20_code 7 = .ok (.ifCond .le 7, 3) := by decide +kernel
theorem d_S_way_14 : decode prog_1_method_20_code 14 = .ok (.iconst 0, 1) := by decide +kernel
theorem d_S_way_10 : decode prog_1_method_20_code 10 = .ok (.iconst 1, 1) := by decide +kernel
theorem d_S_way_11 : decode prog_1_method_20_code 11 = .ok (.goto 4, 3) := by decide +kernel
theorem d_S_way_15 : decode prog_1_method_20_code 15 = .ok (.invokestatic 54, 3) := by decide +kernel
theorem d_S_way_18 : decode prog_1_method_20_code 18 = .ok (.aload_n 0, 1) := by decide +kernel
theorem d_S_way_19 : decode prog_1_method_20_code 19 = .ok (.getfield 20, 3) := by decide +kernel
theorem d_S_way_22 : decode prog_1_method_20_code 22 = .ok (.iload_n 1, 1) := by decide +kernel
theorem d_S_way_23 : decode prog_1_method_20_code 23 = .ok (.invokevirtual 143, 3) := by decide +kernel
theorem d_S_way_26 : decode prog_1_method_20_code 26 = .ok (.invokestatic 69, 3) := by decide +kernel
theorem d_S_way_29 : decode prog_1_method_20_code 29 = .ok (.aload_n 0, 1) := by decide +kernel
theorem d_S_way_30 : decode prog_1_method_20_code 30 = .ok (.getfield 24, 3) := by decide +kernel
theorem d_S_way_33 : decode prog_1_method_20_code 33 = .ok (.iload_n 1, 1) := by decide +kernel
theorem d_S_way_34 : decode prog_1_method_20_code 34 = .ok (.invokevirtual 248, 3) := by decide +kernel
theorem d_S_way_37 : decode prog_1_method_20_code 37 = .ok (.istore 4, 2) := by decide +kernel
theorem d_S_way_39 : decode prog_1_method_20_code 39 = .ok (.iload 4, 2) := by decide +kernel
theorem d_S_way_41 : decode prog_1_method_20_code 41 = .ok (.iconst (-1), 1) := by decide +kernel
theorem d_S_way_42 : decode prog_1_method_20_code 42 = .ok (.if_icmp .eq 22, 3) := by decide +kernel
theorem d_S_way_64 : decode prog_1_method_20_code 64 = .ok (.iconst (-1), 1) := by decide +kernel
theorem d_S_way_65 : decode prog_1_method_20_code 65 = .ok (.ireturn, 1) := by decide +kernel
theorem d_S_way_45 : decode prog_1_method_20_code 45 = .ok (.iload_n 2, 1) := by decide +kernel
theorem d_S_way_46 : decode prog_1_method_20_code 46 = .ok (.iconst 0, 1) := by decide +kernel
theorem d_S_way_47 : decode prog_1_method_20_code 47 = .ok (.aload_n 0, 1) := by decide +kernel
theorem d_S_way_48 : decode prog_1_method_20_code 48 = .ok (.getfield 24, 3) := by decide +kernel
theorem d_S_way_51 : decode prog_1_method_20_code 51 = .ok (.iload 4, 2) := by decide +kernel
theorem d_S_way_53 : decode prog_1_method_20_code 53 = .ok (.invokevirtual 252, 3) := by decide +kernel
theorem d_S_way_56 : decode prog_1_method_20_code 56 = .ok (.iconst 1, 1) := by decide +kernel
theorem d_S_way_57 : decode prog_1_method_20_code 57 = .ok (.isub, 1) := by decide +kernel
theorem d_S_way_58 : decode prog_1_method_20_code 58 = .ok (.invokestatic 72, 3) := by decide +kernel
theorem d_S_way_61 : decode prog_1_method_20_code 61 = .ok (.ifCond .ne 5, 3) := by decide +kernel
theorem d_S_way_66 : decode prog_1_method_20_code 66 = .ok (.aload_n 0, 1) := by decide +kernel
theorem d_S_way_67 : decode prog_1_method_20_code 67 = .ok (.getfield 24, 3) := by decide +kernel
theorem d_S_way_70 : decode prog_1_method_20_code 70 = .ok (.iload 4, 2) := by decide +kernel
theorem d_S_way_72 : decode prog_1_method_20_code 72 = .ok (.iload_n 2, 1) := by decide +kernel
theorem d_S_way_73 : decode prog_1_method_20_code 73 = .ok (.invokevirtual 255, 3) := by decide +kernel
theorem d_S_way_76 : decode prog_1_method_20_code 76 = .ok (.istore 5, 2) := by decide +kernel
theorem d_S_way_78 : decode prog_1_method_20_code 78 = .ok (.iload_n 3, 1) := by decide +kernel
theorem d_S_way_79 : decode prog_1_method_20_code 79 = .ok (.tableswitch 43 0 2 #[25, 31, 37], 25) := by decide +kernel
theorem d_S_way_104 : decode prog_1_method_20_code 104 = .ok (.iload 5, 2) := by decide +kernel
theorem d_S_way_106 : decode prog_1_method_20_code 106 = .ok (.invokestatic 258, 3) := by decide +kernel
theorem d_S_way_109 : decode prog_1_method_20_code 109 = .ok (.ireturn, 1) := by decide +kernel
theorem d_S_way_110 : decode prog_1_method_20_code 110 = .ok (.iload 5, 2) := by decide +kernel
theorem d_S_way_112 : decode prog_1_method_20_code 112 = .ok (.invokestatic 263, 3) := by decide +kernel
theorem d_S_way_115 : decode prog_1_method_20_code 115 = .ok (.ireturn, 1) := by decide +kernel
theorem d_S_way_116 : decode prog_1_method_20_code 116 = .ok (.iload 5, 2) := by decide +kernel
theorem d_S_way_118 : decode prog_1_method_20_code 118 = .ok (.invokestatic 266, 3) := by decide +kernel
theorem d_S_way_121 : decode prog_1_method_20_code 121 = .ok (.ireturn, 1) := by decide +kernel
theorem d_S_way_122 : decode prog_1_method_20_code 122 = .ok (.iconst (-1), 1) := by decide +kernel
theorem d_S_way_123 : decode prog_1_method_20_code 123 = .ok (.ireturn, 1) := by decide +kernel
theorem d_S_study_0 : decode prog_1_method_21_code 0 = .ok (.aload_n 0, 1) := by decide +kernel
theorem d_S_study_1 : decode prog_1_method_21_code 1 = .ok (.getfield 20, 3) := by decide +kernel
theorem d_S_study_4 : decode prog_1_method_21_code 4 = .ok (.getfield 51, 3) := by decide +kernel
theorem d_S_study_7 : decode prog_1_method_21_code 7 = .ok (.ifCond .le 7, 3) := by decide +kernel
theorem d_S_study_14 : decode prog_1_method_21_code 14 = .ok (.iconst 0, 1) := by decide +kernel
theorem d_S_study_10 : decode prog_1_method_21_code 10 = .ok (.iconst 1, 1) := by decide +kernel
theorem d_S_study_11 : decode prog_1_method_21_code 11 = .ok (.goto 4, 3) := by decide +kernel
theorem d_S_study_15 : decode prog_1_method_21_code 15 = .ok (.invokestatic 54, 3) := by decide +kernel
theorem d_S_study_18 : decode prog_1_method_21_code 18 = .ok (.iload_n 1, 1) := by decide +kernel
theorem d_S_study_19 : decode prog_1_method_21_code 19 = .ok (.iconst 0, 1) := by decide +kernel
theorem d_S_study_20 : decode prog_1_method_21_code 20 = .ok (.iconst 4, 1) := by decide +kernel
theorem d_S_study_21 : decode prog_1_method_21_code 21 = .ok (.invokestatic 72, 3) := by decide +kernel
theorem d_S_study_24 : decode prog_1_method_21_code 24 = .ok (.invokestatic 76, 3) := by decide +kernel
theorem d_S_study_27 : decode prog_1_method_21_code 27 = .ok (.iload_n 1, 1) := by decide +kernel
theorem d_S_study_28 : decode prog_1_method_21_code 28 = .ok (.ifCond .ne 15, 3) := by decide +kernel
theorem d_S_study_43 : decode prog_1_method_21_code 43 = .ok (.aload_n 0, 1) := by decide +kernel
theorem d_S_study_44 : decode prog_1_method_21_code 44 = .ok (.getfield 24, 3) := by decide +kernel
theorem d_S_study_47 : decode prog_1_method_21_code 47 = .ok (.invokevirtual 245, 3) := by decide +kernel
theorem d_S_study_50 : decode prog_1_method_21_code 50 = .ok (.ifCond .ne 14, 3) := by decide +kernel
theorem d_S_study_64 : decode prog_1_method_21_code 64 = .ok (.iload_n 1, 1) := by decide +kernel
theorem d_S_study_65 : decode prog_1_method_21_code 65 = .ok (.tableswitch 65 1 3 #[27, 52, 57], 27) := by decide +kernel
theorem d_S_study_92 : decode prog_1_method_21_code 92 = .ok (.aload_n 0, 1) := by decide +kernel
theorem d_S_study_93 : decode prog_1_method_21_code 93 = .ok (.getfield 24, 3) := by decide +kernel
theorem d_S_study_96 : decode prog_1_method_21_code 96 = .ok (.aload_n 0, 1) := by decide +kernel
theorem d_S_study_97 : decode prog_1_method_21_code 97 = .ok (.getfield 28, 3) := by decide +kernel
theorem d_S_study_100 : decode prog_1_method_21_code 100 = .ok (.aload_n 0, 1) := by decide +kernel
theorem d_S_study_101 : decode prog_1_method_21_code 101 = .ok (.getfield 36, 3) := by decide +kernel
theorem d_S_study_104 : decode prog_1_method_21_code 104 = .ok (.laload, 1) := by decide +kernel
theorem d_S_study_105 : decode prog_1_method_21_code 105 = .ok (.invokevirtual 274, 3) := by decide +kernel
theorem d_S_study_108 : decode prog_1_method_21_code 108 = .ok (.ifCond .eq 7, 3) := by decide +kernel
theorem d_S_study_115 : decode prog_1_method_21_code 115 = .ok (.iconst 0, 1) := by decide +kernel
theorem d_S_study_116 : decode prog_1_method_21_code 116 = .ok (.ireturn, 1) := by decide +kernel
theorem d_S_study_111 : decode prog_1_method_21_code 111 = .ok (.iconst 1, 1) := by decide +kernel
theorem d_S_study_112 : decode prog_1_method_21_code 112 = .ok (.goto 4, 3) := by decide +kernel
theorem d_S_study_117 : decode prog_1_method_21_code 117 = .ok (.aload_n 0, 1) := by decide +kernel
theorem d_S_study_118 : decode prog_1_method_21_code 118 = .ok (.invokevirtual 277, 3) := by decide +kernel
theorem d_S_study_121 : decode prog_1_method_21_code 121 = .ok (.ireturn, 1) := by decide +kernel
theorem d_S_study_122 : decode prog_1_method_21_code 122 = .ok (.aload_n 0, 1) := by decide +kernel
theorem d_S_study_123 : decode prog_1_method_21_code 123 = .ok (.getfield 24, 3) := by decide +kernel
theorem d_S_study_126 : decode prog_1_method_21_code 126 = .ok (.invokevirtual 280, 3) := by decide +kernel
theorem d_S_study_129 : decode prog_1_method_21_code 129 = .ok (.ireturn, 1) := by decide +kernel
theorem d_S_study_130 : decode prog_1_method_21_code 130 = .ok (.aload_n 0, 1) := by decide +kernel
theorem d_S_study_131 : decode prog_1_method_21_code 131 = .ok (.getfield 24, 3) := by decide +kernel
theorem d_S_study_134 : decode prog_1_method_21_code 134 = .ok (.iload_n 2, 1) := by decide +kernel
theorem d_S_study_135 : decode prog_1_method_21_code 135 = .ok (.aload_n 0, 1) := by decide +kernel
theorem d_S_study_136 : decode prog_1_method_21_code 136 = .ok (.getfield 20, 3) := by decide +kernel
theorem d_S_study_139 : decode prog_1_method_21_code 139 = .ok (.getfield 109, 3) := by decide +kernel
theorem d_S_study_142 : decode prog_1_method_21_code 142 = .ok (.getfield 113, 3) := by decide +kernel
theorem d_S_study_145 : decode prog_1_method_21_code 145 = .ok (.invokevirtual 283, 3) := by decide +kernel
theorem d_S_study_148 : decode prog_1_method_21_code 148 = .ok (.ireturn, 1) := by decide +kernel
theorem d_S_study_53 : decode prog_1_method_21_code 53 = .ok (.iload_n 1, 1) := by decide +kernel
theorem d_S_study_54 : decode prog_1_method_21_code 54 = .ok (.iconst 1, 1) := by decide +kernel
