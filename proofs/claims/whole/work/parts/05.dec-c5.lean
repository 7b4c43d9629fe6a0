theorem d_S_study_55 : decode prog_1_method_21_code 55 = .ok (.if_icmp .ne 7, 3) := by decide +kernel
theorem d_S_study_62 : decode prog_1_method_21_code 62 = .ok (.iconst (-1), 1) := by decide +kernel
theorem d_S_study_63 : decode prog_1_method_21_code 63 = .ok (.ireturn, 1) := by decide +kernel
theorem d_S_study_58 : decode prog_1_method_21_code 58 = .ok (.iconst 2, 1) := by decide +kernel
theorem d_S_study_59 : decode prog_1_method_21_code 59 = .ok (.goto 4, 3) := by decide +kernel
theorem d_S_study_31 : decode prog_1_method_21_code 31 = .ok (.aload_n 0, 1) := by decide +kernel
theorem d_S_study_32 : decode prog_1_method_21_code 32 = .ok (.getfield 24, 3) := by decide +kernel
theorem d_S_study_35 : decode prog_1_method_21_code 35 = .ok (.getfield 226, 3) := by decide +kernel
theorem d_S_study_38 : decode prog_1_method_21_code 38 = .ok (.iconst 1, 1) := by decide +kernel
theorem d_S_study_39 : decode prog_1_method_21_code 39 = .ok (.invokestatic 269, 3) := by decide +kernel
theorem d_S_study_42 : decode prog_1_method_21_code 42 = .ok (.ireturn, 1) := by decide +kernel
theorem d_L_room_0 : decode method_3_code 0 = .ok (.aload_n 1, 1) := by decide +kernel
theorem d_L_room_1 : decode method_3_code 1 = .ok (.iconst 0, 1) := by decide +kernel
theorem d_L_room_2 : decode method_3_code 2 = .ok (.aload_n 0, 1) := by decide +kernel
theorem d_L_room_3 : decode method_3_code 3 = .ok (.invokevirtual 7, 3) := by decide +kernel
theorem d_L_room_11 : decode method_3_code 11 = .ok (.astore_n 2, 1) := by decide +kernel
theorem d_L_room_12 : decode method_3_code 12 = .ok (.iconst 1, 1) := by decide +kernel
theorem d_L_room_13 : decode method_3_code 13 = .ok (.ireturn, 1) := by decide +kernel
theorem d_L_room_6 : decode method_3_code 6 = .ok (.i2l, 1) := by decide +kernel
theorem d_L_room_7 : decode method_3_code 7 = .ok (.lastore, 1) := by decide +kernel
theorem d_L_room_8 : decode method_3_code 8 = .ok (.goto 6, 3) := by decide +kernel
theorem d_L_room_14 : decode method_3_code 14 = .ok (.iconst 0, 1) := by decide +kernel
theorem d_L_room_15 : decode method_3_code 15 = .ok (.ireturn, 1) := by decide +kernel
theorem d_L_exit_0 : decode method_4_code 0 = .ok (.aload_n 0, 1) := by decide +kernel
theorem d_L_exit_1 : decode method_4_code 1 = .ok (.iload_n 1, 1) := by decide +kernel
theorem d_L_exit_2 : decode method_4_code 2 = .ok (.iload_n 2, 1) := by decide +kernel
theorem d_L_exit_3 : decode method_4_code 3 = .ok (.iload_n 3, 1) := by decide +kernel
theorem d_L_exit_4 : decode method_4_code 4 = .ok (.iload 4, 2) := by decide +kernel
theorem d_L_exit_6 : decode method_4_code 6 = .ok (.invokevirtual 15, 3) := by decide +kernel
theorem d_L_exit_12 : decode method_4_code 12 = .ok (.astore 5, 2) := by decide +kernel
theorem d_L_exit_14 : decode method_4_code 14 = .ok (.iconst 1, 1) := by decide +kernel
theorem d_L_exit_15 : decode method_4_code 15 = .ok (.ireturn, 1) := by decide +kernel
theorem d_L_exit_16 : decode method_4_code 16 = .ok (.astore 5, 2) := by decide +kernel
theorem d_L_exit_18 : decode method_4_code 18 = .ok (.iconst 2, 1) := by decide +kernel
theorem d_L_exit_19 : decode method_4_code 19 = .ok (.ireturn, 1) := by decide +kernel
theorem d_L_exit_9 : decode method_4_code 9 = .ok (.goto 11, 3) := by decide +kernel
theorem d_L_exit_20 : decode method_4_code 20 = .ok (.iconst 0, 1) := by decide +kernel
theorem d_L_exit_21 : decode method_4_code 21 = .ok (.ireturn, 1) := by decide +kernel
theorem d_L_thing_0 : decode method_5_code 0 = .ok (.aload_n 3, 1) := by decide +kernel
theorem d_L_thing_1 : decode method_5_code 1 = .ok (.iconst 0, 1) := by decide +kernel
theorem d_L_thing_2 : decode method_5_code 2 = .ok (.aload_n 0, 1) := by decide +kernel
theorem d_L_thing_3 : decode method_5_code 3 = .ok (.iload_n 1, 1) := by decide +kernel
theorem d_L_thing_4 : decode method_5_code 4 = .ok (.iload_n 2, 1) := by decide +kernel
theorem d_L_thing_5 : decode method_5_code 5 = .ok (.invokevirtual 23, 3) := by decide +kernel
theorem d_L_thing_13 : decode method_5_code 13 = .ok (.astore 4, 2) := by decide +kernel
theorem d_L_thing_15 : decode method_5_code 15 = .ok (.iconst 1, 1) := by decide +kernel
theorem d_L_thing_16 : decode method_5_code 16 = .ok (.ireturn, 1) := by decide +kernel
theorem d_L_thing_17 : decode method_5_code 17 = .ok (.astore 4, 2) := by decide +kernel
theorem d_L_thing_19 : decode method_5_code 19 = .ok (.iconst 2, 1) := by decide +kernel
theorem d_L_thing_20 : decode method_5_code 20 = .ok (.ireturn, 1) := by decide +kernel
theorem d_L_thing_21 : decode method_5_code 21 = .ok (.astore 4, 2) := by decide +kernel
theorem d_L_thing_23 : decode method_5_code 23 = .ok (.iconst 3, 1) := by decide +kernel
theorem d_L_thing_24 : decode method_5_code 24 = .ok (.ireturn, 1) := by decide +kernel
theorem d_L_thing_8 : decode method_5_code 8 = .ok (.i2l, 1) := by decide +kernel
theorem d_L_thing_9 : decode method_5_code 9 = .ok (.lastore, 1) := by decide +kernel
theorem d_L_thing_10 : decode method_5_code 10 = .ok (.goto 15, 3) := by decide +kernel
theorem d_L_thing_25 : decode method_5_code 25 = .ok (.iconst 0, 1) := by decide +kernel
theorem d_L_thing_26 : decode method_5_code 26 = .ok (.ireturn, 1) := by decide +kernel
theorem d_L_number_0 : decode method_6_code 0 = .ok (.aload_n 3, 1) := by decide +kernel
theorem d_L_number_1 : decode method_6_code 1 = .ok (.iconst 0, 1) := by decide +kernel
theorem d_L_number_2 : decode method_6_code 2 = .ok (.aload_n 0, 1) := by decide +kernel
theorem d_L_number_3 : decode method_6_code 3 = .ok (.iload_n 1, 1) := by decide +kernel
theorem d_L_number_4 : decode method_6_code 4 = .ok (.iload_n 2, 1) := by decide +kernel
theorem d_L_number_5 : decode method_6_code 5 = .ok (.invokevirtual 27, 3) := by decide +kernel
theorem d_L_number_13 : decode method_6_code 13 = .ok (.astore 4, 2) := by decide +kernel
theorem d_L_number_15 : decode method_6_code 15 = .ok (.iconst 1, 1) := by decide +kernel
theorem d_L_number_16 : decode method_6_code 16 = .ok (.ireturn, 1) := by decide +kernel
theorem d_L_number_17 : decode method_6_code 17 = .ok (.astore 4, 2) := by decide +kernel
theorem d_L_number_19 : decode method_6_code 19 = .ok (.iconst 2, 1) := by decide +kernel
theorem d_L_number_20 : decode method_6_code 20 = .ok (.ireturn, 1) := by decide +kernel
theorem d_L_number_8 : decode method_6_code 8 = .ok (.i2l, 1) := by decide +kernel
theorem d_L_number_9 : decode method_6_code 9 = .ok (.lastore, 1) := by decide +kernel
theorem d_L_number_10 : decode method_6_code 10 = .ok (.goto 11, 3) := by decide +kernel
theorem d_L_number_21 : decode method_6_code 21 = .ok (.iconst 0, 1) := by decide +kernel
theorem d_L_number_22 : decode method_6_code 22 = .ok (.ireturn, 1) := by decide +kernel
theorem d_L_ending_0 : decode method_7_code 0 = .ok (.aload_n 2, 1) := by decide +kernel
theorem d_L_ending_1 : decode method_7_code 1 = .ok (.iconst 0, 1) := by decide +kernel
theorem d_L_ending_2 : decode method_7_code 2 = .ok (.aload_n 0, 1) := by decide +kernel
theorem d_L_ending_3 : decode method_7_code 3 = .ok (.iload_n 1, 1) := by decide +kernel
theorem d_L_ending_4 : decode method_7_code 4 = .ok (.invokevirtual 30, 3) := by decide +kernel
theorem d_L_ending_12 : decode method_7_code 12 = .ok (.astore_n 3, 1) := by decide +kernel
theorem d_L_ending_13 : decode method_7_code 13 = .ok (.iconst 1, 1) := by decide +kernel
theorem d_L_ending_14 : decode method_7_code 14 = .ok (.ireturn, 1) := by decide +kernel
theorem d_L_ending_7 : decode method_7_code 7 = .ok (.i2l, 1) := by decide +kernel
theorem d_L_ending_8 : decode method_7_code 8 = .ok (.lastore, 1) := by decide +kernel
theorem d_L_ending_9 : decode method_7_code 9 = .ok (.goto 6, 3) := by decide +kernel
theorem d_L_ending_15 : decode method_7_code 15 = .ok (.iconst 0, 1) := by decide +kernel
theorem d_L_ending_16 : decode method_7_code 16 = .ok (.ireturn, 1) := by decide +kernel
theorem d_L_rule_0 : decode method_8_code 0 = .ok (.aload 5, 2) := by decide +kernel
theorem d_L_rule_2 : decode method_8_code 2 = .ok (.iconst 0, 1) := by decide +kernel
theorem d_L_rule_3 : decode method_8_code 3 = .ok (.aload_n 0, 1) := by decide +kernel
theorem d_L_rule_4 : decode method_8_code 4 = .ok (.iload_n 1, 1) := by decide +kernel
theorem d_L_rule_5 : decode method_8_code 5 = .ok (.iload_n 2, 1) := by decide +kernel
theorem d_L_rule_6 : decode method_8_code 6 = .ok (.iload_n 3, 1) := by decide +kernel
theorem d_L_rule_7 : decode method_8_code 7 = .ok (.iload 4, 2) := by decide +kernel
theorem d_L_rule_9 : decode method_8_code 9 = .ok (.invokevirtual 34, 3) := by decide +kernel
theorem d_L_rule_17 : decode method_8_code 17 = .ok (.astore 6, 2) := by decide +kernel
theorem d_L_rule_19 : decode method_8_code 19 = .ok (.iconst 1, 1) := by decide +kernel
theorem d_L_rule_20 : decode method_8_code 20 = .ok (.ireturn, 1) := by decide +kernel
theorem d_L_rule_21 : decode method_8_code 21 = .ok (.astore 6, 2) := by decide +kernel
theorem d_L_rule_23 : decode method_8_code 23 = .ok (.iconst 2, 1) := by decide +kernel
theorem d_L_rule_24 : decode method_8_code 24 = .ok (.ireturn, 1) := by decide +kernel
theorem d_L_rule_12 : decode method_8_code 12 = .ok (.i2l, 1) := by decide +kernel
theorem d_L_rule_13 : decode method_8_code 13 = .ok (.lastore, 1) := by decide +kernel
theorem d_L_rule_14 : decode method_8_code 14 = .ok (.goto 11, 3) := by decide +kernel
theorem d_L_rule_25 : decode method_8_code 25 = .ok (.iconst 0, 1) := by decide +kernel
theorem d_L_rule_26 : decode method_8_code 26 = .ok (.ireturn, 1) := by decide +kernel
theorem d_L_condition_0 : decode method_9_code 0 = .ok (.aload_n 0, 1) := by decide +kernel
theorem d_L_condition_1 : decode method_9_code 1 = .ok (.iload_n 1, 1) := by decide +kernel
theorem d_L_condition_2 : decode method_9_code 2 = .ok (.iload_n 2, 1) := by decide +kernel
theorem d_L_condition_3 : decode method_9_code 3 = .ok (.iload_n 3, 1) := by decide +kernel
theorem d_L_condition_4 : decode method_9_code 4 = .ok (.iload 4, 2) := by decide +kernel
theorem d_L_condition_6 : decode method_9_code 6 = .ok (.invokevirtual 38, 3) := by decide +kernel
theorem d_L_condition_12 : decode method_9_code 12 = .ok (.astore 5, 2) := by decide +kernel
theorem d_L_condition_14 : decode method_9_code 14 = .ok (.iconst 1, 1) := by decide +kernel
theorem d_L_condition_15 : decode method_9_code 15 = .ok (.ireturn, 1) := by decide +kernel
theorem d_L_condition_16 : decode method_9_code 16 = .ok (.astore 5, 2) := by decide +kernel
theorem d_L_condition_18 : decode method_9_code 18 = .ok (.iconst 2, 1) := by decide +kernel
theorem d_L_condition_19 : decode method_9_code 19 = .ok (.ireturn, 1) := by decide +kernel
theorem d_L_condition_20 : decode method_9_code 20 = .ok (.astore 5, 2) := by decide +kernel
theorem d_L_condition_22 : decode method_9_code 22 = .ok (.iconst 3, 1) := by decide +kernel
theorem d_L_condition_23 : decode method_9_code 23 = .ok (.ireturn, 1) := by decide +kernel
theorem d_L_condition_9 : decode method_9_code 9 = .ok (.goto 15, 3) := by decide +kernel
theorem d_L_condition_24 : decode method_9_code 24 = .ok (.iconst 0, 1) := by decide +kernel
theorem d_L_condition_25 : decode method_9_code 25 = .ok (.ireturn, 1) := by decide +kernel
theorem d_L_effect_0 : decode method_10_code 0 = .ok (.aload_n 0, 1) := by decide +kernel
theorem d_L_effect_1 : decode method_10_code 1 = .ok (.iload_n 1, 1) := by decide +kernel
theorem d_L_effect_2 : decode method_10_code 2 = .ok (.iload_n 2, 1) := by decide +kernel
theorem d_L_effect_3 : decode method_10_code 3 = .ok (.iload_n 3, 1) := by decide +kernel
theorem d_L_effect_4 : decode method_10_code 4 = .ok (.iload 4, 2) := by decide +kernel
theorem d_L_effect_6 : decode method_10_code 6 = .ok (.invokevirtual 41, 3) := by decide +kernel
theorem d_L_effect_12 : decode method_10_code 12 = .ok (.astore 5, 2) := by decide +kernel
theorem d_L_effect_14 : decode method_10_code 14 = .ok (.iconst 1, 1) := by decide +kernel
theorem d_L_effect_15 : decode method_10_code 15 = .ok (.ireturn, 1) := by decide +kernel
theorem d_L_effect_16 : decode method_10_code 16 = .ok (.astore 5, 2) := by decide +kernel
theorem d_L_effect_18 : decode method_10_code 18 = .ok (.iconst 2, 1) := by decide +kernel
theorem d_L_effect_19 : decode method_10_code 19 = .ok (.ireturn, 1) := by decide +kernel
theorem d_L_effect_20 : decode method_10_code 20 = .ok (.astore 5, 2) := by decide +kernel
theorem d_L_effect_22 : decode method_10_code 22 = .ok (.iconst 3, 1) := by decide +kernel
theorem d_L_effect_23 : decode method_10_code 23 = .ok (.ireturn, 1) := by decide +kernel
theorem d_L_effect_9 : decode method_10_code 9 = .ok (.goto 15, 3) := by decide +kernel
theorem d_L_effect_24 : decode method_10_code 24 = .ok (.iconst 0, 1) := by decide +kernel
theorem d_L_effect_25 : decode method_10_code 25 = .ok (.ireturn, 1) := by decide +kernel
theorem d_L_walker_0 : decode method_11_code 0 = .ok (.aload_n 0, 1) := by decide +kernel
theorem d_L_walker_1 : decode method_11_code 1 = .ok (.iload_n 1, 1) := by decide +kernel
theorem d_L_walker_2 : decode method_11_code 2 = .ok (.iload_n 2, 1) := by decide +kernel
theorem d_L_walker_3 : decode method_11_code 3 = .ok (.iload_n 3, 1) := by decide +kernel
theorem d_L_walker_4 : decode method_11_code 4 = .ok (.iload 4, 2) := by decide +kernel
theorem d_L_walker_6 : decode method_11_code 6 = .ok (.invokevirtual 44, 3) := by decide +kernel
theorem d_L_walker_12 : decode method_11_code 12 = .ok (.astore 5, 2) := by decide +kernel
theorem d_L_walker_14 : decode method_11_code 14 = .ok (.iconst 1, 1) := by decide +kernel
theorem d_L_walker_15 : decode method_11_code 15 = .ok (.ireturn, 1) := by decide +kernel
theorem d_L_walker_16 : decode method_11_code 16 = .ok (.astore 5, 2) := by decide +kernel
theorem d_L_walker_18 : decode method_11_code 18 = .ok (.iconst 2, 1) := by decide +kernel
theorem d_L_walker_19 : decode method_11_code 19 = .ok (.ireturn, 1) := by decide +kernel
theorem d_L_walker_9 : decode method_11_code 9 = .ok (.goto 11, 3) := by decide +kernel
theorem d_L_walker_20 : decode method_11_code 20 = .ok (.iconst 0, 1) := by decide +kernel
theorem d_L_walker_21 : decode method_11_code 21 = .ok (.ireturn, 1) := by decide +kernel
theorem d_L_timer_0 : decode method_12_code 0 = .ok (.aload_n 0, 1) := by decide +kernel
theorem d_L_timer_1 : decode method_12_code 1 = .ok (.iload_n 1, 1) := by decide +kernel
theorem d_L_timer_2 : decode method_12_code 2 = .ok (.iload_n 2, 1) := by decide +kernel
theorem d_L_timer_3 : decode method_12_code 3 = .ok (.invokevirtual 47, 3) := by decide +kernel
theorem d_L_timer_9 : decode method_12_code 9 = .ok (.astore_n 3, 1) := by decide +kernel
theorem d_L_timer_10 : decode method_12_code 10 = .ok (.iconst 1, 1) := by decide +kernel
theorem d_L_timer_11 : decode method_12_code 11 = .ok (.ireturn, 1) := by decide +kernel
theorem d_L_timer_12 : decode method_12_code 12 = .ok (.astore_n 3, 1) := by decide +kernel
theorem d_L_timer_13 : decode method_12_code 13 = .ok (.iconst 2, 1) := by decide +kernel
theorem d_L_timer_14 : decode method_12_code 14 = .ok (.ireturn, 1) := by decide +kernel
theorem d_L_timer_15 : decode method_12_code 15 = .ok (.astore_n 3, 1) := by decide +kernel
theorem d_L_timer_16 : decode method_12_code 16 = .ok (.iconst 3, 1) := by decide +kernel
theorem d_L_timer_17 : decode method_12_code 17 = .ok (.ireturn, 1) := by decide +kernel
theorem d_L_timer_6 : decode method_12_code 6 = .ok (.goto 12, 3) := by decide +kernel
theorem d_L_timer_18 : decode method_12_code 18 = .ok (.iconst 0, 1) := by decide +kernel
theorem d_L_timer_19 : decode method_12_code 19 = .ok (.ireturn, 1) := by decide +kernel
theorem d_L_begin_0 : decode method_13_code 0 = .ok (.aload_n 0, 1) := by decide +kernel
theorem d_L_begin_1 : decode method_13_code 1 = .ok (.invokevirtual 51, 3) := by decide +kernel
theorem d_L_begin_7 : decode method_13_code 7 = .ok (.astore_n 1, 1) := by decide +kernel
theorem d_L_begin_8 : decode method_13_code 8 = .ok (.iconst 1, 1) := by decide +kernel
theorem d_L_begin_9 : decode method_13_code 9 = .ok (.ireturn, 1) := by decide +kernel
theorem d_L_begin_4 : decode method_13_code 4 = .ok (.goto 6, 3) := by decide +kernel
theorem d_L_begin_10 : decode method_13_code 10 = .ok (.iconst 0, 1) := by decide +kernel
theorem d_L_begin_11 : decode method_13_code 11 = .ok (.ireturn, 1) := by decide +kernel
theorem d_L_command_0 : decode method_14_code 0 = .ok (.aload 4, 2) := by decide +kernel
theorem d_L_command_2 : decode method_14_code 2 = .ok (.iconst 0, 1) := by decide +kernel
theorem d_L_command_3 : decode method_14_code 3 = .ok (.aload_n 0, 1) := by decide +kernel
theorem d_L_command_4 : decode method_14_code 4 = .ok (.iload_n 1, 1) := by decide +kernel
theorem d_L_command_5 : decode method_14_code 5 = .ok (.iload_n 2, 1) := by decide +kernel
theorem d_L_command_6 : decode method_14_code 6 = .ok (.iload_n 3, 1) := by decide +kernel
theorem d_L_command_7 : decode method_14_code 7 = .ok (.invokevirtual 54, 3) := by decide +kernel
theorem d_L_command_15 : decode method_14_code 15 = .ok (.astore 5, 2) := by decide +kernel
theorem d_L_command_17 : decode method_14_code 17 = .ok (.iconst 1, 1) := by decide +kernel
theorem d_L_command_18 : decode method_14_code 18 = .ok (.ireturn, 1) := by decide +kernel
theorem d_L_command_19 : decode method_14_code 19 = .ok (.astore 5, 2) := by decide +kernel
theorem d_L_command_21 : decode method_14_code 21 = .ok (.iconst 2, 1) := by decide +kernel
theorem d_L_command_22 : decode method_14_code 22 = .ok (.ireturn, 1) := by decide +kernel
theorem d_L_command_10 : decode method_14_code 10 = .ok (.i2l, 1) := by decide +kernel
theorem d_L_command_11 : decode method_14_code 11 = .ok (.lastore, 1) := by decide +kernel
theorem d_L_command_12 : decode method_14_code 12 = .ok (.goto 11, 3) := by decide +kernel
theorem d_L_command_23 : decode method_14_code 23 = .ok (.iconst 0, 1) := by decide +kernel
theorem d_L_command_24 : decode method_14_code 24 = .ok (.ireturn, 1) := by decide +kernel
theorem d_L_state_0 : decode method_15_code 0 = .ok (.aload_n 3, 1) := by decide +kernel
theorem d_L_state_1 : decode method_15_code 1 = .ok (.iconst 0, 1) := by decide +kernel
theorem d_L_state_2 : decode method_15_code 2 = .ok (.aload_n 0, 1) := by decide +kernel
theorem d_L_state_3 : decode method_15_code 3 = .ok (.iload_n 1, 1) := by decide +kernel
theorem d_L_state_4 : decode method_15_code 4 = .ok (.iload_n 2, 1) := by decide +kernel
theorem d_L_state_5 : decode method_15_code 5 = .ok (.invokevirtual 58, 3) := by decide +kernel
theorem d_L_state_13 : decode method_15_code 13 = .ok (.astore 4, 2) := by decide +kernel
theorem d_L_state_15 : decode method_15_code 15 = .ok (.iconst 1, 1) := by decide +kernel
theorem d_L_state_16 : decode method_15_code 16 = .ok (.ireturn, 1) := by decide +kernel
theorem d_L_state_17 : decode method_15_code 17 = .ok (.astore 4, 2) := by decide +kernel
theorem d_L_state_19 : decode method_15_code 19 = .ok (.iconst 2, 1) := by decide +kernel
theorem d_L_state_20 : decode method_15_code 20 = .ok (.ireturn, 1) := by decide +kernel
theorem d_L_state_21 : decode method_15_code 21 = .ok (.astore 4, 2) := by decide +kernel
theorem d_L_state_23 : decode method_15_code 23 = .ok (.iconst 3, 1) := by decide +kernel
theorem d_L_state_24 : decode method_15_code 24 = .ok (.ireturn, 1) := by decide +kernel
theorem d_L_state_8 : decode method_15_code 8 = .ok (.i2l, 1) := by decide +kernel
theorem d_L_state_9 : decode method_15_code 9 = .ok (.lastore, 1) := by decide +kernel
theorem d_L_state_10 : decode method_15_code 10 = .ok (.goto 15, 3) := by decide +kernel
theorem d_L_state_25 : decode method_15_code 25 = .ok (.iconst 0, 1) := by decide +kernel
theorem d_L_state_26 : decode method_15_code 26 = .ok (.ireturn, 1) := by decide +kernel
theorem d_L_explore_0 : decode method_16_code 0 = .ok (.aload_n 2, 1) := by decide +kernel
theorem d_L_explore_1 : decode method_16_code 1 = .ok (.iconst 0, 1) := by decide +kernel
theorem d_L_explore_2 : decode method_16_code 2 = .ok (.aload_n 0, 1) := by decide +kernel
theorem d_L_explore_3 : decode method_16_code 3 = .ok (.iload_n 1, 1) := by decide +kernel
theorem d_L_explore_4 : decode method_16_code 4 = .ok (.invokevirtual 61, 3) := by decide +kernel
theorem d_L_explore_12 : decode method_16_code 12 = .ok (.astore_n 3, 1) := by decide +kernel
theorem d_L_explore_13 : decode method_16_code 13 = .ok (.iconst 1, 1) := by decide +kernel
theorem d_L_explore_14 : decode method_16_code 14 = .ok (.ireturn, 1) := by decide +kernel
theorem d_L_explore_15 : decode method_16_code 15 = .ok (.astore_n 3, 1) := by decide +kernel
theorem d_L_explore_16 : decode method_16_code 16 = .ok (.iconst 2, 1) := by decide +kernel
theorem d_L_explore_17 : decode method_16_code 17 = .ok (.ireturn, 1) := by decide +kernel
theorem d_L_explore_7 : decode method_16_code 7 = .ok (.i2l, 1) := by decide +kernel
theorem d_L_explore_8 : decode method_16_code 8 = .ok (.lastore, 1) := by decide +kernel
theorem d_L_explore_9 : decode method_16_code 9 = .ok (.goto 9, 3) := by decide +kernel
theorem d_L_explore_18 : decode method_16_code 18 = .ok (.iconst 0, 1) := by decide +kernel
theorem d_L_explore_19 : decode method_16_code 19 = .ok (.ireturn, 1) := by decide +kernel
theorem d_L_reach_0 : decode method_17_code 0 = .ok (.aload_n 3, 1) := by decide +kernel
theorem d_L_reach_1 : decode method_17_code 1 = .ok (.iconst 0, 1) := by decide +kernel
theorem d_L_reach_2 : decode method_17_code 2 = .ok (.aload_n 0, 1) := by decide +kernel
theorem d_L_reach_3 : decode method_17_code 3 = .ok (.iload_n 1, 1) := by decide +kernel
theorem d_L_reach_4 : decode method_17_code 4 = .ok (.iload_n 2, 1) := by decide +kernel
theorem d_L_reach_5 : decode method_17_code 5 = .ok (.invokevirtual 65, 3) := by decide +kernel
theorem d_L_reach_13 : decode method_17_code 13 = .ok (.astore 4, 2) := by decide +kernel
theorem d_L_reach_15 : decode method_17_code 15 = .ok (.iconst 1, 1) := by decide +kernel
theorem d_L_reach_16 : decode method_17_code 16 = .ok (.ireturn, 1) := by decide +kernel
theorem d_L_reach_17 : decode method_17_code 17 = .ok (.astore 4, 2) := by decide +kernel
theorem d_L_reach_19 : decode method_17_code 19 = .ok (.iconst 2, 1) := by decide +kernel
theorem d_L_reach_20 : decode method_17_code 20 = .ok (.ireturn, 1) := by decide +kernel
theorem d_L_reach_8 : decode method_17_code 8 = .ok (.i2l, 1) := by decide +kernel
theorem d_L_reach_9 : decode method_17_code 9 = .ok (.lastore, 1) := by decide +kernel
theorem d_L_reach_10 : decode method_17_code 10 = .ok (.goto 11, 3) := by decide +kernel
theorem d_L_reach_21 : decode method_17_code 21 = .ok (.iconst 0, 1) := by decide +kernel
theorem d_L_reach_22 : decode method_17_code 22 = .ok (.ireturn, 1) := by decide +kernel
theorem d_L_way_0 : decode method_18_code 0 = .ok (.aload 4, 2) := by decide +kernel
theorem d_L_way_2 : decode method_18_code 2 = .ok (.iconst 0, 1) := by decide +kernel
theorem d_L_way_3 : decode method_18_code 3 = .ok (.aload_n 0, 1) := by decide +kernel
theorem d_L_way_4 : decode method_18_code 4 = .ok (.iload_n 1, 1) := by decide +kernel
theorem d_L_way_5 : decode method_18_code 5 = .ok (.iload_n 2, 1) := by decide +kernel
theorem d_L_way_6 : decode method_18_code 6 = .ok (.iload_n 3, 1) := by decide +kernel
theorem d_L_way_7 : decode method_18_code 7 = .ok (.invokevirtual 69, 3) := by decide +kernel
theorem d_L_way_15 : decode method_18_code 15 = .ok (.astore 5, 2) := by decide +kernel
theorem d_L_way_17 : decode method_18_code 17 = .ok (.iconst 1, 1) := by decide +kernel
theorem d_L_way_18 : decode method_18_code 18 = .ok (.ireturn, 1) := by decide +kernel
theorem d_L_way_19 : decode method_18_code 19 = .ok (.astore 5, 2) := by decide +kernel
theorem d_L_way_21 : decode method_18_code 21 = .ok (.iconst 2, 1) := by decide +kernel
theorem d_L_way_22 : decode method_18_code 22 = .ok (.ireturn, 1) := by decide +kernel
theorem d_L_way_10 : decode method_18_code 10 = .ok (.i2l, 1) := by decide +kernel
theorem d_L_way_11 : decode method_18_code 11 = .ok (.lastore, 1) := by decide +kernel
theorem d_L_way_12 : decode method_18_code 12 = .ok (.goto 11, 3) := by decide +kernel
theorem d_L_way_23 : decode method_18_code 23 = .ok (.iconst 0, 1) := by decide +kernel
theorem d_L_way_24 : decode method_18_code 24 = .ok (.ireturn, 1) := by decide +kernel
theorem d_L_study_0 : decode method_19_code 0 = .ok (.aload_n 3, 1) := by decide +kernel
theorem d_L_study_1 : decode method_19_code 1 = .ok (.iconst 0, 1) := by decide +kernel
theorem d_L_study_2 : decode method_19_code 2 = .ok (.aload_n 0, 1) := by decide +kernel
theorem d_L_study_3 : decode method_19_code 3 = .ok (.iload_n 1, 1) := by decide +kernel
theorem d_L_study_4 : decode method_19_code 4 = .ok (.iload_n 2, 1) := by decide +kernel
theorem d_L_study_5 : decode method_19_code 5 = .ok (.invokevirtual 72, 3) := by decide +kernel
theorem d_L_study_13 : decode method_19_code 13 = .ok (.astore 4, 2) := by decide +kernel
theorem d_L_study_15 : decode method_19_code 15 = .ok (.iconst 1, 1) := by decide +kernel
theorem d_L_study_16 : decode method_19_code 16 = .ok (.ireturn, 1) := by decide +kernel
theorem d_L_study_17 : decode method_19_code 17 = .ok (.astore 4, 2) := by decide +kernel
theorem d_L_study_19 : decode method_19_code 19 = .ok (.iconst 2, 1) := by decide +kernel
theorem d_L_study_20 : decode method_19_code 20 = .ok (.ireturn, 1) := by decide +kernel
theorem d_L_study_8 : decode method_19_code 8 = .ok (.i2l, 1) := by decide +kernel
theorem d_L_study_9 : decode method_19_code 9 = .ok (.lastore, 1) := by decide +kernel
theorem d_L_study_10 : decode method_19_code 10 = .ok (.goto 11, 3) := by decide +kernel
theorem d_L_study_21 : decode method_19_code 21 = .ok (.iconst 0, 1) := by decide +kernel
theorem d_L_study_22 : decode method_19_code 22 = .ok (.ireturn, 1) := by decide +kernel
