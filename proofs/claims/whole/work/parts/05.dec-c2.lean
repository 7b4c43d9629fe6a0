theorem d_E_putInto_55 : decode prog_6_method_14_code 55 = .ok (.invokestatic 141, 3) := by decide +kernel
theorem d_E_putInto_58 : decode prog_6_method_14_code 58 = .ok (.ifCond .eq 5, 3) := by decide +kernel
theorem d_E_putInto_63 : decode prog_6_method_14_code 63 = .ok (.aload_n 0, 1) := by decide +kernel
theorem d_E_putInto_64 : decode prog_6_method_14_code 64 = .ok (.aload_n 0, 1) := by decide +kernel
theorem d_E_putInto_65 : decode prog_6_method_14_code 65 = .ok (.getfield 22, 3) := by decide +kernel
theorem d_E_putInto_68 : decode prog_6_method_14_code 68 = .ok (.iload_n 1, 1) := by decide +kernel
theorem d_E_putInto_69 : decode prog_6_method_14_code 69 = .ok (.bipush 7, 2) := by decide +kernel
theorem d_E_putInto_71 : decode prog_6_method_14_code 71 = .ok (.iload_n 2, 1) := by decide +kernel
theorem d_E_putInto_72 : decode prog_6_method_14_code 72 = .ok (.iadd, 1) := by decide +kernel
theorem d_E_putInto_73 : decode prog_6_method_14_code 73 = .ok (.invokestatic 145, 3) := by decide +kernel
theorem d_E_putInto_76 : decode prog_6_method_14_code 76 = .ok (.putfield 22, 3) := by decide +kernel
theorem d_E_putInto_79 : decode prog_6_method_14_code 79 = .ok (.iconst 1, 1) := by decide +kernel
theorem d_E_putInto_80 : decode prog_6_method_14_code 80 = .ok (.ireturn, 1) := by decide +kernel
theorem d_E_turnLid_0 : decode prog_6_method_13_code 0 = .ok (.aload_n 0, 1) := by decide +kernel
theorem d_E_turnLid_1 : decode prog_6_method_13_code 1 = .ok (.getfield 12, 3) := by decide +kernel
theorem d_E_turnLid_4 : decode prog_6_method_13_code 4 = .ok (.getfield 192, 3) := by decide +kernel
theorem d_E_turnLid_7 : decode prog_6_method_13_code 7 = .ok (.iload_n 1, 1) := by decide +kernel
theorem d_E_turnLid_8 : decode prog_6_method_13_code 8 = .ok (.iaload, 1) := by decide +kernel
theorem d_E_turnLid_9 : decode prog_6_method_13_code 9 = .ok (.iconst 2, 1) := by decide +kernel
theorem d_E_turnLid_10 : decode prog_6_method_13_code 10 = .ok (.iand, 1) := by decide +kernel
theorem d_E_turnLid_11 : decode prog_6_method_13_code 11 = .ok (.ifCond .eq 35, 3) := by decide +kernel
theorem d_E_turnLid_46 : decode prog_6_method_13_code 46 = .ok (.iconst 0, 1) := by decide +kernel
theorem d_E_turnLid_47 : decode prog_6_method_13_code 47 = .ok (.ireturn, 1) := by decide +kernel
theorem d_E_turnLid_14 : decode prog_6_method_13_code 14 = .ok (.aload_n 0, 1) := by decide +kernel
theorem d_E_turnLid_15 : decode prog_6_method_13_code 15 = .ok (.getfield 22, 3) := by decide +kernel
theorem d_E_turnLid_18 : decode prog_6_method_13_code 18 = .ok (.iload_n 1, 1) := by decide +kernel
theorem d_E_turnLid_19 : decode prog_6_method_13_code 19 = .ok (.invokestatic 123, 3) := by decide +kernel
theorem d_E_turnLid_22 : decode prog_6_method_13_code 22 = .ok (.iload_n 2, 1) := by decide +kernel
theorem d_E_turnLid_23 : decode prog_6_method_13_code 23 = .ok (.iconst 1, 1) := by decide +kernel
theorem d_E_turnLid_24 : decode prog_6_method_13_code 24 = .ok (.if_icmp .ne 7, 3) := by decide +kernel
theorem d_E_turnLid_31 : decode prog_6_method_13_code 31 = .ok (.iconst 0, 1) := by decide +kernel
theorem d_E_turnLid_27 : decode prog_6_method_13_code 27 = .ok (.iconst 1, 1) := by decide +kernel
theorem d_E_turnLid_28 : decode prog_6_method_13_code 28 = .ok (.goto 4, 3) := by decide +kernel
theorem d_E_turnLid_32 : decode prog_6_method_13_code 32 = .ok (.if_icmp .eq 14, 3) := by decide +kernel
theorem d_E_turnLid_35 : decode prog_6_method_13_code 35 = .ok (.aload_n 0, 1) := by decide +kernel
theorem d_E_turnLid_36 : decode prog_6_method_13_code 36 = .ok (.getfield 22, 3) := by decide +kernel
theorem d_E_turnLid_39 : decode prog_6_method_13_code 39 = .ok (.iload_n 1, 1) := by decide +kernel
theorem d_E_turnLid_40 : decode prog_6_method_13_code 40 = .ok (.invokestatic 86, 3) := by decide +kernel
theorem d_E_turnLid_43 : decode prog_6_method_13_code 43 = .ok (.ifCond .ne 5, 3) := by decide +kernel
theorem d_E_turnLid_48 : decode prog_6_method_13_code 48 = .ok (.aload_n 0, 1) := by decide +kernel
theorem d_E_turnLid_49 : decode prog_6_method_13_code 49 = .ok (.aload_n 0, 1) := by decide +kernel
theorem d_E_turnLid_50 : decode prog_6_method_13_code 50 = .ok (.getfield 22, 3) := by decide +kernel
theorem d_E_turnLid_53 : decode prog_6_method_13_code 53 = .ok (.iload_n 1, 1) := by decide +kernel
theorem d_E_turnLid_54 : decode prog_6_method_13_code 54 = .ok (.iload_n 2, 1) := by decide +kernel
theorem d_E_turnLid_55 : decode prog_6_method_13_code 55 = .ok (.invokestatic 149, 3) := by decide +kernel
theorem d_E_turnLid_58 : decode prog_6_method_13_code 58 = .ok (.putfield 22, 3) := by decide +kernel
theorem d_E_turnLid_61 : decode prog_6_method_13_code 61 = .ok (.iconst 1, 1) := by decide +kernel
theorem d_E_turnLid_62 : decode prog_6_method_13_code 62 = .ok (.ireturn, 1) := by decide +kernel
theorem d_E_putDown_0 : decode prog_6_method_12_code 0 = .ok (.aload_n 0, 1) := by decide +kernel
theorem d_E_putDown_1 : decode prog_6_method_12_code 1 = .ok (.getfield 22, 3) := by decide +kernel
theorem d_E_putDown_4 : decode prog_6_method_12_code 4 = .ok (.iload_n 1, 1) := by decide +kernel
theorem d_E_putDown_5 : decode prog_6_method_12_code 5 = .ok (.invokestatic 119, 3) := by decide +kernel
theorem d_E_putDown_8 : decode prog_6_method_12_code 8 = .ok (.bipush 6, 2) := by decide +kernel
theorem d_E_putDown_10 : decode prog_6_method_12_code 10 = .ok (.if_icmp .eq 5, 3) := by decide +kernel
theorem d_E_putDown_15 : decode prog_6_method_12_code 15 = .ok (.aload_n 0, 1) := by decide +kernel
theorem d_E_putDown_16 : decode prog_6_method_12_code 16 = .ok (.aload_n 0, 1) := by decide +kernel
theorem d_E_putDown_17 : decode prog_6_method_12_code 17 = .ok (.getfield 22, 3) := by decide +kernel
theorem d_E_putDown_20 : decode prog_6_method_12_code 20 = .ok (.iload_n 1, 1) := by decide +kernel
theorem d_E_putDown_21 : decode prog_6_method_12_code 21 = .ok (.aload_n 0, 1) := by decide +kernel
theorem d_E_putDown_22 : decode prog_6_method_12_code 22 = .ok (.getfield 22, 3) := by decide +kernel
theorem d_E_putDown_25 : decode prog_6_method_12_code 25 = .ok (.invokestatic 115, 3) := by decide +kernel
theorem d_E_putDown_28 : decode prog_6_method_12_code 28 = .ok (.invokestatic 145, 3) := by decide +kernel
theorem d_E_putDown_31 : decode prog_6_method_12_code 31 = .ok (.putfield 22, 3) := by decide +kernel
theorem d_E_putDown_34 : decode prog_6_method_12_code 34 = .ok (.iconst 1, 1) := by decide +kernel
theorem d_E_putDown_35 : decode prog_6_method_12_code 35 = .ok (.ireturn, 1) := by decide +kernel
theorem d_E_putDown_13 : decode prog_6_method_12_code 13 = .ok (.iconst 0, 1) := by decide +kernel
theorem d_E_putDown_14 : decode prog_6_method_12_code 14 = .ok (.ireturn, 1) := by decide +kernel
theorem d_E_takeUp_0 : decode prog_6_method_11_code 0 = .ok (.aload_n 0, 1) := by decide +kernel
theorem d_E_takeUp_1 : decode prog_6_method_11_code 1 = .ok (.getfield 12, 3) := by decide +kernel
theorem d_E_takeUp_4 : decode prog_6_method_11_code 4 = .ok (.getfield 192, 3) := by decide +kernel
theorem d_E_takeUp_7 : decode prog_6_method_11_code 7 = .ok (.iload_n 1, 1) := by decide +kernel
theorem d_E_takeUp_8 : decode prog_6_method_11_code 8 = .ok (.iaload, 1) := by decide +kernel
theorem d_E_takeUp_9 : decode prog_6_method_11_code 9 = .ok (.iconst 1, 1) := by decide +kernel
theorem d_E_takeUp_10 : decode prog_6_method_11_code 10 = .ok (.iand, 1) := by decide +kernel
theorem d_E_takeUp_11 : decode prog_6_method_11_code 11 = .ok (.ifCond .eq 27, 3) := by decide +kernel
theorem d_E_takeUp_38 : decode prog_6_method_11_code 38 = .ok (.iconst 0, 1) := by decide +kernel
theorem d_E_takeUp_39 : decode prog_6_method_11_code 39 = .ok (.ireturn, 1) := by decide +kernel
theorem d_E_takeUp_14 : decode prog_6_method_11_code 14 = .ok (.aload_n 0, 1) := by decide +kernel
theorem d_E_takeUp_15 : decode prog_6_method_11_code 15 = .ok (.getfield 22, 3) := by decide +kernel
theorem d_E_takeUp_18 : decode prog_6_method_11_code 18 = .ok (.iload_n 1, 1) := by decide +kernel
theorem d_E_takeUp_19 : decode prog_6_method_11_code 19 = .ok (.invokestatic 119, 3) := by decide +kernel
theorem d_E_takeUp_22 : decode prog_6_method_11_code 22 = .ok (.bipush 6, 2) := by decide +kernel
theorem d_E_takeUp_24 : decode prog_6_method_11_code 24 = .ok (.if_icmp .eq 14, 3) := by decide +kernel
theorem d_E_takeUp_27 : decode prog_6_method_11_code 27 = .ok (.aload_n 0, 1) := by decide +kernel
theorem d_E_takeUp_28 : decode prog_6_method_11_code 28 = .ok (.getfield 22, 3) := by decide +kernel
theorem d_E_takeUp_31 : decode prog_6_method_11_code 31 = .ok (.iload_n 1, 1) := by decide +kernel
theorem d_E_takeUp_32 : decode prog_6_method_11_code 32 = .ok (.invokestatic 86, 3) := by decide +kernel
theorem d_E_takeUp_35 : decode prog_6_method_11_code 35 = .ok (.ifCond .ne 5, 3) := by decide +kernel
theorem d_E_takeUp_40 : decode prog_6_method_11_code 40 = .ok (.aload_n 0, 1) := by decide +kernel
theorem d_E_takeUp_41 : decode prog_6_method_11_code 41 = .ok (.aload_n 0, 1) := by decide +kernel
theorem d_E_takeUp_42 : decode prog_6_method_11_code 42 = .ok (.getfield 22, 3) := by decide +kernel
theorem d_E_takeUp_45 : decode prog_6_method_11_code 45 = .ok (.iload_n 1, 1) := by decide +kernel
theorem d_E_takeUp_46 : decode prog_6_method_11_code 46 = .ok (.bipush 6, 2) := by decide +kernel
theorem d_E_takeUp_48 : decode prog_6_method_11_code 48 = .ok (.invokestatic 145, 3) := by decide +kernel
theorem d_E_takeUp_51 : decode prog_6_method_11_code 51 = .ok (.putfield 22, 3) := by decide +kernel
theorem d_E_takeUp_54 : decode prog_6_method_11_code 54 = .ok (.iconst 1, 1) := by decide +kernel
theorem d_E_takeUp_55 : decode prog_6_method_11_code 55 = .ok (.ireturn, 1) := by decide +kernel
theorem d_E_goThrough_0 : decode prog_6_method_10_code 0 = .ok (.aload_n 0, 1) := by decide +kernel
theorem d_E_goThrough_1 : decode prog_6_method_10_code 1 = .ok (.getfield 22, 3) := by decide +kernel
theorem d_E_goThrough_4 : decode prog_6_method_10_code 4 = .ok (.invokestatic 115, 3) := by decide +kernel
theorem d_E_goThrough_7 : decode prog_6_method_10_code 7 = .ok (.iconst 4, 1) := by decide +kernel
theorem d_E_goThrough_8 : decode prog_6_method_10_code 8 = .ok (.imul, 1) := by decide +kernel
theorem d_E_goThrough_9 : decode prog_6_method_10_code 9 = .ok (.iload_n 1, 1) := by decide +kernel
theorem d_E_goThrough_10 : decode prog_6_method_10_code 10 = .ok (.iadd, 1) := by decide +kernel
theorem d_E_goThrough_11 : decode prog_6_method_10_code 11 = .ok (.istore_n 2, 1) := by decide +kernel
theorem d_E_goThrough_12 : decode prog_6_method_10_code 12 = .ok (.aload_n 0, 1) := by decide +kernel
theorem d_E_goThrough_13 : decode prog_6_method_10_code 13 = .ok (.getfield 12, 3) := by decide +kernel
theorem d_E_goThrough_16 : decode prog_6_method_10_code 16 = .ok (.getfield 186, 3) := by decide +kernel
theorem d_E_goThrough_19 : decode prog_6_method_10_code 19 = .ok (.iload_n 2, 1) := by decide +kernel
theorem d_E_goThrough_20 : decode prog_6_method_10_code 20 = .ok (.iaload, 1) := by decide +kernel
theorem d_E_goThrough_21 : decode prog_6_method_10_code 21 = .ok (.istore_n 3, 1) := by decide +kernel
theorem d_E_goThrough_22 : decode prog_6_method_10_code 22 = .ok (.aload_n 0, 1) := by decide +kernel
theorem d_E_goThrough_23 : decode prog_6_method_10_code 23 = .ok (.getfield 12, 3) := by decide +kernel
theorem d_E_goThrough_26 : decode prog_6_method_10_code 26 = .ok (.getfield 189, 3) := by decide +kernel
theorem d_E_goThrough_29 : decode prog_6_method_10_code 29 = .ok (.iload_n 2, 1) := by decide +kernel
theorem d_E_goThrough_30 : decode prog_6_method_10_code 30 = .ok (.iaload, 1) := by decide +kernel
theorem d_E_goThrough_31 : decode prog_6_method_10_code 31 = .ok (.iconst (-1), 1) := by decide +kernel
theorem d_E_goThrough_32 : decode prog_6_method_10_code 32 = .ok (.if_icmp .eq 19, 3) := by decide +kernel
theorem d_E_goThrough_51 : decode prog_6_method_10_code 51 = .ok (.iconst 0, 1) := by decide +kernel
theorem d_E_goThrough_52 : decode prog_6_method_10_code 52 = .ok (.ireturn, 1) := by decide +kernel
theorem d_E_goThrough_35 : decode prog_6_method_10_code 35 = .ok (.iload_n 3, 1) := by decide +kernel
theorem d_E_goThrough_36 : decode prog_6_method_10_code 36 = .ok (.iconst (-1), 1) := by decide +kernel
theorem d_E_goThrough_37 : decode prog_6_method_10_code 37 = .ok (.if_icmp .eq 16, 3) := by decide +kernel
theorem d_E_goThrough_40 : decode prog_6_method_10_code 40 = .ok (.aload_n 0, 1) := by decide +kernel
theorem d_E_goThrough_41 : decode prog_6_method_10_code 41 = .ok (.getfield 22, 3) := by decide +kernel
theorem d_E_goThrough_44 : decode prog_6_method_10_code 44 = .ok (.iload_n 3, 1) := by decide +kernel
theorem d_E_goThrough_45 : decode prog_6_method_10_code 45 = .ok (.invokestatic 123, 3) := by decide +kernel
theorem d_E_goThrough_48 : decode prog_6_method_10_code 48 = .ok (.ifCond .ne 5, 3) := by decide +kernel
theorem d_E_goThrough_53 : decode prog_6_method_10_code 53 = .ok (.aload_n 0, 1) := by decide +kernel
theorem d_E_goThrough_54 : decode prog_6_method_10_code 54 = .ok (.aload_n 0, 1) := by decide +kernel
theorem d_E_goThrough_55 : decode prog_6_method_10_code 55 = .ok (.getfield 22, 3) := by decide +kernel
theorem d_E_goThrough_58 : decode prog_6_method_10_code 58 = .ok (.aload_n 0, 1) := by decide +kernel
theorem d_E_goThrough_59 : decode prog_6_method_10_code 59 = .ok (.getfield 12, 3) := by decide +kernel
theorem d_E_goThrough_62 : decode prog_6_method_10_code 62 = .ok (.getfield 189, 3) := by decide +kernel
theorem d_E_goThrough_65 : decode prog_6_method_10_code 65 = .ok (.iload_n 2, 1) := by decide +kernel
theorem d_E_goThrough_66 : decode prog_6_method_10_code 66 = .ok (.iaload, 1) := by decide +kernel
theorem d_E_goThrough_67 : decode prog_6_method_10_code 67 = .ok (.invokestatic 137, 3) := by decide +kernel
theorem d_E_goThrough_70 : decode prog_6_method_10_code 70 = .ok (.putfield 22, 3) := by decide +kernel
theorem d_E_goThrough_73 : decode prog_6_method_10_code 73 = .ok (.iconst 1, 1) := by decide +kernel
theorem d_E_goThrough_74 : decode prog_6_method_10_code 74 = .ok (.ireturn, 1) := by decide +kernel
theorem d_E_actWithoutRule_0 : decode prog_6_method_9_code 0 = .ok (.iload_n 1, 1) := by decide +kernel
theorem d_E_actWithoutRule_1 : decode prog_6_method_9_code 1 = .ok (.tableswitch 78 0 5 #[39, 45, 51, 57, 64, 71], 39) := by decide +kernel
theorem d_E_actWithoutRule_40 : decode prog_6_method_9_code 40 = .ok (.aload_n 0, 1) := by decide +kernel
theorem d_E_actWithoutRule_41 : decode prog_6_method_9_code 41 = .ok (.iload_n 2, 1) := by decide +kernel
theorem d_E_actWithoutRule_42 : decode prog_6_method_9_code 42 = .ok (.invokevirtual 170, 3) := by decide +kernel
theorem d_E_actWithoutRule_45 : decode prog_6_method_9_code 45 = .ok (.ireturn, 1) := by decide +kernel
theorem d_E_actWithoutRule_46 : decode prog_6_method_9_code 46 = .ok (.aload_n 0, 1) := by decide +kernel
theorem d_E_actWithoutRule_47 : decode prog_6_method_9_code 47 = .ok (.iload_n 2, 1) := by decide +kernel
theorem d_E_actWithoutRule_48 : decode prog_6_method_9_code 48 = .ok (.invokevirtual 173, 3) := by decide +kernel
theorem d_E_actWithoutRule_51 : decode prog_6_method_9_code 51 = .ok (.ireturn, 1) := by decide +kernel
theorem d_E_actWithoutRule_52 : decode prog_6_method_9_code 52 = .ok (.aload_n 0, 1) := by decide +kernel
theorem d_E_actWithoutRule_53 : decode prog_6_method_9_code 53 = .ok (.iload_n 2, 1) := by decide +kernel
theorem d_E_actWithoutRule_54 : decode prog_6_method_9_code 54 = .ok (.invokevirtual 176, 3) := by decide +kernel
theorem d_E_actWithoutRule_57 : decode prog_6_method_9_code 57 = .ok (.ireturn, 1) := by decide +kernel
theorem d_E_actWithoutRule_58 : decode prog_6_method_9_code 58 = .ok (.aload_n 0, 1) := by decide +kernel
theorem d_E_actWithoutRule_59 : decode prog_6_method_9_code 59 = .ok (.iload_n 2, 1) := by decide +kernel
theorem d_E_actWithoutRule_60 : decode prog_6_method_9_code 60 = .ok (.iconst 1, 1) := by decide +kernel
theorem d_E_actWithoutRule_61 : decode prog_6_method_9_code 61 = .ok (.invokevirtual 179, 3) := by decide +kernel
theorem d_E_actWithoutRule_64 : decode prog_6_method_9_code 64 = .ok (.ireturn, 1) := by decide +kernel
theorem d_E_actWithoutRule_65 : decode prog_6_method_9_code 65 = .ok (.aload_n 0, 1) := by decide +kernel
theorem d_E_actWithoutRule_66 : decode prog_6_method_9_code 66 = .ok (.iload_n 2, 1) := by decide +kernel
theorem d_E_actWithoutRule_67 : decode prog_6_method_9_code 67 = .ok (.iconst 0, 1) := by decide +kernel
theorem d_E_actWithoutRule_68 : decode prog_6_method_9_code 68 = .ok (.invokevirtual 179, 3) := by decide +kernel
theorem d_E_actWithoutRule_71 : decode prog_6_method_9_code 71 = .ok (.ireturn, 1) := by decide +kernel
theorem d_E_actWithoutRule_72 : decode prog_6_method_9_code 72 = .ok (.aload_n 0, 1) := by decide +kernel
theorem d_E_actWithoutRule_73 : decode prog_6_method_9_code 73 = .ok (.iload_n 2, 1) := by decide +kernel
theorem d_E_actWithoutRule_74 : decode prog_6_method_9_code 74 = .ok (.iload_n 3, 1) := by decide +kernel
theorem d_E_actWithoutRule_75 : decode prog_6_method_9_code 75 = .ok (.invokevirtual 183, 3) := by decide +kernel
theorem d_E_actWithoutRule_78 : decode prog_6_method_9_code 78 = .ok (.ireturn, 1) := by decide +kernel
theorem d_E_actWithoutRule_79 : decode prog_6_method_9_code 79 = .ok (.iload_n 1, 1) := by decide +kernel
theorem d_E_actWithoutRule_80 : decode prog_6_method_9_code 80 = .ok (.bipush 6, 2) := by decide +kernel
theorem d_E_actWithoutRule_82 : decode prog_6_method_9_code 82 = .ok (.if_icmp .ne 7, 3) := by decide +kernel
theorem d_E_actWithoutRule_89 : decode prog_6_method_9_code 89 = .ok (.iconst 0, 1) := by decide +kernel
theorem d_E_actWithoutRule_90 : decode prog_6_method_9_code 90 = .ok (.ireturn, 1) := by decide +kernel
theorem d_E_actWithoutRule_85 : decode prog_6_method_9_code 85 = .ok (.iconst 1, 1) := by decide +kernel
theorem d_E_actWithoutRule_86 : decode prog_6_method_9_code 86 = .ok (.goto 4, 3) := by decide +kernel
theorem d_E_take_0 : decode prog_6_method_2_code 0 = .ok (.aload_n 0, 1) := by decide +kernel
theorem d_E_take_1 : decode prog_6_method_2_code 1 = .ok (.lload_n 1, 1) := by decide +kernel
theorem d_E_take_2 : decode prog_6_method_2_code 2 = .ok (.putfield 22, 3) := by decide +kernel
theorem d_E_take_5 : decode prog_6_method_2_code 5 = .ok (.aload_n 0, 1) := by decide +kernel
theorem d_E_take_6 : decode prog_6_method_2_code 6 = .ok (.iconst 0, 1) := by decide +kernel
theorem d_E_take_7 : decode prog_6_method_2_code 7 = .ok (.putfield 26, 3) := by decide +kernel
theorem d_E_take_10 : decode prog_6_method_2_code 10 = .ok (.aload_n 0, 1) := by decide +kernel
theorem d_E_take_11 : decode prog_6_method_2_code 11 = .ok (.iconst 0, 1) := by decide +kernel
theorem d_E_take_12 : decode prog_6_method_2_code 12 = .ok (.putfield 30, 3) := by decide +kernel
theorem d_E_take_15 : decode prog_6_method_2_code 15 = .ok (.aload_n 0, 1) := by decide +kernel
theorem d_E_take_16 : decode prog_6_method_2_code 16 = .ok (.iload_n 3, 1) := by decide +kernel
theorem d_E_take_17 : decode prog_6_method_2_code 17 = .ok (.iload 4, 2) := by decide +kernel
theorem d_E_take_19 : decode prog_6_method_2_code 19 = .ok (.iload 5, 2) := by decide +kernel
theorem d_E_take_21 : decode prog_6_method_2_code 21 = .ok (.invokevirtual 33, 3) := by decide +kernel
theorem d_E_take_24 : decode prog_6_method_2_code 24 = .ok (.istore 6, 2) := by decide +kernel
theorem d_E_take_26 : decode prog_6_method_2_code 26 = .ok (.iload 6, 2) := by decide +kernel
theorem d_E_take_28 : decode prog_6_method_2_code 28 = .ok (.iconst (-1), 1) := by decide +kernel
theorem d_E_take_29 : decode prog_6_method_2_code 29 = .ok (.if_icmp .eq 12, 3) := by decide +kernel
theorem d_E_take_41 : decode prog_6_method_2_code 41 = .ok (.aload_n 0, 1) := by decide +kernel
theorem d_E_take_42 : decode prog_6_method_2_code 42 = .ok (.aload_n 0, 1) := by decide +kernel
theorem d_E_take_43 : decode prog_6_method_2_code 43 = .ok (.iload_n 3, 1) := by decide +kernel
theorem d_E_take_44 : decode prog_6_method_2_code 44 = .ok (.iload 4, 2) := by decide +kernel
theorem d_E_take_46 : decode prog_6_method_2_code 46 = .ok (.iload 5, 2) := by decide +kernel
theorem d_E_take_48 : decode prog_6_method_2_code 48 = .ok (.invokevirtual 41, 3) := by decide +kernel
theorem d_E_take_51 : decode prog_6_method_2_code 51 = .ok (.ifCond .eq 10, 3) := by decide +kernel
theorem d_E_take_61 : decode prog_6_method_2_code 61 = .ok (.bipush 99, 2) := by decide +kernel
theorem d_E_take_54 : decode prog_6_method_2_code 54 = .ok (.bipush 100, 2) := by decide +kernel
theorem d_E_take_56 : decode prog_6_method_2_code 56 = .ok (.iload_n 3, 1) := by decide +kernel
theorem d_E_take_57 : decode prog_6_method_2_code 57 = .ok (.iadd, 1) := by decide +kernel
theorem d_E_take_58 : decode prog_6_method_2_code 58 = .ok (.goto 5, 3) := by decide +kernel
theorem d_E_take_32 : decode prog_6_method_2_code 32 = .ok (.aload_n 0, 1) := by decide +kernel
theorem d_E_take_33 : decode prog_6_method_2_code 33 = .ok (.iload 6, 2) := by decide +kernel
theorem d_E_take_35 : decode prog_6_method_2_code 35 = .ok (.invokevirtual 37, 3) := by decide +kernel
theorem d_E_take_38 : decode prog_6_method_2_code 38 = .ok (.goto 28, 3) := by decide +kernel
theorem d_E_take_63 : decode prog_6_method_2_code 63 = .ok (.invokevirtual 45, 3) := by decide +kernel
theorem d_E_take_66 : decode prog_6_method_2_code 66 = .ok (.aload_n 0, 1) := by decide +kernel
theorem d_E_take_67 : decode prog_6_method_2_code 67 = .ok (.getfield 22, 3) := by decide +kernel
theorem d_E_take_70 : decode prog_6_method_2_code 70 = .ok (.invokestatic 48, 3) := by decide +kernel
theorem d_E_take_73 : decode prog_6_method_2_code 73 = .ok (.ifCond .ne 7, 3) := by decide +kernel
theorem d_E_take_76 : decode prog_6_method_2_code 76 = .ok (.aload_n 0, 1) := by decide +kernel
theorem d_E_take_77 : decode prog_6_method_2_code 77 = .ok (.invokevirtual 54, 3) := by decide +kernel
theorem d_E_take_80 : decode prog_6_method_2_code 80 = .ok (.iconst 0, 1) := by decide +kernel
theorem d_E_take_81 : decode prog_6_method_2_code 81 = .ok (.istore 7, 2) := by decide +kernel
theorem d_E_take_83 : decode prog_6_method_2_code 83 = .ok (.iload 7, 2) := by decide +kernel
theorem d_E_take_85 : decode prog_6_method_2_code 85 = .ok (.aload_n 0, 1) := by decide +kernel
theorem d_E_take_86 : decode prog_6_method_2_code 86 = .ok (.getfield 12, 3) := by decide +kernel
theorem d_E_take_89 : decode prog_6_method_2_code 89 = .ok (.getfield 57, 3) := by decide +kernel
theorem d_E_take_92 : decode prog_6_method_2_code 92 = .ok (.if_icmp .ge 55, 3) := by decide +kernel
theorem d_E_take_147 : decode prog_6_method_2_code 147 = .ok (.aload_n 0, 1) := by decide +kernel
theorem d_E_take_148 : decode prog_6_method_2_code 148 = .ok (.getfield 22, 3) := by decide +kernel
theorem d_E_take_151 : decode prog_6_method_2_code 151 = .ok (.lreturn, 1) := by decide +kernel
theorem d_E_take_95 : decode prog_6_method_2_code 95 = .ok (.aload_n 0, 1) := by decide +kernel
theorem d_E_take_96 : decode prog_6_method_2_code 96 = .ok (.getfield 22, 3) := by decide +kernel
theorem d_E_take_99 : decode prog_6_method_2_code 99 = .ok (.invokestatic 48, 3) := by decide +kernel
theorem d_E_take_102 : decode prog_6_method_2_code 102 = .ok (.ifCond .ne 45, 3) := by decide +kernel
theorem d_E_take_105 : decode prog_6_method_2_code 105 = .ok (.aload_n 0, 1) := by decide +kernel
theorem d_E_take_106 : decode prog_6_method_2_code 106 = .ok (.getfield 12, 3) := by decide +kernel
theorem d_E_take_109 : decode prog_6_method_2_code 109 = .ok (.getfield 60, 3) := by decide +kernel
theorem d_E_take_112 : decode prog_6_method_2_code 112 = .ok (.iload 7, 2) := by decide +kernel
theorem d_E_take_114 : decode prog_6_method_2_code 114 = .ok (.iaload, 1) := by decide +kernel
theorem d_E_take_115 : decode prog_6_method_2_code 115 = .ok (.istore 8, 2) := by decide +kernel
theorem d_E_take_117 : decode prog_6_method_2_code 117 = .ok (.aload_n 0, 1) := by decide +kernel
theorem d_E_take_118 : decode prog_6_method_2_code 118 = .ok (.iload 7, 2) := by decide +kernel
theorem d_E_take_120 : decode prog_6_method_2_code 120 = .ok (.invokevirtual 63, 3) := by decide +kernel
theorem d_E_take_123 : decode prog_6_method_2_code 123 = .ok (.ifCond .eq 18, 3) := by decide +kernel
theorem d_E_take_141 : decode prog_6_method_2_code 141 = .ok (.iinc 7 1, 3) := by decide +kernel
theorem d_E_take_144 : decode prog_6_method_2_code 144 = .ok (.goto (-61), 3) := by decide +kernel
theorem d_E_take_126 : decode prog_6_method_2_code 126 = .ok (.aload_n 0, 1) := by decide +kernel
theorem d_E_take_127 : decode prog_6_method_2_code 127 = .ok (.iload 8, 2) := by decide +kernel
theorem d_E_take_129 : decode prog_6_method_2_code 129 = .ok (.invokevirtual 67, 3) := by decide +kernel
theorem d_E_take_132 : decode prog_6_method_2_code 132 = .ok (.ifCond .eq 9, 3) := by decide +kernel
theorem d_E_take_135 : decode prog_6_method_2_code 135 = .ok (.aload_n 0, 1) := by decide +kernel
theorem d_E_take_136 : decode prog_6_method_2_code 136 = .ok (.iload 8, 2) := by decide +kernel
theorem d_E_take_138 : decode prog_6_method_2_code 138 = .ok (.invokevirtual 37, 3) := by decide +kernel
theorem d_A_forget_0 : decode prog_2_method_2_code 0 = .ok (.aload_n 0, 1) := by decide +kernel
theorem d_A_forget_1 : decode prog_2_method_2_code 1 = .ok (.iconst 0, 1) := by decide +kernel
theorem d_A_forget_2 : decode prog_2_method_2_code 2 = .ok (.putfield 34, 3) := by decide +kernel
theorem d_A_forget_5 : decode prog_2_method_2_code 5 = .ok (.aload_n 0, 1) := by decide +kernel
theorem d_A_forget_6 : decode prog_2_method_2_code 6 = .ok (.iconst 0, 1) := by decide +kernel
theorem d_A_forget_7 : decode prog_2_method_2_code 7 = .ok (.putfield 38, 3) := by decide +kernel
theorem d_A_forget_10 : decode prog_2_method_2_code 10 = .ok (.aload_n 0, 1) := by decide +kernel
theorem d_A_forget_11 : decode prog_2_method_2_code 11 = .ok (.iconst 0, 1) := by decide +kernel
theorem d_A_forget_12 : decode prog_2_method_2_code 12 = .ok (.putfield 41, 3) := by decide +kernel
theorem d_A_forget_15 : decode prog_2_method_2_code 15 = .ok (.aload_n 0, 1) := by decide +kernel
theorem d_A_forget_16 : decode prog_2_method_2_code 16 = .ok (.iconst 0, 1) := by decide +kernel
theorem d_A_forget_17 : decode prog_2_method_2_code 17 = .ok (.putfield 45, 3) := by decide +kernel
theorem d_A_forget_20 : decode prog_2_method_2_code 20 = .ok (.return_, 1) := by decide +kernel
theorem d_U_fill_0 : decode prog_19_method_103_code 0 = .ok (.iconst 0, 1) := by decide +kernel
theorem d_U_fill_1 : decode prog_19_method_103_code 1 = .ok (.istore_n 2, 1) := by decide +kernel
theorem d_U_fill_2 : decode prog_19_method_103_code 2 = .ok (.aload_n 0, 1) := by decide +kernel
theorem d_U_fill_3 : decode prog_19_method_103_code 3 = .ok (.arraylength, 1) := by decide +kernel
theorem d_U_fill_4 : decode prog_19_method_103_code 4 = .ok (.istore_n 3, 1) := by decide +kernel
theorem d_U_fill_5 : decode prog_19_method_103_code 5 = .ok (.iload_n 2, 1) := by decide +kernel
theorem d_U_fill_6 : decode prog_19_method_103_code 6 = .ok (.iload_n 3, 1) := by decide +kernel
theorem d_U_fill_7 : decode prog_19_method_103_code 7 = .ok (.if_icmp .ge 13, 3) := by decide +kernel
theorem d_U_fill_20 : decode prog_19_method_103_code 20 = .ok (.return_, 1) := by decide +kernel
theorem d_U_fill_10 : decode prog_19_method_103_code 10 = .ok (.aload_n 0, 1) := by decide +kernel
theorem d_U_fill_11 : decode prog_19_method_103_code 11 = .ok (.iload_n 2, 1) := by decide +kernel
theorem d_U_fill_12 : decode prog_19_method_103_code 12 = .ok (.iload_n 1, 1) := by decide +kernel
theorem d_U_fill_13 : decode prog_19_method_103_code 13 = .ok (.iastore, 1) := by decide +kernel
theorem d_U_fill_14 : decode prog_19_method_103_code 14 = .ok (.iinc 2 1, 3) := by decide +kernel
theorem d_U_fill_17 : decode prog_19_method_103_code 17 = .ok (.goto (-12), 3) := by decide +kernel
theorem d_D_of_0 : decode prog_5_method_2_code 0 = .ok (.iload_n 0, 1) := by decide +kernel
theorem d_D_of_1 : decode prog_5_method_2_code 1 = .ok (.bipush 6, 2) := by decide +kernel
theorem d_D_of_3 : decode prog_5_method_2_code 3 = .ok (.ishl, 1) := by decide +kernel
theorem d_D_of_4 : decode prog_5_method_2_code 4 = .ok (.iload_n 1, 1) := by decide +kernel
theorem d_D_of_5 : decode prog_5_method_2_code 5 = .ok (.iconst 1, 1) := by decide +kernel
theorem d_D_of_6 : decode prog_5_method_2_code 6 = .ok (.iadd, 1) := by decide +kernel
theorem d_D_of_7 : decode prog_5_method_2_code 7 = .ok (.iconst 3, 1) := by decide +kernel
theorem d_D_of_8 : decode prog_5_method_2_code 8 = .ok (.ishl, 1) := by decide +kernel
theorem d_D_of_9 : decode prog_5_method_2_code 9 = .ok (.ior, 1) := by decide +kernel
theorem d_D_of_10 : decode prog_5_method_2_code 10 = .ok (.iload_n 2, 1) := by decide +kernel
theorem d_D_of_11 : decode prog_5_method_2_code 11 = .ok (.iconst 1, 1) := by decide +kernel
theorem d_D_of_12 : decode prog_5_method_2_code 12 = .ok (.iadd, 1) := by decide +kernel
theorem d_D_of_13 : decode prog_5_method_2_code 13 = .ok (.ior, 1) := by decide +kernel
theorem d_D_of_14 : decode prog_5_method_2_code 14 = .ok (.ireturn, 1) := by decide +kernel
theorem d_A_listCommands_0 : decode prog_2_method_4_code 0 = .ok (.aload_n 0, 1) := by decide +kernel
theorem d_A_listCommands_1 : decode prog_2_method_4_code 1 = .ok (.iconst 0, 1) := by decide +kernel
theorem d_A_listCommands_2 : decode prog_2_method_4_code 2 = .ok (.putfield 72, 3) := by decide +kernel
theorem d_A_listCommands_5 : decode prog_2_method_4_code 5 = .ok (.iconst 0, 1) := by decide +kernel
theorem d_A_listCommands_6 : decode prog_2_method_4_code 6 = .ok (.istore_n 2, 1) := by decide +kernel
theorem d_A_listCommands_7 : decode prog_2_method_4_code 7 = .ok (.iload_n 2, 1) := by decide +kernel
theorem d_A_listCommands_8 : decode prog_2_method_4_code 8 = .ok (.bipush 8, 2) := by decide +kernel
theorem d_A_listCommands_10 : decode prog_2_method_4_code 10 = .ok (.if_icmp .gt 86, 3) := by decide +kernel
theorem d_A_listCommands_96 : decode prog_2_method_4_code 96 = .ok (.return_, 1) := by decide +kernel
theorem d_A_listCommands_13 : decode prog_2_method_4_code 13 = .ok (.iconst (-1), 1) := by decide +kernel
theorem d_A_listCommands_14 : decode prog_2_method_4_code 14 = .ok (.istore_n 3, 1) := by decide +kernel
theorem d_A_listCommands_15 : decode prog_2_method_4_code 15 = .ok (.iload_n 3, 1) := by decide +kernel
theorem d_A_listCommands_16 : decode prog_2_method_4_code 16 = .ok (.bipush 6, 2) := by decide +kernel
theorem d_A_listCommands_18 : decode prog_2_method_4_code 18 = .ok (.if_icmp .ge 72, 3) := by decide +kernel
theorem d_A_listCommands_90 : decode prog_2_method_4_code 90 = .ok (.iinc 2 1, 3) := by decide +kernel
theorem d_A_listCommands_93 : decode prog_2_method_4_code 93 = .ok (.goto (-86), 3) := by decide +kernel
theorem d_A_listCommands_21 : decode prog_2_method_4_code 21 = .ok (.iconst (-1), 1) := by decide +kernel
theorem d_A_listCommands_22 : decode prog_2_method_4_code 22 = .ok (.istore 4, 2) := by decide +kernel
theorem d_A_listCommands_24 : decode prog_2_method_4_code 24 = .ok (.iload 4, 2) := by decide +kernel
theorem d_A_listCommands_26 : decode prog_2_method_4_code 26 = .ok (.bipush 6, 2) := by decide +kernel
theorem d_A_listCommands_28 : decode prog_2_method_4_code 28 = .ok (.if_icmp .ge 56, 3) := by decide +kernel
theorem d_A_listCommands_84 : decode prog_2_method_4_code 84 = .ok (.iinc 3 1, 3) := by decide +kernel
theorem d_A_listCommands_87 : decode prog_2_method_4_code 87 = .ok (.goto (-72), 3) := by decide +kernel
theorem d_A_listCommands_31 : decode prog_2_method_4_code 31 = .ok (.aload_n 0, 1) := by decide +kernel
theorem d_A_listCommands_32 : decode prog_2_method_4_code 32 = .ok (.getfield 72, 3) := by decide +kernel
theorem d_A_listCommands_35 : decode prog_2_method_4_code 35 = .ok (.sipush 163, 3) := by decide +kernel
theorem d_A_listCommands_38 : decode prog_2_method_4_code 38 = .ok (.if_icmp .ge 40, 3) := by decide +kernel
theorem d_A_listCommands_78 : decode prog_2_method_4_code 78 = .ok (.iinc 4 1, 3) := by decide +kernel
theorem d_A_listCommands_81 : decode prog_2_method_4_code 81 = .ok (.goto (-57), 3) := by decide +kernel
theorem d_A_listCommands_41 : decode prog_2_method_4_code 41 = .ok (.aload_n 1, 1) := by decide +kernel
theorem d_A_listCommands_42 : decode prog_2_method_4_code 42 = .ok (.iload_n 2, 1) := by decide +kernel
theorem d_A_listCommands_43 : decode prog_2_method_4_code 43 = .ok (.iload_n 3, 1) := by decide +kernel
theorem d_A_listCommands_44 : decode prog_2_method_4_code 44 = .ok (.iload 4, 2) := by decide +kernel
theorem d_A_listCommands_46 : decode prog_2_method_4_code 46 = .ok (.invokevirtual 75, 3) := by decide +kernel
theorem d_A_listCommands_49 : decode prog_2_method_4_code 49 = .ok (.ifCond .eq 29, 3) := by decide +kernel
theorem d_A_listCommands_52 : decode prog_2_method_4_code 52 = .ok (.aload_n 0, 1) := by decide +kernel
theorem d_A_listCommands_53 : decode prog_2_method_4_code 53 = .ok (.getfield 11, 3) := by decide +kernel
theorem d_A_listCommands_56 : decode prog_2_method_4_code 56 = .ok (.aload_n 0, 1) := by decide +kernel
theorem d_A_listCommands_57 : decode prog_2_method_4_code 57 = .ok (.getfield 72, 3) := by decide +kernel
theorem d_A_listCommands_60 : decode prog_2_method_4_code 60 = .ok (.iload_n 2, 1) := by decide +kernel
theorem d_A_listCommands_61 : decode prog_2_method_4_code 61 = .ok (.iload_n 3, 1) := by decide +kernel
theorem d_A_listCommands_62 : decode prog_2_method_4_code 62 = .ok (.iload 4, 2) := by decide +kernel
theorem d_A_listCommands_64 : decode prog_2_method_4_code 64 = .ok (.invokestatic 79, 3) := by decide +kernel
theorem d_A_listCommands_67 : decode prog_2_method_4_code 67 = .ok (.iastore, 1) := by decide +kernel
theorem d_A_listCommands_68 : decode prog_2_method_4_code 68 = .ok (.aload_n 0, 1) := by decide +kernel
theorem d_A_listCommands_69 : decode prog_2_method_4_code 69 = .ok (.dup, 1) := by decide +kernel
theorem d_A_listCommands_70 : decode prog_2_method_4_code 70 = .ok (.getfield 72, 3) := by decide +kernel
theorem d_A_listCommands_73 : decode prog_2_method_4_code 73 = .ok (.iconst 1, 1) := by decide +kernel
theorem d_A_listCommands_74 : decode prog_2_method_4_code 74 = .ok (.iadd, 1) := by decide +kernel
theorem d_A_listCommands_75 : decode prog_2_method_4_code 75 = .ok (.putfield 72, 3) := by decide +kernel
theorem d_A_slotOf_0 : decode prog_2_method_10_code 0 = .ok (.lload_n 1, 1) := by decide +kernel
theorem d_A_slotOf_1 : decode prog_2_method_10_code 1 = .ok (.ldc2_w 130, 3) := by decide +kernel
theorem d_A_slotOf_4 : decode prog_2_method_10_code 4 = .ok (.lmul, 1) := by decide +kernel
theorem d_A_slotOf_5 : decode prog_2_method_10_code 5 = .ok (.bipush 55, 2) := by decide +kernel
theorem d_A_slotOf_7 : decode prog_2_method_10_code 7 = .ok (.lushr, 1) := by decide +kernel
theorem d_A_slotOf_8 : decode prog_2_method_10_code 8 = .ok (.l2i, 1) := by decide +kernel
theorem d_A_slotOf_9 : decode prog_2_method_10_code 9 = .ok (.istore_n 3, 1) := by decide +kernel
theorem d_A_slotOf_10 : decode prog_2_method_10_code 10 = .ok (.iconst 0, 1) := by decide +kernel
theorem d_A_slotOf_11 : decode prog_2_method_10_code 11 = .ok (.istore 4, 2) := by decide +kernel
theorem d_A_slotOf_13 : decode prog_2_method_10_code 13 = .ok (.iload 4, 2) := by decide +kernel
theorem d_A_slotOf_15 : decode prog_2_method_10_code 15 = .ok (.sipush 512, 3) := by decide +kernel
theorem d_A_slotOf_18 : decode prog_2_method_10_code 18 = .ok (.if_icmp .ge 46, 3) := by decide +kernel
theorem d_A_slotOf_64 : decode prog_2_method_10_code 64 = .ok (.iload_n 3, 1) := by decide +kernel
theorem d_A_slotOf_65 : decode prog_2_method_10_code 65 = .ok (.ireturn, 1) := by decide +kernel
theorem d_A_slotOf_21 : decode prog_2_method_10_code 21 = .ok (.aload_n 0, 1) := by decide +kernel
theorem d_A_slotOf_22 : decode prog_2_method_10_code 22 = .ok (.getfield 25, 3) := by decide +kernel
theorem d_A_slotOf_25 : decode prog_2_method_10_code 25 = .ok (.iload_n 3, 1) := by decide +kernel
theorem d_A_slotOf_26 : decode prog_2_method_10_code 26 = .ok (.iaload, 1) := by decide +kernel
theorem d_A_slotOf_27 : decode prog_2_method_10_code 27 = .ok (.ifCond .eq 21, 3) := by decide +kernel
theorem d_A_slotOf_48 : decode prog_2_method_10_code 48 = .ok (.iload_n 3, 1) := by decide +kernel
theorem d_A_slotOf_49 : decode prog_2_method_10_code 49 = .ok (.ireturn, 1) := by decide +kernel
theorem d_A_slotOf_30 : decode prog_2_method_10_code 30 = .ok (.aload_n 0, 1) := by decide +kernel
theorem d_A_slotOf_31 : decode prog_2_method_10_code 31 = .ok (.getfield 15, 3) := by decide +kernel
theorem d_A_slotOf_34 : decode prog_2_method_10_code 34 = .ok (.aload_n 0, 1) := by decide +kernel
theorem d_A_slotOf_35 : decode prog_2_method_10_code 35 = .ok (.getfield 25, 3) := by decide +kernel
theorem d_A_slotOf_38 : decode prog_2_method_10_code 38 = .ok (.iload_n 3, 1) := by decide +kernel
theorem d_A_slotOf_39 : decode prog_2_method_10_code 39 = .ok (.iaload, 1) := by decide +kernel
theorem d_A_slotOf_40 : decode prog_2_method_10_code 40 = .ok (.iconst 1, 1) := by decide +kernel
theorem d_A_slotOf_41 : decode prog_2_method_10_code 41 = .ok (.isub, 1) := by decide +kernel
theorem d_A_slotOf_42 : decode prog_2_method_10_code 42 = .ok (.laload, 1) := by decide +kernel
theorem d_A_slotOf_43 : decode prog_2_method_10_code 43 = .ok (.lload_n 1, 1) := by decide +kernel
theorem d_A_slotOf_44 : decode prog_2_method_10_code 44 = .ok (.lcmp, 1) := by decide +kernel
theorem d_A_slotOf_45 : decode prog_2_method_10_code 45 = .ok (.ifCond .ne 5, 3) := by decide +kernel
theorem d_A_slotOf_50 : decode prog_2_method_10_code 50 = .ok (.iload_n 3, 1) := by decide +kernel
theorem d_A_slotOf_51 : decode prog_2_method_10_code 51 = .ok (.iconst 1, 1) := by decide +kernel
theorem d_A_slotOf_52 : decode prog_2_method_10_code 52 = .ok (.iadd, 1) := by decide +kernel
theorem d_A_slotOf_53 : decode prog_2_method_10_code 53 = .ok (.sipush 511, 3) := by decide +kernel
theorem d_A_slotOf_56 : decode prog_2_method_10_code 56 = .ok (.iand, 1) := by decide +kernel
theorem d_A_slotOf_57 : decode prog_2_method_10_code 57 = .ok (.istore_n 3, 1) := by decide +kernel
theorem d_A_slotOf_58 : decode prog_2_method_10_code 58 = .ok (.iinc 4 1, 3) := by decide +kernel
theorem d_A_slotOf_61 : decode prog_2_method_10_code 61 = .ok (.goto (-48), 3) := by decide +kernel
theorem d_A_append_0 : decode prog_2_method_9_code 0 = .ok (.aload_n 0, 1) := by decide +kernel
theorem d_A_append_1 : decode prog_2_method_9_code 1 = .ok (.getfield 15, 3) := by decide +kernel
theorem d_A_append_4 : decode prog_2_method_9_code 4 = .ok (.aload_n 0, 1) := by decide +kernel
theorem d_A_append_5 : decode prog_2_method_9_code 5 = .ok (.getfield 34, 3) := by decide +kernel
theorem d_A_append_8 : decode prog_2_method_9_code 8 = .ok (.lload_n 1, 1) := by decide +kernel
theorem d_A_append_9 : decode prog_2_method_9_code 9 = .ok (.lastore, 1) := by decide +kernel
theorem d_A_append_10 : decode prog_2_method_9_code 10 = .ok (.aload_n 0, 1) := by decide +kernel
theorem d_A_append_11 : decode prog_2_method_9_code 11 = .ok (.getfield 19, 3) := by decide +kernel
theorem d_A_append_14 : decode prog_2_method_9_code 14 = .ok (.aload_n 0, 1) := by decide +kernel
theorem d_A_append_15 : decode prog_2_method_9_code 15 = .ok (.getfield 34, 3) := by decide +kernel
theorem d_A_append_18 : decode prog_2_method_9_code 18 = .ok (.iload 4, 2) := by decide +kernel
theorem d_A_append_20 : decode prog_2_method_9_code 20 = .ok (.iastore, 1) := by decide +kernel
theorem d_A_append_21 : decode prog_2_method_9_code 21 = .ok (.aload_n 0, 1) := by decide +kernel
theorem d_A_append_22 : decode prog_2_method_9_code 22 = .ok (.getfield 22, 3) := by decide +kernel
theorem d_A_append_25 : decode prog_2_method_9_code 25 = .ok (.aload_n 0, 1) := by decide +kernel
theorem d_A_append_26 : decode prog_2_method_9_code 26 = .ok (.getfield 34, 3) := by decide +kernel
theorem d_A_append_29 : decode prog_2_method_9_code 29 = .ok (.iload 5, 2) := by decide +kernel
theorem d_A_append_31 : decode prog_2_method_9_code 31 = .ok (.iastore, 1) := by decide +kernel
theorem d_A_append_32 : decode prog_2_method_9_code 32 = .ok (.iconst 0, 1) := by decide +kernel
theorem d_A_append_33 : decode prog_2_method_9_code 33 = .ok (.istore 6, 2) := by decide +kernel
theorem d_A_append_35 : decode prog_2_method_9_code 35 = .ok (.iload 6, 2) := by decide +kernel
theorem d_A_append_37 : decode prog_2_method_9_code 37 = .ok (.iconst 3, 1) := by decide +kernel
theorem d_A_append_38 : decode prog_2_method_9_code 38 = .ok (.if_icmp .ge 24, 3) := by decide +kernel
theorem d_A_append_62 : decode prog_2_method_9_code 62 = .ok (.aload_n 0, 1) := by decide +kernel
theorem d_A_append_63 : decode prog_2_method_9_code 63 = .ok (.dup, 1) := by decide +kernel
theorem d_A_append_64 : decode prog_2_method_9_code 64 = .ok (.getfield 34, 3) := by decide +kernel
theorem d_A_append_67 : decode prog_2_method_9_code 67 = .ok (.iconst 1, 1) := by decide +kernel
theorem d_A_append_68 : decode prog_2_method_9_code 68 = .ok (.iadd, 1) := by decide +kernel
theorem d_A_append_69 : decode prog_2_method_9_code 69 = .ok (.putfield 34, 3) := by decide +kernel
theorem d_A_append_72 : decode prog_2_method_9_code 72 = .ok (.aload_n 0, 1) := by decide +kernel
theorem d_A_append_73 : decode prog_2_method_9_code 73 = .ok (.getfield 25, 3) := by decide +kernel
theorem d_A_append_76 : decode prog_2_method_9_code 76 = .ok (.iload_n 3, 1) := by decide +kernel
theorem d_A_append_77 : decode prog_2_method_9_code 77 = .ok (.aload_n 0, 1) := by decide +kernel
theorem d_A_append_78 : decode prog_2_method_9_code 78 = .ok (.getfield 34, 3) := by decide +kernel
theorem d_A_append_81 : decode prog_2_method_9_code 81 = .ok (.iastore, 1) := by decide +kernel
theorem d_A_append_82 : decode prog_2_method_9_code 82 = .ok (.return_, 1) := by decide +kernel
theorem d_A_append_41 : decode prog_2_method_9_code 41 = .ok (.aload_n 0, 1) := by decide +kernel
theorem d_A_append_42 : decode prog_2_method_9_code 42 = .ok (.getfield 28, 3) := by decide +kernel
theorem d_A_append_45 : decode prog_2_method_9_code 45 = .ok (.aload_n 0, 1) := by decide +kernel
theorem d_A_append_46 : decode prog_2_method_9_code 46 = .ok (.getfield 34, 3) := by decide +kernel
theorem d_A_append_49 : decode prog_2_method_9_code 49 = .ok (.iconst 3, 1) := by decide +kernel
theorem d_A_append_50 : decode prog_2_method_9_code 50 = .ok (.imul, 1) := by decide +kernel
theorem d_A_append_51 : decode prog_2_method_9_code 51 = .ok (.iload 6, 2) := by decide +kernel
theorem d_A_append_53 : decode prog_2_method_9_code 53 = .ok (.iadd, 1) := by decide +kernel
theorem d_A_append_54 : decode prog_2_method_9_code 54 = .ok (.lconst 0, 1) := by decide +kernel
theorem d_A_append_55 : decode prog_2_method_9_code 55 = .ok (.lastore, 1) := by decide +kernel
theorem d_A_append_56 : decode prog_2_method_9_code 56 = .ok (.iinc 6 1, 3) := by decide +kernel
theorem d_A_append_59 : decode prog_2_method_9_code 59 = .ok (.goto (-24), 3) := by decide +kernel
theorem d_A_opn_0 : decode prog_2_method_3_code 0 = .ok (.aload_n 0, 1) := by decide +kernel
theorem d_A_opn_1 : decode prog_2_method_3_code 1 = .ok (.getfield 25, 3) := by decide +kernel
theorem d_A_opn_4 : decode prog_2_method_3_code 4 = .ok (.iconst 0, 1) := by decide +kernel
theorem d_A_opn_5 : decode prog_2_method_3_code 5 = .ok (.invokestatic 48, 3) := by decide +kernel
theorem d_A_opn_8 : decode prog_2_method_3_code 8 = .ok (.aload_n 0, 1) := by decide +kernel
theorem d_A_opn_9 : decode prog_2_method_3_code 9 = .ok (.aload_n 1, 1) := by decide +kernel
theorem d_A_opn_10 : decode prog_2_method_3_code 10 = .ok (.invokevirtual 54, 3) := by decide +kernel
theorem d_A_opn_13 : decode prog_2_method_3_code 13 = .ok (.aload_n 1, 1) := by decide +kernel
theorem d_A_opn_14 : decode prog_2_method_3_code 14 = .ok (.invokevirtual 58, 3) := by decide +kernel
theorem d_A_opn_17 : decode prog_2_method_3_code 17 = .ok (.lstore_n 2, 1) := by decide +kernel
theorem d_A_opn_18 : decode prog_2_method_3_code 18 = .ok (.aload_n 0, 1) := by decide +kernel
theorem d_A_opn_19 : decode prog_2_method_3_code 19 = .ok (.lload_n 2, 1) := by decide +kernel
theorem d_A_opn_20 : decode prog_2_method_3_code 20 = .ok (.aload_n 0, 1) := by decide +kernel
theorem d_A_opn_21 : decode prog_2_method_3_code 21 = .ok (.lload_n 2, 1) := by decide +kernel
theorem d_A_opn_22 : decode prog_2_method_3_code 22 = .ok (.invokevirtual 64, 3) := by decide +kernel
theorem d_A_opn_25 : decode prog_2_method_3_code 25 = .ok (.iconst 0, 1) := by decide +kernel
theorem d_A_opn_26 : decode prog_2_method_3_code 26 = .ok (.iconst 0, 1) := by decide +kernel
theorem d_A_opn_27 : decode prog_2_method_3_code 27 = .ok (.invokevirtual 68, 3) := by decide +kernel
theorem d_A_opn_30 : decode prog_2_method_3_code 30 = .ok (.return_, 1) := by decide +kernel
theorem d_A_hasMore_0 : decode prog_2_method_5_code 0 = .ok (.aload_n 0, 1) := by decide +kernel
theorem d_A_hasMore_1 : decode prog_2_method_5_code 1 = .ok (.getfield 38, 3) := by decide +kernel
theorem d_A_hasMore_4 : decode prog_2_method_5_code 4 = .ok (.aload_n 0, 1) := by decide +kernel
theorem d_A_hasMore_5 : decode prog_2_method_5_code 5 = .ok (.getfield 34, 3) := by decide +kernel
theorem d_A_hasMore_8 : decode prog_2_method_5_code 8 = .ok (.if_icmp .ge 14, 3) := by decide +kernel
theorem d_A_hasMore_22 : decode prog_2_method_5_code 22 = .ok (.iconst 0, 1) := by decide +kernel
theorem d_A_hasMore_23 : decode prog_2_method_5_code 23 = .ok (.ireturn, 1) := by decide +kernel
theorem d_A_hasMore_11 : decode prog_2_method_5_code 11 = .ok (.aload_n 0, 1) := by decide +kernel
theorem d_A_hasMore_12 : decode prog_2_method_5_code 12 = .ok (.getfield 41, 3) := by decide +kernel
theorem d_A_hasMore_15 : decode prog_2_method_5_code 15 = .ok (.ifCond .ne 7, 3) := by decide +kernel
theorem d_A_hasMore_18 : decode prog_2_method_5_code 18 = .ok (.iconst 1, 1) := by decide +kernel
theorem d_A_hasMore_19 : decode prog_2_method_5_code 19 = .ok (.goto 4, 3) := by decide +kernel
theorem d_A_isFinished_0 : decode prog_2_method_6_code 0 = .ok (.aload_n 0, 1) := by decide +kernel
theorem d_A_isFinished_1 : decode prog_2_method_6_code 1 = .ok (.getfield 34, 3) := by decide +kernel
theorem d_A_isFinished_4 : decode prog_2_method_6_code 4 = .ok (.ifCond .le 18, 3) := by decide +kernel
theorem d_A_isFinished_22 : decode prog_2_method_6_code 22 = .ok (.iconst 0, 1) := by decide +kernel
theorem d_A_isFinished_23 : decode prog_2_method_6_code 23 = .ok (.ireturn, 1) := by decide +kernel
theorem d_A_isFinished_7 : decode prog_2_method_6_code 7 = .ok (.aload_n 0, 1) := by decide +kernel
theorem d_A_isFinished_8 : decode prog_2_method_6_code 8 = .ok (.getfield 38, 3) := by decide +kernel
theorem d_A_isFinished_11 : decode prog_2_method_6_code 11 = .ok (.aload_n 0, 1) := by decide +kernel
theorem d_A_isFinished_12 : decode prog_2_method_6_code 12 = .ok (.getfield 34, 3) := by decide +kernel
theorem d_A_isFinished_15 : decode prog_2_method_6_code 15 = .ok (.if_icmp .ne 7, 3) := by decide +kernel
theorem d_A_isFinished_18 : decode prog_2_method_6_code 18 = .ok (.iconst 1, 1) := by decide +kernel
theorem d_A_isFinished_19 : decode prog_2_method_6_code 19 = .ok (.goto 4, 3) := by decide +kernel
theorem d_D_verbOf_0 : decode prog_5_method_3_code 0 = .ok (.iload_n 0, 1) := by decide +kernel
theorem d_D_verbOf_1 : decode prog_5_method_3_code 1 = .ok (.bipush 6, 2) := by decide +kernel
theorem d_D_verbOf_3 : decode prog_5_method_3_code 3 = .ok (.ishr, 1) := by decide +kernel
theorem d_D_verbOf_4 : decode prog_5_method_3_code 4 = .ok (.ireturn, 1) := by decide +kernel
theorem d_D_firstOf_0 : decode prog_5_method_4_code 0 = .ok (.iload_n 0, 1) := by decide +kernel
theorem d_D_firstOf_1 : decode prog_5_method_4_code 1 = .ok (.iconst 3, 1) := by decide +kernel
theorem d_D_firstOf_2 : decode prog_5_method_4_code 2 = .ok (.ishr, 1) := by decide +kernel
theorem d_D_firstOf_3 : decode prog_5_method_4_code 3 = .ok (.bipush 7, 2) := by decide +kernel
theorem d_D_firstOf_5 : decode prog_5_method_4_code 5 = .ok (.iand, 1) := by decide +kernel
theorem d_D_firstOf_6 : decode prog_5_method_4_code 6 = .ok (.iconst 1, 1) := by decide +kernel
theorem d_D_firstOf_7 : decode prog_5_method_4_code 7 = .ok (.isub, 1) := by decide +kernel
theorem d_D_firstOf_8 : decode prog_5_method_4_code 8 = .ok (.ireturn, 1) := by decide +kernel
theorem d_D_secondOf_0 : decode prog_5_method_5_code 0 = .ok (.iload_n 0, 1) := by decide +kernel
theorem d_D_secondOf_1 : decode prog_5_method_5_code 1 = .ok (.bipush 7, 2) := by decide +kernel
theorem d_D_secondOf_3 : decode prog_5_method_5_code 3 = .ok (.iand, 1) := by decide +kernel
theorem d_D_secondOf_4 : decode prog_5_method_5_code 4 = .ok (.iconst 1, 1) := by decide +kernel
theorem d_D_secondOf_5 : decode prog_5_method_5_code 5 = .ok (.isub, 1) := by decide +kernel
theorem d_D_secondOf_6 : decode prog_5_method_5_code 6 = .ok (.ireturn, 1) := by decide +kernel
theorem d_A_addTo_0 : decode prog_2_method_15_code 0 = .ok (.aload_n 0, 1) := by decide +kernel
theorem d_A_addTo_1 : decode prog_2_method_15_code 1 = .ok (.iload_n 1, 1) := by decide +kernel
theorem d_A_addTo_2 : decode prog_2_method_15_code 2 = .ok (.iload_n 2, 1) := by decide +kernel
theorem d_A_addTo_3 : decode prog_2_method_15_code 3 = .ok (.bipush 64, 2) := by decide +kernel
theorem d_A_addTo_5 : decode prog_2_method_15_code 5 = .ok (.idiv, 1) := by decide +kernel
theorem d_A_addTo_6 : decode prog_2_method_15_code 6 = .ok (.iadd, 1) := by decide +kernel
theorem d_A_addTo_7 : decode prog_2_method_15_code 7 = .ok (.dup2, 1) := by decide +kernel
theorem d_A_addTo_8 : decode prog_2_method_15_code 8 = .ok (.laload, 1) := by decide +kernel
theorem d_A_addTo_9 : decode prog_2_method_15_code 9 = .ok (.lconst 1, 1) := by decide +kernel
theorem d_A_addTo_10 : decode prog_2_method_15_code 10 = .ok (.iload_n 2, 1) := by decide +kernel
theorem d_A_addTo_11 : decode prog_2_method_15_code 11 = .ok (.bipush 64, 2) := by decide +kernel
theorem d_A_addTo_13 : decode prog_2_method_15_code 13 = .ok (.irem, 1) := by decide +kernel
theorem d_A_addTo_14 : decode prog_2_method_15_code 14 = .ok (.lshl, 1) := by decide +kernel
theorem d_A_addTo_15 : decode prog_2_method_15_code 15 = .ok (.lor, 1) := by decide +kernel
theorem d_A_addTo_16 : decode prog_2_method_15_code 16 = .ok (.lastore, 1) := by decide +kernel
theorem d_A_addTo_17 : decode prog_2_method_15_code 17 = .ok (.return_, 1) := by decide +kernel
theorem d_A_note_0 : decode prog_2_method_8_code 0 = .ok (.aload_n 0, 1) := by decide +kernel
theorem d_A_note_1 : decode prog_2_method_8_code 1 = .ok (.lload_n 1, 1) := by decide +kernel
theorem d_A_note_2 : decode prog_2_method_8_code 2 = .ok (.invokevirtual 64, 3) := by decide +kernel
theorem d_A_note_5 : decode prog_2_method_8_code 5 = .ok (.istore 4, 2) := by decide +kernel
theorem d_A_note_7 : decode prog_2_method_8_code 7 = .ok (.aload_n 0, 1) := by decide +kernel
theorem d_A_note_8 : decode prog_2_method_8_code 8 = .ok (.getfield 25, 3) := by decide +kernel
theorem d_A_note_11 : decode prog_2_method_8_code 11 = .ok (.iload 4, 2) := by decide +kernel
theorem d_A_note_13 : decode prog_2_method_8_code 13 = .ok (.iaload, 1) := by decide +kernel
theorem d_A_note_14 : decode prog_2_method_8_code 14 = .ok (.ifCond .ne 31, 3) := by decide +kernel
theorem d_A_note_17 : decode prog_2_method_8_code 17 = .ok (.aload_n 0, 1) := by decide +kernel
theorem d_A_note_18 : decode prog_2_method_8_code 18 = .ok (.getfield 34, 3) := by decide +kernel
theorem d_A_note_21 : decode prog_2_method_8_code 21 = .ok (.sipush 160, 3) := by decide +kernel
theorem d_A_note_24 : decode prog_2_method_8_code 24 = .ok (.if_icmp .ne 9, 3) := by decide +kernel
theorem d_A_note_33 : decode prog_2_method_8_code 33 = .ok (.aload_n 0, 1) := by decide +kernel
theorem d_A_note_34 : decode prog_2_method_8_code 34 = .ok (.lload_n 1, 1) := by decide +kernel
theorem d_A_note_35 : decode prog_2_method_8_code 35 = .ok (.iload 4, 2) := by decide +kernel
theorem d_A_note_37 : decode prog_2_method_8_code 37 = .ok (.aload_n 0, 1) := by decide +kernel
theorem d_A_note_38 : decode prog_2_method_8_code 38 = .ok (.getfield 38, 3) := by decide +kernel
theorem d_A_note_41 : decode prog_2_method_8_code 41 = .ok (.iload_n 3, 1) := by decide +kernel
theorem d_A_note_42 : decode prog_2_method_8_code 42 = .ok (.invokevirtual 68, 3) := by decide +kernel
theorem d_A_note_27 : decode prog_2_method_8_code 27 = .ok (.aload_n 0, 1) := by decide +kernel
theorem d_A_note_28 : decode prog_2_method_8_code 28 = .ok (.iconst 1, 1) := by decide +kernel
theorem d_A_note_29 : decode prog_2_method_8_code 29 = .ok (.putfield 41, 3) := by decide +kernel
theorem d_A_note_32 : decode prog_2_method_8_code 32 = .ok (.return_, 1) := by decide +kernel
theorem d_A_note_45 : decode prog_2_method_8_code 45 = .ok (.aload_n 0, 1) := by decide +kernel
theorem d_A_note_46 : decode prog_2_method_8_code 46 = .ok (.getfield 28, 3) := by decide +kernel
theorem d_A_note_49 : decode prog_2_method_8_code 49 = .ok (.aload_n 0, 1) := by decide +kernel
theorem d_A_note_50 : decode prog_2_method_8_code 50 = .ok (.getfield 38, 3) := by decide +kernel
theorem d_A_note_53 : decode prog_2_method_8_code 53 = .ok (.iconst 3, 1) := by decide +kernel
theorem d_A_note_54 : decode prog_2_method_8_code 54 = .ok (.imul, 1) := by decide +kernel
theorem d_A_note_55 : decode prog_2_method_8_code 55 = .ok (.aload_n 0, 1) := by decide +kernel
theorem d_A_note_56 : decode prog_2_method_8_code 56 = .ok (.getfield 25, 3) := by decide +kernel
theorem d_A_note_59 : decode prog_2_method_8_code 59 = .ok (.iload 4, 2) := by decide +kernel
theorem d_A_note_61 : decode prog_2_method_8_code 61 = .ok (.iaload, 1) := by decide +kernel
theorem d_A_note_62 : decode prog_2_method_8_code 62 = .ok (.iconst 1, 1) := by decide +kernel
theorem d_A_note_63 : decode prog_2_method_8_code 63 = .ok (.isub, 1) := by decide +kernel
theorem d_A_note_64 : decode prog_2_method_8_code 64 = .ok (.invokestatic 126, 3) := by decide +kernel
theorem d_A_note_67 : decode prog_2_method_8_code 67 = .ok (.return_, 1) := by decide +kernel
theorem d_U_fillL_0 : decode prog_19_method_101_code 0 = .ok (.iconst 0, 1) := by decide +kernel
theorem d_U_fillL_1 : decode prog_19_method_101_code 1 = .ok (.istore_n 3, 1) := by decide +kernel
theorem d_U_fillL_2 : decode prog_19_method_101_code 2 = .ok (.aload_n 0, 1) := by decide +kernel
theorem d_U_fillL_3 : decode prog_19_method_101_code 3 = .ok (.arraylength, 1) := by decide +kernel
theorem d_U_fillL_4 : decode prog_19_method_101_code 4 = .ok (.istore 4, 2) := by decide +kernel
theorem d_U_fillL_6 : decode prog_19_method_101_code 6 = .ok (.iload_n 3, 1) := by decide +kernel
theorem d_U_fillL_7 : decode prog_19_method_101_code 7 = .ok (.iload 4, 2) := by decide +kernel
theorem d_U_fillL_9 : decode prog_19_method_101_code 9 = .ok (.if_icmp .ge 13, 3) := by decide +kernel
theorem d_U_fillL_22 : decode prog_19_method_101_code 22 = .ok (.return_, 1) := by decide +kernel
theorem d_U_fillL_12 : decode prog_19_method_101_code 12 = .ok (.aload_n 0, 1) := by decide +kernel
theorem d_U_fillL_13 : decode prog_19_method_101_code 13 = .ok (.iload_n 3, 1) := by decide +kernel
theorem d_U_fillL_14 : decode prog_19_method_101_code 14 = .ok (.lload_n 1, 1) := by decide +kernel
theorem d_U_fillL_15 : decode prog_19_method_101_code 15 = .ok (.lastore, 1) := by decide +kernel
theorem d_U_fillL_16 : decode prog_19_method_101_code 16 = .ok (.iinc 3 1, 3) := by decide +kernel
theorem d_U_fillL_19 : decode prog_19_method_101_code 19 = .ok (.goto (-13), 3) := by decide +kernel
theorem d_A_isHopeful_0 : decode prog_2_method_14_code 0 = .ok (.aload_n 0, 1) := by decide +kernel
theorem d_A_isHopeful_1 : decode prog_2_method_14_code 1 = .ok (.getfield 31, 3) := by decide +kernel
theorem d_A_isHopeful_4 : decode prog_2_method_14_code 4 = .ok (.iload_n 1, 1) := by decide +kernel
theorem d_A_isHopeful_5 : decode prog_2_method_14_code 5 = .ok (.bipush 64, 2) := by decide +kernel
theorem d_A_isHopeful_7 : decode prog_2_method_14_code 7 = .ok (.idiv, 1) := by decide +kernel
theorem d_A_isHopeful_8 : decode prog_2_method_14_code 8 = .ok (.laload, 1) := by decide +kernel
theorem d_A_isHopeful_9 : decode prog_2_method_14_code 9 = .ok (.iload_n 1, 1) := by decide +kernel
theorem d_A_isHopeful_10 : decode prog_2_method_14_code 10 = .ok (.bipush 64, 2) := by decide +kernel
theorem d_A_isHopeful_12 : decode prog_2_method_14_code 12 = .ok (.irem, 1) := by decide +kernel
theorem d_A_isHopeful_13 : decode prog_2_method_14_code 13 = .ok (.lushr, 1) := by decide +kernel
theorem d_A_isHopeful_14 : decode prog_2_method_14_code 14 = .ok (.lconst 1, 1) := by decide +kernel
theorem d_A_isHopeful_15 : decode prog_2_method_14_code 15 = .ok (.land, 1) := by decide +kernel
theorem d_A_isHopeful_16 : decode prog_2_method_14_code 16 = .ok (.lconst 0, 1) := by decide +kernel
theorem d_A_isHopeful_17 : decode prog_2_method_14_code 17 = .ok (.lcmp, 1) := by decide +kernel
theorem d_A_isHopeful_18 : decode prog_2_method_14_code 18 = .ok (.ifCond .eq 7, 3) := by decide +kernel
theorem d_A_isHopeful_25 : decode prog_2_method_14_code 25 = .ok (.iconst 0, 1) := by decide +kernel
theorem d_A_isHopeful_26 : decode prog_2_method_14_code 26 = .ok (.ireturn, 1) := by decide +kernel
theorem d_A_isHopeful_21 : decode prog_2_method_14_code 21 = .ok (.iconst 1, 1) := by decide +kernel
theorem d_A_isHopeful_22 : decode prog_2_method_14_code 22 = .ok (.goto 4, 3) := by decide +kernel
theorem d_A_isWon_0 : decode prog_2_method_12_code 0 = .ok (.aload_n 0, 1) := by decide +kernel
theorem d_A_isWon_1 : decode prog_2_method_12_code 1 = .ok (.getfield 15, 3) := by decide +kernel
theorem d_A_isWon_4 : decode prog_2_method_12_code 4 = .ok (.iload_n 1, 1) := by decide +kernel
theorem d_A_isWon_5 : decode prog_2_method_12_code 5 = .ok (.laload, 1) := by decide +kernel
theorem d_A_isWon_6 : decode prog_2_method_12_code 6 = .ok (.invokestatic 146, 3) := by decide +kernel
theorem d_A_isWon_9 : decode prog_2_method_12_code 9 = .ok (.istore_n 3, 1) := by decide +kernel
theorem d_A_isWon_10 : decode prog_2_method_12_code 10 = .ok (.aload_n 2, 1) := by decide +kernel
theorem d_A_isWon_11 : decode prog_2_method_12_code 11 = .ok (.iload_n 3, 1) := by decide +kernel
theorem d_A_isWon_12 : decode prog_2_method_12_code 12 = .ok (.invokevirtual 149, 3) := by decide +kernel
theorem d_A_isWon_15 : decode prog_2_method_12_code 15 = .ok (.ifCond .eq 16, 3) := by decide +kernel
theorem d_A_isWon_31 : decode prog_2_method_12_code 31 = .ok (.iconst 0, 1) := by decide +kernel
theorem d_A_isWon_32 : decode prog_2_method_12_code 32 = .ok (.ireturn, 1) := by decide +kernel
theorem d_A_isWon_18 : decode prog_2_method_12_code 18 = .ok (.aload_n 2, 1) := by decide +kernel
theorem d_A_isWon_19 : decode prog_2_method_12_code 19 = .ok (.getfield 152, 3) := by decide +kernel
theorem d_A_isWon_22 : decode prog_2_method_12_code 22 = .ok (.iload_n 3, 1) := by decide +kernel
theorem d_A_isWon_23 : decode prog_2_method_12_code 23 = .ok (.baload, 1) := by decide +kernel
theorem d_A_isWon_24 : decode prog_2_method_12_code 24 = .ok (.ifCond .eq 7, 3) := by decide +kernel
theorem d_A_isWon_27 : decode prog_2_method_12_code 27 = .ok (.iconst 1, 1) := by decide +kernel
theorem d_A_isWon_28 : decode prog_2_method_12_code 28 = .ok (.goto 4, 3) := by decide +kernel
theorem d_A_leadsToHope_0 : decode prog_2_method_13_code 0 = .ok (.iconst 0, 1) := by decide +kernel
