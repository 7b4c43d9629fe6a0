theorem d_B_placeOf_3 : decode prog_3_method_4_code 3 = .ok (.iload_n 2, 1) := by decide +kernel
theorem d_B_placeOf_4 : decode prog_3_method_4_code 4 = .ok (.imul, 1) := by decide +kernel
theorem d_B_placeOf_5 : decode prog_3_method_4_code 5 = .ok (.iadd, 1) := by decide +kernel
theorem d_B_placeOf_6 : decode prog_3_method_4_code 6 = .ok (.lushr, 1) := by decide +kernel
theorem d_B_placeOf_7 : decode prog_3_method_4_code 7 = .ok (.l2i, 1) := by decide +kernel
theorem d_B_placeOf_8 : decode prog_3_method_4_code 8 = .ok (.bipush 15, 2) := by decide +kernel
theorem d_B_placeOf_10 : decode prog_3_method_4_code 10 = .ok (.iand, 1) := by decide +kernel
theorem d_B_placeOf_11 : decode prog_3_method_4_code 11 = .ok (.ireturn, 1) := by decide +kernel
theorem d_B_isOpen_0 : decode prog_3_method_6_code 0 = .ok (.lload_n 0, 1) := by decide +kernel
theorem d_B_isOpen_1 : decode prog_3_method_6_code 1 = .ok (.bipush 27, 2) := by decide +kernel
theorem d_B_isOpen_3 : decode prog_3_method_6_code 3 = .ok (.iload_n 2, 1) := by decide +kernel
theorem d_B_isOpen_4 : decode prog_3_method_6_code 4 = .ok (.iadd, 1) := by decide +kernel
theorem d_B_isOpen_5 : decode prog_3_method_6_code 5 = .ok (.lushr, 1) := by decide +kernel
theorem d_B_isOpen_6 : decode prog_3_method_6_code 6 = .ok (.lconst 1, 1) := by decide +kernel
theorem d_B_isOpen_7 : decode prog_3_method_6_code 7 = .ok (.land, 1) := by decide +kernel
theorem d_B_isOpen_8 : decode prog_3_method_6_code 8 = .ok (.lconst 0, 1) := by decide +kernel
theorem d_B_isOpen_9 : decode prog_3_method_6_code 9 = .ok (.lcmp, 1) := by decide +kernel
theorem d_B_isOpen_10 : decode prog_3_method_6_code 10 = .ok (.ifCond .eq 7, 3) := by decide +kernel
theorem d_B_isOpen_17 : decode prog_3_method_6_code 17 = .ok (.iconst 0, 1) := by decide +kernel
theorem d_B_isOpen_18 : decode prog_3_method_6_code 18 = .ok (.ireturn, 1) := by decide +kernel
theorem d_B_isOpen_13 : decode prog_3_method_6_code 13 = .ok (.iconst 1, 1) := by decide +kernel
theorem d_B_isOpen_14 : decode prog_3_method_6_code 14 = .ok (.goto 4, 3) := by decide +kernel
theorem d_B_roomOf_0 : decode prog_3_method_2_code 0 = .ok (.lload_n 0, 1) := by decide +kernel
theorem d_B_roomOf_1 : decode prog_3_method_2_code 1 = .ok (.l2i, 1) := by decide +kernel
theorem d_B_roomOf_2 : decode prog_3_method_2_code 2 = .ok (.bipush 7, 2) := by decide +kernel
theorem d_B_roomOf_4 : decode prog_3_method_2_code 4 = .ok (.iand, 1) := by decide +kernel
theorem d_B_roomOf_5 : decode prog_3_method_2_code 5 = .ok (.ireturn, 1) := by decide +kernel
theorem d_B_isSeen_0 : decode prog_3_method_17_code 0 = .ok (.lload_n 0, 1) := by decide +kernel
theorem d_B_isSeen_1 : decode prog_3_method_17_code 1 = .ok (.iload_n 2, 1) := by decide +kernel
theorem d_B_isSeen_2 : decode prog_3_method_17_code 2 = .ok (.invokestatic 19, 3) := by decide +kernel
theorem d_B_isSeen_5 : decode prog_3_method_17_code 5 = .ok (.istore_n 3, 1) := by decide +kernel
theorem d_B_isSeen_6 : decode prog_3_method_17_code 6 = .ok (.iconst 0, 1) := by decide +kernel
theorem d_B_isSeen_7 : decode prog_3_method_17_code 7 = .ok (.istore 4, 2) := by decide +kernel
theorem d_B_isSeen_9 : decode prog_3_method_17_code 9 = .ok (.iload 4, 2) := by decide +kernel
theorem d_B_isSeen_11 : decode prog_3_method_17_code 11 = .ok (.bipush 6, 2) := by decide +kernel
theorem d_B_isSeen_13 : decode prog_3_method_17_code 13 = .ok (.if_icmp .ge 37, 3) := by decide +kernel
theorem d_B_isSeen_16 : decode prog_3_method_17_code 16 = .ok (.iload_n 3, 1) := by decide +kernel
theorem d_B_isSeen_17 : decode prog_3_method_17_code 17 = .ok (.bipush 7, 2) := by decide +kernel
theorem d_B_isSeen_19 : decode prog_3_method_17_code 19 = .ok (.if_icmp .lt 31, 3) := by decide +kernel
theorem d_B_isSeen_22 : decode prog_3_method_17_code 22 = .ok (.lload_n 0, 1) := by decide +kernel
theorem d_B_isSeen_23 : decode prog_3_method_17_code 23 = .ok (.iload_n 3, 1) := by decide +kernel
theorem d_B_isSeen_24 : decode prog_3_method_17_code 24 = .ok (.bipush 7, 2) := by decide +kernel
theorem d_B_isSeen_26 : decode prog_3_method_17_code 26 = .ok (.isub, 1) := by decide +kernel
theorem d_B_isSeen_27 : decode prog_3_method_17_code 27 = .ok (.invokestatic 23, 3) := by decide +kernel
theorem d_B_isSeen_30 : decode prog_3_method_17_code 30 = .ok (.ifCond .ne 5, 3) := by decide +kernel
theorem d_B_isSeen_35 : decode prog_3_method_17_code 35 = .ok (.lload_n 0, 1) := by decide +kernel
theorem d_B_isSeen_36 : decode prog_3_method_17_code 36 = .ok (.iload_n 3, 1) := by decide +kernel
theorem d_B_isSeen_37 : decode prog_3_method_17_code 37 = .ok (.bipush 7, 2) := by decide +kernel
theorem d_B_isSeen_39 : decode prog_3_method_17_code 39 = .ok (.isub, 1) := by decide +kernel
theorem d_B_isSeen_40 : decode prog_3_method_17_code 40 = .ok (.invokestatic 19, 3) := by decide +kernel
theorem d_B_isSeen_43 : decode prog_3_method_17_code 43 = .ok (.istore_n 3, 1) := by decide +kernel
theorem d_B_isSeen_44 : decode prog_3_method_17_code 44 = .ok (.iinc 4 1, 3) := by decide +kernel
theorem d_B_isSeen_47 : decode prog_3_method_17_code 47 = .ok (.goto (-38), 3) := by decide +kernel
theorem d_B_isSeen_33 : decode prog_3_method_17_code 33 = .ok (.iconst 0, 1) := by decide +kernel
theorem d_B_isSeen_34 : decode prog_3_method_17_code 34 = .ok (.ireturn, 1) := by decide +kernel
theorem d_B_isSeen_50 : decode prog_3_method_17_code 50 = .ok (.iload_n 3, 1) := by decide +kernel
theorem d_B_isSeen_51 : decode prog_3_method_17_code 51 = .ok (.bipush 6, 2) := by decide +kernel
theorem d_B_isSeen_53 : decode prog_3_method_17_code 53 = .ok (.if_icmp .eq 11, 3) := by decide +kernel
theorem d_B_isSeen_64 : decode prog_3_method_17_code 64 = .ok (.iconst 1, 1) := by decide +kernel
theorem d_B_isSeen_65 : decode prog_3_method_17_code 65 = .ok (.goto 4, 3) := by decide +kernel
theorem d_B_isSeen_69 : decode prog_3_method_17_code 69 = .ok (.ireturn, 1) := by decide +kernel
theorem d_B_isSeen_56 : decode prog_3_method_17_code 56 = .ok (.iload_n 3, 1) := by decide +kernel
theorem d_B_isSeen_57 : decode prog_3_method_17_code 57 = .ok (.lload_n 0, 1) := by decide +kernel
theorem d_B_isSeen_58 : decode prog_3_method_17_code 58 = .ok (.invokestatic 27, 3) := by decide +kernel
theorem d_B_isSeen_61 : decode prog_3_method_17_code 61 = .ok (.if_icmp .ne 7, 3) := by decide +kernel
theorem d_B_isSeen_68 : decode prog_3_method_17_code 68 = .ok (.iconst 0, 1) := by decide +kernel
theorem d_E_isSeenOrNone_0 : decode prog_6_method_4_code 0 = .ok (.iload_n 1, 1) := by decide +kernel
theorem d_E_isSeenOrNone_1 : decode prog_6_method_4_code 1 = .ok (.iconst (-1), 1) := by decide +kernel
theorem d_E_isSeenOrNone_2 : decode prog_6_method_4_code 2 = .ok (.if_icmp .eq 14, 3) := by decide +kernel
theorem d_E_isSeenOrNone_16 : decode prog_6_method_4_code 16 = .ok (.iconst 1, 1) := by decide +kernel
theorem d_E_isSeenOrNone_17 : decode prog_6_method_4_code 17 = .ok (.goto 4, 3) := by decide +kernel
theorem d_E_isSeenOrNone_21 : decode prog_6_method_4_code 21 = .ok (.ireturn, 1) := by decide +kernel
theorem d_E_isSeenOrNone_5 : decode prog_6_method_4_code 5 = .ok (.aload_n 0, 1) := by decide +kernel
theorem d_E_isSeenOrNone_6 : decode prog_6_method_4_code 6 = .ok (.getfield 22, 3) := by decide +kernel
theorem d_E_isSeenOrNone_9 : decode prog_6_method_4_code 9 = .ok (.iload_n 1, 1) := by decide +kernel
theorem d_E_isSeenOrNone_10 : decode prog_6_method_4_code 10 = .ok (.invokestatic 86, 3) := by decide +kernel
theorem d_E_isSeenOrNone_13 : decode prog_6_method_4_code 13 = .ok (.ifCond .eq 7, 3) := by decide +kernel
theorem d_E_isSeenOrNone_20 : decode prog_6_method_4_code 20 = .ok (.iconst 0, 1) := by decide +kernel
theorem d_R_answers_0 : decode prog_7_method_3_code 0 = .ok (.aload_n 0, 1) := by decide +kernel
theorem d_R_answers_1 : decode prog_7_method_3_code 1 = .ok (.getfield 9, 3) := by decide +kernel
theorem d_R_answers_4 : decode prog_7_method_3_code 4 = .ok (.iload_n 1, 1) := by decide +kernel
theorem d_R_answers_5 : decode prog_7_method_3_code 5 = .ok (.iaload, 1) := by decide +kernel
theorem d_R_answers_6 : decode prog_7_method_3_code 6 = .ok (.iload_n 2, 1) := by decide +kernel
theorem d_R_answers_7 : decode prog_7_method_3_code 7 = .ok (.if_icmp .ne 59, 3) := by decide +kernel
theorem d_R_answers_66 : decode prog_7_method_3_code 66 = .ok (.iconst 0, 1) := by decide +kernel
theorem d_R_answers_67 : decode prog_7_method_3_code 67 = .ok (.ireturn, 1) := by decide +kernel
theorem d_R_answers_10 : decode prog_7_method_3_code 10 = .ok (.aload_n 0, 1) := by decide +kernel
theorem d_R_answers_11 : decode prog_7_method_3_code 11 = .ok (.getfield 15, 3) := by decide +kernel
theorem d_R_answers_14 : decode prog_7_method_3_code 14 = .ok (.iload_n 1, 1) := by decide +kernel
theorem d_R_answers_15 : decode prog_7_method_3_code 15 = .ok (.iaload, 1) := by decide +kernel
theorem d_R_answers_16 : decode prog_7_method_3_code 16 = .ok (.bipush (-2), 2) := by decide +kernel
theorem d_R_answers_18 : decode prog_7_method_3_code 18 = .ok (.if_icmp .eq 13, 3) := by decide +kernel
theorem d_R_answers_21 : decode prog_7_method_3_code 21 = .ok (.aload_n 0, 1) := by decide +kernel
theorem d_R_answers_22 : decode prog_7_method_3_code 22 = .ok (.getfield 15, 3) := by decide +kernel
theorem d_R_answers_25 : decode prog_7_method_3_code 25 = .ok (.iload_n 1, 1) := by decide +kernel
theorem d_R_answers_26 : decode prog_7_method_3_code 26 = .ok (.iaload, 1) := by decide +kernel
theorem d_R_answers_27 : decode prog_7_method_3_code 27 = .ok (.iload_n 3, 1) := by decide +kernel
theorem d_R_answers_28 : decode prog_7_method_3_code 28 = .ok (.if_icmp .ne 38, 3) := by decide +kernel
theorem d_R_answers_31 : decode prog_7_method_3_code 31 = .ok (.aload_n 0, 1) := by decide +kernel
theorem d_R_answers_32 : decode prog_7_method_3_code 32 = .ok (.getfield 18, 3) := by decide +kernel
theorem d_R_answers_35 : decode prog_7_method_3_code 35 = .ok (.iload_n 1, 1) := by decide +kernel
theorem d_R_answers_36 : decode prog_7_method_3_code 36 = .ok (.iaload, 1) := by decide +kernel
theorem d_R_answers_37 : decode prog_7_method_3_code 37 = .ok (.bipush (-2), 2) := by decide +kernel
theorem d_R_answers_39 : decode prog_7_method_3_code 39 = .ok (.if_icmp .eq 14, 3) := by decide +kernel
theorem d_R_answers_42 : decode prog_7_method_3_code 42 = .ok (.aload_n 0, 1) := by decide +kernel
theorem d_R_answers_43 : decode prog_7_method_3_code 43 = .ok (.getfield 18, 3) := by decide +kernel
theorem d_R_answers_46 : decode prog_7_method_3_code 46 = .ok (.iload_n 1, 1) := by decide +kernel
theorem d_R_answers_47 : decode prog_7_method_3_code 47 = .ok (.iaload, 1) := by decide +kernel
theorem d_R_answers_48 : decode prog_7_method_3_code 48 = .ok (.iload 4, 2) := by decide +kernel
theorem d_R_answers_50 : decode prog_7_method_3_code 50 = .ok (.if_icmp .ne 16, 3) := by decide +kernel
theorem d_R_answers_53 : decode prog_7_method_3_code 53 = .ok (.aload_n 0, 1) := by decide +kernel
theorem d_R_answers_54 : decode prog_7_method_3_code 54 = .ok (.getfield 24, 3) := by decide +kernel
theorem d_R_answers_57 : decode prog_7_method_3_code 57 = .ok (.iload_n 1, 1) := by decide +kernel
theorem d_R_answers_58 : decode prog_7_method_3_code 58 = .ok (.baload, 1) := by decide +kernel
theorem d_R_answers_59 : decode prog_7_method_3_code 59 = .ok (.ifCond .ne 7, 3) := by decide +kernel
theorem d_R_answers_62 : decode prog_7_method_3_code 62 = .ok (.iconst 1, 1) := by decide +kernel
theorem d_R_answers_63 : decode prog_7_method_3_code 63 = .ok (.goto 4, 3) := by decide +kernel
theorem d_C_startOf_0 : decode prog_4_method_3_code 0 = .ok (.iload_n 1, 1) := by decide +kernel
theorem d_C_startOf_1 : decode prog_4_method_3_code 1 = .ok (.iconst 3, 1) := by decide +kernel
theorem d_C_startOf_2 : decode prog_4_method_3_code 2 = .ok (.imul, 1) := by decide +kernel
theorem d_C_startOf_3 : decode prog_4_method_3_code 3 = .ok (.ireturn, 1) := by decide +kernel
theorem d_B_amountOf_0 : decode prog_3_method_8_code 0 = .ok (.lload_n 0, 1) := by decide +kernel
theorem d_B_amountOf_1 : decode prog_3_method_8_code 1 = .ok (.bipush 33, 2) := by decide +kernel
theorem d_B_amountOf_3 : decode prog_3_method_8_code 3 = .ok (.iconst 3, 1) := by decide +kernel
theorem d_B_amountOf_4 : decode prog_3_method_8_code 4 = .ok (.iload_n 2, 1) := by decide +kernel
theorem d_B_amountOf_5 : decode prog_3_method_8_code 5 = .ok (.imul, 1) := by decide +kernel
theorem d_B_amountOf_6 : decode prog_3_method_8_code 6 = .ok (.iadd, 1) := by decide +kernel
theorem d_B_amountOf_7 : decode prog_3_method_8_code 7 = .ok (.lushr, 1) := by decide +kernel
theorem d_B_amountOf_8 : decode prog_3_method_8_code 8 = .ok (.l2i, 1) := by decide +kernel
theorem d_B_amountOf_9 : decode prog_3_method_8_code 9 = .ok (.bipush 7, 2) := by decide +kernel
theorem d_B_amountOf_11 : decode prog_3_method_8_code 11 = .ok (.iand, 1) := by decide +kernel
theorem d_B_amountOf_12 : decode prog_3_method_8_code 12 = .ok (.ireturn, 1) := by decide +kernel
theorem d_E_holds_0 : decode prog_6_method_6_code 0 = .ok (.iload_n 1, 1) := by decide +kernel
theorem d_E_holds_1 : decode prog_6_method_6_code 1 = .ok (.tableswitch 111 0 3 #[31, 48, 66, 93], 31) := by decide +kernel
theorem d_E_holds_32 : decode prog_6_method_6_code 32 = .ok (.aload_n 0, 1) := by decide +kernel
theorem d_E_holds_33 : decode prog_6_method_6_code 33 = .ok (.getfield 22, 3) := by decide +kernel
theorem d_E_holds_36 : decode prog_6_method_6_code 36 = .ok (.invokestatic 115, 3) := by decide +kernel
theorem d_E_holds_39 : decode prog_6_method_6_code 39 = .ok (.iload_n 2, 1) := by decide +kernel
theorem d_E_holds_40 : decode prog_6_method_6_code 40 = .ok (.if_icmp .ne 7, 3) := by decide +kernel
theorem d_E_holds_47 : decode prog_6_method_6_code 47 = .ok (.iconst 0, 1) := by decide +kernel
theorem d_E_holds_48 : decode prog_6_method_6_code 48 = .ok (.ireturn, 1) := by decide +kernel
theorem d_E_holds_43 : decode prog_6_method_6_code 43 = .ok (.iconst 1, 1) := by decide +kernel
theorem d_E_holds_44 : decode prog_6_method_6_code 44 = .ok (.goto 4, 3) := by decide +kernel
theorem d_E_holds_49 : decode prog_6_method_6_code 49 = .ok (.aload_n 0, 1) := by decide +kernel
theorem d_E_holds_50 : decode prog_6_method_6_code 50 = .ok (.getfield 22, 3) := by decide +kernel
theorem d_E_holds_53 : decode prog_6_method_6_code 53 = .ok (.iload_n 2, 1) := by decide +kernel
theorem d_E_holds_54 : decode prog_6_method_6_code 54 = .ok (.invokestatic 119, 3) := by decide +kernel
theorem d_E_holds_57 : decode prog_6_method_6_code 57 = .ok (.iload_n 3, 1) := by decide +kernel
theorem d_E_holds_58 : decode prog_6_method_6_code 58 = .ok (.if_icmp .ne 7, 3) := by decide +kernel
theorem d_E_holds_65 : decode prog_6_method_6_code 65 = .ok (.iconst 0, 1) := by decide +kernel
theorem d_E_holds_66 : decode prog_6_method_6_code 66 = .ok (.ireturn, 1) := by decide +kernel
theorem d_E_holds_61 : decode prog_6_method_6_code 61 = .ok (.iconst 1, 1) := by decide +kernel
theorem d_E_holds_62 : decode prog_6_method_6_code 62 = .ok (.goto 4, 3) := by decide +kernel
theorem d_E_holds_67 : decode prog_6_method_6_code 67 = .ok (.aload_n 0, 1) := by decide +kernel
theorem d_E_holds_68 : decode prog_6_method_6_code 68 = .ok (.getfield 22, 3) := by decide +kernel
theorem d_E_holds_71 : decode prog_6_method_6_code 71 = .ok (.iload_n 2, 1) := by decide +kernel
theorem d_E_holds_72 : decode prog_6_method_6_code 72 = .ok (.invokestatic 123, 3) := by decide +kernel
theorem d_E_holds_75 : decode prog_6_method_6_code 75 = .ok (.iload_n 3, 1) := by decide +kernel
theorem d_E_holds_76 : decode prog_6_method_6_code 76 = .ok (.iconst 1, 1) := by decide +kernel
theorem d_E_holds_77 : decode prog_6_method_6_code 77 = .ok (.if_icmp .ne 7, 3) := by decide +kernel
theorem d_E_holds_84 : decode prog_6_method_6_code 84 = .ok (.iconst 0, 1) := by decide +kernel
theorem d_E_holds_85 : decode prog_6_method_6_code 85 = .ok (.if_icmp .ne 7, 3) := by decide +kernel
theorem d_E_holds_92 : decode prog_6_method_6_code 92 = .ok (.iconst 0, 1) := by decide +kernel
theorem d_E_holds_93 : decode prog_6_method_6_code 93 = .ok (.ireturn, 1) := by decide +kernel
theorem d_E_holds_88 : decode prog_6_method_6_code 88 = .ok (.iconst 1, 1) := by decide +kernel
theorem d_E_holds_89 : decode prog_6_method_6_code 89 = .ok (.goto 4, 3) := by decide +kernel
theorem d_E_holds_80 : decode prog_6_method_6_code 80 = .ok (.iconst 1, 1) := by decide +kernel
theorem d_E_holds_81 : decode prog_6_method_6_code 81 = .ok (.goto 4, 3) := by decide +kernel
theorem d_E_holds_94 : decode prog_6_method_6_code 94 = .ok (.aload_n 0, 1) := by decide +kernel
theorem d_E_holds_95 : decode prog_6_method_6_code 95 = .ok (.getfield 22, 3) := by decide +kernel
theorem d_E_holds_98 : decode prog_6_method_6_code 98 = .ok (.iload_n 2, 1) := by decide +kernel
theorem d_E_holds_99 : decode prog_6_method_6_code 99 = .ok (.invokestatic 126, 3) := by decide +kernel
theorem d_E_holds_102 : decode prog_6_method_6_code 102 = .ok (.iload_n 3, 1) := by decide +kernel
theorem d_E_holds_103 : decode prog_6_method_6_code 103 = .ok (.if_icmp .lt 7, 3) := by decide +kernel
theorem d_E_holds_110 : decode prog_6_method_6_code 110 = .ok (.iconst 0, 1) := by decide +kernel
theorem d_E_holds_111 : decode prog_6_method_6_code 111 = .ok (.ireturn, 1) := by decide +kernel
theorem d_E_holds_106 : decode prog_6_method_6_code 106 = .ok (.iconst 1, 1) := by decide +kernel
theorem d_E_holds_107 : decode prog_6_method_6_code 107 = .ok (.goto 4, 3) := by decide +kernel
theorem d_E_holds_112 : decode prog_6_method_6_code 112 = .ok (.aload_n 0, 1) := by decide +kernel
theorem d_E_holds_113 : decode prog_6_method_6_code 113 = .ok (.getfield 22, 3) := by decide +kernel
theorem d_E_holds_116 : decode prog_6_method_6_code 116 = .ok (.iload_n 2, 1) := by decide +kernel
theorem d_E_holds_117 : decode prog_6_method_6_code 117 = .ok (.invokestatic 126, 3) := by decide +kernel
theorem d_E_holds_120 : decode prog_6_method_6_code 120 = .ok (.iload_n 3, 1) := by decide +kernel
theorem d_E_holds_121 : decode prog_6_method_6_code 121 = .ok (.if_icmp .gt 7, 3) := by decide +kernel
theorem d_E_holds_128 : decode prog_6_method_6_code 128 = .ok (.iconst 0, 1) := by decide +kernel
theorem d_E_holds_129 : decode prog_6_method_6_code 129 = .ok (.ireturn, 1) := by decide +kernel
theorem d_E_holds_124 : decode prog_6_method_6_code 124 = .ok (.iconst 1, 1) := by decide +kernel
theorem d_E_holds_125 : decode prog_6_method_6_code 125 = .ok (.goto 4, 3) := by decide +kernel
theorem d_E_conditionsHold_0 : decode prog_6_method_5_code 0 = .ok (.aload_n 0, 1) := by decide +kernel
theorem d_E_conditionsHold_1 : decode prog_6_method_5_code 1 = .ok (.getfield 12, 3) := by decide +kernel
theorem d_E_conditionsHold_4 : decode prog_6_method_5_code 4 = .ok (.getfield 73, 3) := by decide +kernel
theorem d_E_conditionsHold_7 : decode prog_6_method_5_code 7 = .ok (.getfield 90, 3) := by decide +kernel
theorem d_E_conditionsHold_10 : decode prog_6_method_5_code 10 = .ok (.astore_n 2, 1) := by decide +kernel
theorem d_E_conditionsHold_11 : decode prog_6_method_5_code 11 = .ok (.aload_n 2, 1) := by decide +kernel
theorem d_E_conditionsHold_12 : decode prog_6_method_5_code 12 = .ok (.iload_n 1, 1) := by decide +kernel
theorem d_E_conditionsHold_13 : decode prog_6_method_5_code 13 = .ok (.invokevirtual 94, 3) := by decide +kernel
theorem d_E_conditionsHold_16 : decode prog_6_method_5_code 16 = .ok (.istore_n 3, 1) := by decide +kernel
theorem d_E_conditionsHold_17 : decode prog_6_method_5_code 17 = .ok (.aload_n 2, 1) := by decide +kernel
theorem d_E_conditionsHold_18 : decode prog_6_method_5_code 18 = .ok (.iload_n 1, 1) := by decide +kernel
theorem d_E_conditionsHold_19 : decode prog_6_method_5_code 19 = .ok (.invokevirtual 100, 3) := by decide +kernel
theorem d_E_conditionsHold_22 : decode prog_6_method_5_code 22 = .ok (.istore 4, 2) := by decide +kernel
theorem d_E_conditionsHold_24 : decode prog_6_method_5_code 24 = .ok (.iload 4, 2) := by decide +kernel
theorem d_E_conditionsHold_26 : decode prog_6_method_5_code 26 = .ok (.iload_n 3, 1) := by decide +kernel
theorem d_E_conditionsHold_27 : decode prog_6_method_5_code 27 = .ok (.if_icmp .ge 39, 3) := by decide +kernel
theorem d_E_conditionsHold_66 : decode prog_6_method_5_code 66 = .ok (.iconst 1, 1) := by decide +kernel
theorem d_E_conditionsHold_67 : decode prog_6_method_5_code 67 = .ok (.ireturn, 1) := by decide +kernel
theorem d_E_conditionsHold_30 : decode prog_6_method_5_code 30 = .ok (.aload_n 0, 1) := by decide +kernel
theorem d_E_conditionsHold_31 : decode prog_6_method_5_code 31 = .ok (.aload_n 2, 1) := by decide +kernel
theorem d_E_conditionsHold_32 : decode prog_6_method_5_code 32 = .ok (.getfield 103, 3) := by decide +kernel
theorem d_E_conditionsHold_35 : decode prog_6_method_5_code 35 = .ok (.iload 4, 2) := by decide +kernel
theorem d_E_conditionsHold_37 : decode prog_6_method_5_code 37 = .ok (.iaload, 1) := by decide +kernel
theorem d_E_conditionsHold_38 : decode prog_6_method_5_code 38 = .ok (.aload_n 2, 1) := by decide +kernel
theorem d_E_conditionsHold_39 : decode prog_6_method_5_code 39 = .ok (.getfield 106, 3) := by decide +kernel
theorem d_E_conditionsHold_42 : decode prog_6_method_5_code 42 = .ok (.iload 4, 2) := by decide +kernel
theorem d_E_conditionsHold_44 : decode prog_6_method_5_code 44 = .ok (.iaload, 1) := by decide +kernel
theorem d_E_conditionsHold_45 : decode prog_6_method_5_code 45 = .ok (.aload_n 2, 1) := by decide +kernel
theorem d_E_conditionsHold_46 : decode prog_6_method_5_code 46 = .ok (.getfield 109, 3) := by decide +kernel
theorem d_E_conditionsHold_49 : decode prog_6_method_5_code 49 = .ok (.iload 4, 2) := by decide +kernel
theorem d_E_conditionsHold_51 : decode prog_6_method_5_code 51 = .ok (.iaload, 1) := by decide +kernel
theorem d_E_conditionsHold_52 : decode prog_6_method_5_code 52 = .ok (.invokevirtual 112, 3) := by decide +kernel
theorem d_E_conditionsHold_55 : decode prog_6_method_5_code 55 = .ok (.ifCond .ne 5, 3) := by decide +kernel
theorem d_E_conditionsHold_60 : decode prog_6_method_5_code 60 = .ok (.iinc 4 1, 3) := by decide +kernel
theorem d_E_conditionsHold_63 : decode prog_6_method_5_code 63 = .ok (.goto (-39), 3) := by decide +kernel
theorem d_E_conditionsHold_58 : decode prog_6_method_5_code 58 = .ok (.iconst 0, 1) := by decide +kernel
theorem d_E_conditionsHold_59 : decode prog_6_method_5_code 59 = .ok (.ireturn, 1) := by decide +kernel
theorem d_E_fittingRule_0 : decode prog_6_method_3_code 0 = .ok (.iload_n 1, 1) := by decide +kernel
theorem d_E_fittingRule_1 : decode prog_6_method_3_code 1 = .ok (.ifCond .eq 21, 3) := by decide +kernel
theorem d_E_fittingRule_4 : decode prog_6_method_3_code 4 = .ok (.aload_n 0, 1) := by decide +kernel
theorem d_E_fittingRule_5 : decode prog_6_method_3_code 5 = .ok (.iload_n 2, 1) := by decide +kernel
theorem d_E_fittingRule_6 : decode prog_6_method_3_code 6 = .ok (.invokevirtual 70, 3) := by decide +kernel
theorem d_E_fittingRule_9 : decode prog_6_method_3_code 9 = .ok (.ifCond .eq 11, 3) := by decide +kernel
theorem d_E_fittingRule_20 : decode prog_6_method_3_code 20 = .ok (.iconst (-1), 1) := by decide +kernel
theorem d_E_fittingRule_21 : decode prog_6_method_3_code 21 = .ok (.ireturn, 1) := by decide +kernel
theorem d_E_fittingRule_12 : decode prog_6_method_3_code 12 = .ok (.aload_n 0, 1) := by decide +kernel
theorem d_E_fittingRule_13 : decode prog_6_method_3_code 13 = .ok (.iload_n 3, 1) := by decide +kernel
theorem d_E_fittingRule_14 : decode prog_6_method_3_code 14 = .ok (.invokevirtual 70, 3) := by decide +kernel
theorem d_E_fittingRule_17 : decode prog_6_method_3_code 17 = .ok (.ifCond .ne 5, 3) := by decide +kernel
theorem d_E_fittingRule_22 : decode prog_6_method_3_code 22 = .ok (.iconst 0, 1) := by decide +kernel
theorem d_E_fittingRule_23 : decode prog_6_method_3_code 23 = .ok (.istore 4, 2) := by decide +kernel
theorem d_E_fittingRule_25 : decode prog_6_method_3_code 25 = .ok (.iload 4, 2) := by decide +kernel
theorem d_E_fittingRule_27 : decode prog_6_method_3_code 27 = .ok (.aload_n 0, 1) := by decide +kernel
theorem d_E_fittingRule_28 : decode prog_6_method_3_code 28 = .ok (.getfield 12, 3) := by decide +kernel
theorem d_E_fittingRule_31 : decode prog_6_method_3_code 31 = .ok (.getfield 73, 3) := by decide +kernel
theorem d_E_fittingRule_34 : decode prog_6_method_3_code 34 = .ok (.getfield 77, 3) := by decide +kernel
theorem d_E_fittingRule_37 : decode prog_6_method_3_code 37 = .ok (.if_icmp .ge 39, 3) := by decide +kernel
theorem d_E_fittingRule_76 : decode prog_6_method_3_code 76 = .ok (.iconst (-1), 1) := by decide +kernel
theorem d_E_fittingRule_77 : decode prog_6_method_3_code 77 = .ok (.ireturn, 1) := by decide +kernel
theorem d_E_fittingRule_40 : decode prog_6_method_3_code 40 = .ok (.aload_n 0, 1) := by decide +kernel
theorem d_E_fittingRule_41 : decode prog_6_method_3_code 41 = .ok (.getfield 12, 3) := by decide +kernel
theorem d_E_fittingRule_44 : decode prog_6_method_3_code 44 = .ok (.getfield 73, 3) := by decide +kernel
theorem d_E_fittingRule_47 : decode prog_6_method_3_code 47 = .ok (.iload 4, 2) := by decide +kernel
theorem d_E_fittingRule_49 : decode prog_6_method_3_code 49 = .ok (.iload_n 1, 1) := by decide +kernel
theorem d_E_fittingRule_50 : decode prog_6_method_3_code 50 = .ok (.iload_n 2, 1) := by decide +kernel
theorem d_E_fittingRule_51 : decode prog_6_method_3_code 51 = .ok (.iload_n 3, 1) := by decide +kernel
theorem d_E_fittingRule_52 : decode prog_6_method_3_code 52 = .ok (.invokevirtual 82, 3) := by decide +kernel
theorem d_E_fittingRule_55 : decode prog_6_method_3_code 55 = .ok (.ifCond .eq 15, 3) := by decide +kernel
theorem d_E_fittingRule_70 : decode prog_6_method_3_code 70 = .ok (.iinc 4 1, 3) := by decide +kernel
theorem d_E_fittingRule_73 : decode prog_6_method_3_code 73 = .ok (.goto (-48), 3) := by decide +kernel
theorem d_E_fittingRule_58 : decode prog_6_method_3_code 58 = .ok (.aload_n 0, 1) := by decide +kernel
theorem d_E_fittingRule_59 : decode prog_6_method_3_code 59 = .ok (.iload 4, 2) := by decide +kernel
theorem d_E_fittingRule_61 : decode prog_6_method_3_code 61 = .ok (.invokevirtual 67, 3) := by decide +kernel
theorem d_E_fittingRule_64 : decode prog_6_method_3_code 64 = .ok (.ifCond .eq 6, 3) := by decide +kernel
theorem d_E_fittingRule_67 : decode prog_6_method_3_code 67 = .ok (.iload 4, 2) := by decide +kernel
theorem d_E_fittingRule_69 : decode prog_6_method_3_code 69 = .ok (.ireturn, 1) := by decide +kernel
theorem d_E_say_0 : decode prog_6_method_17_code 0 = .ok (.aload_n 0, 1) := by decide +kernel
theorem d_E_say_1 : decode prog_6_method_17_code 1 = .ok (.getfield 26, 3) := by decide +kernel
theorem d_E_say_4 : decode prog_6_method_17_code 4 = .ok (.iconst 3, 1) := by decide +kernel
theorem d_E_say_5 : decode prog_6_method_17_code 5 = .ok (.if_icmp .ge 23, 3) := by decide +kernel
theorem d_E_say_28 : decode prog_6_method_17_code 28 = .ok (.return_, 1) := by decide +kernel
theorem d_E_say_8 : decode prog_6_method_17_code 8 = .ok (.aload_n 0, 1) := by decide +kernel
theorem d_E_say_9 : decode prog_6_method_17_code 9 = .ok (.getfield 18, 3) := by decide +kernel
theorem d_E_say_12 : decode prog_6_method_17_code 12 = .ok (.aload_n 0, 1) := by decide +kernel
theorem d_E_say_13 : decode prog_6_method_17_code 13 = .ok (.getfield 26, 3) := by decide +kernel
theorem d_E_say_16 : decode prog_6_method_17_code 16 = .ok (.iload_n 1, 1) := by decide +kernel
theorem d_E_say_17 : decode prog_6_method_17_code 17 = .ok (.iastore, 1) := by decide +kernel
theorem d_E_say_18 : decode prog_6_method_17_code 18 = .ok (.aload_n 0, 1) := by decide +kernel
theorem d_E_say_19 : decode prog_6_method_17_code 19 = .ok (.dup, 1) := by decide +kernel
theorem d_E_say_20 : decode prog_6_method_17_code 20 = .ok (.getfield 26, 3) := by decide +kernel
theorem d_E_say_23 : decode prog_6_method_17_code 23 = .ok (.iconst 1, 1) := by decide +kernel
theorem d_E_say_24 : decode prog_6_method_17_code 24 = .ok (.iadd, 1) := by decide +kernel
theorem d_E_say_25 : decode prog_6_method_17_code 25 = .ok (.putfield 26, 3) := by decide +kernel
theorem d_B_endingOf_0 : decode prog_3_method_15_code 0 = .ok (.lload_n 0, 1) := by decide +kernel
theorem d_B_endingOf_1 : decode prog_3_method_15_code 1 = .ok (.bipush 54, 2) := by decide +kernel
theorem d_B_endingOf_3 : decode prog_3_method_15_code 3 = .ok (.lushr, 1) := by decide +kernel
theorem d_B_endingOf_4 : decode prog_3_method_15_code 4 = .ok (.l2i, 1) := by decide +kernel
theorem d_B_endingOf_5 : decode prog_3_method_15_code 5 = .ok (.bipush 7, 2) := by decide +kernel
theorem d_B_endingOf_7 : decode prog_3_method_15_code 7 = .ok (.iand, 1) := by decide +kernel
theorem d_B_endingOf_8 : decode prog_3_method_15_code 8 = .ok (.iconst 1, 1) := by decide +kernel
theorem d_B_endingOf_9 : decode prog_3_method_15_code 9 = .ok (.isub, 1) := by decide +kernel
theorem d_B_endingOf_10 : decode prog_3_method_15_code 10 = .ok (.ireturn, 1) := by decide +kernel
theorem d_B_isOver_0 : decode prog_3_method_14_code 0 = .ok (.lload_n 0, 1) := by decide +kernel
theorem d_B_isOver_1 : decode prog_3_method_14_code 1 = .ok (.invokestatic 15, 3) := by decide +kernel
theorem d_B_isOver_4 : decode prog_3_method_14_code 4 = .ok (.iconst (-1), 1) := by decide +kernel
theorem d_B_isOver_5 : decode prog_3_method_14_code 5 = .ok (.if_icmp .eq 7, 3) := by decide +kernel
theorem d_B_isOver_12 : decode prog_3_method_14_code 12 = .ok (.iconst 0, 1) := by decide +kernel
theorem d_B_isOver_13 : decode prog_3_method_14_code 13 = .ok (.ireturn, 1) := by decide +kernel
theorem d_B_isOver_8 : decode prog_3_method_14_code 8 = .ok (.iconst 1, 1) := by decide +kernel
theorem d_B_isOver_9 : decode prog_3_method_14_code 9 = .ok (.goto 4, 3) := by decide +kernel
theorem d_B_withEnding_0 : decode prog_3_method_16_code 0 = .ok (.lload_n 0, 1) := by decide +kernel
theorem d_B_withEnding_1 : decode prog_3_method_16_code 1 = .ok (.bipush 54, 2) := by decide +kernel
theorem d_B_withEnding_3 : decode prog_3_method_16_code 3 = .ok (.bipush 7, 2) := by decide +kernel
theorem d_B_withEnding_5 : decode prog_3_method_16_code 5 = .ok (.iload_n 2, 1) := by decide +kernel
theorem d_B_withEnding_6 : decode prog_3_method_16_code 6 = .ok (.iconst 1, 1) := by decide +kernel
theorem d_B_withEnding_7 : decode prog_3_method_16_code 7 = .ok (.iadd, 1) := by decide +kernel
theorem d_B_withEnding_8 : decode prog_3_method_16_code 8 = .ok (.invokestatic 9, 3) := by decide +kernel
theorem d_B_withEnding_11 : decode prog_3_method_16_code 11 = .ok (.lreturn, 1) := by decide +kernel
theorem d_B_isPartOf_0 : decode prog_3_method_18_code 0 = .ok (.iload_n 2, 1) := by decide +kernel
theorem d_B_isPartOf_1 : decode prog_3_method_18_code 1 = .ok (.istore 4, 2) := by decide +kernel
theorem d_B_isPartOf_3 : decode prog_3_method_18_code 3 = .ok (.iconst 0, 1) := by decide +kernel
theorem d_B_isPartOf_4 : decode prog_3_method_18_code 4 = .ok (.istore 5, 2) := by decide +kernel
theorem d_B_isPartOf_6 : decode prog_3_method_18_code 6 = .ok (.iload 5, 2) := by decide +kernel
theorem d_B_isPartOf_8 : decode prog_3_method_18_code 8 = .ok (.bipush 6, 2) := by decide +kernel
theorem d_B_isPartOf_10 : decode prog_3_method_18_code 10 = .ok (.if_icmp .ge 33, 3) := by decide +kernel
theorem d_B_isPartOf_43 : decode prog_3_method_18_code 43 = .ok (.iconst 0, 1) := by decide +kernel
theorem d_B_isPartOf_44 : decode prog_3_method_18_code 44 = .ok (.ireturn, 1) := by decide +kernel
theorem d_B_isPartOf_13 : decode prog_3_method_18_code 13 = .ok (.iload 4, 2) := by decide +kernel
theorem d_B_isPartOf_15 : decode prog_3_method_18_code 15 = .ok (.ifCond .lt 28, 3) := by decide +kernel
theorem d_B_isPartOf_18 : decode prog_3_method_18_code 18 = .ok (.iload 4, 2) := by decide +kernel
theorem d_B_isPartOf_20 : decode prog_3_method_18_code 20 = .ok (.iload_n 3, 1) := by decide +kernel
theorem d_B_isPartOf_21 : decode prog_3_method_18_code 21 = .ok (.if_icmp .ne 5, 3) := by decide +kernel
theorem d_B_isPartOf_26 : decode prog_3_method_18_code 26 = .ok (.lload_n 0, 1) := by decide +kernel
theorem d_B_isPartOf_27 : decode prog_3_method_18_code 27 = .ok (.iload 4, 2) := by decide +kernel
theorem d_B_isPartOf_29 : decode prog_3_method_18_code 29 = .ok (.invokestatic 19, 3) := by decide +kernel
theorem d_B_isPartOf_32 : decode prog_3_method_18_code 32 = .ok (.bipush 7, 2) := by decide +kernel
theorem d_B_isPartOf_34 : decode prog_3_method_18_code 34 = .ok (.isub, 1) := by decide +kernel
theorem d_B_isPartOf_35 : decode prog_3_method_18_code 35 = .ok (.istore 4, 2) := by decide +kernel
theorem d_B_isPartOf_37 : decode prog_3_method_18_code 37 = .ok (.iinc 5 1, 3) := by decide +kernel
theorem d_B_isPartOf_40 : decode prog_3_method_18_code 40 = .ok (.goto (-34), 3) := by decide +kernel
theorem d_B_isPartOf_24 : decode prog_3_method_18_code 24 = .ok (.iconst 1, 1) := by decide +kernel
theorem d_B_isPartOf_25 : decode prog_3_method_18_code 25 = .ok (.ireturn, 1) := by decide +kernel
theorem d_B_withRoom_0 : decode prog_3_method_3_code 0 = .ok (.lload_n 0, 1) := by decide +kernel
theorem d_B_withRoom_1 : decode prog_3_method_3_code 1 = .ok (.iconst 0, 1) := by decide +kernel
theorem d_B_withRoom_2 : decode prog_3_method_3_code 2 = .ok (.bipush 7, 2) := by decide +kernel
theorem d_B_withRoom_4 : decode prog_3_method_3_code 4 = .ok (.iload_n 2, 1) := by decide +kernel
theorem d_B_withRoom_5 : decode prog_3_method_3_code 5 = .ok (.invokestatic 9, 3) := by decide +kernel
theorem d_B_withRoom_8 : decode prog_3_method_3_code 8 = .ok (.lreturn, 1) := by decide +kernel
theorem d_E_doEffect_0 : decode prog_6_method_8_code 0 = .ok (.iload_n 1, 1) := by decide +kernel
theorem d_E_doEffect_1 : decode prog_6_method_8_code 1 = .ok (.tableswitch 144 0 3 #[31, 46, 83, 99], 31) := by decide +kernel
theorem d_E_doEffect_32 : decode prog_6_method_8_code 32 = .ok (.aload_n 0, 1) := by decide +kernel
theorem d_E_doEffect_33 : decode prog_6_method_8_code 33 = .ok (.aload_n 0, 1) := by decide +kernel
theorem d_E_doEffect_34 : decode prog_6_method_8_code 34 = .ok (.getfield 22, 3) := by decide +kernel
theorem d_E_doEffect_37 : decode prog_6_method_8_code 37 = .ok (.iload_n 2, 1) := by decide +kernel
theorem d_E_doEffect_38 : decode prog_6_method_8_code 38 = .ok (.invokestatic 137, 3) := by decide +kernel
theorem d_E_doEffect_41 : decode prog_6_method_8_code 41 = .ok (.putfield 22, 3) := by decide +kernel
theorem d_E_doEffect_44 : decode prog_6_method_8_code 44 = .ok (.goto 113, 3) := by decide +kernel
theorem d_E_doEffect_157 : decode prog_6_method_8_code 157 = .ok (.return_, 1) := by decide +kernel
theorem d_E_doEffect_47 : decode prog_6_method_8_code 47 = .ok (.iload_n 3, 1) := by decide +kernel
theorem d_E_doEffect_48 : decode prog_6_method_8_code 48 = .ok (.bipush 7, 2) := by decide +kernel
theorem d_E_doEffect_50 : decode prog_6_method_8_code 50 = .ok (.if_icmp .lt 18, 3) := by decide +kernel
theorem d_E_doEffect_53 : decode prog_6_method_8_code 53 = .ok (.aload_n 0, 1) := by decide +kernel
theorem d_E_doEffect_54 : decode prog_6_method_8_code 54 = .ok (.getfield 22, 3) := by decide +kernel
theorem d_E_doEffect_57 : decode prog_6_method_8_code 57 = .ok (.iload_n 3, 1) := by decide +kernel
theorem d_E_doEffect_58 : decode prog_6_method_8_code 58 = .ok (.bipush 7, 2) := by decide +kernel
theorem d_E_doEffect_60 : decode prog_6_method_8_code 60 = .ok (.isub, 1) := by decide +kernel
theorem d_E_doEffect_61 : decode prog_6_method_8_code 61 = .ok (.iload_n 2, 1) := by decide +kernel
theorem d_E_doEffect_62 : decode prog_6_method_8_code 62 = .ok (.invokestatic 141, 3) := by decide +kernel
theorem d_E_doEffect_65 : decode prog_6_method_8_code 65 = .ok (.ifCond .ne 92, 3) := by decide +kernel
theorem d_E_doEffect_84 : decode prog_6_method_8_code 84 = .ok (.aload_n 0, 1) := by decide +kernel
theorem d_E_doEffect_85 : decode prog_6_method_8_code 85 = .ok (.aload_n 0, 1) := by decide +kernel
theorem d_E_doEffect_86 : decode prog_6_method_8_code 86 = .ok (.getfield 22, 3) := by decide +kernel
theorem d_E_doEffect_89 : decode prog_6_method_8_code 89 = .ok (.iload_n 2, 1) := by decide +kernel
theorem d_E_doEffect_90 : decode prog_6_method_8_code 90 = .ok (.iload_n 3, 1) := by decide +kernel
theorem d_E_doEffect_91 : decode prog_6_method_8_code 91 = .ok (.invokestatic 149, 3) := by decide +kernel
theorem d_E_doEffect_94 : decode prog_6_method_8_code 94 = .ok (.putfield 22, 3) := by decide +kernel
theorem d_E_doEffect_97 : decode prog_6_method_8_code 97 = .ok (.goto 60, 3) := by decide +kernel
theorem d_E_doEffect_100 : decode prog_6_method_8_code 100 = .ok (.aload_n 0, 1) := by decide +kernel
theorem d_E_doEffect_101 : decode prog_6_method_8_code 101 = .ok (.getfield 22, 3) := by decide +kernel
theorem d_E_doEffect_104 : decode prog_6_method_8_code 104 = .ok (.iload_n 2, 1) := by decide +kernel
theorem d_E_doEffect_105 : decode prog_6_method_8_code 105 = .ok (.invokestatic 126, 3) := by decide +kernel
theorem d_E_doEffect_108 : decode prog_6_method_8_code 108 = .ok (.iload_n 3, 1) := by decide +kernel
theorem d_E_doEffect_109 : decode prog_6_method_8_code 109 = .ok (.iadd, 1) := by decide +kernel
theorem d_E_doEffect_110 : decode prog_6_method_8_code 110 = .ok (.istore 4, 2) := by decide +kernel
theorem d_E_doEffect_112 : decode prog_6_method_8_code 112 = .ok (.aload_n 0, 1) := by decide +kernel
theorem d_E_doEffect_113 : decode prog_6_method_8_code 113 = .ok (.aload_n 0, 1) := by decide +kernel
theorem d_E_doEffect_114 : decode prog_6_method_8_code 114 = .ok (.getfield 22, 3) := by decide +kernel
theorem d_E_doEffect_117 : decode prog_6_method_8_code 117 = .ok (.iload_n 2, 1) := by decide +kernel
theorem d_E_doEffect_118 : decode prog_6_method_8_code 118 = .ok (.iconst 0, 1) := by decide +kernel
theorem d_E_doEffect_119 : decode prog_6_method_8_code 119 = .ok (.iload 4, 2) := by decide +kernel
theorem d_E_doEffect_121 : decode prog_6_method_8_code 121 = .ok (.aload_n 0, 1) := by decide +kernel
theorem d_E_doEffect_122 : decode prog_6_method_8_code 122 = .ok (.getfield 12, 3) := by decide +kernel
theorem d_E_doEffect_125 : decode prog_6_method_8_code 125 = .ok (.getfield 152, 3) := by decide +kernel
theorem d_E_doEffect_128 : decode prog_6_method_8_code 128 = .ok (.iload_n 2, 1) := by decide +kernel
theorem d_E_doEffect_129 : decode prog_6_method_8_code 129 = .ok (.iaload, 1) := by decide +kernel
theorem d_E_doEffect_130 : decode prog_6_method_8_code 130 = .ok (.invokestatic 155, 3) := by decide +kernel
theorem d_E_doEffect_133 : decode prog_6_method_8_code 133 = .ok (.invokestatic 161, 3) := by decide +kernel
theorem d_E_doEffect_136 : decode prog_6_method_8_code 136 = .ok (.invokestatic 164, 3) := by decide +kernel
theorem d_E_doEffect_139 : decode prog_6_method_8_code 139 = .ok (.putfield 22, 3) := by decide +kernel
theorem d_E_doEffect_142 : decode prog_6_method_8_code 142 = .ok (.goto 15, 3) := by decide +kernel
theorem d_E_doEffect_145 : decode prog_6_method_8_code 145 = .ok (.aload_n 0, 1) := by decide +kernel
theorem d_E_doEffect_146 : decode prog_6_method_8_code 146 = .ok (.aload_n 0, 1) := by decide +kernel
theorem d_E_doEffect_147 : decode prog_6_method_8_code 147 = .ok (.getfield 22, 3) := by decide +kernel
theorem d_E_doEffect_150 : decode prog_6_method_8_code 150 = .ok (.iload_n 2, 1) := by decide +kernel
theorem d_E_doEffect_151 : decode prog_6_method_8_code 151 = .ok (.invokestatic 167, 3) := by decide +kernel
theorem d_E_doEffect_154 : decode prog_6_method_8_code 154 = .ok (.putfield 22, 3) := by decide +kernel
theorem d_E_doEffect_68 : decode prog_6_method_8_code 68 = .ok (.aload_n 0, 1) := by decide +kernel
theorem d_E_doEffect_69 : decode prog_6_method_8_code 69 = .ok (.aload_n 0, 1) := by decide +kernel
theorem d_E_doEffect_70 : decode prog_6_method_8_code 70 = .ok (.getfield 22, 3) := by decide +kernel
theorem d_E_doEffect_73 : decode prog_6_method_8_code 73 = .ok (.iload_n 2, 1) := by decide +kernel
theorem d_E_doEffect_74 : decode prog_6_method_8_code 74 = .ok (.iload_n 3, 1) := by decide +kernel
theorem d_E_doEffect_75 : decode prog_6_method_8_code 75 = .ok (.invokestatic 145, 3) := by decide +kernel
theorem d_E_doEffect_78 : decode prog_6_method_8_code 78 = .ok (.putfield 22, 3) := by decide +kernel
theorem d_E_doEffect_81 : decode prog_6_method_8_code 81 = .ok (.goto 76, 3) := by decide +kernel
theorem d_E_doRule_0 : decode prog_6_method_7_code 0 = .ok (.aload_n 0, 1) := by decide +kernel
theorem d_E_doRule_1 : decode prog_6_method_7_code 1 = .ok (.dup, 1) := by decide +kernel
theorem d_E_doRule_2 : decode prog_6_method_7_code 2 = .ok (.getfield 30, 3) := by decide +kernel
theorem d_E_doRule_5 : decode prog_6_method_7_code 5 = .ok (.iconst 1, 1) := by decide +kernel
theorem d_E_doRule_6 : decode prog_6_method_7_code 6 = .ok (.iload_n 1, 1) := by decide +kernel
theorem d_E_doRule_7 : decode prog_6_method_7_code 7 = .ok (.ishl, 1) := by decide +kernel
theorem d_E_doRule_8 : decode prog_6_method_7_code 8 = .ok (.ior, 1) := by decide +kernel
theorem d_E_doRule_9 : decode prog_6_method_7_code 9 = .ok (.putfield 30, 3) := by decide +kernel
theorem d_E_doRule_12 : decode prog_6_method_7_code 12 = .ok (.aload_n 0, 1) := by decide +kernel
theorem d_E_doRule_13 : decode prog_6_method_7_code 13 = .ok (.aload_n 0, 1) := by decide +kernel
theorem d_E_doRule_14 : decode prog_6_method_7_code 14 = .ok (.getfield 12, 3) := by decide +kernel
theorem d_E_doRule_17 : decode prog_6_method_7_code 17 = .ok (.getfield 73, 3) := by decide +kernel
theorem d_E_doRule_20 : decode prog_6_method_7_code 20 = .ok (.getfield 129, 3) := by decide +kernel
theorem d_E_doRule_23 : decode prog_6_method_7_code 23 = .ok (.iload_n 1, 1) := by decide +kernel
theorem d_E_doRule_24 : decode prog_6_method_7_code 24 = .ok (.iaload, 1) := by decide +kernel
theorem d_E_doRule_25 : decode prog_6_method_7_code 25 = .ok (.invokevirtual 45, 3) := by decide +kernel
theorem d_E_doRule_28 : decode prog_6_method_7_code 28 = .ok (.aload_n 0, 1) := by decide +kernel
theorem d_E_doRule_29 : decode prog_6_method_7_code 29 = .ok (.getfield 12, 3) := by decide +kernel
theorem d_E_doRule_32 : decode prog_6_method_7_code 32 = .ok (.getfield 73, 3) := by decide +kernel
theorem d_E_doRule_35 : decode prog_6_method_7_code 35 = .ok (.getfield 130, 3) := by decide +kernel
theorem d_E_doRule_38 : decode prog_6_method_7_code 38 = .ok (.astore_n 2, 1) := by decide +kernel
theorem d_E_doRule_39 : decode prog_6_method_7_code 39 = .ok (.aload_n 2, 1) := by decide +kernel
theorem d_E_doRule_40 : decode prog_6_method_7_code 40 = .ok (.iload_n 1, 1) := by decide +kernel
theorem d_E_doRule_41 : decode prog_6_method_7_code 41 = .ok (.invokevirtual 94, 3) := by decide +kernel
theorem d_E_doRule_44 : decode prog_6_method_7_code 44 = .ok (.istore_n 3, 1) := by decide +kernel
theorem d_E_doRule_45 : decode prog_6_method_7_code 45 = .ok (.aload_n 2, 1) := by decide +kernel
theorem d_E_doRule_46 : decode prog_6_method_7_code 46 = .ok (.iload_n 1, 1) := by decide +kernel
theorem d_E_doRule_47 : decode prog_6_method_7_code 47 = .ok (.invokevirtual 100, 3) := by decide +kernel
theorem d_E_doRule_50 : decode prog_6_method_7_code 50 = .ok (.istore 4, 2) := by decide +kernel
theorem d_E_doRule_52 : decode prog_6_method_7_code 52 = .ok (.iload 4, 2) := by decide +kernel
theorem d_E_doRule_54 : decode prog_6_method_7_code 54 = .ok (.iload_n 3, 1) := by decide +kernel
theorem d_E_doRule_55 : decode prog_6_method_7_code 55 = .ok (.if_icmp .ge 44, 3) := by decide +kernel
theorem d_E_doRule_99 : decode prog_6_method_7_code 99 = .ok (.return_, 1) := by decide +kernel
theorem d_E_doRule_58 : decode prog_6_method_7_code 58 = .ok (.aload_n 0, 1) := by decide +kernel
theorem d_E_doRule_59 : decode prog_6_method_7_code 59 = .ok (.getfield 22, 3) := by decide +kernel
theorem d_E_doRule_62 : decode prog_6_method_7_code 62 = .ok (.invokestatic 48, 3) := by decide +kernel
theorem d_E_doRule_65 : decode prog_6_method_7_code 65 = .ok (.ifCond .ne 34, 3) := by decide +kernel
theorem d_E_doRule_68 : decode prog_6_method_7_code 68 = .ok (.aload_n 0, 1) := by decide +kernel
theorem d_E_doRule_69 : decode prog_6_method_7_code 69 = .ok (.aload_n 2, 1) := by decide +kernel
theorem d_E_doRule_70 : decode prog_6_method_7_code 70 = .ok (.getfield 103, 3) := by decide +kernel
theorem d_E_doRule_73 : decode prog_6_method_7_code 73 = .ok (.iload 4, 2) := by decide +kernel
theorem d_E_doRule_75 : decode prog_6_method_7_code 75 = .ok (.iaload, 1) := by decide +kernel
theorem d_E_doRule_76 : decode prog_6_method_7_code 76 = .ok (.aload_n 2, 1) := by decide +kernel
theorem d_E_doRule_77 : decode prog_6_method_7_code 77 = .ok (.getfield 106, 3) := by decide +kernel
theorem d_E_doRule_80 : decode prog_6_method_7_code 80 = .ok (.iload 4, 2) := by decide +kernel
theorem d_E_doRule_82 : decode prog_6_method_7_code 82 = .ok (.iaload, 1) := by decide +kernel
theorem d_E_doRule_83 : decode prog_6_method_7_code 83 = .ok (.aload_n 2, 1) := by decide +kernel
theorem d_E_doRule_84 : decode prog_6_method_7_code 84 = .ok (.getfield 109, 3) := by decide +kernel
theorem d_E_doRule_87 : decode prog_6_method_7_code 87 = .ok (.iload 4, 2) := by decide +kernel
theorem d_E_doRule_89 : decode prog_6_method_7_code 89 = .ok (.iaload, 1) := by decide +kernel
theorem d_E_doRule_90 : decode prog_6_method_7_code 90 = .ok (.invokevirtual 133, 3) := by decide +kernel
theorem d_E_doRule_93 : decode prog_6_method_7_code 93 = .ok (.iinc 4 1, 3) := by decide +kernel
theorem d_E_doRule_96 : decode prog_6_method_7_code 96 = .ok (.goto (-44), 3) := by decide +kernel
theorem d_B_stepOf_0 : decode prog_3_method_10_code 0 = .ok (.lload_n 0, 1) := by decide +kernel
theorem d_B_stepOf_1 : decode prog_3_method_10_code 1 = .ok (.bipush 42, 2) := by decide +kernel
theorem d_B_stepOf_3 : decode prog_3_method_10_code 3 = .ok (.iconst 2, 1) := by decide +kernel
theorem d_B_stepOf_4 : decode prog_3_method_10_code 4 = .ok (.iload_n 2, 1) := by decide +kernel
theorem d_B_stepOf_5 : decode prog_3_method_10_code 5 = .ok (.imul, 1) := by decide +kernel
theorem d_B_stepOf_6 : decode prog_3_method_10_code 6 = .ok (.iadd, 1) := by decide +kernel
theorem d_B_stepOf_7 : decode prog_3_method_10_code 7 = .ok (.lushr, 1) := by decide +kernel
theorem d_B_stepOf_8 : decode prog_3_method_10_code 8 = .ok (.l2i, 1) := by decide +kernel
theorem d_B_stepOf_9 : decode prog_3_method_10_code 9 = .ok (.iconst 3, 1) := by decide +kernel
theorem d_B_stepOf_10 : decode prog_3_method_10_code 10 = .ok (.iand, 1) := by decide +kernel
theorem d_B_stepOf_11 : decode prog_3_method_10_code 11 = .ok (.ireturn, 1) := by decide +kernel
theorem d_B_withStep_0 : decode prog_3_method_11_code 0 = .ok (.lload_n 0, 1) := by decide +kernel
theorem d_B_withStep_1 : decode prog_3_method_11_code 1 = .ok (.bipush 42, 2) := by decide +kernel
theorem d_B_withStep_3 : decode prog_3_method_11_code 3 = .ok (.iconst 2, 1) := by decide +kernel
theorem d_B_withStep_4 : decode prog_3_method_11_code 4 = .ok (.iload_n 2, 1) := by decide +kernel
theorem d_B_withStep_5 : decode prog_3_method_11_code 5 = .ok (.imul, 1) := by decide +kernel
theorem d_B_withStep_6 : decode prog_3_method_11_code 6 = .ok (.iadd, 1) := by decide +kernel
theorem d_B_withStep_7 : decode prog_3_method_11_code 7 = .ok (.iconst 3, 1) := by decide +kernel
theorem d_B_withStep_8 : decode prog_3_method_11_code 8 = .ok (.iload_n 3, 1) := by decide +kernel
theorem d_B_withStep_9 : decode prog_3_method_11_code 9 = .ok (.invokestatic 9, 3) := by decide +kernel
theorem d_B_withStep_12 : decode prog_3_method_11_code 12 = .ok (.lreturn, 1) := by decide +kernel
theorem d_E_stepWalkers_0 : decode prog_6_method_15_code 0 = .ok (.iconst 0, 1) := by decide +kernel
theorem d_E_stepWalkers_1 : decode prog_6_method_15_code 1 = .ok (.istore_n 1, 1) := by decide +kernel
theorem d_E_stepWalkers_2 : decode prog_6_method_15_code 2 = .ok (.iload_n 1, 1) := by decide +kernel
theorem d_E_stepWalkers_3 : decode prog_6_method_15_code 3 = .ok (.aload_n 0, 1) := by decide +kernel
theorem d_E_stepWalkers_4 : decode prog_6_method_15_code 4 = .ok (.getfield 12, 3) := by decide +kernel
theorem d_E_stepWalkers_7 : decode prog_6_method_15_code 7 = .ok (.getfield 193, 3) := by decide +kernel
theorem d_E_stepWalkers_10 : decode prog_6_method_15_code 10 = .ok (.if_icmp .ge 95, 3) := by decide +kernel
theorem d_E_stepWalkers_105 : decode prog_6_method_15_code 105 = .ok (.return_, 1) := by decide +kernel
theorem d_E_stepWalkers_13 : decode prog_6_method_15_code 13 = .ok (.aload_n 0, 1) := by decide +kernel
theorem d_E_stepWalkers_14 : decode prog_6_method_15_code 14 = .ok (.getfield 12, 3) := by decide +kernel
theorem d_E_stepWalkers_17 : decode prog_6_method_15_code 17 = .ok (.getfield 196, 3) := by decide +kernel
theorem d_E_stepWalkers_20 : decode prog_6_method_15_code 20 = .ok (.iload_n 1, 1) := by decide +kernel
theorem d_E_stepWalkers_21 : decode prog_6_method_15_code 21 = .ok (.iaload, 1) := by decide +kernel
theorem d_E_stepWalkers_22 : decode prog_6_method_15_code 22 = .ok (.istore_n 2, 1) := by decide +kernel
theorem d_E_stepWalkers_23 : decode prog_6_method_15_code 23 = .ok (.aload_n 0, 1) := by decide +kernel
theorem d_E_stepWalkers_24 : decode prog_6_method_15_code 24 = .ok (.getfield 22, 3) := by decide +kernel
theorem d_E_stepWalkers_27 : decode prog_6_method_15_code 27 = .ok (.iload_n 2, 1) := by decide +kernel
theorem d_E_stepWalkers_28 : decode prog_6_method_15_code 28 = .ok (.invokestatic 119, 3) := by decide +kernel
theorem d_E_stepWalkers_31 : decode prog_6_method_15_code 31 = .ok (.bipush 6, 2) := by decide +kernel
theorem d_E_stepWalkers_33 : decode prog_6_method_15_code 33 = .ok (.if_icmp .ge 66, 3) := by decide +kernel
theorem d_E_stepWalkers_99 : decode prog_6_method_15_code 99 = .ok (.iinc 1 1, 3) := by decide +kernel
theorem d_E_stepWalkers_102 : decode prog_6_method_15_code 102 = .ok (.goto (-100), 3) := by decide +kernel
theorem d_E_stepWalkers_36 : decode prog_6_method_15_code 36 = .ok (.aload_n 0, 1) := by decide +kernel
theorem d_E_stepWalkers_37 : decode prog_6_method_15_code 37 = .ok (.getfield 22, 3) := by decide +kernel
theorem d_E_stepWalkers_40 : decode prog_6_method_15_code 40 = .ok (.iload_n 1, 1) := by decide +kernel
theorem d_E_stepWalkers_41 : decode prog_6_method_15_code 41 = .ok (.invokestatic 199, 3) := by decide +kernel
theorem d_E_stepWalkers_44 : decode prog_6_method_15_code 44 = .ok (.istore_n 3, 1) := by decide +kernel
theorem d_E_stepWalkers_45 : decode prog_6_method_15_code 45 = .ok (.iload_n 3, 1) := by decide +kernel
theorem d_E_stepWalkers_46 : decode prog_6_method_15_code 46 = .ok (.iconst 2, 1) := by decide +kernel
theorem d_E_stepWalkers_47 : decode prog_6_method_15_code 47 = .ok (.if_icmp .ge 9, 3) := by decide +kernel
theorem d_E_stepWalkers_56 : decode prog_6_method_15_code 56 = .ok (.iconst 0, 1) := by decide +kernel
theorem d_E_stepWalkers_50 : decode prog_6_method_15_code 50 = .ok (.iload_n 3, 1) := by decide +kernel
theorem d_E_stepWalkers_51 : decode prog_6_method_15_code 51 = .ok (.iconst 1, 1) := by decide +kernel
theorem d_E_stepWalkers_52 : decode prog_6_method_15_code 52 = .ok (.iadd, 1) := by decide +kernel
theorem d_E_stepWalkers_53 : decode prog_6_method_15_code 53 = .ok (.goto 4, 3) := by decide +kernel
theorem d_E_stepWalkers_57 : decode prog_6_method_15_code 57 = .ok (.istore 4, 2) := by decide +kernel
theorem d_E_stepWalkers_59 : decode prog_6_method_15_code 59 = .ok (.aload_n 0, 1) := by decide +kernel
theorem d_E_stepWalkers_60 : decode prog_6_method_15_code 60 = .ok (.aload_n 0, 1) := by decide +kernel
theorem d_E_stepWalkers_61 : decode prog_6_method_15_code 61 = .ok (.getfield 22, 3) := by decide +kernel
theorem d_E_stepWalkers_64 : decode prog_6_method_15_code 64 = .ok (.iload_n 1, 1) := by decide +kernel
theorem d_E_stepWalkers_65 : decode prog_6_method_15_code 65 = .ok (.iload 4, 2) := by decide +kernel
theorem d_E_stepWalkers_67 : decode prog_6_method_15_code 67 = .ok (.invokestatic 202, 3) := by decide +kernel
theorem d_E_stepWalkers_70 : decode prog_6_method_15_code 70 = .ok (.putfield 22, 3) := by decide +kernel
theorem d_E_stepWalkers_73 : decode prog_6_method_15_code 73 = .ok (.aload_n 0, 1) := by decide +kernel
theorem d_E_stepWalkers_74 : decode prog_6_method_15_code 74 = .ok (.aload_n 0, 1) := by decide +kernel
theorem d_E_stepWalkers_75 : decode prog_6_method_15_code 75 = .ok (.getfield 22, 3) := by decide +kernel
theorem d_E_stepWalkers_78 : decode prog_6_method_15_code 78 = .ok (.iload_n 2, 1) := by decide +kernel
theorem d_E_stepWalkers_79 : decode prog_6_method_15_code 79 = .ok (.aload_n 0, 1) := by decide +kernel
theorem d_E_stepWalkers_80 : decode prog_6_method_15_code 80 = .ok (.getfield 12, 3) := by decide +kernel
theorem d_E_stepWalkers_83 : decode prog_6_method_15_code 83 = .ok (.getfield 205, 3) := by decide +kernel
theorem d_E_stepWalkers_86 : decode prog_6_method_15_code 86 = .ok (.iload_n 1, 1) := by decide +kernel
theorem d_E_stepWalkers_87 : decode prog_6_method_15_code 87 = .ok (.iconst 3, 1) := by decide +kernel
theorem d_E_stepWalkers_88 : decode prog_6_method_15_code 88 = .ok (.imul, 1) := by decide +kernel
theorem d_E_stepWalkers_89 : decode prog_6_method_15_code 89 = .ok (.iload 4, 2) := by decide +kernel
theorem d_E_stepWalkers_91 : decode prog_6_method_15_code 91 = .ok (.iadd, 1) := by decide +kernel
theorem d_E_stepWalkers_92 : decode prog_6_method_15_code 92 = .ok (.iaload, 1) := by decide +kernel
theorem d_E_stepWalkers_93 : decode prog_6_method_15_code 93 = .ok (.invokestatic 145, 3) := by decide +kernel
theorem d_E_stepWalkers_96 : decode prog_6_method_15_code 96 = .ok (.putfield 22, 3) := by decide +kernel
theorem d_B_countOf_0 : decode prog_3_method_12_code 0 = .ok (.lload_n 0, 1) := by decide +kernel
theorem d_B_countOf_1 : decode prog_3_method_12_code 1 = .ok (.bipush 46, 2) := by decide +kernel
theorem d_B_countOf_3 : decode prog_3_method_12_code 3 = .ok (.iconst 4, 1) := by decide +kernel
theorem d_B_countOf_4 : decode prog_3_method_12_code 4 = .ok (.iload_n 2, 1) := by decide +kernel
theorem d_B_countOf_5 : decode prog_3_method_12_code 5 = .ok (.imul, 1) := by decide +kernel
theorem d_B_countOf_6 : decode prog_3_method_12_code 6 = .ok (.iadd, 1) := by decide +kernel
theorem d_B_countOf_7 : decode prog_3_method_12_code 7 = .ok (.lushr, 1) := by decide +kernel
theorem d_B_countOf_8 : decode prog_3_method_12_code 8 = .ok (.l2i, 1) := by decide +kernel
theorem d_B_countOf_9 : decode prog_3_method_12_code 9 = .ok (.bipush 15, 2) := by decide +kernel
theorem d_B_countOf_11 : decode prog_3_method_12_code 11 = .ok (.iand, 1) := by decide +kernel
theorem d_B_countOf_12 : decode prog_3_method_12_code 12 = .ok (.ireturn, 1) := by decide +kernel
theorem d_E_runsOut_0 : decode prog_6_method_16_code 0 = .ok (.aload_n 0, 1) := by decide +kernel
theorem d_E_runsOut_1 : decode prog_6_method_16_code 1 = .ok (.getfield 22, 3) := by decide +kernel
theorem d_E_runsOut_4 : decode prog_6_method_16_code 4 = .ok (.iload_n 1, 1) := by decide +kernel
theorem d_E_runsOut_5 : decode prog_6_method_16_code 5 = .ok (.invokestatic 208, 3) := by decide +kernel
theorem d_E_runsOut_8 : decode prog_6_method_16_code 8 = .ok (.istore_n 2, 1) := by decide +kernel
theorem d_E_runsOut_9 : decode prog_6_method_16_code 9 = .ok (.iload_n 2, 1) := by decide +kernel
theorem d_E_runsOut_10 : decode prog_6_method_16_code 10 = .ok (.ifCond .ne 5, 3) := by decide +kernel
theorem d_E_runsOut_15 : decode prog_6_method_16_code 15 = .ok (.aload_n 0, 1) := by decide +kernel
theorem d_E_runsOut_16 : decode prog_6_method_16_code 16 = .ok (.aload_n 0, 1) := by decide +kernel
theorem d_E_runsOut_17 : decode prog_6_method_16_code 17 = .ok (.getfield 22, 3) := by decide +kernel
theorem d_E_runsOut_20 : decode prog_6_method_16_code 20 = .ok (.iload_n 1, 1) := by decide +kernel
theorem d_E_runsOut_21 : decode prog_6_method_16_code 21 = .ok (.iload_n 2, 1) := by decide +kernel
theorem d_E_runsOut_22 : decode prog_6_method_16_code 22 = .ok (.iconst 1, 1) := by decide +kernel
theorem d_E_runsOut_23 : decode prog_6_method_16_code 23 = .ok (.isub, 1) := by decide +kernel
theorem d_E_runsOut_24 : decode prog_6_method_16_code 24 = .ok (.invokestatic 211, 3) := by decide +kernel
theorem d_E_runsOut_27 : decode prog_6_method_16_code 27 = .ok (.putfield 22, 3) := by decide +kernel
theorem d_E_runsOut_30 : decode prog_6_method_16_code 30 = .ok (.iload_n 2, 1) := by decide +kernel
theorem d_E_runsOut_31 : decode prog_6_method_16_code 31 = .ok (.iconst 1, 1) := by decide +kernel
theorem d_E_runsOut_32 : decode prog_6_method_16_code 32 = .ok (.if_icmp .ne 7, 3) := by decide +kernel
theorem d_E_runsOut_39 : decode prog_6_method_16_code 39 = .ok (.iconst 0, 1) := by decide +kernel
theorem d_E_runsOut_40 : decode prog_6_method_16_code 40 = .ok (.ireturn, 1) := by decide +kernel
theorem d_E_runsOut_35 : decode prog_6_method_16_code 35 = .ok (.iconst 1, 1) := by decide +kernel
theorem d_E_runsOut_36 : decode prog_6_method_16_code 36 = .ok (.goto 4, 3) := by decide +kernel
theorem d_E_runsOut_13 : decode prog_6_method_16_code 13 = .ok (.iconst 0, 1) := by decide +kernel
theorem d_E_runsOut_14 : decode prog_6_method_16_code 14 = .ok (.ireturn, 1) := by decide +kernel
theorem d_E_putInto_0 : decode prog_6_method_14_code 0 = .ok (.aload_n 0, 1) := by decide +kernel
theorem d_E_putInto_1 : decode prog_6_method_14_code 1 = .ok (.getfield 22, 3) := by decide +kernel
theorem d_E_putInto_4 : decode prog_6_method_14_code 4 = .ok (.iload_n 1, 1) := by decide +kernel
theorem d_E_putInto_5 : decode prog_6_method_14_code 5 = .ok (.invokestatic 119, 3) := by decide +kernel
theorem d_E_putInto_8 : decode prog_6_method_14_code 8 = .ok (.bipush 6, 2) := by decide +kernel
theorem d_E_putInto_10 : decode prog_6_method_14_code 10 = .ok (.if_icmp .ne 51, 3) := by decide +kernel
theorem d_E_putInto_61 : decode prog_6_method_14_code 61 = .ok (.iconst 0, 1) := by decide +kernel
theorem d_E_putInto_62 : decode prog_6_method_14_code 62 = .ok (.ireturn, 1) := by decide +kernel
theorem d_E_putInto_13 : decode prog_6_method_14_code 13 = .ok (.aload_n 0, 1) := by decide +kernel
theorem d_E_putInto_14 : decode prog_6_method_14_code 14 = .ok (.getfield 12, 3) := by decide +kernel
theorem d_E_putInto_17 : decode prog_6_method_14_code 17 = .ok (.getfield 192, 3) := by decide +kernel
theorem d_E_putInto_20 : decode prog_6_method_14_code 20 = .ok (.iload_n 2, 1) := by decide +kernel
theorem d_E_putInto_21 : decode prog_6_method_14_code 21 = .ok (.iaload, 1) := by decide +kernel
theorem d_E_putInto_22 : decode prog_6_method_14_code 22 = .ok (.iconst 2, 1) := by decide +kernel
theorem d_E_putInto_23 : decode prog_6_method_14_code 23 = .ok (.iand, 1) := by decide +kernel
theorem d_E_putInto_24 : decode prog_6_method_14_code 24 = .ok (.ifCond .eq 37, 3) := by decide +kernel
theorem d_E_putInto_27 : decode prog_6_method_14_code 27 = .ok (.aload_n 0, 1) := by decide +kernel
theorem d_E_putInto_28 : decode prog_6_method_14_code 28 = .ok (.getfield 22, 3) := by decide +kernel
theorem d_E_putInto_31 : decode prog_6_method_14_code 31 = .ok (.iload_n 2, 1) := by decide +kernel
theorem d_E_putInto_32 : decode prog_6_method_14_code 32 = .ok (.invokestatic 123, 3) := by decide +kernel
theorem d_E_putInto_35 : decode prog_6_method_14_code 35 = .ok (.ifCond .eq 26, 3) := by decide +kernel
theorem d_E_putInto_38 : decode prog_6_method_14_code 38 = .ok (.aload_n 0, 1) := by decide +kernel
theorem d_E_putInto_39 : decode prog_6_method_14_code 39 = .ok (.getfield 22, 3) := by decide +kernel
theorem d_E_putInto_42 : decode prog_6_method_14_code 42 = .ok (.iload_n 2, 1) := by decide +kernel
theorem d_E_putInto_43 : decode prog_6_method_14_code 43 = .ok (.invokestatic 86, 3) := by decide +kernel
theorem d_E_putInto_46 : decode prog_6_method_14_code 46 = .ok (.ifCond .eq 15, 3) := by decide +kernel
theorem d_E_putInto_49 : decode prog_6_method_14_code 49 = .ok (.aload_n 0, 1) := by decide +kernel
theorem d_E_putInto_50 : decode prog_6_method_14_code 50 = .ok (.getfield 22, 3) := by decide +kernel
theorem d_E_putInto_53 : decode prog_6_method_14_code 53 = .ok (.iload_n 2, 1) := by decide +kernel
theorem d_E_putInto_54 : decode prog_6_method_14_code 54 = .ok (.iload_n 1, 1) := by decide +kernel
