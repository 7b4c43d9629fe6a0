theorem d_S_mustBeThere_0 : decode prog_1_method_30_code 0 = .ok (.iload_n 0, 1) := by decide +kernel
theorem d_S_mustBeThere_1 : decode prog_1_method_30_code 1 = .ok (.ifCond .ne 11, 3) := by decide +kernel
theorem d_S_mustBeThere_4 : decode prog_1_method_30_code 4 = .ok (.new 296, 3) := by decide +kernel
theorem d_S_mustBeThere_7 : decode prog_1_method_30_code 7 = .ok (.dup, 1) := by decide +kernel
theorem d_S_mustBeThere_8 : decode prog_1_method_30_code 8 = .ok (.invokespecial 298, 3) := by decide +kernel
theorem d_S_mustBeThere_11 : decode prog_1_method_30_code 11 = .ok (.athrow, 1) := by decide +kernel
theorem d_S_mustBeThere_12 : decode prog_1_method_30_code 12 = .ok (.return_, 1) := by decide +kernel
theorem d_S_mustFit_0 : decode prog_1_method_31_code 0 = .ok (.iload_n 0, 1) := by decide +kernel
theorem d_S_mustFit_1 : decode prog_1_method_31_code 1 = .ok (.ifCond .ne 11, 3) := by decide +kernel
theorem d_S_mustFit_4 : decode prog_1_method_31_code 4 = .ok (.new 299, 3) := by decide +kernel
theorem d_S_mustFit_7 : decode prog_1_method_31_code 7 = .ok (.dup, 1) := by decide +kernel
theorem d_S_mustFit_8 : decode prog_1_method_31_code 8 = .ok (.invokespecial 301, 3) := by decide +kernel
theorem d_S_mustFit_11 : decode prog_1_method_31_code 11 = .ok (.athrow, 1) := by decide +kernel
theorem d_S_mustFit_12 : decode prog_1_method_31_code 12 = .ok (.return_, 1) := by decide +kernel
theorem d_S_mustBeAble_0 : decode prog_1_method_32_code 0 = .ok (.iload_n 0, 1) := by decide +kernel
theorem d_S_mustBeAble_1 : decode prog_1_method_32_code 1 = .ok (.ifCond .ne 11, 3) := by decide +kernel
theorem d_S_mustBeAble_4 : decode prog_1_method_32_code 4 = .ok (.new 302, 3) := by decide +kernel
theorem d_S_mustBeAble_7 : decode prog_1_method_32_code 7 = .ok (.dup, 1) := by decide +kernel
theorem d_S_mustBeAble_8 : decode prog_1_method_32_code 8 = .ok (.invokespecial 304, 3) := by decide +kernel
theorem d_S_mustBeAble_11 : decode prog_1_method_32_code 11 = .ok (.athrow, 1) := by decide +kernel
theorem d_S_mustBeAble_12 : decode prog_1_method_32_code 12 = .ok (.return_, 1) := by decide +kernel
theorem d_W_becomeEmpty_0 : decode prog_8_method_2_code 0 = .ok (.aload_n 0, 1) := by decide +kernel
theorem d_W_becomeEmpty_1 : decode prog_8_method_2_code 1 = .ok (.iconst 0, 1) := by decide +kernel
theorem d_W_becomeEmpty_2 : decode prog_8_method_2_code 2 = .ok (.putfield 53, 3) := by decide +kernel
theorem d_W_becomeEmpty_5 : decode prog_8_method_2_code 5 = .ok (.aload_n 0, 1) := by decide +kernel
theorem d_W_becomeEmpty_6 : decode prog_8_method_2_code 6 = .ok (.iconst 0, 1) := by decide +kernel
theorem d_W_becomeEmpty_7 : decode prog_8_method_2_code 7 = .ok (.putfield 57, 3) := by decide +kernel
theorem d_W_becomeEmpty_10 : decode prog_8_method_2_code 10 = .ok (.aload_n 0, 1) := by decide +kernel
theorem d_W_becomeEmpty_11 : decode prog_8_method_2_code 11 = .ok (.iconst 0, 1) := by decide +kernel
theorem d_W_becomeEmpty_12 : decode prog_8_method_2_code 12 = .ok (.putfield 60, 3) := by decide +kernel
theorem d_W_becomeEmpty_15 : decode prog_8_method_2_code 15 = .ok (.aload_n 0, 1) := by decide +kernel
theorem d_W_becomeEmpty_16 : decode prog_8_method_2_code 16 = .ok (.iconst 0, 1) := by decide +kernel
theorem d_W_becomeEmpty_17 : decode prog_8_method_2_code 17 = .ok (.putfield 63, 3) := by decide +kernel
theorem d_W_becomeEmpty_20 : decode prog_8_method_2_code 20 = .ok (.aload_n 0, 1) := by decide +kernel
theorem d_W_becomeEmpty_21 : decode prog_8_method_2_code 21 = .ok (.getfield 37, 3) := by decide +kernel
theorem d_W_becomeEmpty_24 : decode prog_8_method_2_code 24 = .ok (.iconst 0, 1) := by decide +kernel
theorem d_W_becomeEmpty_25 : decode prog_8_method_2_code 25 = .ok (.putfield 66, 3) := by decide +kernel
theorem d_W_becomeEmpty_28 : decode prog_8_method_2_code 28 = .ok (.aload_n 0, 1) := by decide +kernel
theorem d_W_becomeEmpty_29 : decode prog_8_method_2_code 29 = .ok (.iconst 0, 1) := by decide +kernel
theorem d_W_becomeEmpty_30 : decode prog_8_method_2_code 30 = .ok (.putfield 69, 3) := by decide +kernel
theorem d_W_becomeEmpty_33 : decode prog_8_method_2_code 33 = .ok (.aload_n 0, 1) := by decide +kernel
theorem d_W_becomeEmpty_34 : decode prog_8_method_2_code 34 = .ok (.iconst 0, 1) := by decide +kernel
theorem d_W_becomeEmpty_35 : decode prog_8_method_2_code 35 = .ok (.putfield 72, 3) := by decide +kernel
theorem d_W_becomeEmpty_38 : decode prog_8_method_2_code 38 = .ok (.return_, 1) := by decide +kernel
theorem d_S_isFrom_0 : decode prog_1_method_29_code 0 = .ok (.iload_n 0, 1) := by decide +kernel
theorem d_S_isFrom_1 : decode prog_1_method_29_code 1 = .ok (.iload_n 1, 1) := by decide +kernel
theorem d_S_isFrom_2 : decode prog_1_method_29_code 2 = .ok (.if_icmp .lt 12, 3) := by decide +kernel
theorem d_S_isFrom_14 : decode prog_1_method_29_code 14 = .ok (.iconst 0, 1) := by decide +kernel
theorem d_S_isFrom_15 : decode prog_1_method_29_code 15 = .ok (.ireturn, 1) := by decide +kernel
theorem d_S_isFrom_5 : decode prog_1_method_29_code 5 = .ok (.iload_n 0, 1) := by decide +kernel
theorem d_S_isFrom_6 : decode prog_1_method_29_code 6 = .ok (.iload_n 2, 1) := by decide +kernel
theorem d_S_isFrom_7 : decode prog_1_method_29_code 7 = .ok (.if_icmp .gt 7, 3) := by decide +kernel
theorem d_S_isFrom_10 : decode prog_1_method_29_code 10 = .ok (.iconst 1, 1) := by decide +kernel
theorem d_S_isFrom_11 : decode prog_1_method_29_code 11 = .ok (.goto 4, 3) := by decide +kernel
theorem d_W_hasRoom_0 : decode prog_8_method_3_code 0 = .ok (.iload_n 1, 1) := by decide +kernel
theorem d_W_hasRoom_1 : decode prog_8_method_3_code 1 = .ok (.iconst 0, 1) := by decide +kernel
theorem d_W_hasRoom_2 : decode prog_8_method_3_code 2 = .ok (.aload_n 0, 1) := by decide +kernel
theorem d_W_hasRoom_3 : decode prog_8_method_3_code 3 = .ok (.getfield 53, 3) := by decide +kernel
theorem d_W_hasRoom_6 : decode prog_8_method_3_code 6 = .ok (.iconst 1, 1) := by decide +kernel
theorem d_W_hasRoom_7 : decode prog_8_method_3_code 7 = .ok (.isub, 1) := by decide +kernel
theorem d_W_hasRoom_8 : decode prog_8_method_3_code 8 = .ok (.invokestatic 75, 3) := by decide +kernel
theorem d_W_hasRoom_11 : decode prog_8_method_3_code 11 = .ok (.ireturn, 1) := by decide +kernel
theorem d_W_hasThing_0 : decode prog_8_method_4_code 0 = .ok (.iload_n 1, 1) := by decide +kernel
theorem d_W_hasThing_1 : decode prog_8_method_4_code 1 = .ok (.iconst 0, 1) := by decide +kernel
theorem d_W_hasThing_2 : decode prog_8_method_4_code 2 = .ok (.aload_n 0, 1) := by decide +kernel
theorem d_W_hasThing_3 : decode prog_8_method_4_code 3 = .ok (.getfield 57, 3) := by decide +kernel
theorem d_W_hasThing_6 : decode prog_8_method_4_code 6 = .ok (.iconst 1, 1) := by decide +kernel
theorem d_W_hasThing_7 : decode prog_8_method_4_code 7 = .ok (.isub, 1) := by decide +kernel
theorem d_W_hasThing_8 : decode prog_8_method_4_code 8 = .ok (.invokestatic 75, 3) := by decide +kernel
theorem d_W_hasThing_11 : decode prog_8_method_4_code 11 = .ok (.ireturn, 1) := by decide +kernel
theorem d_W_hasNumber_0 : decode prog_8_method_5_code 0 = .ok (.iload_n 1, 1) := by decide +kernel
theorem d_W_hasNumber_1 : decode prog_8_method_5_code 1 = .ok (.iconst 0, 1) := by decide +kernel
theorem d_W_hasNumber_2 : decode prog_8_method_5_code 2 = .ok (.aload_n 0, 1) := by decide +kernel
theorem d_W_hasNumber_3 : decode prog_8_method_5_code 3 = .ok (.getfield 60, 3) := by decide +kernel
theorem d_W_hasNumber_6 : decode prog_8_method_5_code 6 = .ok (.iconst 1, 1) := by decide +kernel
theorem d_W_hasNumber_7 : decode prog_8_method_5_code 7 = .ok (.isub, 1) := by decide +kernel
theorem d_W_hasNumber_8 : decode prog_8_method_5_code 8 = .ok (.invokestatic 75, 3) := by decide +kernel
theorem d_W_hasNumber_11 : decode prog_8_method_5_code 11 = .ok (.ireturn, 1) := by decide +kernel
theorem d_W_hasEnding_0 : decode prog_8_method_6_code 0 = .ok (.iload_n 1, 1) := by decide +kernel
theorem d_W_hasEnding_1 : decode prog_8_method_6_code 1 = .ok (.iconst 0, 1) := by decide +kernel
theorem d_W_hasEnding_2 : decode prog_8_method_6_code 2 = .ok (.aload_n 0, 1) := by decide +kernel
theorem d_W_hasEnding_3 : decode prog_8_method_6_code 3 = .ok (.getfield 63, 3) := by decide +kernel
theorem d_W_hasEnding_6 : decode prog_8_method_6_code 6 = .ok (.iconst 1, 1) := by decide +kernel
theorem d_W_hasEnding_7 : decode prog_8_method_6_code 7 = .ok (.isub, 1) := by decide +kernel
theorem d_W_hasEnding_8 : decode prog_8_method_6_code 8 = .ok (.invokestatic 75, 3) := by decide +kernel
theorem d_W_hasEnding_11 : decode prog_8_method_6_code 11 = .ok (.ireturn, 1) := by decide +kernel
theorem d_W_hasRule_0 : decode prog_8_method_7_code 0 = .ok (.iload_n 1, 1) := by decide +kernel
theorem d_W_hasRule_1 : decode prog_8_method_7_code 1 = .ok (.iconst 0, 1) := by decide +kernel
theorem d_W_hasRule_2 : decode prog_8_method_7_code 2 = .ok (.aload_n 0, 1) := by decide +kernel
theorem d_W_hasRule_3 : decode prog_8_method_7_code 3 = .ok (.getfield 37, 3) := by decide +kernel
theorem d_W_hasRule_6 : decode prog_8_method_7_code 6 = .ok (.getfield 66, 3) := by decide +kernel
theorem d_W_hasRule_9 : decode prog_8_method_7_code 9 = .ok (.iconst 1, 1) := by decide +kernel
theorem d_W_hasRule_10 : decode prog_8_method_7_code 10 = .ok (.isub, 1) := by decide +kernel
theorem d_W_hasRule_11 : decode prog_8_method_7_code 11 = .ok (.invokestatic 75, 3) := by decide +kernel
theorem d_W_hasRule_14 : decode prog_8_method_7_code 14 = .ok (.ireturn, 1) := by decide +kernel
theorem d_W_hasPlace_0 : decode prog_8_method_8_code 0 = .ok (.aload_n 0, 1) := by decide +kernel
theorem d_W_hasPlace_1 : decode prog_8_method_8_code 1 = .ok (.iload_n 1, 1) := by decide +kernel
theorem d_W_hasPlace_2 : decode prog_8_method_8_code 2 = .ok (.invokevirtual 79, 3) := by decide +kernel
theorem d_W_hasPlace_5 : decode prog_8_method_8_code 5 = .ok (.ifCond .ne 21, 3) := by decide +kernel
theorem d_W_hasPlace_26 : decode prog_8_method_8_code 26 = .ok (.iconst 1, 1) := by decide +kernel
theorem d_W_hasPlace_27 : decode prog_8_method_8_code 27 = .ok (.goto 4, 3) := by decide +kernel
theorem d_W_hasPlace_31 : decode prog_8_method_8_code 31 = .ok (.ireturn, 1) := by decide +kernel
theorem d_W_hasPlace_8 : decode prog_8_method_8_code 8 = .ok (.iload_n 1, 1) := by decide +kernel
theorem d_W_hasPlace_9 : decode prog_8_method_8_code 9 = .ok (.bipush 6, 2) := by decide +kernel
theorem d_W_hasPlace_11 : decode prog_8_method_8_code 11 = .ok (.bipush 7, 2) := by decide +kernel
theorem d_W_hasPlace_13 : decode prog_8_method_8_code 13 = .ok (.aload_n 0, 1) := by decide +kernel
theorem d_W_hasPlace_14 : decode prog_8_method_8_code 14 = .ok (.getfield 57, 3) := by decide +kernel
theorem d_W_hasPlace_17 : decode prog_8_method_8_code 17 = .ok (.iadd, 1) := by decide +kernel
theorem d_W_hasPlace_18 : decode prog_8_method_8_code 18 = .ok (.iconst 1, 1) := by decide +kernel
theorem d_W_hasPlace_19 : decode prog_8_method_8_code 19 = .ok (.isub, 1) := by decide +kernel
theorem d_W_hasPlace_20 : decode prog_8_method_8_code 20 = .ok (.invokestatic 75, 3) := by decide +kernel
theorem d_W_hasPlace_23 : decode prog_8_method_8_code 23 = .ok (.ifCond .eq 7, 3) := by decide +kernel
theorem d_W_hasPlace_30 : decode prog_8_method_8_code 30 = .ok (.iconst 0, 1) := by decide +kernel
theorem d_W_hasSubject_0 : decode prog_8_method_9_code 0 = .ok (.iload_n 1, 1) := by decide +kernel
theorem d_W_hasSubject_1 : decode prog_8_method_9_code 1 = .ok (.tableswitch 39 0 2 #[27, 33, 33], 27) := by decide +kernel
theorem d_W_hasSubject_28 : decode prog_8_method_9_code 28 = .ok (.aload_n 0, 1) := by decide +kernel
theorem d_W_hasSubject_29 : decode prog_8_method_9_code 29 = .ok (.iload_n 2, 1) := by decide +kernel
theorem d_W_hasSubject_30 : decode prog_8_method_9_code 30 = .ok (.invokevirtual 79, 3) := by decide +kernel
theorem d_W_hasSubject_33 : decode prog_8_method_9_code 33 = .ok (.ireturn, 1) := by decide +kernel
theorem d_W_hasSubject_34 : decode prog_8_method_9_code 34 = .ok (.aload_n 0, 1) := by decide +kernel
theorem d_W_hasSubject_35 : decode prog_8_method_9_code 35 = .ok (.iload_n 2, 1) := by decide +kernel
theorem d_W_hasSubject_36 : decode prog_8_method_9_code 36 = .ok (.invokevirtual 83, 3) := by decide +kernel
theorem d_W_hasSubject_39 : decode prog_8_method_9_code 39 = .ok (.ireturn, 1) := by decide +kernel
theorem d_W_hasSubject_40 : decode prog_8_method_9_code 40 = .ok (.aload_n 0, 1) := by decide +kernel
theorem d_W_hasSubject_41 : decode prog_8_method_9_code 41 = .ok (.iload_n 2, 1) := by decide +kernel
theorem d_W_hasSubject_42 : decode prog_8_method_9_code 42 = .ok (.invokevirtual 86, 3) := by decide +kernel
theorem d_W_hasSubject_45 : decode prog_8_method_9_code 45 = .ok (.ireturn, 1) := by decide +kernel
theorem d_W_hasCommand_0 : decode prog_8_method_10_code 0 = .ok (.iload_n 1, 1) := by decide +kernel
theorem d_W_hasCommand_1 : decode prog_8_method_10_code 1 = .ok (.tableswitch 160 0 8 #[51, 71, 71, 71, 71, 90, 112, 128, 128], 51) := by decide +kernel
theorem d_W_hasCommand_52 : decode prog_8_method_10_code 52 = .ok (.iload_n 2, 1) := by decide +kernel
theorem d_W_hasCommand_53 : decode prog_8_method_10_code 53 = .ok (.iconst 0, 1) := by decide +kernel
theorem d_W_hasCommand_54 : decode prog_8_method_10_code 54 = .ok (.iconst 3, 1) := by decide +kernel
theorem d_W_hasCommand_55 : decode prog_8_method_10_code 55 = .ok (.invokestatic 75, 3) := by decide +kernel
theorem d_W_hasCommand_58 : decode prog_8_method_10_code 58 = .ok (.ifCond .eq 12, 3) := by decide +kernel
theorem d_W_hasCommand_70 : decode prog_8_method_10_code 70 = .ok (.iconst 0, 1) := by decide +kernel
theorem d_W_hasCommand_71 : decode prog_8_method_10_code 71 = .ok (.ireturn, 1) := by decide +kernel
theorem d_W_hasCommand_61 : decode prog_8_method_10_code 61 = .ok (.iload_n 3, 1) := by decide +kernel
theorem d_W_hasCommand_62 : decode prog_8_method_10_code 62 = .ok (.iconst (-1), 1) := by decide +kernel
theorem d_W_hasCommand_63 : decode prog_8_method_10_code 63 = .ok (.if_icmp .ne 7, 3) := by decide +kernel
theorem d_W_hasCommand_66 : decode prog_8_method_10_code 66 = .ok (.iconst 1, 1) := by decide +kernel
theorem d_W_hasCommand_67 : decode prog_8_method_10_code 67 = .ok (.goto 4, 3) := by decide +kernel
theorem d_W_hasCommand_72 : decode prog_8_method_10_code 72 = .ok (.aload_n 0, 1) := by decide +kernel
theorem d_W_hasCommand_73 : decode prog_8_method_10_code 73 = .ok (.iload_n 2, 1) := by decide +kernel
theorem d_W_hasCommand_74 : decode prog_8_method_10_code 74 = .ok (.invokevirtual 83, 3) := by decide +kernel
theorem d_W_hasCommand_77 : decode prog_8_method_10_code 77 = .ok (.ifCond .eq 12, 3) := by decide +kernel
theorem d_W_hasCommand_89 : decode prog_8_method_10_code 89 = .ok (.iconst 0, 1) := by decide +kernel
theorem d_W_hasCommand_90 : decode prog_8_method_10_code 90 = .ok (.ireturn, 1) := by decide +kernel
theorem d_W_hasCommand_80 : decode prog_8_method_10_code 80 = .ok (.iload_n 3, 1) := by decide +kernel
theorem d_W_hasCommand_81 : decode prog_8_method_10_code 81 = .ok (.iconst (-1), 1) := by decide +kernel
theorem d_W_hasCommand_82 : decode prog_8_method_10_code 82 = .ok (.if_icmp .ne 7, 3) := by decide +kernel
theorem d_W_hasCommand_85 : decode prog_8_method_10_code 85 = .ok (.iconst 1, 1) := by decide +kernel
theorem d_W_hasCommand_86 : decode prog_8_method_10_code 86 = .ok (.goto 4, 3) := by decide +kernel
theorem d_W_hasCommand_91 : decode prog_8_method_10_code 91 = .ok (.aload_n 0, 1) := by decide +kernel
theorem d_W_hasCommand_92 : decode prog_8_method_10_code 92 = .ok (.iload_n 2, 1) := by decide +kernel
theorem d_W_hasCommand_93 : decode prog_8_method_10_code 93 = .ok (.invokevirtual 83, 3) := by decide +kernel
theorem d_W_hasCommand_96 : decode prog_8_method_10_code 96 = .ok (.ifCond .eq 15, 3) := by decide +kernel
theorem d_W_hasCommand_111 : decode prog_8_method_10_code 111 = .ok (.iconst 0, 1) := by decide +kernel
theorem d_W_hasCommand_112 : decode prog_8_method_10_code 112 = .ok (.ireturn, 1) := by decide +kernel
theorem d_W_hasCommand_99 : decode prog_8_method_10_code 99 = .ok (.aload_n 0, 1) := by decide +kernel
theorem d_W_hasCommand_100 : decode prog_8_method_10_code 100 = .ok (.iload_n 3, 1) := by decide +kernel
theorem d_W_hasCommand_101 : decode prog_8_method_10_code 101 = .ok (.invokevirtual 83, 3) := by decide +kernel
theorem d_W_hasCommand_104 : decode prog_8_method_10_code 104 = .ok (.ifCond .eq 7, 3) := by decide +kernel
theorem d_W_hasCommand_107 : decode prog_8_method_10_code 107 = .ok (.iconst 1, 1) := by decide +kernel
theorem d_W_hasCommand_108 : decode prog_8_method_10_code 108 = .ok (.goto 4, 3) := by decide +kernel
theorem d_W_hasCommand_113 : decode prog_8_method_10_code 113 = .ok (.iload_n 2, 1) := by decide +kernel
theorem d_W_hasCommand_114 : decode prog_8_method_10_code 114 = .ok (.iconst (-1), 1) := by decide +kernel
theorem d_W_hasCommand_115 : decode prog_8_method_10_code 115 = .ok (.if_icmp .ne 12, 3) := by decide +kernel
theorem d_W_hasCommand_127 : decode prog_8_method_10_code 127 = .ok (.iconst 0, 1) := by decide +kernel
theorem d_W_hasCommand_128 : decode prog_8_method_10_code 128 = .ok (.ireturn, 1) := by decide +kernel
theorem d_W_hasCommand_118 : decode prog_8_method_10_code 118 = .ok (.iload_n 3, 1) := by decide +kernel
theorem d_W_hasCommand_119 : decode prog_8_method_10_code 119 = .ok (.iconst (-1), 1) := by decide +kernel
theorem d_W_hasCommand_120 : decode prog_8_method_10_code 120 = .ok (.if_icmp .ne 7, 3) := by decide +kernel
theorem d_W_hasCommand_123 : decode prog_8_method_10_code 123 = .ok (.iconst 1, 1) := by decide +kernel
theorem d_W_hasCommand_124 : decode prog_8_method_10_code 124 = .ok (.goto 4, 3) := by decide +kernel
theorem d_W_hasCommand_129 : decode prog_8_method_10_code 129 = .ok (.iload_n 2, 1) := by decide +kernel
theorem d_W_hasCommand_130 : decode prog_8_method_10_code 130 = .ok (.iconst (-1), 1) := by decide +kernel
theorem d_W_hasCommand_131 : decode prog_8_method_10_code 131 = .ok (.if_icmp .eq 11, 3) := by decide +kernel
theorem d_W_hasCommand_134 : decode prog_8_method_10_code 134 = .ok (.aload_n 0, 1) := by decide +kernel
theorem d_W_hasCommand_135 : decode prog_8_method_10_code 135 = .ok (.iload_n 2, 1) := by decide +kernel
theorem d_W_hasCommand_136 : decode prog_8_method_10_code 136 = .ok (.invokevirtual 83, 3) := by decide +kernel
theorem d_W_hasCommand_139 : decode prog_8_method_10_code 139 = .ok (.ifCond .eq 20, 3) := by decide +kernel
theorem d_W_hasCommand_159 : decode prog_8_method_10_code 159 = .ok (.iconst 0, 1) := by decide +kernel
theorem d_W_hasCommand_160 : decode prog_8_method_10_code 160 = .ok (.ireturn, 1) := by decide +kernel
theorem d_W_hasCommand_161 : decode prog_8_method_10_code 161 = .ok (.iconst 0, 1) := by decide +kernel
theorem d_W_hasCommand_162 : decode prog_8_method_10_code 162 = .ok (.ireturn, 1) := by decide +kernel
theorem d_W_hasCommand_142 : decode prog_8_method_10_code 142 = .ok (.iload_n 3, 1) := by decide +kernel
theorem d_W_hasCommand_143 : decode prog_8_method_10_code 143 = .ok (.iconst (-1), 1) := by decide +kernel
theorem d_W_hasCommand_144 : decode prog_8_method_10_code 144 = .ok (.if_icmp .eq 11, 3) := by decide +kernel
theorem d_W_hasCommand_155 : decode prog_8_method_10_code 155 = .ok (.iconst 1, 1) := by decide +kernel
theorem d_W_hasCommand_156 : decode prog_8_method_10_code 156 = .ok (.goto 4, 3) := by decide +kernel
theorem d_W_hasCommand_147 : decode prog_8_method_10_code 147 = .ok (.aload_n 0, 1) := by decide +kernel
theorem d_W_hasCommand_148 : decode prog_8_method_10_code 148 = .ok (.iload_n 3, 1) := by decide +kernel
theorem d_W_hasCommand_149 : decode prog_8_method_10_code 149 = .ok (.invokevirtual 83, 3) := by decide +kernel
theorem d_W_hasCommand_152 : decode prog_8_method_10_code 152 = .ok (.ifCond .eq 7, 3) := by decide +kernel
theorem d_W_isWalker_0 : decode prog_8_method_11_code 0 = .ok (.iconst 0, 1) := by decide +kernel
theorem d_W_isWalker_1 : decode prog_8_method_11_code 1 = .ok (.istore_n 2, 1) := by decide +kernel
theorem d_W_isWalker_2 : decode prog_8_method_11_code 2 = .ok (.iload_n 2, 1) := by decide +kernel
theorem d_W_isWalker_3 : decode prog_8_method_11_code 3 = .ok (.aload_n 0, 1) := by decide +kernel
theorem d_W_isWalker_4 : decode prog_8_method_11_code 4 = .ok (.getfield 69, 3) := by decide +kernel
theorem d_W_isWalker_7 : decode prog_8_method_11_code 7 = .ok (.if_icmp .ge 21, 3) := by decide +kernel
theorem d_W_isWalker_28 : decode prog_8_method_11_code 28 = .ok (.iconst 0, 1) := by decide +kernel
theorem d_W_isWalker_29 : decode prog_8_method_11_code 29 = .ok (.ireturn, 1) := by decide +kernel
theorem d_W_isWalker_10 : decode prog_8_method_11_code 10 = .ok (.aload_n 0, 1) := by decide +kernel
theorem d_W_isWalker_11 : decode prog_8_method_11_code 11 = .ok (.getfield 41, 3) := by decide +kernel
theorem d_W_isWalker_14 : decode prog_8_method_11_code 14 = .ok (.iload_n 2, 1) := by decide +kernel
theorem d_W_isWalker_15 : decode prog_8_method_11_code 15 = .ok (.iaload, 1) := by decide +kernel
theorem d_W_isWalker_16 : decode prog_8_method_11_code 16 = .ok (.iload_n 1, 1) := by decide +kernel
theorem d_W_isWalker_17 : decode prog_8_method_11_code 17 = .ok (.if_icmp .ne 5, 3) := by decide +kernel
theorem d_W_isWalker_22 : decode prog_8_method_11_code 22 = .ok (.iinc 2 1, 3) := by decide +kernel
theorem d_W_isWalker_25 : decode prog_8_method_11_code 25 = .ok (.goto (-23), 3) := by decide +kernel
theorem d_W_isWalker_20 : decode prog_8_method_11_code 20 = .ok (.iconst 1, 1) := by decide +kernel
theorem d_W_isWalker_21 : decode prog_8_method_11_code 21 = .ok (.ireturn, 1) := by decide +kernel
theorem d_W_setExit_0 : decode prog_8_method_13_code 0 = .ok (.aload_n 0, 1) := by decide +kernel
theorem d_W_setExit_1 : decode prog_8_method_13_code 1 = .ok (.getfield 9, 3) := by decide +kernel
theorem d_W_setExit_4 : decode prog_8_method_13_code 4 = .ok (.iload_n 1, 1) := by decide +kernel
theorem d_W_setExit_5 : decode prog_8_method_13_code 5 = .ok (.iconst 4, 1) := by decide +kernel
theorem d_W_setExit_6 : decode prog_8_method_13_code 6 = .ok (.imul, 1) := by decide +kernel
theorem d_W_setExit_7 : decode prog_8_method_13_code 7 = .ok (.iload_n 2, 1) := by decide +kernel
theorem d_W_setExit_8 : decode prog_8_method_13_code 8 = .ok (.iadd, 1) := by decide +kernel
theorem d_W_setExit_9 : decode prog_8_method_13_code 9 = .ok (.iload_n 3, 1) := by decide +kernel
theorem d_W_setExit_10 : decode prog_8_method_13_code 10 = .ok (.iastore, 1) := by decide +kernel
theorem d_W_setExit_11 : decode prog_8_method_13_code 11 = .ok (.aload_n 0, 1) := by decide +kernel
theorem d_W_setExit_12 : decode prog_8_method_13_code 12 = .ok (.getfield 15, 3) := by decide +kernel
theorem d_W_setExit_15 : decode prog_8_method_13_code 15 = .ok (.iload_n 1, 1) := by decide +kernel
theorem d_W_setExit_16 : decode prog_8_method_13_code 16 = .ok (.iconst 4, 1) := by decide +kernel
theorem d_W_setExit_17 : decode prog_8_method_13_code 17 = .ok (.imul, 1) := by decide +kernel
theorem d_W_setExit_18 : decode prog_8_method_13_code 18 = .ok (.iload_n 2, 1) := by decide +kernel
theorem d_W_setExit_19 : decode prog_8_method_13_code 19 = .ok (.iadd, 1) := by decide +kernel
theorem d_W_setExit_20 : decode prog_8_method_13_code 20 = .ok (.iload 4, 2) := by decide +kernel
theorem d_W_setExit_22 : decode prog_8_method_13_code 22 = .ok (.iastore, 1) := by decide +kernel
theorem d_W_setExit_23 : decode prog_8_method_13_code 23 = .ok (.return_, 1) := by decide +kernel
theorem d_W_addRoom_0 : decode prog_8_method_12_code 0 = .ok (.iconst 0, 1) := by decide +kernel
theorem d_W_addRoom_1 : decode prog_8_method_12_code 1 = .ok (.istore_n 1, 1) := by decide +kernel
theorem d_W_addRoom_2 : decode prog_8_method_12_code 2 = .ok (.iload_n 1, 1) := by decide +kernel
theorem d_W_addRoom_3 : decode prog_8_method_12_code 3 = .ok (.iconst 4, 1) := by decide +kernel
theorem d_W_addRoom_4 : decode prog_8_method_12_code 4 = .ok (.if_icmp .ge 20, 3) := by decide +kernel
theorem d_W_addRoom_24 : decode prog_8_method_12_code 24 = .ok (.aload_n 0, 1) := by decide +kernel
theorem d_W_addRoom_25 : decode prog_8_method_12_code 25 = .ok (.dup, 1) := by decide +kernel
theorem d_W_addRoom_26 : decode prog_8_method_12_code 26 = .ok (.getfield 53, 3) := by decide +kernel
theorem d_W_addRoom_29 : decode prog_8_method_12_code 29 = .ok (.dup_x1, 1) := by decide +kernel
theorem d_W_addRoom_30 : decode prog_8_method_12_code 30 = .ok (.iconst 1, 1) := by decide +kernel
theorem d_W_addRoom_31 : decode prog_8_method_12_code 31 = .ok (.iadd, 1) := by decide +kernel
theorem d_W_addRoom_32 : decode prog_8_method_12_code 32 = .ok (.putfield 53, 3) := by decide +kernel
theorem d_W_addRoom_35 : decode prog_8_method_12_code 35 = .ok (.ireturn, 1) := by decide +kernel
theorem d_W_addRoom_7 : decode prog_8_method_12_code 7 = .ok (.aload_n 0, 1) := by decide +kernel
theorem d_W_addRoom_8 : decode prog_8_method_12_code 8 = .ok (.aload_n 0, 1) := by decide +kernel
theorem d_W_addRoom_9 : decode prog_8_method_12_code 9 = .ok (.getfield 53, 3) := by decide +kernel
theorem d_W_addRoom_12 : decode prog_8_method_12_code 12 = .ok (.iload_n 1, 1) := by decide +kernel
theorem d_W_addRoom_13 : decode prog_8_method_12_code 13 = .ok (.iconst (-1), 1) := by decide +kernel
theorem d_W_addRoom_14 : decode prog_8_method_12_code 14 = .ok (.iconst (-1), 1) := by decide +kernel
theorem d_W_addRoom_15 : decode prog_8_method_12_code 15 = .ok (.invokevirtual 89, 3) := by decide +kernel
theorem d_W_addRoom_18 : decode prog_8_method_12_code 18 = .ok (.iinc 1 1, 3) := by decide +kernel
theorem d_W_addRoom_21 : decode prog_8_method_12_code 21 = .ok (.goto (-19), 3) := by decide +kernel
theorem d_W_addThing_0 : decode prog_8_method_14_code 0 = .ok (.aload_n 0, 1) := by decide +kernel
theorem d_W_addThing_1 : decode prog_8_method_14_code 1 = .ok (.getfield 18, 3) := by decide +kernel
theorem d_W_addThing_4 : decode prog_8_method_14_code 4 = .ok (.aload_n 0, 1) := by decide +kernel
theorem d_W_addThing_5 : decode prog_8_method_14_code 5 = .ok (.getfield 57, 3) := by decide +kernel
theorem d_W_addThing_8 : decode prog_8_method_14_code 8 = .ok (.iload_n 1, 1) := by decide +kernel
theorem d_W_addThing_9 : decode prog_8_method_14_code 9 = .ok (.iastore, 1) := by decide +kernel
theorem d_W_addThing_10 : decode prog_8_method_14_code 10 = .ok (.aload_n 0, 1) := by decide +kernel
theorem d_W_addThing_11 : decode prog_8_method_14_code 11 = .ok (.getfield 21, 3) := by decide +kernel
theorem d_W_addThing_14 : decode prog_8_method_14_code 14 = .ok (.aload_n 0, 1) := by decide +kernel
theorem d_W_addThing_15 : decode prog_8_method_14_code 15 = .ok (.getfield 57, 3) := by decide +kernel
theorem d_W_addThing_18 : decode prog_8_method_14_code 18 = .ok (.iload_n 2, 1) := by decide +kernel
theorem d_W_addThing_19 : decode prog_8_method_14_code 19 = .ok (.iastore, 1) := by decide +kernel
theorem d_W_addThing_20 : decode prog_8_method_14_code 20 = .ok (.aload_n 0, 1) := by decide +kernel
theorem d_W_addThing_21 : decode prog_8_method_14_code 21 = .ok (.dup, 1) := by decide +kernel
theorem d_W_addThing_22 : decode prog_8_method_14_code 22 = .ok (.getfield 57, 3) := by decide +kernel
theorem d_W_addThing_25 : decode prog_8_method_14_code 25 = .ok (.dup_x1, 1) := by decide +kernel
theorem d_W_addThing_26 : decode prog_8_method_14_code 26 = .ok (.iconst 1, 1) := by decide +kernel
theorem d_W_addThing_27 : decode prog_8_method_14_code 27 = .ok (.iadd, 1) := by decide +kernel
theorem d_W_addThing_28 : decode prog_8_method_14_code 28 = .ok (.putfield 57, 3) := by decide +kernel
theorem d_W_addThing_31 : decode prog_8_method_14_code 31 = .ok (.ireturn, 1) := by decide +kernel
theorem d_W_addNumber_0 : decode prog_8_method_15_code 0 = .ok (.aload_n 0, 1) := by decide +kernel
theorem d_W_addNumber_1 : decode prog_8_method_15_code 1 = .ok (.getfield 24, 3) := by decide +kernel
theorem d_W_addNumber_4 : decode prog_8_method_15_code 4 = .ok (.aload_n 0, 1) := by decide +kernel
theorem d_W_addNumber_5 : decode prog_8_method_15_code 5 = .ok (.getfield 60, 3) := by decide +kernel
theorem d_W_addNumber_8 : decode prog_8_method_15_code 8 = .ok (.iload_n 1, 1) := by decide +kernel
theorem d_W_addNumber_9 : decode prog_8_method_15_code 9 = .ok (.iastore, 1) := by decide +kernel
theorem d_W_addNumber_10 : decode prog_8_method_15_code 10 = .ok (.aload_n 0, 1) := by decide +kernel
theorem d_W_addNumber_11 : decode prog_8_method_15_code 11 = .ok (.getfield 27, 3) := by decide +kernel
theorem d_W_addNumber_14 : decode prog_8_method_15_code 14 = .ok (.aload_n 0, 1) := by decide +kernel
theorem d_W_addNumber_15 : decode prog_8_method_15_code 15 = .ok (.getfield 60, 3) := by decide +kernel
theorem d_W_addNumber_18 : decode prog_8_method_15_code 18 = .ok (.iload_n 2, 1) := by decide +kernel
theorem d_W_addNumber_19 : decode prog_8_method_15_code 19 = .ok (.iastore, 1) := by decide +kernel
theorem d_W_addNumber_20 : decode prog_8_method_15_code 20 = .ok (.aload_n 0, 1) := by decide +kernel
theorem d_W_addNumber_21 : decode prog_8_method_15_code 21 = .ok (.dup, 1) := by decide +kernel
theorem d_W_addNumber_22 : decode prog_8_method_15_code 22 = .ok (.getfield 60, 3) := by decide +kernel
theorem d_W_addNumber_25 : decode prog_8_method_15_code 25 = .ok (.dup_x1, 1) := by decide +kernel
theorem d_W_addNumber_26 : decode prog_8_method_15_code 26 = .ok (.iconst 1, 1) := by decide +kernel
theorem d_W_addNumber_27 : decode prog_8_method_15_code 27 = .ok (.iadd, 1) := by decide +kernel
theorem d_W_addNumber_28 : decode prog_8_method_15_code 28 = .ok (.putfield 60, 3) := by decide +kernel
theorem d_W_addNumber_31 : decode prog_8_method_15_code 31 = .ok (.ireturn, 1) := by decide +kernel
theorem d_W_addEnding_0 : decode prog_8_method_16_code 0 = .ok (.aload_n 0, 1) := by decide +kernel
theorem d_W_addEnding_1 : decode prog_8_method_16_code 1 = .ok (.getfield 30, 3) := by decide +kernel
theorem d_W_addEnding_4 : decode prog_8_method_16_code 4 = .ok (.aload_n 0, 1) := by decide +kernel
theorem d_W_addEnding_5 : decode prog_8_method_16_code 5 = .ok (.getfield 63, 3) := by decide +kernel
theorem d_W_addEnding_8 : decode prog_8_method_16_code 8 = .ok (.iload_n 1, 1) := by decide +kernel
theorem d_W_addEnding_9 : decode prog_8_method_16_code 9 = .ok (.bastore, 1) := by decide +kernel
theorem d_W_addEnding_10 : decode prog_8_method_16_code 10 = .ok (.aload_n 0, 1) := by decide +kernel
theorem d_W_addEnding_11 : decode prog_8_method_16_code 11 = .ok (.dup, 1) := by decide +kernel
theorem d_W_addEnding_12 : decode prog_8_method_16_code 12 = .ok (.getfield 63, 3) := by decide +kernel
theorem d_W_addEnding_15 : decode prog_8_method_16_code 15 = .ok (.dup_x1, 1) := by decide +kernel
theorem d_W_addEnding_16 : decode prog_8_method_16_code 16 = .ok (.iconst 1, 1) := by decide +kernel
theorem d_W_addEnding_17 : decode prog_8_method_16_code 17 = .ok (.iadd, 1) := by decide +kernel
theorem d_W_addEnding_18 : decode prog_8_method_16_code 18 = .ok (.putfield 63, 3) := by decide +kernel
theorem d_W_addEnding_21 : decode prog_8_method_16_code 21 = .ok (.ireturn, 1) := by decide +kernel
theorem d_W_addWalker_0 : decode prog_8_method_17_code 0 = .ok (.aload_n 0, 1) := by decide +kernel
theorem d_W_addWalker_1 : decode prog_8_method_17_code 1 = .ok (.getfield 41, 3) := by decide +kernel
theorem d_W_addWalker_4 : decode prog_8_method_17_code 4 = .ok (.aload_n 0, 1) := by decide +kernel
theorem d_W_addWalker_5 : decode prog_8_method_17_code 5 = .ok (.getfield 69, 3) := by decide +kernel
theorem d_W_addWalker_8 : decode prog_8_method_17_code 8 = .ok (.iload_n 1, 1) := by decide +kernel
theorem d_W_addWalker_9 : decode prog_8_method_17_code 9 = .ok (.iastore, 1) := by decide +kernel
theorem d_W_addWalker_10 : decode prog_8_method_17_code 10 = .ok (.aload_n 0, 1) := by decide +kernel
theorem d_W_addWalker_11 : decode prog_8_method_17_code 11 = .ok (.getfield 44, 3) := by decide +kernel
theorem d_W_addWalker_14 : decode prog_8_method_17_code 14 = .ok (.aload_n 0, 1) := by decide +kernel
theorem d_W_addWalker_15 : decode prog_8_method_17_code 15 = .ok (.getfield 69, 3) := by decide +kernel
theorem d_W_addWalker_18 : decode prog_8_method_17_code 18 = .ok (.iconst 3, 1) := by decide +kernel
theorem d_W_addWalker_19 : decode prog_8_method_17_code 19 = .ok (.imul, 1) := by decide +kernel
theorem d_W_addWalker_20 : decode prog_8_method_17_code 20 = .ok (.iload_n 2, 1) := by decide +kernel
theorem d_W_addWalker_21 : decode prog_8_method_17_code 21 = .ok (.iastore, 1) := by decide +kernel
theorem d_W_addWalker_22 : decode prog_8_method_17_code 22 = .ok (.aload_n 0, 1) := by decide +kernel
theorem d_W_addWalker_23 : decode prog_8_method_17_code 23 = .ok (.getfield 44, 3) := by decide +kernel
theorem d_W_addWalker_26 : decode prog_8_method_17_code 26 = .ok (.aload_n 0, 1) := by decide +kernel
theorem d_W_addWalker_27 : decode prog_8_method_17_code 27 = .ok (.getfield 69, 3) := by decide +kernel
theorem d_W_addWalker_30 : decode prog_8_method_17_code 30 = .ok (.iconst 3, 1) := by decide +kernel
theorem d_W_addWalker_31 : decode prog_8_method_17_code 31 = .ok (.imul, 1) := by decide +kernel
theorem d_W_addWalker_32 : decode prog_8_method_17_code 32 = .ok (.iconst 1, 1) := by decide +kernel
theorem d_W_addWalker_33 : decode prog_8_method_17_code 33 = .ok (.iadd, 1) := by decide +kernel
theorem d_W_addWalker_34 : decode prog_8_method_17_code 34 = .ok (.iload_n 3, 1) := by decide +kernel
theorem d_W_addWalker_35 : decode prog_8_method_17_code 35 = .ok (.iastore, 1) := by decide +kernel
theorem d_W_addWalker_36 : decode prog_8_method_17_code 36 = .ok (.aload_n 0, 1) := by decide +kernel
theorem d_W_addWalker_37 : decode prog_8_method_17_code 37 = .ok (.getfield 44, 3) := by decide +kernel
theorem d_W_addWalker_40 : decode prog_8_method_17_code 40 = .ok (.aload_n 0, 1) := by decide +kernel
theorem d_W_addWalker_41 : decode prog_8_method_17_code 41 = .ok (.getfield 69, 3) := by decide +kernel
theorem d_W_addWalker_44 : decode prog_8_method_17_code 44 = .ok (.iconst 3, 1) := by decide +kernel
theorem d_W_addWalker_45 : decode prog_8_method_17_code 45 = .ok (.imul, 1) := by decide +kernel
theorem d_W_addWalker_46 : decode prog_8_method_17_code 46 = .ok (.iconst 2, 1) := by decide +kernel
theorem d_W_addWalker_47 : decode prog_8_method_17_code 47 = .ok (.iadd, 1) := by decide +kernel
theorem d_W_addWalker_48 : decode prog_8_method_17_code 48 = .ok (.iload 4, 2) := by decide +kernel
theorem d_W_addWalker_50 : decode prog_8_method_17_code 50 = .ok (.iastore, 1) := by decide +kernel
theorem d_W_addWalker_51 : decode prog_8_method_17_code 51 = .ok (.aload_n 0, 1) := by decide +kernel
theorem d_W_addWalker_52 : decode prog_8_method_17_code 52 = .ok (.getfield 18, 3) := by decide +kernel
theorem d_W_addWalker_55 : decode prog_8_method_17_code 55 = .ok (.iload_n 1, 1) := by decide +kernel
theorem d_W_addWalker_56 : decode prog_8_method_17_code 56 = .ok (.iload_n 2, 1) := by decide +kernel
theorem d_W_addWalker_57 : decode prog_8_method_17_code 57 = .ok (.iastore, 1) := by decide +kernel
theorem d_W_addWalker_58 : decode prog_8_method_17_code 58 = .ok (.aload_n 0, 1) := by decide +kernel
theorem d_W_addWalker_59 : decode prog_8_method_17_code 59 = .ok (.dup, 1) := by decide +kernel
theorem d_W_addWalker_60 : decode prog_8_method_17_code 60 = .ok (.getfield 69, 3) := by decide +kernel
theorem d_W_addWalker_63 : decode prog_8_method_17_code 63 = .ok (.iconst 1, 1) := by decide +kernel
theorem d_W_addWalker_64 : decode prog_8_method_17_code 64 = .ok (.iadd, 1) := by decide +kernel
theorem d_W_addWalker_65 : decode prog_8_method_17_code 65 = .ok (.putfield 69, 3) := by decide +kernel
theorem d_W_addWalker_68 : decode prog_8_method_17_code 68 = .ok (.return_, 1) := by decide +kernel
theorem d_W_addTimer_0 : decode prog_8_method_18_code 0 = .ok (.aload_n 0, 1) := by decide +kernel
theorem d_W_addTimer_1 : decode prog_8_method_18_code 1 = .ok (.getfield 47, 3) := by decide +kernel
theorem d_W_addTimer_4 : decode prog_8_method_18_code 4 = .ok (.aload_n 0, 1) := by decide +kernel
theorem d_W_addTimer_5 : decode prog_8_method_18_code 5 = .ok (.getfield 72, 3) := by decide +kernel
theorem d_W_addTimer_8 : decode prog_8_method_18_code 8 = .ok (.iload_n 1, 1) := by decide +kernel
theorem d_W_addTimer_9 : decode prog_8_method_18_code 9 = .ok (.iastore, 1) := by decide +kernel
theorem d_W_addTimer_10 : decode prog_8_method_18_code 10 = .ok (.aload_n 0, 1) := by decide +kernel
theorem d_W_addTimer_11 : decode prog_8_method_18_code 11 = .ok (.getfield 50, 3) := by decide +kernel
theorem d_W_addTimer_14 : decode prog_8_method_18_code 14 = .ok (.aload_n 0, 1) := by decide +kernel
theorem d_W_addTimer_15 : decode prog_8_method_18_code 15 = .ok (.getfield 72, 3) := by decide +kernel
theorem d_W_addTimer_18 : decode prog_8_method_18_code 18 = .ok (.iload_n 2, 1) := by decide +kernel
theorem d_W_addTimer_19 : decode prog_8_method_18_code 19 = .ok (.iastore, 1) := by decide +kernel
theorem d_W_addTimer_20 : decode prog_8_method_18_code 20 = .ok (.aload_n 0, 1) := by decide +kernel
theorem d_W_addTimer_21 : decode prog_8_method_18_code 21 = .ok (.getfield 37, 3) := by decide +kernel
theorem d_W_addTimer_24 : decode prog_8_method_18_code 24 = .ok (.getfield 93, 3) := by decide +kernel
theorem d_W_addTimer_27 : decode prog_8_method_18_code 27 = .ok (.iload_n 1, 1) := by decide +kernel
theorem d_W_addTimer_28 : decode prog_8_method_18_code 28 = .ok (.iconst 1, 1) := by decide +kernel
theorem d_W_addTimer_29 : decode prog_8_method_18_code 29 = .ok (.bastore, 1) := by decide +kernel
theorem d_W_addTimer_30 : decode prog_8_method_18_code 30 = .ok (.aload_n 0, 1) := by decide +kernel
theorem d_W_addTimer_31 : decode prog_8_method_18_code 31 = .ok (.dup, 1) := by decide +kernel
theorem d_W_addTimer_32 : decode prog_8_method_18_code 32 = .ok (.getfield 72, 3) := by decide +kernel
theorem d_W_addTimer_35 : decode prog_8_method_18_code 35 = .ok (.iconst 1, 1) := by decide +kernel
theorem d_W_addTimer_36 : decode prog_8_method_18_code 36 = .ok (.iadd, 1) := by decide +kernel
theorem d_W_addTimer_37 : decode prog_8_method_18_code 37 = .ok (.putfield 72, 3) := by decide +kernel
theorem d_W_addTimer_40 : decode prog_8_method_18_code 40 = .ok (.return_, 1) := by decide +kernel
theorem d_B_write_0 : decode prog_3_method_19_code 0 = .ok (.lload_n 0, 1) := by decide +kernel
theorem d_B_write_1 : decode prog_3_method_19_code 1 = .ok (.iload_n 3, 1) := by decide +kernel
theorem d_B_write_2 : decode prog_3_method_19_code 2 = .ok (.i2l, 1) := by decide +kernel
theorem d_B_write_3 : decode prog_3_method_19_code 3 = .ok (.iload_n 2, 1) := by decide +kernel
theorem d_B_write_4 : decode prog_3_method_19_code 4 = .ok (.lshl, 1) := by decide +kernel
theorem d_B_write_5 : decode prog_3_method_19_code 5 = .ok (.ldc2_w 30, 3) := by decide +kernel
theorem d_B_write_8 : decode prog_3_method_19_code 8 = .ok (.lxor, 1) := by decide +kernel
theorem d_B_write_9 : decode prog_3_method_19_code 9 = .ok (.land, 1) := by decide +kernel
theorem d_B_write_10 : decode prog_3_method_19_code 10 = .ok (.iload 4, 2) := by decide +kernel
theorem d_B_write_12 : decode prog_3_method_19_code 12 = .ok (.iload_n 3, 1) := by decide +kernel
theorem d_B_write_13 : decode prog_3_method_19_code 13 = .ok (.iand, 1) := by decide +kernel
theorem d_B_write_14 : decode prog_3_method_19_code 14 = .ok (.i2l, 1) := by decide +kernel
theorem d_B_write_15 : decode prog_3_method_19_code 15 = .ok (.iload_n 2, 1) := by decide +kernel
theorem d_B_write_16 : decode prog_3_method_19_code 16 = .ok (.lshl, 1) := by decide +kernel
theorem d_B_write_17 : decode prog_3_method_19_code 17 = .ok (.lor, 1) := by decide +kernel
theorem d_B_write_18 : decode prog_3_method_19_code 18 = .ok (.lreturn, 1) := by decide +kernel
theorem d_B_withPlace_0 : decode prog_3_method_5_code 0 = .ok (.lload_n 0, 1) := by decide +kernel
theorem d_B_withPlace_1 : decode prog_3_method_5_code 1 = .ok (.iconst 3, 1) := by decide +kernel
theorem d_B_withPlace_2 : decode prog_3_method_5_code 2 = .ok (.iconst 4, 1) := by decide +kernel
theorem d_B_withPlace_3 : decode prog_3_method_5_code 3 = .ok (.iload_n 2, 1) := by decide +kernel
theorem d_B_withPlace_4 : decode prog_3_method_5_code 4 = .ok (.imul, 1) := by decide +kernel
theorem d_B_withPlace_5 : decode prog_3_method_5_code 5 = .ok (.iadd, 1) := by decide +kernel
theorem d_B_withPlace_6 : decode prog_3_method_5_code 6 = .ok (.bipush 15, 2) := by decide +kernel
theorem d_B_withPlace_8 : decode prog_3_method_5_code 8 = .ok (.iload_n 3, 1) := by decide +kernel
theorem d_B_withPlace_9 : decode prog_3_method_5_code 9 = .ok (.invokestatic 9, 3) := by decide +kernel
theorem d_B_withPlace_12 : decode prog_3_method_5_code 12 = .ok (.lreturn, 1) := by decide +kernel
theorem d_B_withOpen_0 : decode prog_3_method_7_code 0 = .ok (.lload_n 0, 1) := by decide +kernel
theorem d_B_withOpen_1 : decode prog_3_method_7_code 1 = .ok (.bipush 27, 2) := by decide +kernel
theorem d_B_withOpen_3 : decode prog_3_method_7_code 3 = .ok (.iload_n 2, 1) := by decide +kernel
theorem d_B_withOpen_4 : decode prog_3_method_7_code 4 = .ok (.iadd, 1) := by decide +kernel
theorem d_B_withOpen_5 : decode prog_3_method_7_code 5 = .ok (.iconst 1, 1) := by decide +kernel
theorem d_B_withOpen_6 : decode prog_3_method_7_code 6 = .ok (.iload_n 3, 1) := by decide +kernel
theorem d_B_withOpen_7 : decode prog_3_method_7_code 7 = .ok (.invokestatic 9, 3) := by decide +kernel
theorem d_B_withOpen_10 : decode prog_3_method_7_code 10 = .ok (.lreturn, 1) := by decide +kernel
theorem d_B_withAmount_0 : decode prog_3_method_9_code 0 = .ok (.lload_n 0, 1) := by decide +kernel
theorem d_B_withAmount_1 : decode prog_3_method_9_code 1 = .ok (.bipush 33, 2) := by decide +kernel
theorem d_B_withAmount_3 : decode prog_3_method_9_code 3 = .ok (.iconst 3, 1) := by decide +kernel
theorem d_B_withAmount_4 : decode prog_3_method_9_code 4 = .ok (.iload_n 2, 1) := by decide +kernel
theorem d_B_withAmount_5 : decode prog_3_method_9_code 5 = .ok (.imul, 1) := by decide +kernel
theorem d_B_withAmount_6 : decode prog_3_method_9_code 6 = .ok (.iadd, 1) := by decide +kernel
theorem d_B_withAmount_7 : decode prog_3_method_9_code 7 = .ok (.bipush 7, 2) := by decide +kernel
theorem d_B_withAmount_9 : decode prog_3_method_9_code 9 = .ok (.iload_n 3, 1) := by decide +kernel
theorem d_B_withAmount_10 : decode prog_3_method_9_code 10 = .ok (.invokestatic 9, 3) := by decide +kernel
theorem d_B_withAmount_13 : decode prog_3_method_9_code 13 = .ok (.lreturn, 1) := by decide +kernel
theorem d_B_withCount_0 : decode prog_3_method_13_code 0 = .ok (.lload_n 0, 1) := by decide +kernel
theorem d_B_withCount_1 : decode prog_3_method_13_code 1 = .ok (.bipush 46, 2) := by decide +kernel
theorem d_B_withCount_3 : decode prog_3_method_13_code 3 = .ok (.iconst 4, 1) := by decide +kernel
theorem d_B_withCount_4 : decode prog_3_method_13_code 4 = .ok (.iload_n 2, 1) := by decide +kernel
theorem d_B_withCount_5 : decode prog_3_method_13_code 5 = .ok (.imul, 1) := by decide +kernel
theorem d_B_withCount_6 : decode prog_3_method_13_code 6 = .ok (.iadd, 1) := by decide +kernel
theorem d_B_withCount_7 : decode prog_3_method_13_code 7 = .ok (.bipush 15, 2) := by decide +kernel
theorem d_B_withCount_9 : decode prog_3_method_13_code 9 = .ok (.iload_n 3, 1) := by decide +kernel
theorem d_B_withCount_10 : decode prog_3_method_13_code 10 = .ok (.invokestatic 9, 3) := by decide +kernel
theorem d_B_withCount_13 : decode prog_3_method_13_code 13 = .ok (.lreturn, 1) := by decide +kernel
theorem d_W_firstState_0 : decode prog_8_method_19_code 0 = .ok (.lconst 0, 1) := by decide +kernel
theorem d_W_firstState_1 : decode prog_8_method_19_code 1 = .ok (.lstore_n 1, 1) := by decide +kernel
theorem d_W_firstState_2 : decode prog_8_method_19_code 2 = .ok (.iconst 0, 1) := by decide +kernel
theorem d_W_firstState_3 : decode prog_8_method_19_code 3 = .ok (.istore_n 3, 1) := by decide +kernel
theorem d_W_firstState_4 : decode prog_8_method_19_code 4 = .ok (.iload_n 3, 1) := by decide +kernel
theorem d_W_firstState_5 : decode prog_8_method_19_code 5 = .ok (.aload_n 0, 1) := by decide +kernel
theorem d_W_firstState_6 : decode prog_8_method_19_code 6 = .ok (.getfield 57, 3) := by decide +kernel
theorem d_W_firstState_9 : decode prog_8_method_19_code 9 = .ok (.if_icmp .ge 43, 3) := by decide +kernel
theorem d_W_firstState_52 : decode prog_8_method_19_code 52 = .ok (.iconst 0, 1) := by decide +kernel
theorem d_W_firstState_53 : decode prog_8_method_19_code 53 = .ok (.istore_n 3, 1) := by decide +kernel
theorem d_W_firstState_12 : decode prog_8_method_19_code 12 = .ok (.lload_n 1, 1) := by decide +kernel
theorem d_W_firstState_13 : decode prog_8_method_19_code 13 = .ok (.iload_n 3, 1) := by decide +kernel
theorem d_W_firstState_14 : decode prog_8_method_19_code 14 = .ok (.aload_n 0, 1) := by decide +kernel
theorem d_W_firstState_15 : decode prog_8_method_19_code 15 = .ok (.getfield 18, 3) := by decide +kernel
theorem d_W_firstState_18 : decode prog_8_method_19_code 18 = .ok (.iload_n 3, 1) := by decide +kernel
theorem d_W_firstState_19 : decode prog_8_method_19_code 19 = .ok (.iaload, 1) := by decide +kernel
theorem d_W_firstState_20 : decode prog_8_method_19_code 20 = .ok (.invokestatic 96, 3) := by decide +kernel
theorem d_W_firstState_23 : decode prog_8_method_19_code 23 = .ok (.lstore_n 1, 1) := by decide +kernel
theorem d_W_firstState_24 : decode prog_8_method_19_code 24 = .ok (.lload_n 1, 1) := by decide +kernel
theorem d_W_firstState_25 : decode prog_8_method_19_code 25 = .ok (.iload_n 3, 1) := by decide +kernel
theorem d_W_firstState_26 : decode prog_8_method_19_code 26 = .ok (.aload_n 0, 1) := by decide +kernel
theorem d_W_firstState_27 : decode prog_8_method_19_code 27 = .ok (.getfield 21, 3) := by decide +kernel
theorem d_W_firstState_30 : decode prog_8_method_19_code 30 = .ok (.iload_n 3, 1) := by decide +kernel
theorem d_W_firstState_31 : decode prog_8_method_19_code 31 = .ok (.iaload, 1) := by decide +kernel
theorem d_W_firstState_32 : decode prog_8_method_19_code 32 = .ok (.iconst 4, 1) := by decide +kernel
theorem d_W_firstState_33 : decode prog_8_method_19_code 33 = .ok (.iand, 1) := by decide +kernel
theorem d_W_firstState_34 : decode prog_8_method_19_code 34 = .ok (.ifCond .eq 7, 3) := by decide +kernel
theorem d_W_firstState_41 : decode prog_8_method_19_code 41 = .ok (.iconst 0, 1) := by decide +kernel
theorem d_W_firstState_42 : decode prog_8_method_19_code 42 = .ok (.invokestatic 102, 3) := by decide +kernel
theorem d_W_firstState_45 : decode prog_8_method_19_code 45 = .ok (.lstore_n 1, 1) := by decide +kernel
theorem d_W_firstState_46 : decode prog_8_method_19_code 46 = .ok (.iinc 3 1, 3) := by decide +kernel
theorem d_W_firstState_49 : decode prog_8_method_19_code 49 = .ok (.goto (-45), 3) := by decide +kernel
theorem d_W_firstState_37 : decode prog_8_method_19_code 37 = .ok (.iconst 1, 1) := by decide +kernel
theorem d_W_firstState_38 : decode prog_8_method_19_code 38 = .ok (.goto 4, 3) := by decide +kernel
theorem d_W_firstState_54 : decode prog_8_method_19_code 54 = .ok (.iload_n 3, 1) := by decide +kernel
theorem d_W_firstState_55 : decode prog_8_method_19_code 55 = .ok (.aload_n 0, 1) := by decide +kernel
theorem d_W_firstState_56 : decode prog_8_method_19_code 56 = .ok (.getfield 60, 3) := by decide +kernel
theorem d_W_firstState_59 : decode prog_8_method_19_code 59 = .ok (.if_icmp .ge 21, 3) := by decide +kernel
theorem d_W_firstState_80 : decode prog_8_method_19_code 80 = .ok (.iconst 0, 1) := by decide +kernel
theorem d_W_firstState_81 : decode prog_8_method_19_code 81 = .ok (.istore_n 3, 1) := by decide +kernel
theorem d_W_firstState_62 : decode prog_8_method_19_code 62 = .ok (.lload_n 1, 1) := by decide +kernel
theorem d_W_firstState_63 : decode prog_8_method_19_code 63 = .ok (.iload_n 3, 1) := by decide +kernel
theorem d_W_firstState_64 : decode prog_8_method_19_code 64 = .ok (.aload_n 0, 1) := by decide +kernel
theorem d_W_firstState_65 : decode prog_8_method_19_code 65 = .ok (.getfield 24, 3) := by decide +kernel
theorem d_W_firstState_68 : decode prog_8_method_19_code 68 = .ok (.iload_n 3, 1) := by decide +kernel
theorem d_W_firstState_69 : decode prog_8_method_19_code 69 = .ok (.iaload, 1) := by decide +kernel
theorem d_W_firstState_70 : decode prog_8_method_19_code 70 = .ok (.invokestatic 105, 3) := by decide +kernel
theorem d_W_firstState_73 : decode prog_8_method_19_code 73 = .ok (.lstore_n 1, 1) := by decide +kernel
theorem d_W_firstState_74 : decode prog_8_method_19_code 74 = .ok (.iinc 3 1, 3) := by decide +kernel
theorem d_W_firstState_77 : decode prog_8_method_19_code 77 = .ok (.goto (-23), 3) := by decide +kernel
theorem d_W_firstState_82 : decode prog_8_method_19_code 82 = .ok (.iload_n 3, 1) := by decide +kernel
theorem d_W_firstState_83 : decode prog_8_method_19_code 83 = .ok (.aload_n 0, 1) := by decide +kernel
theorem d_W_firstState_84 : decode prog_8_method_19_code 84 = .ok (.getfield 72, 3) := by decide +kernel
theorem d_W_firstState_87 : decode prog_8_method_19_code 87 = .ok (.if_icmp .ge 21, 3) := by decide +kernel
theorem d_W_firstState_108 : decode prog_8_method_19_code 108 = .ok (.lload_n 1, 1) := by decide +kernel
theorem d_W_firstState_109 : decode prog_8_method_19_code 109 = .ok (.lreturn, 1) := by decide +kernel
theorem d_W_firstState_90 : decode prog_8_method_19_code 90 = .ok (.lload_n 1, 1) := by decide +kernel
theorem d_W_firstState_91 : decode prog_8_method_19_code 91 = .ok (.iload_n 3, 1) := by decide +kernel
theorem d_W_firstState_92 : decode prog_8_method_19_code 92 = .ok (.aload_n 0, 1) := by decide +kernel
theorem d_W_firstState_93 : decode prog_8_method_19_code 93 = .ok (.getfield 50, 3) := by decide +kernel
theorem d_W_firstState_96 : decode prog_8_method_19_code 96 = .ok (.iload_n 3, 1) := by decide +kernel
theorem d_W_firstState_97 : decode prog_8_method_19_code 97 = .ok (.iaload, 1) := by decide +kernel
theorem d_W_firstState_98 : decode prog_8_method_19_code 98 = .ok (.invokestatic 108, 3) := by decide +kernel
theorem d_W_firstState_101 : decode prog_8_method_19_code 101 = .ok (.lstore_n 1, 1) := by decide +kernel
theorem d_W_firstState_102 : decode prog_8_method_19_code 102 = .ok (.iinc 3 1, 3) := by decide +kernel
theorem d_W_firstState_105 : decode prog_8_method_19_code 105 = .ok (.goto (-23), 3) := by decide +kernel
theorem d_R_append_0 : decode prog_7_method_2_code 0 = .ok (.aload_n 0, 1) := by decide +kernel
theorem d_R_append_1 : decode prog_7_method_2_code 1 = .ok (.getfield 9, 3) := by decide +kernel
theorem d_R_append_4 : decode prog_7_method_2_code 4 = .ok (.aload_n 0, 1) := by decide +kernel
theorem d_R_append_5 : decode prog_7_method_2_code 5 = .ok (.getfield 38, 3) := by decide +kernel
theorem d_R_append_8 : decode prog_7_method_2_code 8 = .ok (.iload_n 1, 1) := by decide +kernel
theorem d_R_append_9 : decode prog_7_method_2_code 9 = .ok (.iastore, 1) := by decide +kernel
theorem d_R_append_10 : decode prog_7_method_2_code 10 = .ok (.aload_n 0, 1) := by decide +kernel
theorem d_R_append_11 : decode prog_7_method_2_code 11 = .ok (.getfield 15, 3) := by decide +kernel
theorem d_R_append_14 : decode prog_7_method_2_code 14 = .ok (.aload_n 0, 1) := by decide +kernel
theorem d_R_append_15 : decode prog_7_method_2_code 15 = .ok (.getfield 38, 3) := by decide +kernel
theorem d_R_append_18 : decode prog_7_method_2_code 18 = .ok (.iload_n 2, 1) := by decide +kernel
theorem d_R_append_19 : decode prog_7_method_2_code 19 = .ok (.iastore, 1) := by decide +kernel
theorem d_R_append_20 : decode prog_7_method_2_code 20 = .ok (.aload_n 0, 1) := by decide +kernel
theorem d_R_append_21 : decode prog_7_method_2_code 21 = .ok (.getfield 18, 3) := by decide +kernel
theorem d_R_append_24 : decode prog_7_method_2_code 24 = .ok (.aload_n 0, 1) := by decide +kernel
theorem d_R_append_25 : decode prog_7_method_2_code 25 = .ok (.getfield 38, 3) := by decide +kernel
theorem d_R_append_28 : decode prog_7_method_2_code 28 = .ok (.iload_n 3, 1) := by decide +kernel
theorem d_R_append_29 : decode prog_7_method_2_code 29 = .ok (.iastore, 1) := by decide +kernel
theorem d_R_append_30 : decode prog_7_method_2_code 30 = .ok (.aload_n 0, 1) := by decide +kernel
theorem d_R_append_31 : decode prog_7_method_2_code 31 = .ok (.getfield 21, 3) := by decide +kernel
theorem d_R_append_34 : decode prog_7_method_2_code 34 = .ok (.aload_n 0, 1) := by decide +kernel
theorem d_R_append_35 : decode prog_7_method_2_code 35 = .ok (.getfield 38, 3) := by decide +kernel
theorem d_R_append_38 : decode prog_7_method_2_code 38 = .ok (.iload 4, 2) := by decide +kernel
theorem d_R_append_40 : decode prog_7_method_2_code 40 = .ok (.iastore, 1) := by decide +kernel
theorem d_R_append_41 : decode prog_7_method_2_code 41 = .ok (.aload_n 0, 1) := by decide +kernel
theorem d_R_append_42 : decode prog_7_method_2_code 42 = .ok (.getfield 24, 3) := by decide +kernel
theorem d_R_append_45 : decode prog_7_method_2_code 45 = .ok (.aload_n 0, 1) := by decide +kernel
theorem d_R_append_46 : decode prog_7_method_2_code 46 = .ok (.getfield 38, 3) := by decide +kernel
theorem d_R_append_49 : decode prog_7_method_2_code 49 = .ok (.iconst 0, 1) := by decide +kernel
theorem d_R_append_50 : decode prog_7_method_2_code 50 = .ok (.bastore, 1) := by decide +kernel
theorem d_R_append_51 : decode prog_7_method_2_code 51 = .ok (.aload_n 0, 1) := by decide +kernel
theorem d_R_append_52 : decode prog_7_method_2_code 52 = .ok (.getfield 31, 3) := by decide +kernel
theorem d_R_append_55 : decode prog_7_method_2_code 55 = .ok (.getfield 42, 3) := by decide +kernel
theorem d_R_append_58 : decode prog_7_method_2_code 58 = .ok (.aload_n 0, 1) := by decide +kernel
theorem d_R_append_59 : decode prog_7_method_2_code 59 = .ok (.getfield 38, 3) := by decide +kernel
theorem d_R_append_62 : decode prog_7_method_2_code 62 = .ok (.iconst 0, 1) := by decide +kernel
theorem d_R_append_63 : decode prog_7_method_2_code 63 = .ok (.iastore, 1) := by decide +kernel
theorem d_R_append_64 : decode prog_7_method_2_code 64 = .ok (.aload_n 0, 1) := by decide +kernel
theorem d_R_append_65 : decode prog_7_method_2_code 65 = .ok (.getfield 35, 3) := by decide +kernel
theorem d_R_append_68 : decode prog_7_method_2_code 68 = .ok (.getfield 42, 3) := by decide +kernel
theorem d_R_append_71 : decode prog_7_method_2_code 71 = .ok (.aload_n 0, 1) := by decide +kernel
theorem d_R_append_72 : decode prog_7_method_2_code 72 = .ok (.getfield 38, 3) := by decide +kernel
theorem d_R_append_75 : decode prog_7_method_2_code 75 = .ok (.iconst 0, 1) := by decide +kernel
theorem d_R_append_76 : decode prog_7_method_2_code 76 = .ok (.iastore, 1) := by decide +kernel
theorem d_R_append_77 : decode prog_7_method_2_code 77 = .ok (.aload_n 0, 1) := by decide +kernel
theorem d_R_append_78 : decode prog_7_method_2_code 78 = .ok (.dup, 1) := by decide +kernel
theorem d_R_append_79 : decode prog_7_method_2_code 79 = .ok (.getfield 38, 3) := by decide +kernel
theorem d_R_append_82 : decode prog_7_method_2_code 82 = .ok (.dup_x1, 1) := by decide +kernel
theorem d_R_append_83 : decode prog_7_method_2_code 83 = .ok (.iconst 1, 1) := by decide +kernel
theorem d_R_append_84 : decode prog_7_method_2_code 84 = .ok (.iadd, 1) := by decide +kernel
theorem d_R_append_85 : decode prog_7_method_2_code 85 = .ok (.putfield 38, 3) := by decide +kernel
theorem d_R_append_88 : decode prog_7_method_2_code 88 = .ok (.ireturn, 1) := by decide +kernel
theorem d_C_hasSpace_0 : decode prog_4_method_2_code 0 = .ok (.aload_n 0, 1) := by decide +kernel
theorem d_C_hasSpace_1 : decode prog_4_method_2_code 1 = .ok (.getfield 9, 3) := by decide +kernel
theorem d_C_hasSpace_4 : decode prog_4_method_2_code 4 = .ok (.iload_n 1, 1) := by decide +kernel
theorem d_C_hasSpace_5 : decode prog_4_method_2_code 5 = .ok (.iaload, 1) := by decide +kernel
theorem d_C_hasSpace_6 : decode prog_4_method_2_code 6 = .ok (.iconst 3, 1) := by decide +kernel
theorem d_C_hasSpace_7 : decode prog_4_method_2_code 7 = .ok (.if_icmp .ge 7, 3) := by decide +kernel
theorem d_C_hasSpace_14 : decode prog_4_method_2_code 14 = .ok (.iconst 0, 1) := by decide +kernel
theorem d_C_hasSpace_15 : decode prog_4_method_2_code 15 = .ok (.ireturn, 1) := by decide +kernel
theorem d_C_hasSpace_10 : decode prog_4_method_2_code 10 = .ok (.iconst 1, 1) := by decide +kernel
theorem d_C_hasSpace_11 : decode prog_4_method_2_code 11 = .ok (.goto 4, 3) := by decide +kernel
theorem d_C_endOf_0 : decode prog_4_method_4_code 0 = .ok (.iload_n 1, 1) := by decide +kernel
theorem d_C_endOf_1 : decode prog_4_method_4_code 1 = .ok (.iconst 3, 1) := by decide +kernel
theorem d_C_endOf_2 : decode prog_4_method_4_code 2 = .ok (.imul, 1) := by decide +kernel
theorem d_C_endOf_3 : decode prog_4_method_4_code 3 = .ok (.aload_n 0, 1) := by decide +kernel
theorem d_C_endOf_4 : decode prog_4_method_4_code 4 = .ok (.getfield 9, 3) := by decide +kernel
theorem d_C_endOf_7 : decode prog_4_method_4_code 7 = .ok (.iload_n 1, 1) := by decide +kernel
theorem d_C_endOf_8 : decode prog_4_method_4_code 8 = .ok (.iaload, 1) := by decide +kernel
theorem d_C_endOf_9 : decode prog_4_method_4_code 9 = .ok (.iadd, 1) := by decide +kernel
theorem d_C_endOf_10 : decode prog_4_method_4_code 10 = .ok (.ireturn, 1) := by decide +kernel
theorem d_C_append_0 : decode prog_4_method_5_code 0 = .ok (.aload_n 0, 1) := by decide +kernel
theorem d_C_append_1 : decode prog_4_method_5_code 1 = .ok (.iload_n 1, 1) := by decide +kernel
theorem d_C_append_2 : decode prog_4_method_5_code 2 = .ok (.invokevirtual 24, 3) := by decide +kernel
theorem d_C_append_5 : decode prog_4_method_5_code 5 = .ok (.istore 5, 2) := by decide +kernel
theorem d_C_append_7 : decode prog_4_method_5_code 7 = .ok (.aload_n 0, 1) := by decide +kernel
theorem d_C_append_8 : decode prog_4_method_5_code 8 = .ok (.getfield 15, 3) := by decide +kernel
theorem d_C_append_11 : decode prog_4_method_5_code 11 = .ok (.iload 5, 2) := by decide +kernel
theorem d_C_append_13 : decode prog_4_method_5_code 13 = .ok (.iload_n 2, 1) := by decide +kernel
theorem d_C_append_14 : decode prog_4_method_5_code 14 = .ok (.iastore, 1) := by decide +kernel
theorem d_C_append_15 : decode prog_4_method_5_code 15 = .ok (.aload_n 0, 1) := by decide +kernel
theorem d_C_append_16 : decode prog_4_method_5_code 16 = .ok (.getfield 18, 3) := by decide +kernel
theorem d_C_append_19 : decode prog_4_method_5_code 19 = .ok (.iload 5, 2) := by decide +kernel
theorem d_C_append_21 : decode prog_4_method_5_code 21 = .ok (.iload_n 3, 1) := by decide +kernel
theorem d_C_append_22 : decode prog_4_method_5_code 22 = .ok (.iastore, 1) := by decide +kernel
theorem d_C_append_23 : decode prog_4_method_5_code 23 = .ok (.aload_n 0, 1) := by decide +kernel
theorem d_C_append_24 : decode prog_4_method_5_code 24 = .ok (.getfield 21, 3) := by decide +kernel
theorem d_C_append_27 : decode prog_4_method_5_code 27 = .ok (.iload 5, 2) := by decide +kernel
theorem d_C_append_29 : decode prog_4_method_5_code 29 = .ok (.iload 4, 2) := by decide +kernel
theorem d_C_append_31 : decode prog_4_method_5_code 31 = .ok (.iastore, 1) := by decide +kernel
theorem d_C_append_32 : decode prog_4_method_5_code 32 = .ok (.aload_n 0, 1) := by decide +kernel
theorem d_C_append_33 : decode prog_4_method_5_code 33 = .ok (.getfield 9, 3) := by decide +kernel
theorem d_C_append_36 : decode prog_4_method_5_code 36 = .ok (.iload_n 1, 1) := by decide +kernel
theorem d_C_append_37 : decode prog_4_method_5_code 37 = .ok (.dup2, 1) := by decide +kernel
theorem d_C_append_38 : decode prog_4_method_5_code 38 = .ok (.iaload, 1) := by decide +kernel
theorem d_C_append_39 : decode prog_4_method_5_code 39 = .ok (.iconst 1, 1) := by decide +kernel
theorem d_C_append_40 : decode prog_4_method_5_code 40 = .ok (.iadd, 1) := by decide +kernel
theorem d_C_append_41 : decode prog_4_method_5_code 41 = .ok (.iastore, 1) := by decide +kernel
theorem d_C_append_42 : decode prog_4_method_5_code 42 = .ok (.return_, 1) := by decide +kernel
theorem d_B_placeOf_0 : decode prog_3_method_4_code 0 = .ok (.lload_n 0, 1) := by decide +kernel
theorem d_B_placeOf_1 : decode prog_3_method_4_code 1 = .ok (.iconst 3, 1) := by decide +kernel
theorem d_B_placeOf_2 : decode prog_3_method_4_code 2 = .ok (.iconst 4, 1) := by decide +kernel
