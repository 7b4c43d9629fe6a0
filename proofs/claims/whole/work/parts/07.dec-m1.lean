theorem d_M_thing_67 : decode prog_10_method_17_code 67 = .ok (.aload_n 0, 1) := by decide +kernel
theorem d_M_thing_68 : decode prog_10_method_17_code 68 = .ok (.getfield 147, 3) := by decide +kernel
theorem d_M_thing_71 : decode prog_10_method_17_code 71 = .ok (.iload_n 1, 1) := by decide +kernel
theorem d_M_thing_72 : decode prog_10_method_17_code 72 = .ok (.iastore, 1) := by decide +kernel
theorem d_M_thing_73 : decode prog_10_method_17_code 73 = .ok (.aload_n 0, 1) := by decide +kernel
theorem d_M_thing_74 : decode prog_10_method_17_code 74 = .ok (.getfield 16, 3) := by decide +kernel
theorem d_M_thing_77 : decode prog_10_method_17_code 77 = .ok (.aload_n 0, 1) := by decide +kernel
theorem d_M_thing_78 : decode prog_10_method_17_code 78 = .ok (.getfield 147, 3) := by decide +kernel
theorem d_M_thing_81 : decode prog_10_method_17_code 81 = .ok (.iload_n 2, 1) := by decide +kernel
theorem d_M_thing_82 : decode prog_10_method_17_code 82 = .ok (.iastore, 1) := by decide +kernel
theorem d_M_thing_83 : decode prog_10_method_17_code 83 = .ok (.aload_n 0, 1) := by decide +kernel
theorem d_M_thing_84 : decode prog_10_method_17_code 84 = .ok (.dup, 1) := by decide +kernel
theorem d_M_thing_85 : decode prog_10_method_17_code 85 = .ok (.getfield 147, 3) := by decide +kernel
theorem d_M_thing_88 : decode prog_10_method_17_code 88 = .ok (.iconst 1, 1) := by decide +kernel
theorem d_M_thing_89 : decode prog_10_method_17_code 89 = .ok (.iadd, 1) := by decide +kernel
theorem d_M_thing_90 : decode prog_10_method_17_code 90 = .ok (.putfield 147, 3) := by decide +kernel
theorem d_M_thing_93 : decode prog_10_method_17_code 93 = .ok (.aload_n 0, 1) := by decide +kernel
theorem d_M_thing_94 : decode prog_10_method_17_code 94 = .ok (.invokevirtual 134, 3) := by decide +kernel
theorem d_M_thing_97 : decode prog_10_method_17_code 97 = .ok (.aload_n 0, 1) := by decide +kernel
theorem d_M_thing_98 : decode prog_10_method_17_code 98 = .ok (.getfield 147, 3) := by decide +kernel
theorem d_M_thing_101 : decode prog_10_method_17_code 101 = .ok (.iconst 1, 1) := by decide +kernel
theorem d_M_thing_102 : decode prog_10_method_17_code 102 = .ok (.isub, 1) := by decide +kernel
theorem d_M_thing_103 : decode prog_10_method_17_code 103 = .ok (.ireturn, 1) := by decide +kernel
theorem d_M_thing_61 : decode prog_10_method_17_code 61 = .ok (.iconst 0, 1) := by decide +kernel
theorem d_M_thing_62 : decode prog_10_method_17_code 62 = .ok (.ireturn, 1) := by decide +kernel
theorem d_M_number_0 : decode prog_10_method_18_code 0 = .ok (.aload_n 0, 1) := by decide +kernel
theorem d_M_number_1 : decode prog_10_method_18_code 1 = .ok (.iload_n 2, 1) := by decide +kernel
theorem d_M_number_2 : decode prog_10_method_18_code 2 = .ok (.iconst 1, 1) := by decide +kernel
theorem d_M_number_3 : decode prog_10_method_18_code 3 = .ok (.if_icmp .lt 18, 3) := by decide +kernel
theorem d_M_number_6 : decode prog_10_method_18_code 6 = .ok (.iload_n 2, 1) := by decide +kernel
theorem d_M_number_7 : decode prog_10_method_18_code 7 = .ok (.bipush 7, 2) := by decide +kernel
theorem d_M_number_9 : decode prog_10_method_18_code 9 = .ok (.if_icmp .gt 12, 3) := by decide +kernel
theorem d_M_number_12 : decode prog_10_method_18_code 12 = .ok (.iload_n 1, 1) := by decide +kernel
theorem d_M_number_13 : decode prog_10_method_18_code 13 = .ok (.ifCond .lt 8, 3) := by decide +kernel
theorem d_M_number_16 : decode prog_10_method_18_code 16 = .ok (.iload_n 1, 1) := by decide +kernel
theorem d_M_number_17 : decode prog_10_method_18_code 17 = .ok (.iload_n 2, 1) := by decide +kernel
theorem d_M_number_18 : decode prog_10_method_18_code 18 = .ok (.if_icmp .le 7, 3) := by decide +kernel
theorem d_M_number_25 : decode prog_10_method_18_code 25 = .ok (.aload_n 0, 1) := by decide +kernel
theorem d_M_number_26 : decode prog_10_method_18_code 26 = .ok (.getfield 150, 3) := by decide +kernel
theorem d_M_number_29 : decode prog_10_method_18_code 29 = .ok (.iconst 3, 1) := by decide +kernel
theorem d_M_number_30 : decode prog_10_method_18_code 30 = .ok (.if_icmp .ne 7, 3) := by decide +kernel
theorem d_M_number_37 : decode prog_10_method_18_code 37 = .ok (.iconst 0, 1) := by decide +kernel
theorem d_M_number_33 : decode prog_10_method_18_code 33 = .ok (.iconst 2, 1) := by decide +kernel
theorem d_M_number_34 : decode prog_10_method_18_code 34 = .ok (.goto 4, 3) := by decide +kernel
theorem d_M_number_21 : decode prog_10_method_18_code 21 = .ok (.iconst 1, 1) := by decide +kernel
theorem d_M_number_22 : decode prog_10_method_18_code 22 = .ok (.goto 16, 3) := by decide +kernel
theorem d_M_number_38 : decode prog_10_method_18_code 38 = .ok (.putfield 137, 3) := by decide +kernel
theorem d_M_number_41 : decode prog_10_method_18_code 41 = .ok (.aload_n 0, 1) := by decide +kernel
theorem d_M_number_42 : decode prog_10_method_18_code 42 = .ok (.getfield 137, 3) := by decide +kernel
theorem d_M_number_45 : decode prog_10_method_18_code 45 = .ok (.ifCond .le 5, 3) := by decide +kernel
theorem d_M_number_50 : decode prog_10_method_18_code 50 = .ok (.aload_n 0, 1) := by decide +kernel
theorem d_M_number_51 : decode prog_10_method_18_code 51 = .ok (.getfield 25, 3) := by decide +kernel
theorem d_M_number_54 : decode prog_10_method_18_code 54 = .ok (.aload_n 0, 1) := by decide +kernel
theorem d_M_number_55 : decode prog_10_method_18_code 55 = .ok (.getfield 150, 3) := by decide +kernel
theorem d_M_number_58 : decode prog_10_method_18_code 58 = .ok (.iload_n 1, 1) := by decide +kernel
theorem d_M_number_59 : decode prog_10_method_18_code 59 = .ok (.iastore, 1) := by decide +kernel
theorem d_M_number_60 : decode prog_10_method_18_code 60 = .ok (.aload_n 0, 1) := by decide +kernel
theorem d_M_number_61 : decode prog_10_method_18_code 61 = .ok (.getfield 22, 3) := by decide +kernel
theorem d_M_number_64 : decode prog_10_method_18_code 64 = .ok (.aload_n 0, 1) := by decide +kernel
theorem d_M_number_65 : decode prog_10_method_18_code 65 = .ok (.getfield 150, 3) := by decide +kernel
theorem d_M_number_68 : decode prog_10_method_18_code 68 = .ok (.iload_n 2, 1) := by decide +kernel
theorem d_M_number_69 : decode prog_10_method_18_code 69 = .ok (.iastore, 1) := by decide +kernel
theorem d_M_number_70 : decode prog_10_method_18_code 70 = .ok (.aload_n 0, 1) := by decide +kernel
theorem d_M_number_71 : decode prog_10_method_18_code 71 = .ok (.dup, 1) := by decide +kernel
theorem d_M_number_72 : decode prog_10_method_18_code 72 = .ok (.getfield 150, 3) := by decide +kernel
theorem d_M_number_75 : decode prog_10_method_18_code 75 = .ok (.iconst 1, 1) := by decide +kernel
theorem d_M_number_76 : decode prog_10_method_18_code 76 = .ok (.iadd, 1) := by decide +kernel
theorem d_M_number_77 : decode prog_10_method_18_code 77 = .ok (.putfield 150, 3) := by decide +kernel
theorem d_M_number_80 : decode prog_10_method_18_code 80 = .ok (.aload_n 0, 1) := by decide +kernel
theorem d_M_number_81 : decode prog_10_method_18_code 81 = .ok (.invokevirtual 134, 3) := by decide +kernel
theorem d_M_number_84 : decode prog_10_method_18_code 84 = .ok (.aload_n 0, 1) := by decide +kernel
theorem d_M_number_85 : decode prog_10_method_18_code 85 = .ok (.getfield 150, 3) := by decide +kernel
theorem d_M_number_88 : decode prog_10_method_18_code 88 = .ok (.iconst 1, 1) := by decide +kernel
theorem d_M_number_89 : decode prog_10_method_18_code 89 = .ok (.isub, 1) := by decide +kernel
theorem d_M_number_90 : decode prog_10_method_18_code 90 = .ok (.ireturn, 1) := by decide +kernel
theorem d_M_number_48 : decode prog_10_method_18_code 48 = .ok (.iconst 0, 1) := by decide +kernel
theorem d_M_number_49 : decode prog_10_method_18_code 49 = .ok (.ireturn, 1) := by decide +kernel
theorem d_M_ending_0 : decode prog_10_method_19_code 0 = .ok (.aload_n 0, 1) := by decide +kernel
theorem d_M_ending_1 : decode prog_10_method_19_code 1 = .ok (.aload_n 0, 1) := by decide +kernel
theorem d_M_ending_2 : decode prog_10_method_19_code 2 = .ok (.getfield 211, 3) := by decide +kernel
theorem d_M_ending_5 : decode prog_10_method_19_code 5 = .ok (.iconst 4, 1) := by decide +kernel
theorem d_M_ending_6 : decode prog_10_method_19_code 6 = .ok (.if_icmp .ne 7, 3) := by decide +kernel
theorem d_M_ending_13 : decode prog_10_method_19_code 13 = .ok (.iconst 0, 1) := by decide +kernel
theorem d_M_ending_9 : decode prog_10_method_19_code 9 = .ok (.iconst 1, 1) := by decide +kernel
theorem d_M_ending_10 : decode prog_10_method_19_code 10 = .ok (.goto 4, 3) := by decide +kernel
theorem d_M_ending_14 : decode prog_10_method_19_code 14 = .ok (.putfield 137, 3) := by decide +kernel
theorem d_M_ending_17 : decode prog_10_method_19_code 17 = .ok (.aload_n 0, 1) := by decide +kernel
theorem d_M_ending_18 : decode prog_10_method_19_code 18 = .ok (.getfield 137, 3) := by decide +kernel
theorem d_M_ending_21 : decode prog_10_method_19_code 21 = .ok (.ifCond .le 5, 3) := by decide +kernel
theorem d_M_ending_26 : decode prog_10_method_19_code 26 = .ok (.aload_n 0, 1) := by decide +kernel
theorem d_M_ending_27 : decode prog_10_method_19_code 27 = .ok (.getfield 28, 3) := by decide +kernel
theorem d_M_ending_30 : decode prog_10_method_19_code 30 = .ok (.aload_n 0, 1) := by decide +kernel
theorem d_M_ending_31 : decode prog_10_method_19_code 31 = .ok (.getfield 211, 3) := by decide +kernel
theorem d_M_ending_34 : decode prog_10_method_19_code 34 = .ok (.iload_n 1, 1) := by decide +kernel
theorem d_M_ending_35 : decode prog_10_method_19_code 35 = .ok (.bastore, 1) := by decide +kernel
theorem d_M_ending_36 : decode prog_10_method_19_code 36 = .ok (.aload_n 0, 1) := by decide +kernel
theorem d_M_ending_37 : decode prog_10_method_19_code 37 = .ok (.dup, 1) := by decide +kernel
theorem d_M_ending_38 : decode prog_10_method_19_code 38 = .ok (.getfield 211, 3) := by decide +kernel
theorem d_M_ending_41 : decode prog_10_method_19_code 41 = .ok (.iconst 1, 1) := by decide +kernel
theorem d_M_ending_42 : decode prog_10_method_19_code 42 = .ok (.iadd, 1) := by decide +kernel
theorem d_M_ending_43 : decode prog_10_method_19_code 43 = .ok (.putfield 211, 3) := by decide +kernel
theorem d_M_ending_46 : decode prog_10_method_19_code 46 = .ok (.aload_n 0, 1) := by decide +kernel
theorem d_M_ending_47 : decode prog_10_method_19_code 47 = .ok (.invokevirtual 134, 3) := by decide +kernel
theorem d_M_ending_50 : decode prog_10_method_19_code 50 = .ok (.aload_n 0, 1) := by decide +kernel
theorem d_M_ending_51 : decode prog_10_method_19_code 51 = .ok (.getfield 211, 3) := by decide +kernel
theorem d_M_ending_54 : decode prog_10_method_19_code 54 = .ok (.iconst 1, 1) := by decide +kernel
theorem d_M_ending_55 : decode prog_10_method_19_code 55 = .ok (.isub, 1) := by decide +kernel
theorem d_M_ending_56 : decode prog_10_method_19_code 56 = .ok (.ireturn, 1) := by decide +kernel
theorem d_M_ending_24 : decode prog_10_method_19_code 24 = .ok (.iconst 0, 1) := by decide +kernel
theorem d_M_ending_25 : decode prog_10_method_19_code 25 = .ok (.ireturn, 1) := by decide +kernel
theorem d_M_rule_0 : decode prog_10_method_20_code 0 = .ok (.iload_n 1, 1) := by decide +kernel
theorem d_M_rule_1 : decode prog_10_method_20_code 1 = .ok (.ifCond .lt 43, 3) := by decide +kernel
theorem d_M_rule_4 : decode prog_10_method_20_code 4 = .ok (.iload_n 1, 1) := by decide +kernel
theorem d_M_rule_5 : decode prog_10_method_20_code 5 = .ok (.bipush 8, 2) := by decide +kernel
theorem d_M_rule_7 : decode prog_10_method_20_code 7 = .ok (.if_icmp .gt 37, 3) := by decide +kernel
theorem d_M_rule_10 : decode prog_10_method_20_code 10 = .ok (.iload_n 2, 1) := by decide +kernel
theorem d_M_rule_11 : decode prog_10_method_20_code 11 = .ok (.bipush (-2), 2) := by decide +kernel
theorem d_M_rule_13 : decode prog_10_method_20_code 13 = .ok (.if_icmp .lt 31, 3) := by decide +kernel
theorem d_M_rule_16 : decode prog_10_method_20_code 16 = .ok (.iload_n 2, 1) := by decide +kernel
theorem d_M_rule_17 : decode prog_10_method_20_code 17 = .ok (.iconst 5, 1) := by decide +kernel
theorem d_M_rule_18 : decode prog_10_method_20_code 18 = .ok (.if_icmp .gt 26, 3) := by decide +kernel
theorem d_M_rule_21 : decode prog_10_method_20_code 21 = .ok (.iload_n 3, 1) := by decide +kernel
theorem d_M_rule_22 : decode prog_10_method_20_code 22 = .ok (.bipush (-2), 2) := by decide +kernel
theorem d_M_rule_24 : decode prog_10_method_20_code 24 = .ok (.if_icmp .lt 20, 3) := by decide +kernel
theorem d_M_rule_27 : decode prog_10_method_20_code 27 = .ok (.iload_n 3, 1) := by decide +kernel
theorem d_M_rule_28 : decode prog_10_method_20_code 28 = .ok (.iconst 5, 1) := by decide +kernel
theorem d_M_rule_29 : decode prog_10_method_20_code 29 = .ok (.if_icmp .gt 15, 3) := by decide +kernel
theorem d_M_rule_32 : decode prog_10_method_20_code 32 = .ok (.iload 4, 2) := by decide +kernel
theorem d_M_rule_34 : decode prog_10_method_20_code 34 = .ok (.ifCond .lt 10, 3) := by decide +kernel
theorem d_M_rule_37 : decode prog_10_method_20_code 37 = .ok (.iload 4, 2) := by decide +kernel
theorem d_M_rule_39 : decode prog_10_method_20_code 39 = .ok (.bipush 98, 2) := by decide +kernel
theorem d_M_rule_41 : decode prog_10_method_20_code 41 = .ok (.if_icmp .le 7, 3) := by decide +kernel
theorem d_M_rule_48 : decode prog_10_method_20_code 48 = .ok (.iconst 0, 1) := by decide +kernel
theorem d_M_rule_44 : decode prog_10_method_20_code 44 = .ok (.iconst 1, 1) := by decide +kernel
theorem d_M_rule_45 : decode prog_10_method_20_code 45 = .ok (.goto 4, 3) := by decide +kernel
theorem d_M_rule_49 : decode prog_10_method_20_code 49 = .ok (.istore 5, 2) := by decide +kernel
theorem d_M_rule_51 : decode prog_10_method_20_code 51 = .ok (.aload_n 0, 1) := by decide +kernel
theorem d_M_rule_52 : decode prog_10_method_20_code 52 = .ok (.iload 5, 2) := by decide +kernel
theorem d_M_rule_54 : decode prog_10_method_20_code 54 = .ok (.ifCond .eq 7, 3) := by decide +kernel
theorem d_M_rule_61 : decode prog_10_method_20_code 61 = .ok (.aload_n 0, 1) := by decide +kernel
theorem d_M_rule_62 : decode prog_10_method_20_code 62 = .ok (.getfield 208, 3) := by decide +kernel
theorem d_M_rule_65 : decode prog_10_method_20_code 65 = .ok (.bipush 12, 2) := by decide +kernel
theorem d_M_rule_67 : decode prog_10_method_20_code 67 = .ok (.if_icmp .ne 7, 3) := by decide +kernel
theorem d_M_rule_74 : decode prog_10_method_20_code 74 = .ok (.iconst 0, 1) := by decide +kernel
theorem d_M_rule_70 : decode prog_10_method_20_code 70 = .ok (.iconst 2, 1) := by decide +kernel
theorem d_M_rule_71 : decode prog_10_method_20_code 71 = .ok (.goto 4, 3) := by decide +kernel
theorem d_M_rule_57 : decode prog_10_method_20_code 57 = .ok (.iconst 1, 1) := by decide +kernel
theorem d_M_rule_58 : decode prog_10_method_20_code 58 = .ok (.goto 17, 3) := by decide +kernel
theorem d_M_rule_75 : decode prog_10_method_20_code 75 = .ok (.putfield 137, 3) := by decide +kernel
theorem d_M_rule_78 : decode prog_10_method_20_code 78 = .ok (.aload_n 0, 1) := by decide +kernel
theorem d_M_rule_79 : decode prog_10_method_20_code 79 = .ok (.getfield 137, 3) := by decide +kernel
theorem d_M_rule_82 : decode prog_10_method_20_code 82 = .ok (.ifCond .le 5, 3) := by decide +kernel
theorem d_M_rule_87 : decode prog_10_method_20_code 87 = .ok (.aload_n 0, 1) := by decide +kernel
theorem d_M_rule_88 : decode prog_10_method_20_code 88 = .ok (.getfield 32, 3) := by decide +kernel
theorem d_M_rule_91 : decode prog_10_method_20_code 91 = .ok (.aload_n 0, 1) := by decide +kernel
theorem d_M_rule_92 : decode prog_10_method_20_code 92 = .ok (.getfield 208, 3) := by decide +kernel
theorem d_M_rule_95 : decode prog_10_method_20_code 95 = .ok (.iload_n 1, 1) := by decide +kernel
theorem d_M_rule_96 : decode prog_10_method_20_code 96 = .ok (.iastore, 1) := by decide +kernel
theorem d_M_rule_97 : decode prog_10_method_20_code 97 = .ok (.aload_n 0, 1) := by decide +kernel
theorem d_M_rule_98 : decode prog_10_method_20_code 98 = .ok (.getfield 35, 3) := by decide +kernel
theorem d_M_rule_101 : decode prog_10_method_20_code 101 = .ok (.aload_n 0, 1) := by decide +kernel
theorem d_M_rule_102 : decode prog_10_method_20_code 102 = .ok (.getfield 208, 3) := by decide +kernel
theorem d_M_rule_105 : decode prog_10_method_20_code 105 = .ok (.iload_n 2, 1) := by decide +kernel
theorem d_M_rule_106 : decode prog_10_method_20_code 106 = .ok (.iastore, 1) := by decide +kernel
theorem d_M_rule_107 : decode prog_10_method_20_code 107 = .ok (.aload_n 0, 1) := by decide +kernel
theorem d_M_rule_108 : decode prog_10_method_20_code 108 = .ok (.getfield 38, 3) := by decide +kernel
theorem d_M_rule_111 : decode prog_10_method_20_code 111 = .ok (.aload_n 0, 1) := by decide +kernel
theorem d_M_rule_112 : decode prog_10_method_20_code 112 = .ok (.getfield 208, 3) := by decide +kernel
theorem d_M_rule_115 : decode prog_10_method_20_code 115 = .ok (.iload_n 3, 1) := by decide +kernel
theorem d_M_rule_116 : decode prog_10_method_20_code 116 = .ok (.iastore, 1) := by decide +kernel
theorem d_M_rule_117 : decode prog_10_method_20_code 117 = .ok (.aload_n 0, 1) := by decide +kernel
theorem d_M_rule_118 : decode prog_10_method_20_code 118 = .ok (.getfield 41, 3) := by decide +kernel
theorem d_M_rule_121 : decode prog_10_method_20_code 121 = .ok (.aload_n 0, 1) := by decide +kernel
theorem d_M_rule_122 : decode prog_10_method_20_code 122 = .ok (.getfield 208, 3) := by decide +kernel
theorem d_M_rule_125 : decode prog_10_method_20_code 125 = .ok (.iload 4, 2) := by decide +kernel
theorem d_M_rule_127 : decode prog_10_method_20_code 127 = .ok (.iastore, 1) := by decide +kernel
theorem d_M_rule_128 : decode prog_10_method_20_code 128 = .ok (.aload_n 0, 1) := by decide +kernel
theorem d_M_rule_129 : decode prog_10_method_20_code 129 = .ok (.getfield 44, 3) := by decide +kernel
theorem d_M_rule_132 : decode prog_10_method_20_code 132 = .ok (.aload_n 0, 1) := by decide +kernel
theorem d_M_rule_133 : decode prog_10_method_20_code 133 = .ok (.getfield 208, 3) := by decide +kernel
theorem d_M_rule_136 : decode prog_10_method_20_code 136 = .ok (.iconst 0, 1) := by decide +kernel
theorem d_M_rule_137 : decode prog_10_method_20_code 137 = .ok (.bastore, 1) := by decide +kernel
theorem d_M_rule_138 : decode prog_10_method_20_code 138 = .ok (.aload_n 0, 1) := by decide +kernel
theorem d_M_rule_139 : decode prog_10_method_20_code 139 = .ok (.getfield 47, 3) := by decide +kernel
theorem d_M_rule_142 : decode prog_10_method_20_code 142 = .ok (.aload_n 0, 1) := by decide +kernel
theorem d_M_rule_143 : decode prog_10_method_20_code 143 = .ok (.getfield 208, 3) := by decide +kernel
theorem d_M_rule_146 : decode prog_10_method_20_code 146 = .ok (.iconst 0, 1) := by decide +kernel
theorem d_M_rule_147 : decode prog_10_method_20_code 147 = .ok (.iastore, 1) := by decide +kernel
theorem d_M_rule_148 : decode prog_10_method_20_code 148 = .ok (.aload_n 0, 1) := by decide +kernel
theorem d_M_rule_149 : decode prog_10_method_20_code 149 = .ok (.getfield 59, 3) := by decide +kernel
theorem d_M_rule_152 : decode prog_10_method_20_code 152 = .ok (.aload_n 0, 1) := by decide +kernel
theorem d_M_rule_153 : decode prog_10_method_20_code 153 = .ok (.getfield 208, 3) := by decide +kernel
theorem d_M_rule_156 : decode prog_10_method_20_code 156 = .ok (.iconst 0, 1) := by decide +kernel
theorem d_M_rule_157 : decode prog_10_method_20_code 157 = .ok (.iastore, 1) := by decide +kernel
theorem d_M_rule_158 : decode prog_10_method_20_code 158 = .ok (.aload_n 0, 1) := by decide +kernel
theorem d_M_rule_159 : decode prog_10_method_20_code 159 = .ok (.dup, 1) := by decide +kernel
theorem d_M_rule_160 : decode prog_10_method_20_code 160 = .ok (.getfield 208, 3) := by decide +kernel
theorem d_M_rule_163 : decode prog_10_method_20_code 163 = .ok (.iconst 1, 1) := by decide +kernel
theorem d_M_rule_164 : decode prog_10_method_20_code 164 = .ok (.iadd, 1) := by decide +kernel
theorem d_M_rule_165 : decode prog_10_method_20_code 165 = .ok (.putfield 208, 3) := by decide +kernel
theorem d_M_rule_168 : decode prog_10_method_20_code 168 = .ok (.aload_n 0, 1) := by decide +kernel
theorem d_M_rule_169 : decode prog_10_method_20_code 169 = .ok (.invokevirtual 134, 3) := by decide +kernel
theorem d_M_rule_172 : decode prog_10_method_20_code 172 = .ok (.aload_n 0, 1) := by decide +kernel
theorem d_M_rule_173 : decode prog_10_method_20_code 173 = .ok (.getfield 208, 3) := by decide +kernel
theorem d_M_rule_176 : decode prog_10_method_20_code 176 = .ok (.iconst 1, 1) := by decide +kernel
theorem d_M_rule_177 : decode prog_10_method_20_code 177 = .ok (.isub, 1) := by decide +kernel
theorem d_M_rule_178 : decode prog_10_method_20_code 178 = .ok (.ireturn, 1) := by decide +kernel
theorem d_M_rule_85 : decode prog_10_method_20_code 85 = .ok (.iconst 0, 1) := by decide +kernel
theorem d_M_rule_86 : decode prog_10_method_20_code 86 = .ok (.ireturn, 1) := by decide +kernel
theorem d_M_lacks_0 : decode prog_10_method_21_code 0 = .ok (.iload_n 1, 1) := by decide +kernel
theorem d_M_lacks_1 : decode prog_10_method_21_code 1 = .ok (.ifCond .ne 11, 3) := by decide +kernel
theorem d_M_lacks_12 : decode prog_10_method_21_code 12 = .ok (.iload_n 1, 1) := by decide +kernel
theorem d_M_lacks_13 : decode prog_10_method_21_code 13 = .ok (.iconst 1, 1) := by decide +kernel
theorem d_M_lacks_14 : decode prog_10_method_21_code 14 = .ok (.if_icmp .ne 27, 3) := by decide +kernel
theorem d_M_lacks_41 : decode prog_10_method_21_code 41 = .ok (.iload_n 1, 1) := by decide +kernel
theorem d_M_lacks_42 : decode prog_10_method_21_code 42 = .ok (.iconst 2, 1) := by decide +kernel
theorem d_M_lacks_43 : decode prog_10_method_21_code 43 = .ok (.if_icmp .ne 11, 3) := by decide +kernel
theorem d_M_lacks_54 : decode prog_10_method_21_code 54 = .ok (.aload_n 0, 1) := by decide +kernel
theorem d_M_lacks_55 : decode prog_10_method_21_code 55 = .ok (.iload_n 2, 1) := by decide +kernel
theorem d_M_lacks_56 : decode prog_10_method_21_code 56 = .ok (.invokevirtual 220, 3) := by decide +kernel
theorem d_M_lacks_59 : decode prog_10_method_21_code 59 = .ok (.ireturn, 1) := by decide +kernel
theorem d_M_lacks_46 : decode prog_10_method_21_code 46 = .ok (.aload_n 0, 1) := by decide +kernel
theorem d_M_lacks_47 : decode prog_10_method_21_code 47 = .ok (.iload_n 2, 1) := by decide +kernel
theorem d_M_lacks_48 : decode prog_10_method_21_code 48 = .ok (.invokevirtual 205, 3) := by decide +kernel
theorem d_M_lacks_51 : decode prog_10_method_21_code 51 = .ok (.goto 8, 3) := by decide +kernel
theorem d_M_lacks_17 : decode prog_10_method_21_code 17 = .ok (.aload_n 0, 1) := by decide +kernel
theorem d_M_lacks_18 : decode prog_10_method_21_code 18 = .ok (.iload_n 2, 1) := by decide +kernel
theorem d_M_lacks_19 : decode prog_10_method_21_code 19 = .ok (.invokevirtual 205, 3) := by decide +kernel
theorem d_M_lacks_22 : decode prog_10_method_21_code 22 = .ok (.ifCond .ne 11, 3) := by decide +kernel
theorem d_M_lacks_33 : decode prog_10_method_21_code 33 = .ok (.iconst 1, 1) := by decide +kernel
theorem d_M_lacks_34 : decode prog_10_method_21_code 34 = .ok (.goto 25, 3) := by decide +kernel
theorem d_M_lacks_25 : decode prog_10_method_21_code 25 = .ok (.aload_n 0, 1) := by decide +kernel
theorem d_M_lacks_26 : decode prog_10_method_21_code 26 = .ok (.iload_n 3, 1) := by decide +kernel
theorem d_M_lacks_27 : decode prog_10_method_21_code 27 = .ok (.invokevirtual 217, 3) := by decide +kernel
theorem d_M_lacks_30 : decode prog_10_method_21_code 30 = .ok (.ifCond .eq 7, 3) := by decide +kernel
theorem d_M_lacks_37 : decode prog_10_method_21_code 37 = .ok (.iconst 0, 1) := by decide +kernel
theorem d_M_lacks_38 : decode prog_10_method_21_code 38 = .ok (.goto 21, 3) := by decide +kernel
theorem d_M_lacks_4 : decode prog_10_method_21_code 4 = .ok (.aload_n 0, 1) := by decide +kernel
theorem d_M_lacks_5 : decode prog_10_method_21_code 5 = .ok (.iload_n 2, 1) := by decide +kernel
theorem d_M_lacks_6 : decode prog_10_method_21_code 6 = .ok (.invokevirtual 201, 3) := by decide +kernel
theorem d_M_lacks_9 : decode prog_10_method_21_code 9 = .ok (.goto 50, 3) := by decide +kernel
theorem d_M_condition_0 : decode prog_10_method_22_code 0 = .ok (.aload_n 0, 1) := by decide +kernel
theorem d_M_condition_1 : decode prog_10_method_22_code 1 = .ok (.aload_n 0, 1) := by decide +kernel
theorem d_M_condition_2 : decode prog_10_method_22_code 2 = .ok (.iload_n 1, 1) := by decide +kernel
theorem d_M_condition_3 : decode prog_10_method_22_code 3 = .ok (.invokevirtual 223, 3) := by decide +kernel
theorem d_M_condition_6 : decode prog_10_method_22_code 6 = .ok (.ifCond .eq 7, 3) := by decide +kernel
theorem d_M_condition_13 : decode prog_10_method_22_code 13 = .ok (.iload_n 2, 1) := by decide +kernel
theorem d_M_condition_14 : decode prog_10_method_22_code 14 = .ok (.ifCond .lt 8, 3) := by decide +kernel
theorem d_M_condition_17 : decode prog_10_method_22_code 17 = .ok (.iload_n 2, 1) := by decide +kernel
theorem d_M_condition_18 : decode prog_10_method_22_code 18 = .ok (.iconst 4, 1) := by decide +kernel
theorem d_M_condition_19 : decode prog_10_method_22_code 19 = .ok (.if_icmp .le 7, 3) := by decide +kernel
theorem d_M_condition_26 : decode prog_10_method_22_code 26 = .ok (.aload_n 0, 1) := by decide +kernel
theorem d_M_condition_27 : decode prog_10_method_22_code 27 = .ok (.iload_n 2, 1) := by decide +kernel
theorem d_M_condition_28 : decode prog_10_method_22_code 28 = .ok (.iload_n 3, 1) := by decide +kernel
theorem d_M_condition_29 : decode prog_10_method_22_code 29 = .ok (.iload 4, 2) := by decide +kernel
theorem d_M_condition_31 : decode prog_10_method_22_code 31 = .ok (.invokevirtual 226, 3) := by decide +kernel
theorem d_M_condition_34 : decode prog_10_method_22_code 34 = .ok (.ifCond .eq 7, 3) := by decide +kernel
theorem d_M_condition_41 : decode prog_10_method_22_code 41 = .ok (.iconst 0, 1) := by decide +kernel
theorem d_M_condition_37 : decode prog_10_method_22_code 37 = .ok (.iconst 1, 1) := by decide +kernel
theorem d_M_condition_38 : decode prog_10_method_22_code 38 = .ok (.goto 4, 3) := by decide +kernel
theorem d_M_condition_9 : decode prog_10_method_22_code 9 = .ok (.iconst 1, 1) := by decide +kernel
theorem d_M_condition_10 : decode prog_10_method_22_code 10 = .ok (.goto 32, 3) := by decide +kernel
theorem d_M_condition_22 : decode prog_10_method_22_code 22 = .ok (.iconst 2, 1) := by decide +kernel
theorem d_M_condition_23 : decode prog_10_method_22_code 23 = .ok (.goto 19, 3) := by decide +kernel
theorem d_M_condition_42 : decode prog_10_method_22_code 42 = .ok (.putfield 137, 3) := by decide +kernel
theorem d_M_condition_45 : decode prog_10_method_22_code 45 = .ok (.aload_n 0, 1) := by decide +kernel
theorem d_M_condition_46 : decode prog_10_method_22_code 46 = .ok (.getfield 137, 3) := by decide +kernel
theorem d_M_condition_49 : decode prog_10_method_22_code 49 = .ok (.ifCond .le 4, 3) := by decide +kernel
theorem d_M_condition_53 : decode prog_10_method_22_code 53 = .ok (.iload_n 2, 1) := by decide +kernel
theorem d_M_condition_54 : decode prog_10_method_22_code 54 = .ok (.iconst 2, 1) := by decide +kernel
theorem d_M_condition_55 : decode prog_10_method_22_code 55 = .ok (.if_icmp .ne 14, 3) := by decide +kernel
theorem d_M_condition_58 : decode prog_10_method_22_code 58 = .ok (.iload 4, 2) := by decide +kernel
theorem d_M_condition_60 : decode prog_10_method_22_code 60 = .ok (.ifCond .lt 26, 3) := by decide +kernel
theorem d_M_condition_63 : decode prog_10_method_22_code 63 = .ok (.iload 4, 2) := by decide +kernel
theorem d_M_condition_65 : decode prog_10_method_22_code 65 = .ok (.iconst 1, 1) := by decide +kernel
theorem d_M_condition_66 : decode prog_10_method_22_code 66 = .ok (.if_icmp .gt 20, 3) := by decide +kernel
theorem d_M_condition_52 : decode prog_10_method_22_code 52 = .ok (.return_, 1) := by decide +kernel
theorem d_M_condition_69 : decode prog_10_method_22_code 69 = .ok (.iload_n 2, 1) := by decide +kernel
theorem d_M_condition_70 : decode prog_10_method_22_code 70 = .ok (.iconst 2, 1) := by decide +kernel
theorem d_M_condition_71 : decode prog_10_method_22_code 71 = .ok (.if_icmp .le 19, 3) := by decide +kernel
theorem d_M_condition_74 : decode prog_10_method_22_code 74 = .ok (.iload 4, 2) := by decide +kernel
theorem d_M_condition_76 : decode prog_10_method_22_code 76 = .ok (.ifCond .lt 10, 3) := by decide +kernel
theorem d_M_condition_79 : decode prog_10_method_22_code 79 = .ok (.iload 4, 2) := by decide +kernel
theorem d_M_condition_81 : decode prog_10_method_22_code 81 = .ok (.bipush 7, 2) := by decide +kernel
theorem d_M_condition_83 : decode prog_10_method_22_code 83 = .ok (.if_icmp .le 7, 3) := by decide +kernel
theorem d_M_condition_86 : decode prog_10_method_22_code 86 = .ok (.iconst 1, 1) := by decide +kernel
theorem d_M_condition_87 : decode prog_10_method_22_code 87 = .ok (.goto 4, 3) := by decide +kernel
theorem d_M_condition_90 : decode prog_10_method_22_code 90 = .ok (.iconst 0, 1) := by decide +kernel
theorem d_M_condition_91 : decode prog_10_method_22_code 91 = .ok (.istore 5, 2) := by decide +kernel
theorem d_M_condition_93 : decode prog_10_method_22_code 93 = .ok (.aload_n 0, 1) := by decide +kernel
theorem d_M_condition_94 : decode prog_10_method_22_code 94 = .ok (.iload 5, 2) := by decide +kernel
theorem d_M_condition_96 : decode prog_10_method_22_code 96 = .ok (.ifCond .eq 7, 3) := by decide +kernel
theorem d_M_condition_103 : decode prog_10_method_22_code 103 = .ok (.aload_n 0, 1) := by decide +kernel
theorem d_M_condition_104 : decode prog_10_method_22_code 104 = .ok (.getfield 47, 3) := by decide +kernel
theorem d_M_condition_107 : decode prog_10_method_22_code 107 = .ok (.iload_n 1, 1) := by decide +kernel
theorem d_M_condition_108 : decode prog_10_method_22_code 108 = .ok (.iaload, 1) := by decide +kernel
theorem d_M_condition_109 : decode prog_10_method_22_code 109 = .ok (.iconst 3, 1) := by decide +kernel
theorem d_M_condition_110 : decode prog_10_method_22_code 110 = .ok (.if_icmp .ne 7, 3) := by decide +kernel
theorem d_M_condition_117 : decode prog_10_method_22_code 117 = .ok (.iconst 0, 1) := by decide +kernel
theorem d_M_condition_113 : decode prog_10_method_22_code 113 = .ok (.iconst 3, 1) := by decide +kernel
theorem d_M_condition_114 : decode prog_10_method_22_code 114 = .ok (.goto 4, 3) := by decide +kernel
theorem d_M_condition_99 : decode prog_10_method_22_code 99 = .ok (.iconst 2, 1) := by decide +kernel
theorem d_M_condition_100 : decode prog_10_method_22_code 100 = .ok (.goto 18, 3) := by decide +kernel
theorem d_M_condition_118 : decode prog_10_method_22_code 118 = .ok (.putfield 137, 3) := by decide +kernel
theorem d_M_condition_121 : decode prog_10_method_22_code 121 = .ok (.aload_n 0, 1) := by decide +kernel
theorem d_M_condition_122 : decode prog_10_method_22_code 122 = .ok (.getfield 137, 3) := by decide +kernel
theorem d_M_condition_125 : decode prog_10_method_22_code 125 = .ok (.ifCond .le 4, 3) := by decide +kernel
theorem d_M_condition_129 : decode prog_10_method_22_code 129 = .ok (.iconst 3, 1) := by decide +kernel
theorem d_M_condition_130 : decode prog_10_method_22_code 130 = .ok (.iload_n 1, 1) := by decide +kernel
theorem d_M_condition_131 : decode prog_10_method_22_code 131 = .ok (.imul, 1) := by decide +kernel
theorem d_M_condition_132 : decode prog_10_method_22_code 132 = .ok (.aload_n 0, 1) := by decide +kernel
theorem d_M_condition_133 : decode prog_10_method_22_code 133 = .ok (.getfield 47, 3) := by decide +kernel
theorem d_M_condition_136 : decode prog_10_method_22_code 136 = .ok (.iload_n 1, 1) := by decide +kernel
theorem d_M_condition_137 : decode prog_10_method_22_code 137 = .ok (.iaload, 1) := by decide +kernel
theorem d_M_condition_138 : decode prog_10_method_22_code 138 = .ok (.iadd, 1) := by decide +kernel
theorem d_M_condition_139 : decode prog_10_method_22_code 139 = .ok (.istore 6, 2) := by decide +kernel
theorem d_M_condition_141 : decode prog_10_method_22_code 141 = .ok (.aload_n 0, 1) := by decide +kernel
theorem d_M_condition_142 : decode prog_10_method_22_code 142 = .ok (.getfield 50, 3) := by decide +kernel
theorem d_M_condition_145 : decode prog_10_method_22_code 145 = .ok (.iload 6, 2) := by decide +kernel
theorem d_M_condition_147 : decode prog_10_method_22_code 147 = .ok (.iload_n 2, 1) := by decide +kernel
theorem d_M_condition_148 : decode prog_10_method_22_code 148 = .ok (.iastore, 1) := by decide +kernel
theorem d_M_condition_149 : decode prog_10_method_22_code 149 = .ok (.aload_n 0, 1) := by decide +kernel
theorem d_M_condition_150 : decode prog_10_method_22_code 150 = .ok (.getfield 53, 3) := by decide +kernel
theorem d_M_condition_153 : decode prog_10_method_22_code 153 = .ok (.iload 6, 2) := by decide +kernel
theorem d_M_condition_155 : decode prog_10_method_22_code 155 = .ok (.iload_n 3, 1) := by decide +kernel
theorem d_M_condition_156 : decode prog_10_method_22_code 156 = .ok (.iastore, 1) := by decide +kernel
theorem d_M_condition_157 : decode prog_10_method_22_code 157 = .ok (.aload_n 0, 1) := by decide +kernel
theorem d_M_condition_158 : decode prog_10_method_22_code 158 = .ok (.getfield 56, 3) := by decide +kernel
theorem d_M_condition_161 : decode prog_10_method_22_code 161 = .ok (.iload 6, 2) := by decide +kernel
theorem d_M_condition_163 : decode prog_10_method_22_code 163 = .ok (.iload 4, 2) := by decide +kernel
theorem d_M_condition_165 : decode prog_10_method_22_code 165 = .ok (.iastore, 1) := by decide +kernel
theorem d_M_condition_166 : decode prog_10_method_22_code 166 = .ok (.aload_n 0, 1) := by decide +kernel
theorem d_M_condition_167 : decode prog_10_method_22_code 167 = .ok (.getfield 47, 3) := by decide +kernel
theorem d_M_condition_170 : decode prog_10_method_22_code 170 = .ok (.iload_n 1, 1) := by decide +kernel
theorem d_M_condition_171 : decode prog_10_method_22_code 171 = .ok (.dup2, 1) := by decide +kernel
theorem d_M_condition_172 : decode prog_10_method_22_code 172 = .ok (.iaload, 1) := by decide +kernel
theorem d_M_condition_173 : decode prog_10_method_22_code 173 = .ok (.iconst 1, 1) := by decide +kernel
theorem d_M_condition_174 : decode prog_10_method_22_code 174 = .ok (.iadd, 1) := by decide +kernel
theorem d_M_condition_175 : decode prog_10_method_22_code 175 = .ok (.iastore, 1) := by decide +kernel
theorem d_M_condition_176 : decode prog_10_method_22_code 176 = .ok (.aload_n 0, 1) := by decide +kernel
theorem d_M_condition_177 : decode prog_10_method_22_code 177 = .ok (.invokevirtual 134, 3) := by decide +kernel
theorem d_M_condition_180 : decode prog_10_method_22_code 180 = .ok (.return_, 1) := by decide +kernel
theorem d_M_condition_128 : decode prog_10_method_22_code 128 = .ok (.return_, 1) := by decide +kernel
theorem d_M_effect_0 : decode prog_10_method_23_code 0 = .ok (.iload_n 2, 1) := by decide +kernel
theorem d_M_effect_1 : decode prog_10_method_23_code 1 = .ok (.iconst 4, 1) := by decide +kernel
theorem d_M_effect_2 : decode prog_10_method_23_code 2 = .ok (.if_icmp .ne 23, 3) := by decide +kernel
theorem d_M_effect_25 : decode prog_10_method_23_code 25 = .ok (.aload_n 0, 1) := by decide +kernel
theorem d_M_effect_26 : decode prog_10_method_23_code 26 = .ok (.iload_n 2, 1) := by decide +kernel
theorem d_M_effect_27 : decode prog_10_method_23_code 27 = .ok (.iload_n 3, 1) := by decide +kernel
theorem d_M_effect_28 : decode prog_10_method_23_code 28 = .ok (.iload 4, 2) := by decide +kernel
theorem d_M_effect_30 : decode prog_10_method_23_code 30 = .ok (.invokevirtual 226, 3) := by decide +kernel
theorem d_M_effect_5 : decode prog_10_method_23_code 5 = .ok (.iload_n 3, 1) := by decide +kernel
theorem d_M_effect_6 : decode prog_10_method_23_code 6 = .ok (.ifCond .lt 11, 3) := by decide +kernel
theorem d_M_effect_9 : decode prog_10_method_23_code 9 = .ok (.iload_n 3, 1) := by decide +kernel
theorem d_M_effect_10 : decode prog_10_method_23_code 10 = .ok (.aload_n 0, 1) := by decide +kernel
theorem d_M_effect_11 : decode prog_10_method_23_code 11 = .ok (.getfield 211, 3) := by decide +kernel
theorem d_M_effect_14 : decode prog_10_method_23_code 14 = .ok (.if_icmp .lt 7, 3) := by decide +kernel
theorem d_M_effect_21 : decode prog_10_method_23_code 21 = .ok (.iconst 0, 1) := by decide +kernel
theorem d_M_effect_22 : decode prog_10_method_23_code 22 = .ok (.goto 11, 3) := by decide +kernel
theorem d_M_effect_33 : decode prog_10_method_23_code 33 = .ok (.istore 5, 2) := by decide +kernel
theorem d_M_effect_35 : decode prog_10_method_23_code 35 = .ok (.aload_n 0, 1) := by decide +kernel
theorem d_M_effect_36 : decode prog_10_method_23_code 36 = .ok (.aload_n 0, 1) := by decide +kernel
theorem d_M_effect_37 : decode prog_10_method_23_code 37 = .ok (.iload_n 1, 1) := by decide +kernel
theorem d_M_effect_38 : decode prog_10_method_23_code 38 = .ok (.invokevirtual 223, 3) := by decide +kernel
theorem d_M_effect_41 : decode prog_10_method_23_code 41 = .ok (.ifCond .eq 7, 3) := by decide +kernel
theorem d_M_effect_48 : decode prog_10_method_23_code 48 = .ok (.iload_n 2, 1) := by decide +kernel
theorem d_M_effect_49 : decode prog_10_method_23_code 49 = .ok (.ifCond .lt 8, 3) := by decide +kernel
theorem d_M_effect_52 : decode prog_10_method_23_code 52 = .ok (.iload_n 2, 1) := by decide +kernel
theorem d_M_effect_53 : decode prog_10_method_23_code 53 = .ok (.iconst 4, 1) := by decide +kernel
theorem d_M_effect_54 : decode prog_10_method_23_code 54 = .ok (.if_icmp .le 7, 3) := by decide +kernel
theorem d_M_effect_61 : decode prog_10_method_23_code 61 = .ok (.iload 5, 2) := by decide +kernel
theorem d_M_effect_63 : decode prog_10_method_23_code 63 = .ok (.ifCond .eq 7, 3) := by decide +kernel
theorem d_M_effect_70 : decode prog_10_method_23_code 70 = .ok (.iconst 0, 1) := by decide +kernel
theorem d_M_effect_66 : decode prog_10_method_23_code 66 = .ok (.iconst 1, 1) := by decide +kernel
theorem d_M_effect_67 : decode prog_10_method_23_code 67 = .ok (.goto 4, 3) := by decide +kernel
theorem d_M_effect_44 : decode prog_10_method_23_code 44 = .ok (.iconst 1, 1) := by decide +kernel
theorem d_M_effect_45 : decode prog_10_method_23_code 45 = .ok (.goto 26, 3) := by decide +kernel
theorem d_M_effect_17 : decode prog_10_method_23_code 17 = .ok (.iconst 1, 1) := by decide +kernel
theorem d_M_effect_18 : decode prog_10_method_23_code 18 = .ok (.goto 15, 3) := by decide +kernel
theorem d_M_effect_57 : decode prog_10_method_23_code 57 = .ok (.iconst 2, 1) := by decide +kernel
theorem d_M_effect_58 : decode prog_10_method_23_code 58 = .ok (.goto 13, 3) := by decide +kernel
theorem d_M_effect_71 : decode prog_10_method_23_code 71 = .ok (.putfield 137, 3) := by decide +kernel
theorem d_M_effect_74 : decode prog_10_method_23_code 74 = .ok (.aload_n 0, 1) := by decide +kernel
theorem d_M_effect_75 : decode prog_10_method_23_code 75 = .ok (.getfield 137, 3) := by decide +kernel
theorem d_M_effect_78 : decode prog_10_method_23_code 78 = .ok (.ifCond .le 4, 3) := by decide +kernel
theorem d_M_effect_82 : decode prog_10_method_23_code 82 = .ok (.iload_n 2, 1) := by decide +kernel
theorem d_M_effect_83 : decode prog_10_method_23_code 83 = .ok (.iconst 2, 1) := by decide +kernel
theorem d_M_effect_84 : decode prog_10_method_23_code 84 = .ok (.if_icmp .ne 14, 3) := by decide +kernel
theorem d_M_effect_87 : decode prog_10_method_23_code 87 = .ok (.iload 4, 2) := by decide +kernel
theorem d_M_effect_89 : decode prog_10_method_23_code 89 = .ok (.ifCond .lt 28, 3) := by decide +kernel
theorem d_M_effect_92 : decode prog_10_method_23_code 92 = .ok (.iload 4, 2) := by decide +kernel
theorem d_M_effect_94 : decode prog_10_method_23_code 94 = .ok (.iconst 1, 1) := by decide +kernel
theorem d_M_effect_95 : decode prog_10_method_23_code 95 = .ok (.if_icmp .gt 22, 3) := by decide +kernel
theorem d_M_effect_81 : decode prog_10_method_23_code 81 = .ok (.return_, 1) := by decide +kernel
theorem d_M_effect_98 : decode prog_10_method_23_code 98 = .ok (.iload_n 2, 1) := by decide +kernel
theorem d_M_effect_99 : decode prog_10_method_23_code 99 = .ok (.iconst 3, 1) := by decide +kernel
theorem d_M_effect_100 : decode prog_10_method_23_code 100 = .ok (.if_icmp .ne 21, 3) := by decide +kernel
theorem d_M_effect_103 : decode prog_10_method_23_code 103 = .ok (.iload 4, 2) := by decide +kernel
theorem d_M_effect_105 : decode prog_10_method_23_code 105 = .ok (.bipush (-7), 2) := by decide +kernel
theorem d_M_effect_107 : decode prog_10_method_23_code 107 = .ok (.if_icmp .lt 10, 3) := by decide +kernel
theorem d_M_effect_110 : decode prog_10_method_23_code 110 = .ok (.iload 4, 2) := by decide +kernel
theorem d_M_effect_112 : decode prog_10_method_23_code 112 = .ok (.bipush 7, 2) := by decide +kernel
theorem d_M_effect_114 : decode prog_10_method_23_code 114 = .ok (.if_icmp .le 7, 3) := by decide +kernel
theorem d_M_effect_117 : decode prog_10_method_23_code 117 = .ok (.iconst 1, 1) := by decide +kernel
theorem d_M_effect_118 : decode prog_10_method_23_code 118 = .ok (.goto 4, 3) := by decide +kernel
theorem d_M_effect_121 : decode prog_10_method_23_code 121 = .ok (.iconst 0, 1) := by decide +kernel
theorem d_M_effect_122 : decode prog_10_method_23_code 122 = .ok (.istore 6, 2) := by decide +kernel
theorem d_M_effect_124 : decode prog_10_method_23_code 124 = .ok (.aload_n 0, 1) := by decide +kernel
theorem d_M_effect_125 : decode prog_10_method_23_code 125 = .ok (.iload 6, 2) := by decide +kernel
theorem d_M_effect_127 : decode prog_10_method_23_code 127 = .ok (.ifCond .eq 7, 3) := by decide +kernel
theorem d_M_effect_134 : decode prog_10_method_23_code 134 = .ok (.aload_n 0, 1) := by decide +kernel
theorem d_M_effect_135 : decode prog_10_method_23_code 135 = .ok (.getfield 59, 3) := by decide +kernel
theorem d_M_effect_138 : decode prog_10_method_23_code 138 = .ok (.iload_n 1, 1) := by decide +kernel
theorem d_M_effect_139 : decode prog_10_method_23_code 139 = .ok (.iaload, 1) := by decide +kernel
theorem d_M_effect_140 : decode prog_10_method_23_code 140 = .ok (.iconst 3, 1) := by decide +kernel
theorem d_M_effect_141 : decode prog_10_method_23_code 141 = .ok (.if_icmp .ne 7, 3) := by decide +kernel
theorem d_M_effect_148 : decode prog_10_method_23_code 148 = .ok (.iconst 0, 1) := by decide +kernel
theorem d_M_effect_144 : decode prog_10_method_23_code 144 = .ok (.iconst 3, 1) := by decide +kernel
theorem d_M_effect_145 : decode prog_10_method_23_code 145 = .ok (.goto 4, 3) := by decide +kernel
theorem d_M_effect_130 : decode prog_10_method_23_code 130 = .ok (.iconst 2, 1) := by decide +kernel
theorem d_M_effect_131 : decode prog_10_method_23_code 131 = .ok (.goto 18, 3) := by decide +kernel
theorem d_M_effect_149 : decode prog_10_method_23_code 149 = .ok (.putfield 137, 3) := by decide +kernel
theorem d_M_effect_152 : decode prog_10_method_23_code 152 = .ok (.aload_n 0, 1) := by decide +kernel
theorem d_M_effect_153 : decode prog_10_method_23_code 153 = .ok (.getfield 137, 3) := by decide +kernel
theorem d_M_effect_156 : decode prog_10_method_23_code 156 = .ok (.ifCond .le 4, 3) := by decide +kernel
theorem d_M_effect_160 : decode prog_10_method_23_code 160 = .ok (.iconst 3, 1) := by decide +kernel
theorem d_M_effect_161 : decode prog_10_method_23_code 161 = .ok (.iload_n 1, 1) := by decide +kernel
theorem d_M_effect_162 : decode prog_10_method_23_code 162 = .ok (.imul, 1) := by decide +kernel
theorem d_M_effect_163 : decode prog_10_method_23_code 163 = .ok (.aload_n 0, 1) := by decide +kernel
theorem d_M_effect_164 : decode prog_10_method_23_code 164 = .ok (.getfield 59, 3) := by decide +kernel
theorem d_M_effect_167 : decode prog_10_method_23_code 167 = .ok (.iload_n 1, 1) := by decide +kernel
theorem d_M_effect_168 : decode prog_10_method_23_code 168 = .ok (.iaload, 1) := by decide +kernel
theorem d_M_effect_169 : decode prog_10_method_23_code 169 = .ok (.iadd, 1) := by decide +kernel
theorem d_M_effect_170 : decode prog_10_method_23_code 170 = .ok (.istore 7, 2) := by decide +kernel
theorem d_M_effect_172 : decode prog_10_method_23_code 172 = .ok (.aload_n 0, 1) := by decide +kernel
theorem d_M_effect_173 : decode prog_10_method_23_code 173 = .ok (.getfield 62, 3) := by decide +kernel
theorem d_M_effect_176 : decode prog_10_method_23_code 176 = .ok (.iload 7, 2) := by decide +kernel
theorem d_M_effect_178 : decode prog_10_method_23_code 178 = .ok (.iload_n 2, 1) := by decide +kernel
theorem d_M_effect_179 : decode prog_10_method_23_code 179 = .ok (.iastore, 1) := by decide +kernel
theorem d_M_effect_180 : decode prog_10_method_23_code 180 = .ok (.aload_n 0, 1) := by decide +kernel
theorem d_M_effect_181 : decode prog_10_method_23_code 181 = .ok (.getfield 65, 3) := by decide +kernel
theorem d_M_effect_184 : decode prog_10_method_23_code 184 = .ok (.iload 7, 2) := by decide +kernel
theorem d_M_effect_186 : decode prog_10_method_23_code 186 = .ok (.iload_n 3, 1) := by decide +kernel
theorem d_M_effect_187 : decode prog_10_method_23_code 187 = .ok (.iastore, 1) := by decide +kernel
theorem d_M_effect_188 : decode prog_10_method_23_code 188 = .ok (.aload_n 0, 1) := by decide +kernel
theorem d_M_effect_189 : decode prog_10_method_23_code 189 = .ok (.getfield 68, 3) := by decide +kernel
theorem d_M_effect_192 : decode prog_10_method_23_code 192 = .ok (.iload 7, 2) := by decide +kernel
theorem d_M_effect_194 : decode prog_10_method_23_code 194 = .ok (.iload 4, 2) := by decide +kernel
theorem d_M_effect_196 : decode prog_10_method_23_code 196 = .ok (.iastore, 1) := by decide +kernel
theorem d_M_effect_197 : decode prog_10_method_23_code 197 = .ok (.aload_n 0, 1) := by decide +kernel
theorem d_M_effect_198 : decode prog_10_method_23_code 198 = .ok (.getfield 59, 3) := by decide +kernel
theorem d_M_effect_201 : decode prog_10_method_23_code 201 = .ok (.iload_n 1, 1) := by decide +kernel
theorem d_M_effect_202 : decode prog_10_method_23_code 202 = .ok (.dup2, 1) := by decide +kernel
theorem d_M_effect_203 : decode prog_10_method_23_code 203 = .ok (.iaload, 1) := by decide +kernel
theorem d_M_effect_204 : decode prog_10_method_23_code 204 = .ok (.iconst 1, 1) := by decide +kernel
theorem d_M_effect_205 : decode prog_10_method_23_code 205 = .ok (.iadd, 1) := by decide +kernel
theorem d_M_effect_206 : decode prog_10_method_23_code 206 = .ok (.iastore, 1) := by decide +kernel
theorem d_M_effect_207 : decode prog_10_method_23_code 207 = .ok (.aload_n 0, 1) := by decide +kernel
theorem d_M_effect_208 : decode prog_10_method_23_code 208 = .ok (.invokevirtual 134, 3) := by decide +kernel
theorem d_M_effect_211 : decode prog_10_method_23_code 211 = .ok (.return_, 1) := by decide +kernel
theorem d_M_effect_159 : decode prog_10_method_23_code 159 = .ok (.return_, 1) := by decide +kernel
theorem d_M_walker_0 : decode prog_10_method_24_code 0 = .ok (.iconst 0, 1) := by decide +kernel
theorem d_M_walker_1 : decode prog_10_method_24_code 1 = .ok (.istore 5, 2) := by decide +kernel
theorem d_M_walker_3 : decode prog_10_method_24_code 3 = .ok (.iconst 0, 1) := by decide +kernel
theorem d_M_walker_4 : decode prog_10_method_24_code 4 = .ok (.istore 6, 2) := by decide +kernel
theorem d_M_walker_6 : decode prog_10_method_24_code 6 = .ok (.iload 6, 2) := by decide +kernel
theorem d_M_walker_8 : decode prog_10_method_24_code 8 = .ok (.aload_n 0, 1) := by decide +kernel
theorem d_M_walker_9 : decode prog_10_method_24_code 9 = .ok (.getfield 214, 3) := by decide +kernel
theorem d_M_walker_12 : decode prog_10_method_24_code 12 = .ok (.if_icmp .ge 32, 3) := by decide +kernel
theorem d_M_walker_44 : decode prog_10_method_24_code 44 = .ok (.aload_n 0, 1) := by decide +kernel
theorem d_M_walker_45 : decode prog_10_method_24_code 45 = .ok (.aload_n 0, 1) := by decide +kernel
theorem d_M_walker_46 : decode prog_10_method_24_code 46 = .ok (.iload_n 1, 1) := by decide +kernel
theorem d_M_walker_47 : decode prog_10_method_24_code 47 = .ok (.invokevirtual 205, 3) := by decide +kernel
theorem d_M_walker_50 : decode prog_10_method_24_code 50 = .ok (.ifCond .ne 28, 3) := by decide +kernel
theorem d_M_walker_53 : decode prog_10_method_24_code 53 = .ok (.aload_n 0, 1) := by decide +kernel
theorem d_M_walker_54 : decode prog_10_method_24_code 54 = .ok (.iload_n 2, 1) := by decide +kernel
theorem d_M_walker_55 : decode prog_10_method_24_code 55 = .ok (.invokevirtual 201, 3) := by decide +kernel
theorem d_M_walker_58 : decode prog_10_method_24_code 58 = .ok (.ifCond .ne 20, 3) := by decide +kernel
theorem d_M_walker_61 : decode prog_10_method_24_code 61 = .ok (.aload_n 0, 1) := by decide +kernel
theorem d_M_walker_62 : decode prog_10_method_24_code 62 = .ok (.iload_n 3, 1) := by decide +kernel
theorem d_M_walker_63 : decode prog_10_method_24_code 63 = .ok (.invokevirtual 201, 3) := by decide +kernel
theorem d_M_walker_66 : decode prog_10_method_24_code 66 = .ok (.ifCond .ne 12, 3) := by decide +kernel
theorem d_M_walker_69 : decode prog_10_method_24_code 69 = .ok (.aload_n 0, 1) := by decide +kernel
theorem d_M_walker_70 : decode prog_10_method_24_code 70 = .ok (.iload 4, 2) := by decide +kernel
theorem d_M_walker_72 : decode prog_10_method_24_code 72 = .ok (.invokevirtual 201, 3) := by decide +kernel
theorem d_M_walker_75 : decode prog_10_method_24_code 75 = .ok (.ifCond .eq 7, 3) := by decide +kernel
theorem d_M_walker_82 : decode prog_10_method_24_code 82 = .ok (.aload_n 0, 1) := by decide +kernel
theorem d_M_walker_83 : decode prog_10_method_24_code 83 = .ok (.getfield 214, 3) := by decide +kernel
theorem d_M_walker_86 : decode prog_10_method_24_code 86 = .ok (.iconst 2, 1) := by decide +kernel
theorem d_M_walker_87 : decode prog_10_method_24_code 87 = .ok (.if_icmp .eq 8, 3) := by decide +kernel
theorem d_M_walker_90 : decode prog_10_method_24_code 90 = .ok (.iload 5, 2) := by decide +kernel
theorem d_M_walker_92 : decode prog_10_method_24_code 92 = .ok (.ifCond .eq 7, 3) := by decide +kernel
theorem d_M_walker_99 : decode prog_10_method_24_code 99 = .ok (.iconst 0, 1) := by decide +kernel
theorem d_M_walker_15 : decode prog_10_method_24_code 15 = .ok (.iload 5, 2) := by decide +kernel
theorem d_M_walker_17 : decode prog_10_method_24_code 17 = .ok (.ifCond .ne 14, 3) := by decide +kernel
theorem d_M_walker_31 : decode prog_10_method_24_code 31 = .ok (.iconst 1, 1) := by decide +kernel
theorem d_M_walker_32 : decode prog_10_method_24_code 32 = .ok (.goto 4, 3) := by decide +kernel
theorem d_M_walker_36 : decode prog_10_method_24_code 36 = .ok (.istore 5, 2) := by decide +kernel
theorem d_M_walker_38 : decode prog_10_method_24_code 38 = .ok (.iinc 6 1, 3) := by decide +kernel
theorem d_M_walker_41 : decode prog_10_method_24_code 41 = .ok (.goto (-35), 3) := by decide +kernel
theorem d_M_walker_20 : decode prog_10_method_24_code 20 = .ok (.aload_n 0, 1) := by decide +kernel
theorem d_M_walker_21 : decode prog_10_method_24_code 21 = .ok (.getfield 71, 3) := by decide +kernel
theorem d_M_walker_24 : decode prog_10_method_24_code 24 = .ok (.iload 6, 2) := by decide +kernel
theorem d_M_walker_26 : decode prog_10_method_24_code 26 = .ok (.iaload, 1) := by decide +kernel
theorem d_M_walker_27 : decode prog_10_method_24_code 27 = .ok (.iload_n 1, 1) := by decide +kernel
theorem d_M_walker_28 : decode prog_10_method_24_code 28 = .ok (.if_icmp .ne 7, 3) := by decide +kernel
theorem d_M_walker_35 : decode prog_10_method_24_code 35 = .ok (.iconst 0, 1) := by decide +kernel
theorem d_M_walker_78 : decode prog_10_method_24_code 78 = .ok (.iconst 1, 1) := by decide +kernel
theorem d_M_walker_79 : decode prog_10_method_24_code 79 = .ok (.goto 21, 3) := by decide +kernel
theorem d_M_walker_95 : decode prog_10_method_24_code 95 = .ok (.iconst 2, 1) := by decide +kernel
theorem d_M_walker_96 : decode prog_10_method_24_code 96 = .ok (.goto 4, 3) := by decide +kernel
theorem d_M_walker_100 : decode prog_10_method_24_code 100 = .ok (.putfield 137, 3) := by decide +kernel
theorem d_M_walker_103 : decode prog_10_method_24_code 103 = .ok (.aload_n 0, 1) := by decide +kernel
theorem d_M_walker_104 : decode prog_10_method_24_code 104 = .ok (.getfield 137, 3) := by decide +kernel
theorem d_M_walker_107 : decode prog_10_method_24_code 107 = .ok (.ifCond .le 4, 3) := by decide +kernel
theorem d_M_walker_111 : decode prog_10_method_24_code 111 = .ok (.aload_n 0, 1) := by decide +kernel
theorem d_M_walker_112 : decode prog_10_method_24_code 112 = .ok (.getfield 71, 3) := by decide +kernel
theorem d_M_walker_115 : decode prog_10_method_24_code 115 = .ok (.aload_n 0, 1) := by decide +kernel
theorem d_M_walker_116 : decode prog_10_method_24_code 116 = .ok (.getfield 214, 3) := by decide +kernel
theorem d_M_walker_119 : decode prog_10_method_24_code 119 = .ok (.iload_n 1, 1) := by decide +kernel
theorem d_M_walker_120 : decode prog_10_method_24_code 120 = .ok (.iastore, 1) := by decide +kernel
theorem d_M_walker_121 : decode prog_10_method_24_code 121 = .ok (.aload_n 0, 1) := by decide +kernel
theorem d_M_walker_122 : decode prog_10_method_24_code 122 = .ok (.getfield 74, 3) := by decide +kernel
theorem d_M_walker_125 : decode prog_10_method_24_code 125 = .ok (.iconst 3, 1) := by decide +kernel
theorem d_M_walker_126 : decode prog_10_method_24_code 126 = .ok (.aload_n 0, 1) := by decide +kernel
theorem d_M_walker_127 : decode prog_10_method_24_code 127 = .ok (.getfield 214, 3) := by decide +kernel
theorem d_M_walker_130 : decode prog_10_method_24_code 130 = .ok (.imul, 1) := by decide +kernel
theorem d_M_walker_131 : decode prog_10_method_24_code 131 = .ok (.iload_n 2, 1) := by decide +kernel
theorem d_M_walker_132 : decode prog_10_method_24_code 132 = .ok (.iastore, 1) := by decide +kernel
theorem d_M_walker_133 : decode prog_10_method_24_code 133 = .ok (.aload_n 0, 1) := by decide +kernel
theorem d_M_walker_134 : decode prog_10_method_24_code 134 = .ok (.getfield 74, 3) := by decide +kernel
theorem d_M_walker_137 : decode prog_10_method_24_code 137 = .ok (.iconst 3, 1) := by decide +kernel
theorem d_M_walker_138 : decode prog_10_method_24_code 138 = .ok (.aload_n 0, 1) := by decide +kernel
theorem d_M_walker_139 : decode prog_10_method_24_code 139 = .ok (.getfield 214, 3) := by decide +kernel
theorem d_M_walker_142 : decode prog_10_method_24_code 142 = .ok (.imul, 1) := by decide +kernel
theorem d_M_walker_143 : decode prog_10_method_24_code 143 = .ok (.iconst 1, 1) := by decide +kernel
theorem d_M_walker_144 : decode prog_10_method_24_code 144 = .ok (.iadd, 1) := by decide +kernel
theorem d_M_walker_145 : decode prog_10_method_24_code 145 = .ok (.iload_n 3, 1) := by decide +kernel
theorem d_M_walker_146 : decode prog_10_method_24_code 146 = .ok (.iastore, 1) := by decide +kernel
theorem d_M_walker_147 : decode prog_10_method_24_code 147 = .ok (.aload_n 0, 1) := by decide +kernel
theorem d_M_walker_148 : decode prog_10_method_24_code 148 = .ok (.getfield 74, 3) := by decide +kernel
theorem d_M_walker_151 : decode prog_10_method_24_code 151 = .ok (.iconst 3, 1) := by decide +kernel
theorem d_M_walker_152 : decode prog_10_method_24_code 152 = .ok (.aload_n 0, 1) := by decide +kernel
theorem d_M_walker_153 : decode prog_10_method_24_code 153 = .ok (.getfield 214, 3) := by decide +kernel
theorem d_M_walker_156 : decode prog_10_method_24_code 156 = .ok (.imul, 1) := by decide +kernel
theorem d_M_walker_157 : decode prog_10_method_24_code 157 = .ok (.iconst 2, 1) := by decide +kernel
theorem d_M_walker_158 : decode prog_10_method_24_code 158 = .ok (.iadd, 1) := by decide +kernel
theorem d_M_walker_159 : decode prog_10_method_24_code 159 = .ok (.iload 4, 2) := by decide +kernel
theorem d_M_walker_161 : decode prog_10_method_24_code 161 = .ok (.iastore, 1) := by decide +kernel
theorem d_M_walker_162 : decode prog_10_method_24_code 162 = .ok (.aload_n 0, 1) := by decide +kernel
theorem d_M_walker_163 : decode prog_10_method_24_code 163 = .ok (.dup, 1) := by decide +kernel
theorem d_M_walker_164 : decode prog_10_method_24_code 164 = .ok (.getfield 214, 3) := by decide +kernel
theorem d_M_walker_167 : decode prog_10_method_24_code 167 = .ok (.iconst 1, 1) := by decide +kernel
theorem d_M_walker_168 : decode prog_10_method_24_code 168 = .ok (.iadd, 1) := by decide +kernel
theorem d_M_walker_169 : decode prog_10_method_24_code 169 = .ok (.putfield 214, 3) := by decide +kernel
theorem d_M_walker_172 : decode prog_10_method_24_code 172 = .ok (.aload_n 0, 1) := by decide +kernel
theorem d_M_walker_173 : decode prog_10_method_24_code 173 = .ok (.getfield 19, 3) := by decide +kernel
theorem d_M_walker_176 : decode prog_10_method_24_code 176 = .ok (.iload_n 1, 1) := by decide +kernel
theorem d_M_walker_177 : decode prog_10_method_24_code 177 = .ok (.iload_n 2, 1) := by decide +kernel
theorem d_M_walker_178 : decode prog_10_method_24_code 178 = .ok (.iastore, 1) := by decide +kernel
theorem d_M_walker_179 : decode prog_10_method_24_code 179 = .ok (.aload_n 0, 1) := by decide +kernel
theorem d_M_walker_180 : decode prog_10_method_24_code 180 = .ok (.invokevirtual 134, 3) := by decide +kernel
theorem d_M_walker_183 : decode prog_10_method_24_code 183 = .ok (.return_, 1) := by decide +kernel
theorem d_M_walker_110 : decode prog_10_method_24_code 110 = .ok (.return_, 1) := by decide +kernel
theorem d_M_timer_0 : decode prog_10_method_25_code 0 = .ok (.aload_n 0, 1) := by decide +kernel
theorem d_M_timer_1 : decode prog_10_method_25_code 1 = .ok (.aload_n 0, 1) := by decide +kernel
theorem d_M_timer_2 : decode prog_10_method_25_code 2 = .ok (.iload_n 1, 1) := by decide +kernel
theorem d_M_timer_3 : decode prog_10_method_25_code 3 = .ok (.invokevirtual 223, 3) := by decide +kernel
theorem d_M_timer_6 : decode prog_10_method_25_code 6 = .ok (.ifCond .eq 7, 3) := by decide +kernel
theorem d_M_timer_13 : decode prog_10_method_25_code 13 = .ok (.iload_n 2, 1) := by decide +kernel
theorem d_M_timer_14 : decode prog_10_method_25_code 14 = .ok (.iconst 1, 1) := by decide +kernel
theorem d_M_timer_15 : decode prog_10_method_25_code 15 = .ok (.if_icmp .lt 9, 3) := by decide +kernel
theorem d_M_timer_18 : decode prog_10_method_25_code 18 = .ok (.iload_n 2, 1) := by decide +kernel
theorem d_M_timer_19 : decode prog_10_method_25_code 19 = .ok (.bipush 15, 2) := by decide +kernel
theorem d_M_timer_21 : decode prog_10_method_25_code 21 = .ok (.if_icmp .le 7, 3) := by decide +kernel
theorem d_M_timer_28 : decode prog_10_method_25_code 28 = .ok (.aload_n 0, 1) := by decide +kernel
theorem d_M_timer_29 : decode prog_10_method_25_code 29 = .ok (.getfield 153, 3) := by decide +kernel
theorem d_M_timer_32 : decode prog_10_method_25_code 32 = .ok (.iconst 2, 1) := by decide +kernel
theorem d_M_timer_33 : decode prog_10_method_25_code 33 = .ok (.if_icmp .eq 12, 3) := by decide +kernel
theorem d_M_timer_36 : decode prog_10_method_25_code 36 = .ok (.aload_n 0, 1) := by decide +kernel
theorem d_M_timer_37 : decode prog_10_method_25_code 37 = .ok (.getfield 44, 3) := by decide +kernel
theorem d_M_timer_40 : decode prog_10_method_25_code 40 = .ok (.iload_n 1, 1) := by decide +kernel
theorem d_M_timer_41 : decode prog_10_method_25_code 41 = .ok (.baload, 1) := by decide +kernel
theorem d_M_timer_42 : decode prog_10_method_25_code 42 = .ok (.ifCond .eq 7, 3) := by decide +kernel
theorem d_M_timer_49 : decode prog_10_method_25_code 49 = .ok (.iconst 0, 1) := by decide +kernel
theorem d_M_timer_9 : decode prog_10_method_25_code 9 = .ok (.iconst 1, 1) := by decide +kernel
theorem d_M_timer_10 : decode prog_10_method_25_code 10 = .ok (.goto 40, 3) := by decide +kernel
theorem d_M_timer_24 : decode prog_10_method_25_code 24 = .ok (.iconst 2, 1) := by decide +kernel
theorem d_M_timer_25 : decode prog_10_method_25_code 25 = .ok (.goto 25, 3) := by decide +kernel
theorem d_M_timer_45 : decode prog_10_method_25_code 45 = .ok (.iconst 3, 1) := by decide +kernel
theorem d_M_timer_46 : decode prog_10_method_25_code 46 = .ok (.goto 4, 3) := by decide +kernel
theorem d_M_timer_50 : decode prog_10_method_25_code 50 = .ok (.putfield 137, 3) := by decide +kernel
theorem d_M_timer_53 : decode prog_10_method_25_code 53 = .ok (.aload_n 0, 1) := by decide +kernel
theorem d_M_timer_54 : decode prog_10_method_25_code 54 = .ok (.getfield 137, 3) := by decide +kernel
theorem d_M_timer_57 : decode prog_10_method_25_code 57 = .ok (.ifCond .le 4, 3) := by decide +kernel
theorem d_M_timer_61 : decode prog_10_method_25_code 61 = .ok (.aload_n 0, 1) := by decide +kernel
theorem d_M_timer_62 : decode prog_10_method_25_code 62 = .ok (.getfield 44, 3) := by decide +kernel
theorem d_M_timer_65 : decode prog_10_method_25_code 65 = .ok (.iload_n 1, 1) := by decide +kernel
theorem d_M_timer_66 : decode prog_10_method_25_code 66 = .ok (.iconst 1, 1) := by decide +kernel
theorem d_M_timer_67 : decode prog_10_method_25_code 67 = .ok (.bastore, 1) := by decide +kernel
