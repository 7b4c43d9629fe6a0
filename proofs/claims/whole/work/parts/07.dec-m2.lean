theorem d_M_timer_68 : decode prog_10_method_25_code 68 = .ok (.aload_n 0, 1) := by decide +kernel
theorem d_M_timer_69 : decode prog_10_method_25_code 69 = .ok (.getfield 77, 3) := by decide +kernel
theorem d_M_timer_72 : decode prog_10_method_25_code 72 = .ok (.aload_n 0, 1) := by decide +kernel
theorem d_M_timer_73 : decode prog_10_method_25_code 73 = .ok (.getfield 153, 3) := by decide +kernel
theorem d_M_timer_76 : decode prog_10_method_25_code 76 = .ok (.iload_n 1, 1) := by decide +kernel
theorem d_M_timer_77 : decode prog_10_method_25_code 77 = .ok (.iastore, 1) := by decide +kernel
theorem d_M_timer_78 : decode prog_10_method_25_code 78 = .ok (.aload_n 0, 1) := by decide +kernel
theorem d_M_timer_79 : decode prog_10_method_25_code 79 = .ok (.getfield 80, 3) := by decide +kernel
theorem d_M_timer_82 : decode prog_10_method_25_code 82 = .ok (.aload_n 0, 1) := by decide +kernel
theorem d_M_timer_83 : decode prog_10_method_25_code 83 = .ok (.getfield 153, 3) := by decide +kernel
theorem d_M_timer_86 : decode prog_10_method_25_code 86 = .ok (.iload_n 2, 1) := by decide +kernel
theorem d_M_timer_87 : decode prog_10_method_25_code 87 = .ok (.iastore, 1) := by decide +kernel
theorem d_M_timer_88 : decode prog_10_method_25_code 88 = .ok (.aload_n 0, 1) := by decide +kernel
theorem d_M_timer_89 : decode prog_10_method_25_code 89 = .ok (.dup, 1) := by decide +kernel
theorem d_M_timer_90 : decode prog_10_method_25_code 90 = .ok (.getfield 153, 3) := by decide +kernel
theorem d_M_timer_93 : decode prog_10_method_25_code 93 = .ok (.iconst 1, 1) := by decide +kernel
theorem d_M_timer_94 : decode prog_10_method_25_code 94 = .ok (.iadd, 1) := by decide +kernel
theorem d_M_timer_95 : decode prog_10_method_25_code 95 = .ok (.putfield 153, 3) := by decide +kernel
theorem d_M_timer_98 : decode prog_10_method_25_code 98 = .ok (.aload_n 0, 1) := by decide +kernel
theorem d_M_timer_99 : decode prog_10_method_25_code 99 = .ok (.invokevirtual 134, 3) := by decide +kernel
theorem d_M_timer_102 : decode prog_10_method_25_code 102 = .ok (.return_, 1) := by decide +kernel
theorem d_M_timer_60 : decode prog_10_method_25_code 60 = .ok (.return_, 1) := by decide +kernel
theorem d_M_isSeen_0 : decode prog_10_method_26_code 0 = .ok (.iload_n 1, 1) := by decide +kernel
theorem d_M_isSeen_1 : decode prog_10_method_26_code 1 = .ok (.istore_n 2, 1) := by decide +kernel
theorem d_M_isSeen_2 : decode prog_10_method_26_code 2 = .ok (.aload_n 0, 1) := by decide +kernel
theorem d_M_isSeen_3 : decode prog_10_method_26_code 3 = .ok (.getfield 83, 3) := by decide +kernel
theorem d_M_isSeen_6 : decode prog_10_method_26_code 6 = .ok (.iload_n 2, 1) := by decide +kernel
theorem d_M_isSeen_7 : decode prog_10_method_26_code 7 = .ok (.iaload, 1) := by decide +kernel
theorem d_M_isSeen_8 : decode prog_10_method_26_code 8 = .ok (.bipush 6, 2) := by decide +kernel
theorem d_M_isSeen_10 : decode prog_10_method_26_code 10 = .ok (.if_icmp .le 24, 3) := by decide +kernel
theorem d_M_isSeen_34 : decode prog_10_method_26_code 34 = .ok (.aload_n 0, 1) := by decide +kernel
theorem d_M_isSeen_35 : decode prog_10_method_26_code 35 = .ok (.getfield 83, 3) := by decide +kernel
theorem d_M_isSeen_38 : decode prog_10_method_26_code 38 = .ok (.iload_n 2, 1) := by decide +kernel
theorem d_M_isSeen_39 : decode prog_10_method_26_code 39 = .ok (.iaload, 1) := by decide +kernel
theorem d_M_isSeen_40 : decode prog_10_method_26_code 40 = .ok (.bipush 6, 2) := by decide +kernel
theorem d_M_isSeen_42 : decode prog_10_method_26_code 42 = .ok (.if_icmp .eq 16, 3) := by decide +kernel
theorem d_M_isSeen_58 : decode prog_10_method_26_code 58 = .ok (.iconst 1, 1) := by decide +kernel
theorem d_M_isSeen_59 : decode prog_10_method_26_code 59 = .ok (.goto 4, 3) := by decide +kernel
theorem d_M_isSeen_63 : decode prog_10_method_26_code 63 = .ok (.ireturn, 1) := by decide +kernel
theorem d_M_isSeen_45 : decode prog_10_method_26_code 45 = .ok (.aload_n 0, 1) := by decide +kernel
theorem d_M_isSeen_46 : decode prog_10_method_26_code 46 = .ok (.getfield 83, 3) := by decide +kernel
theorem d_M_isSeen_49 : decode prog_10_method_26_code 49 = .ok (.iload_n 2, 1) := by decide +kernel
theorem d_M_isSeen_50 : decode prog_10_method_26_code 50 = .ok (.iaload, 1) := by decide +kernel
theorem d_M_isSeen_51 : decode prog_10_method_26_code 51 = .ok (.aload_n 0, 1) := by decide +kernel
theorem d_M_isSeen_52 : decode prog_10_method_26_code 52 = .ok (.getfield 141, 3) := by decide +kernel
theorem d_M_isSeen_55 : decode prog_10_method_26_code 55 = .ok (.if_icmp .ne 7, 3) := by decide +kernel
theorem d_M_isSeen_62 : decode prog_10_method_26_code 62 = .ok (.iconst 0, 1) := by decide +kernel
theorem d_M_isSeen_13 : decode prog_10_method_26_code 13 = .ok (.aload_n 0, 1) := by decide +kernel
theorem d_M_isSeen_14 : decode prog_10_method_26_code 14 = .ok (.getfield 83, 3) := by decide +kernel
theorem d_M_isSeen_17 : decode prog_10_method_26_code 17 = .ok (.iload_n 2, 1) := by decide +kernel
theorem d_M_isSeen_18 : decode prog_10_method_26_code 18 = .ok (.iaload, 1) := by decide +kernel
theorem d_M_isSeen_19 : decode prog_10_method_26_code 19 = .ok (.bipush 7, 2) := by decide +kernel
theorem d_M_isSeen_21 : decode prog_10_method_26_code 21 = .ok (.isub, 1) := by decide +kernel
theorem d_M_isSeen_22 : decode prog_10_method_26_code 22 = .ok (.istore_n 2, 1) := by decide +kernel
theorem d_M_isSeen_23 : decode prog_10_method_26_code 23 = .ok (.aload_n 0, 1) := by decide +kernel
theorem d_M_isSeen_24 : decode prog_10_method_26_code 24 = .ok (.getfield 86, 3) := by decide +kernel
theorem d_M_isSeen_27 : decode prog_10_method_26_code 27 = .ok (.iload_n 2, 1) := by decide +kernel
theorem d_M_isSeen_28 : decode prog_10_method_26_code 28 = .ok (.baload, 1) := by decide +kernel
theorem d_M_isSeen_29 : decode prog_10_method_26_code 29 = .ok (.ifCond .ne (-27), 3) := by decide +kernel
theorem d_M_isSeen_32 : decode prog_10_method_26_code 32 = .ok (.iconst 0, 1) := by decide +kernel
theorem d_M_isSeen_33 : decode prog_10_method_26_code 33 = .ok (.ireturn, 1) := by decide +kernel
theorem d_M_within_0 : decode prog_10_method_27_code 0 = .ok (.iload_n 1, 1) := by decide +kernel
theorem d_M_within_1 : decode prog_10_method_27_code 1 = .ok (.istore_n 3, 1) := by decide +kernel
theorem d_M_within_2 : decode prog_10_method_27_code 2 = .ok (.iload_n 3, 1) := by decide +kernel
theorem d_M_within_3 : decode prog_10_method_27_code 3 = .ok (.iload_n 2, 1) := by decide +kernel
theorem d_M_within_4 : decode prog_10_method_27_code 4 = .ok (.if_icmp .eq 27, 3) := by decide +kernel
theorem d_M_within_31 : decode prog_10_method_27_code 31 = .ok (.iload_n 3, 1) := by decide +kernel
theorem d_M_within_32 : decode prog_10_method_27_code 32 = .ok (.iload_n 2, 1) := by decide +kernel
theorem d_M_within_33 : decode prog_10_method_27_code 33 = .ok (.if_icmp .ne 7, 3) := by decide +kernel
theorem d_M_within_40 : decode prog_10_method_27_code 40 = .ok (.iconst 0, 1) := by decide +kernel
theorem d_M_within_41 : decode prog_10_method_27_code 41 = .ok (.ireturn, 1) := by decide +kernel
theorem d_M_within_36 : decode prog_10_method_27_code 36 = .ok (.iconst 1, 1) := by decide +kernel
theorem d_M_within_37 : decode prog_10_method_27_code 37 = .ok (.goto 4, 3) := by decide +kernel
theorem d_M_within_7 : decode prog_10_method_27_code 7 = .ok (.aload_n 0, 1) := by decide +kernel
theorem d_M_within_8 : decode prog_10_method_27_code 8 = .ok (.getfield 83, 3) := by decide +kernel
theorem d_M_within_11 : decode prog_10_method_27_code 11 = .ok (.iload_n 3, 1) := by decide +kernel
theorem d_M_within_12 : decode prog_10_method_27_code 12 = .ok (.iaload, 1) := by decide +kernel
theorem d_M_within_13 : decode prog_10_method_27_code 13 = .ok (.bipush 6, 2) := by decide +kernel
theorem d_M_within_15 : decode prog_10_method_27_code 15 = .ok (.if_icmp .le 16, 3) := by decide +kernel
theorem d_M_within_18 : decode prog_10_method_27_code 18 = .ok (.aload_n 0, 1) := by decide +kernel
theorem d_M_within_19 : decode prog_10_method_27_code 19 = .ok (.getfield 83, 3) := by decide +kernel
theorem d_M_within_22 : decode prog_10_method_27_code 22 = .ok (.iload_n 3, 1) := by decide +kernel
theorem d_M_within_23 : decode prog_10_method_27_code 23 = .ok (.iaload, 1) := by decide +kernel
theorem d_M_within_24 : decode prog_10_method_27_code 24 = .ok (.bipush 7, 2) := by decide +kernel
theorem d_M_within_26 : decode prog_10_method_27_code 26 = .ok (.isub, 1) := by decide +kernel
theorem d_M_within_27 : decode prog_10_method_27_code 27 = .ok (.istore_n 3, 1) := by decide +kernel
theorem d_M_within_28 : decode prog_10_method_27_code 28 = .ok (.goto (-26), 3) := by decide +kernel
theorem d_M_allSo_0 : decode prog_10_method_28_code 0 = .ok (.iconst 1, 1) := by decide +kernel
theorem d_M_allSo_1 : decode prog_10_method_28_code 1 = .ok (.istore_n 2, 1) := by decide +kernel
theorem d_M_allSo_2 : decode prog_10_method_28_code 2 = .ok (.iconst 3, 1) := by decide +kernel
theorem d_M_allSo_3 : decode prog_10_method_28_code 3 = .ok (.iload_n 1, 1) := by decide +kernel
theorem d_M_allSo_4 : decode prog_10_method_28_code 4 = .ok (.imul, 1) := by decide +kernel
theorem d_M_allSo_5 : decode prog_10_method_28_code 5 = .ok (.istore_n 3, 1) := by decide +kernel
theorem d_M_allSo_6 : decode prog_10_method_28_code 6 = .ok (.iload_n 3, 1) := by decide +kernel
theorem d_M_allSo_7 : decode prog_10_method_28_code 7 = .ok (.iconst 3, 1) := by decide +kernel
theorem d_M_allSo_8 : decode prog_10_method_28_code 8 = .ok (.iload_n 1, 1) := by decide +kernel
theorem d_M_allSo_9 : decode prog_10_method_28_code 9 = .ok (.imul, 1) := by decide +kernel
theorem d_M_allSo_10 : decode prog_10_method_28_code 10 = .ok (.aload_n 0, 1) := by decide +kernel
theorem d_M_allSo_11 : decode prog_10_method_28_code 11 = .ok (.getfield 47, 3) := by decide +kernel
theorem d_M_allSo_14 : decode prog_10_method_28_code 14 = .ok (.iload_n 1, 1) := by decide +kernel
theorem d_M_allSo_15 : decode prog_10_method_28_code 15 = .ok (.iaload, 1) := by decide +kernel
theorem d_M_allSo_16 : decode prog_10_method_28_code 16 = .ok (.iadd, 1) := by decide +kernel
theorem d_M_allSo_17 : decode prog_10_method_28_code 17 = .ok (.if_icmp .ge 189, 3) := by decide +kernel
theorem d_M_allSo_206 : decode prog_10_method_28_code 206 = .ok (.iload_n 2, 1) := by decide +kernel
theorem d_M_allSo_207 : decode prog_10_method_28_code 207 = .ok (.ireturn, 1) := by decide +kernel
theorem d_M_allSo_20 : decode prog_10_method_28_code 20 = .ok (.aload_n 0, 1) := by decide +kernel
theorem d_M_allSo_21 : decode prog_10_method_28_code 21 = .ok (.getfield 53, 3) := by decide +kernel
theorem d_M_allSo_24 : decode prog_10_method_28_code 24 = .ok (.iload_n 3, 1) := by decide +kernel
theorem d_M_allSo_25 : decode prog_10_method_28_code 25 = .ok (.iaload, 1) := by decide +kernel
theorem d_M_allSo_26 : decode prog_10_method_28_code 26 = .ok (.istore 4, 2) := by decide +kernel
theorem d_M_allSo_28 : decode prog_10_method_28_code 28 = .ok (.aload_n 0, 1) := by decide +kernel
theorem d_M_allSo_29 : decode prog_10_method_28_code 29 = .ok (.getfield 56, 3) := by decide +kernel
theorem d_M_allSo_32 : decode prog_10_method_28_code 32 = .ok (.iload_n 3, 1) := by decide +kernel
theorem d_M_allSo_33 : decode prog_10_method_28_code 33 = .ok (.iaload, 1) := by decide +kernel
theorem d_M_allSo_34 : decode prog_10_method_28_code 34 = .ok (.istore 5, 2) := by decide +kernel
theorem d_M_allSo_36 : decode prog_10_method_28_code 36 = .ok (.aload_n 0, 1) := by decide +kernel
theorem d_M_allSo_37 : decode prog_10_method_28_code 37 = .ok (.getfield 50, 3) := by decide +kernel
theorem d_M_allSo_40 : decode prog_10_method_28_code 40 = .ok (.iload_n 3, 1) := by decide +kernel
theorem d_M_allSo_41 : decode prog_10_method_28_code 41 = .ok (.iaload, 1) := by decide +kernel
theorem d_M_allSo_42 : decode prog_10_method_28_code 42 = .ok (.tableswitch 136 0 3 #[30, 52, 77, 111], 30) := by decide +kernel
theorem d_M_allSo_72 : decode prog_10_method_28_code 72 = .ok (.iload_n 2, 1) := by decide +kernel
theorem d_M_allSo_73 : decode prog_10_method_28_code 73 = .ok (.ifCond .eq 16, 3) := by decide +kernel
theorem d_M_allSo_89 : decode prog_10_method_28_code 89 = .ok (.iconst 0, 1) := by decide +kernel
theorem d_M_allSo_90 : decode prog_10_method_28_code 90 = .ok (.istore_n 2, 1) := by decide +kernel
theorem d_M_allSo_91 : decode prog_10_method_28_code 91 = .ok (.goto 109, 3) := by decide +kernel
theorem d_M_allSo_200 : decode prog_10_method_28_code 200 = .ok (.iinc 3 1, 3) := by decide +kernel
theorem d_M_allSo_203 : decode prog_10_method_28_code 203 = .ok (.goto (-197), 3) := by decide +kernel
theorem d_M_allSo_76 : decode prog_10_method_28_code 76 = .ok (.aload_n 0, 1) := by decide +kernel
theorem d_M_allSo_77 : decode prog_10_method_28_code 77 = .ok (.getfield 141, 3) := by decide +kernel
theorem d_M_allSo_80 : decode prog_10_method_28_code 80 = .ok (.iload 4, 2) := by decide +kernel
theorem d_M_allSo_82 : decode prog_10_method_28_code 82 = .ok (.if_icmp .ne 7, 3) := by decide +kernel
theorem d_M_allSo_85 : decode prog_10_method_28_code 85 = .ok (.iconst 1, 1) := by decide +kernel
theorem d_M_allSo_86 : decode prog_10_method_28_code 86 = .ok (.goto 4, 3) := by decide +kernel
theorem d_M_allSo_94 : decode prog_10_method_28_code 94 = .ok (.iload_n 2, 1) := by decide +kernel
theorem d_M_allSo_95 : decode prog_10_method_28_code 95 = .ok (.ifCond .eq 19, 3) := by decide +kernel
theorem d_M_allSo_114 : decode prog_10_method_28_code 114 = .ok (.iconst 0, 1) := by decide +kernel
theorem d_M_allSo_115 : decode prog_10_method_28_code 115 = .ok (.istore_n 2, 1) := by decide +kernel
theorem d_M_allSo_116 : decode prog_10_method_28_code 116 = .ok (.goto 84, 3) := by decide +kernel
theorem d_M_allSo_98 : decode prog_10_method_28_code 98 = .ok (.aload_n 0, 1) := by decide +kernel
theorem d_M_allSo_99 : decode prog_10_method_28_code 99 = .ok (.getfield 83, 3) := by decide +kernel
theorem d_M_allSo_102 : decode prog_10_method_28_code 102 = .ok (.iload 4, 2) := by decide +kernel
theorem d_M_allSo_104 : decode prog_10_method_28_code 104 = .ok (.iaload, 1) := by decide +kernel
theorem d_M_allSo_105 : decode prog_10_method_28_code 105 = .ok (.iload 5, 2) := by decide +kernel
theorem d_M_allSo_107 : decode prog_10_method_28_code 107 = .ok (.if_icmp .ne 7, 3) := by decide +kernel
theorem d_M_allSo_110 : decode prog_10_method_28_code 110 = .ok (.iconst 1, 1) := by decide +kernel
theorem d_M_allSo_111 : decode prog_10_method_28_code 111 = .ok (.goto 4, 3) := by decide +kernel
theorem d_M_allSo_119 : decode prog_10_method_28_code 119 = .ok (.iload_n 2, 1) := by decide +kernel
theorem d_M_allSo_120 : decode prog_10_method_28_code 120 = .ok (.ifCond .eq 28, 3) := by decide +kernel
theorem d_M_allSo_148 : decode prog_10_method_28_code 148 = .ok (.iconst 0, 1) := by decide +kernel
theorem d_M_allSo_149 : decode prog_10_method_28_code 149 = .ok (.istore_n 2, 1) := by decide +kernel
theorem d_M_allSo_150 : decode prog_10_method_28_code 150 = .ok (.goto 50, 3) := by decide +kernel
theorem d_M_allSo_123 : decode prog_10_method_28_code 123 = .ok (.aload_n 0, 1) := by decide +kernel
theorem d_M_allSo_124 : decode prog_10_method_28_code 124 = .ok (.getfield 86, 3) := by decide +kernel
theorem d_M_allSo_127 : decode prog_10_method_28_code 127 = .ok (.iload 4, 2) := by decide +kernel
theorem d_M_allSo_129 : decode prog_10_method_28_code 129 = .ok (.baload, 1) := by decide +kernel
theorem d_M_allSo_130 : decode prog_10_method_28_code 130 = .ok (.iload 5, 2) := by decide +kernel
theorem d_M_allSo_132 : decode prog_10_method_28_code 132 = .ok (.iconst 1, 1) := by decide +kernel
theorem d_M_allSo_133 : decode prog_10_method_28_code 133 = .ok (.if_icmp .ne 7, 3) := by decide +kernel
theorem d_M_allSo_140 : decode prog_10_method_28_code 140 = .ok (.iconst 0, 1) := by decide +kernel
theorem d_M_allSo_141 : decode prog_10_method_28_code 141 = .ok (.if_icmp .ne 7, 3) := by decide +kernel
theorem d_M_allSo_144 : decode prog_10_method_28_code 144 = .ok (.iconst 1, 1) := by decide +kernel
theorem d_M_allSo_145 : decode prog_10_method_28_code 145 = .ok (.goto 4, 3) := by decide +kernel
theorem d_M_allSo_136 : decode prog_10_method_28_code 136 = .ok (.iconst 1, 1) := by decide +kernel
theorem d_M_allSo_137 : decode prog_10_method_28_code 137 = .ok (.goto 4, 3) := by decide +kernel
theorem d_M_allSo_153 : decode prog_10_method_28_code 153 = .ok (.iload_n 2, 1) := by decide +kernel
theorem d_M_allSo_154 : decode prog_10_method_28_code 154 = .ok (.ifCond .eq 19, 3) := by decide +kernel
theorem d_M_allSo_173 : decode prog_10_method_28_code 173 = .ok (.iconst 0, 1) := by decide +kernel
theorem d_M_allSo_174 : decode prog_10_method_28_code 174 = .ok (.istore_n 2, 1) := by decide +kernel
theorem d_M_allSo_175 : decode prog_10_method_28_code 175 = .ok (.goto 25, 3) := by decide +kernel
theorem d_M_allSo_157 : decode prog_10_method_28_code 157 = .ok (.aload_n 0, 1) := by decide +kernel
theorem d_M_allSo_158 : decode prog_10_method_28_code 158 = .ok (.getfield 89, 3) := by decide +kernel
theorem d_M_allSo_161 : decode prog_10_method_28_code 161 = .ok (.iload 4, 2) := by decide +kernel
theorem d_M_allSo_163 : decode prog_10_method_28_code 163 = .ok (.iaload, 1) := by decide +kernel
theorem d_M_allSo_164 : decode prog_10_method_28_code 164 = .ok (.iload 5, 2) := by decide +kernel
theorem d_M_allSo_166 : decode prog_10_method_28_code 166 = .ok (.if_icmp .lt 7, 3) := by decide +kernel
theorem d_M_allSo_169 : decode prog_10_method_28_code 169 = .ok (.iconst 1, 1) := by decide +kernel
theorem d_M_allSo_170 : decode prog_10_method_28_code 170 = .ok (.goto 4, 3) := by decide +kernel
theorem d_M_allSo_178 : decode prog_10_method_28_code 178 = .ok (.iload_n 2, 1) := by decide +kernel
theorem d_M_allSo_179 : decode prog_10_method_28_code 179 = .ok (.ifCond .eq 19, 3) := by decide +kernel
theorem d_M_allSo_198 : decode prog_10_method_28_code 198 = .ok (.iconst 0, 1) := by decide +kernel
theorem d_M_allSo_199 : decode prog_10_method_28_code 199 = .ok (.istore_n 2, 1) := by decide +kernel
theorem d_M_allSo_182 : decode prog_10_method_28_code 182 = .ok (.aload_n 0, 1) := by decide +kernel
theorem d_M_allSo_183 : decode prog_10_method_28_code 183 = .ok (.getfield 89, 3) := by decide +kernel
theorem d_M_allSo_186 : decode prog_10_method_28_code 186 = .ok (.iload 4, 2) := by decide +kernel
theorem d_M_allSo_188 : decode prog_10_method_28_code 188 = .ok (.iaload, 1) := by decide +kernel
theorem d_M_allSo_189 : decode prog_10_method_28_code 189 = .ok (.iload 5, 2) := by decide +kernel
theorem d_M_allSo_191 : decode prog_10_method_28_code 191 = .ok (.if_icmp .gt 7, 3) := by decide +kernel
theorem d_M_allSo_194 : decode prog_10_method_28_code 194 = .ok (.iconst 1, 1) := by decide +kernel
theorem d_M_allSo_195 : decode prog_10_method_28_code 195 = .ok (.goto 4, 3) := by decide +kernel
theorem d_M_change_0 : decode prog_10_method_29_code 0 = .ok (.iload_n 1, 1) := by decide +kernel
theorem d_M_change_1 : decode prog_10_method_29_code 1 = .ok (.tableswitch 136 0 3 #[31, 39, 67, 86], 31) := by decide +kernel
theorem d_M_change_32 : decode prog_10_method_29_code 32 = .ok (.aload_n 0, 1) := by decide +kernel
theorem d_M_change_33 : decode prog_10_method_29_code 33 = .ok (.iload_n 2, 1) := by decide +kernel
theorem d_M_change_34 : decode prog_10_method_29_code 34 = .ok (.putfield 141, 3) := by decide +kernel
theorem d_M_change_37 : decode prog_10_method_29_code 37 = .ok (.goto 107, 3) := by decide +kernel
theorem d_M_change_144 : decode prog_10_method_29_code 144 = .ok (.return_, 1) := by decide +kernel
theorem d_M_change_40 : decode prog_10_method_29_code 40 = .ok (.iload_n 3, 1) := by decide +kernel
theorem d_M_change_41 : decode prog_10_method_29_code 41 = .ok (.bipush 7, 2) := by decide +kernel
theorem d_M_change_43 : decode prog_10_method_29_code 43 = .ok (.if_icmp .lt 15, 3) := by decide +kernel
theorem d_M_change_58 : decode prog_10_method_29_code 58 = .ok (.aload_n 0, 1) := by decide +kernel
theorem d_M_change_59 : decode prog_10_method_29_code 59 = .ok (.getfield 83, 3) := by decide +kernel
theorem d_M_change_62 : decode prog_10_method_29_code 62 = .ok (.iload_n 2, 1) := by decide +kernel
theorem d_M_change_63 : decode prog_10_method_29_code 63 = .ok (.iload_n 3, 1) := by decide +kernel
theorem d_M_change_64 : decode prog_10_method_29_code 64 = .ok (.iastore, 1) := by decide +kernel
theorem d_M_change_65 : decode prog_10_method_29_code 65 = .ok (.goto 79, 3) := by decide +kernel
theorem d_M_change_46 : decode prog_10_method_29_code 46 = .ok (.aload_n 0, 1) := by decide +kernel
theorem d_M_change_47 : decode prog_10_method_29_code 47 = .ok (.iload_n 3, 1) := by decide +kernel
theorem d_M_change_48 : decode prog_10_method_29_code 48 = .ok (.bipush 7, 2) := by decide +kernel
theorem d_M_change_50 : decode prog_10_method_29_code 50 = .ok (.isub, 1) := by decide +kernel
theorem d_M_change_51 : decode prog_10_method_29_code 51 = .ok (.iload_n 2, 1) := by decide +kernel
theorem d_M_change_52 : decode prog_10_method_29_code 52 = .ok (.invokevirtual 230, 3) := by decide +kernel
theorem d_M_change_55 : decode prog_10_method_29_code 55 = .ok (.ifCond .ne 89, 3) := by decide +kernel
theorem d_M_change_68 : decode prog_10_method_29_code 68 = .ok (.aload_n 0, 1) := by decide +kernel
theorem d_M_change_69 : decode prog_10_method_29_code 69 = .ok (.getfield 86, 3) := by decide +kernel
theorem d_M_change_72 : decode prog_10_method_29_code 72 = .ok (.iload_n 2, 1) := by decide +kernel
theorem d_M_change_73 : decode prog_10_method_29_code 73 = .ok (.iload_n 3, 1) := by decide +kernel
theorem d_M_change_74 : decode prog_10_method_29_code 74 = .ok (.iconst 1, 1) := by decide +kernel
theorem d_M_change_75 : decode prog_10_method_29_code 75 = .ok (.if_icmp .ne 7, 3) := by decide +kernel
theorem d_M_change_82 : decode prog_10_method_29_code 82 = .ok (.iconst 0, 1) := by decide +kernel
theorem d_M_change_83 : decode prog_10_method_29_code 83 = .ok (.bastore, 1) := by decide +kernel
theorem d_M_change_84 : decode prog_10_method_29_code 84 = .ok (.goto 60, 3) := by decide +kernel
theorem d_M_change_78 : decode prog_10_method_29_code 78 = .ok (.iconst 1, 1) := by decide +kernel
theorem d_M_change_79 : decode prog_10_method_29_code 79 = .ok (.goto 4, 3) := by decide +kernel
theorem d_M_change_87 : decode prog_10_method_29_code 87 = .ok (.aload_n 0, 1) := by decide +kernel
theorem d_M_change_88 : decode prog_10_method_29_code 88 = .ok (.getfield 89, 3) := by decide +kernel
theorem d_M_change_91 : decode prog_10_method_29_code 91 = .ok (.iload_n 2, 1) := by decide +kernel
theorem d_M_change_92 : decode prog_10_method_29_code 92 = .ok (.iaload, 1) := by decide +kernel
theorem d_M_change_93 : decode prog_10_method_29_code 93 = .ok (.iload_n 3, 1) := by decide +kernel
theorem d_M_change_94 : decode prog_10_method_29_code 94 = .ok (.iadd, 1) := by decide +kernel
theorem d_M_change_95 : decode prog_10_method_29_code 95 = .ok (.istore 4, 2) := by decide +kernel
theorem d_M_change_97 : decode prog_10_method_29_code 97 = .ok (.aload_n 0, 1) := by decide +kernel
theorem d_M_change_98 : decode prog_10_method_29_code 98 = .ok (.getfield 89, 3) := by decide +kernel
theorem d_M_change_101 : decode prog_10_method_29_code 101 = .ok (.iload_n 2, 1) := by decide +kernel
theorem d_M_change_102 : decode prog_10_method_29_code 102 = .ok (.iload 4, 2) := by decide +kernel
theorem d_M_change_104 : decode prog_10_method_29_code 104 = .ok (.ifCond .ge 7, 3) := by decide +kernel
theorem d_M_change_111 : decode prog_10_method_29_code 111 = .ok (.iload 4, 2) := by decide +kernel
theorem d_M_change_113 : decode prog_10_method_29_code 113 = .ok (.aload_n 0, 1) := by decide +kernel
theorem d_M_change_114 : decode prog_10_method_29_code 114 = .ok (.getfield 22, 3) := by decide +kernel
theorem d_M_change_117 : decode prog_10_method_29_code 117 = .ok (.iload_n 2, 1) := by decide +kernel
theorem d_M_change_118 : decode prog_10_method_29_code 118 = .ok (.iaload, 1) := by decide +kernel
theorem d_M_change_119 : decode prog_10_method_29_code 119 = .ok (.if_icmp .le 12, 3) := by decide +kernel
theorem d_M_change_131 : decode prog_10_method_29_code 131 = .ok (.iload 4, 2) := by decide +kernel
theorem d_M_change_133 : decode prog_10_method_29_code 133 = .ok (.iastore, 1) := by decide +kernel
theorem d_M_change_134 : decode prog_10_method_29_code 134 = .ok (.goto 10, 3) := by decide +kernel
theorem d_M_change_122 : decode prog_10_method_29_code 122 = .ok (.aload_n 0, 1) := by decide +kernel
theorem d_M_change_123 : decode prog_10_method_29_code 123 = .ok (.getfield 22, 3) := by decide +kernel
theorem d_M_change_126 : decode prog_10_method_29_code 126 = .ok (.iload_n 2, 1) := by decide +kernel
theorem d_M_change_127 : decode prog_10_method_29_code 127 = .ok (.iaload, 1) := by decide +kernel
theorem d_M_change_128 : decode prog_10_method_29_code 128 = .ok (.goto 5, 3) := by decide +kernel
theorem d_M_change_107 : decode prog_10_method_29_code 107 = .ok (.iconst 0, 1) := by decide +kernel
theorem d_M_change_108 : decode prog_10_method_29_code 108 = .ok (.goto 25, 3) := by decide +kernel
theorem d_M_change_137 : decode prog_10_method_29_code 137 = .ok (.aload_n 0, 1) := by decide +kernel
theorem d_M_change_138 : decode prog_10_method_29_code 138 = .ok (.iload_n 2, 1) := by decide +kernel
theorem d_M_change_139 : decode prog_10_method_29_code 139 = .ok (.iconst 1, 1) := by decide +kernel
theorem d_M_change_140 : decode prog_10_method_29_code 140 = .ok (.iadd, 1) := by decide +kernel
theorem d_M_change_141 : decode prog_10_method_29_code 141 = .ok (.putfield 144, 3) := by decide +kernel
theorem d_M_say_0 : decode prog_10_method_30_code 0 = .ok (.aload_n 0, 1) := by decide +kernel
theorem d_M_say_1 : decode prog_10_method_30_code 1 = .ok (.getfield 98, 3) := by decide +kernel
theorem d_M_say_4 : decode prog_10_method_30_code 4 = .ok (.aload_n 0, 1) := by decide +kernel
theorem d_M_say_5 : decode prog_10_method_30_code 5 = .ok (.getfield 234, 3) := by decide +kernel
theorem d_M_say_8 : decode prog_10_method_30_code 8 = .ok (.iload_n 1, 1) := by decide +kernel
theorem d_M_say_9 : decode prog_10_method_30_code 9 = .ok (.iastore, 1) := by decide +kernel
theorem d_M_say_10 : decode prog_10_method_30_code 10 = .ok (.aload_n 0, 1) := by decide +kernel
theorem d_M_say_11 : decode prog_10_method_30_code 11 = .ok (.dup, 1) := by decide +kernel
theorem d_M_say_12 : decode prog_10_method_30_code 12 = .ok (.getfield 234, 3) := by decide +kernel
theorem d_M_say_15 : decode prog_10_method_30_code 15 = .ok (.iconst 1, 1) := by decide +kernel
theorem d_M_say_16 : decode prog_10_method_30_code 16 = .ok (.iadd, 1) := by decide +kernel
theorem d_M_say_17 : decode prog_10_method_30_code 17 = .ok (.putfield 234, 3) := by decide +kernel
theorem d_M_say_20 : decode prog_10_method_30_code 20 = .ok (.return_, 1) := by decide +kernel
theorem d_M_fire_0 : decode prog_10_method_31_code 0 = .ok (.aload_n 0, 1) := by decide +kernel
theorem d_M_fire_1 : decode prog_10_method_31_code 1 = .ok (.aload_n 0, 1) := by decide +kernel
theorem d_M_fire_2 : decode prog_10_method_31_code 2 = .ok (.getfield 41, 3) := by decide +kernel
theorem d_M_fire_5 : decode prog_10_method_31_code 5 = .ok (.iload_n 1, 1) := by decide +kernel
theorem d_M_fire_6 : decode prog_10_method_31_code 6 = .ok (.iaload, 1) := by decide +kernel
theorem d_M_fire_7 : decode prog_10_method_31_code 7 = .ok (.invokevirtual 237, 3) := by decide +kernel
theorem d_M_fire_10 : decode prog_10_method_31_code 10 = .ok (.aload_n 0, 1) := by decide +kernel
theorem d_M_fire_11 : decode prog_10_method_31_code 11 = .ok (.aload_n 0, 1) := by decide +kernel
theorem d_M_fire_12 : decode prog_10_method_31_code 12 = .ok (.getfield 191, 3) := by decide +kernel
theorem d_M_fire_15 : decode prog_10_method_31_code 15 = .ok (.iconst 1, 1) := by decide +kernel
theorem d_M_fire_16 : decode prog_10_method_31_code 16 = .ok (.iload_n 1, 1) := by decide +kernel
theorem d_M_fire_17 : decode prog_10_method_31_code 17 = .ok (.ishl, 1) := by decide +kernel
theorem d_M_fire_18 : decode prog_10_method_31_code 18 = .ok (.ior, 1) := by decide +kernel
theorem d_M_fire_19 : decode prog_10_method_31_code 19 = .ok (.putfield 191, 3) := by decide +kernel
theorem d_M_fire_22 : decode prog_10_method_31_code 22 = .ok (.iconst 3, 1) := by decide +kernel
theorem d_M_fire_23 : decode prog_10_method_31_code 23 = .ok (.iload_n 1, 1) := by decide +kernel
theorem d_M_fire_24 : decode prog_10_method_31_code 24 = .ok (.imul, 1) := by decide +kernel
theorem d_M_fire_25 : decode prog_10_method_31_code 25 = .ok (.istore_n 2, 1) := by decide +kernel
theorem d_M_fire_26 : decode prog_10_method_31_code 26 = .ok (.iload_n 2, 1) := by decide +kernel
theorem d_M_fire_27 : decode prog_10_method_31_code 27 = .ok (.iconst 3, 1) := by decide +kernel
theorem d_M_fire_28 : decode prog_10_method_31_code 28 = .ok (.iload_n 1, 1) := by decide +kernel
theorem d_M_fire_29 : decode prog_10_method_31_code 29 = .ok (.imul, 1) := by decide +kernel
theorem d_M_fire_30 : decode prog_10_method_31_code 30 = .ok (.aload_n 0, 1) := by decide +kernel
theorem d_M_fire_31 : decode prog_10_method_31_code 31 = .ok (.getfield 59, 3) := by decide +kernel
theorem d_M_fire_34 : decode prog_10_method_31_code 34 = .ok (.iload_n 1, 1) := by decide +kernel
theorem d_M_fire_35 : decode prog_10_method_31_code 35 = .ok (.iaload, 1) := by decide +kernel
theorem d_M_fire_36 : decode prog_10_method_31_code 36 = .ok (.iadd, 1) := by decide +kernel
theorem d_M_fire_37 : decode prog_10_method_31_code 37 = .ok (.if_icmp .ge 38, 3) := by decide +kernel
theorem d_M_fire_75 : decode prog_10_method_31_code 75 = .ok (.return_, 1) := by decide +kernel
theorem d_M_fire_40 : decode prog_10_method_31_code 40 = .ok (.aload_n 0, 1) := by decide +kernel
theorem d_M_fire_41 : decode prog_10_method_31_code 41 = .ok (.getfield 144, 3) := by decide +kernel
theorem d_M_fire_44 : decode prog_10_method_31_code 44 = .ok (.ifCond .ne 31, 3) := by decide +kernel
theorem d_M_fire_47 : decode prog_10_method_31_code 47 = .ok (.aload_n 0, 1) := by decide +kernel
theorem d_M_fire_48 : decode prog_10_method_31_code 48 = .ok (.aload_n 0, 1) := by decide +kernel
theorem d_M_fire_49 : decode prog_10_method_31_code 49 = .ok (.getfield 62, 3) := by decide +kernel
theorem d_M_fire_52 : decode prog_10_method_31_code 52 = .ok (.iload_n 2, 1) := by decide +kernel
theorem d_M_fire_53 : decode prog_10_method_31_code 53 = .ok (.iaload, 1) := by decide +kernel
theorem d_M_fire_54 : decode prog_10_method_31_code 54 = .ok (.aload_n 0, 1) := by decide +kernel
theorem d_M_fire_55 : decode prog_10_method_31_code 55 = .ok (.getfield 65, 3) := by decide +kernel
theorem d_M_fire_58 : decode prog_10_method_31_code 58 = .ok (.iload_n 2, 1) := by decide +kernel
theorem d_M_fire_59 : decode prog_10_method_31_code 59 = .ok (.iaload, 1) := by decide +kernel
theorem d_M_fire_60 : decode prog_10_method_31_code 60 = .ok (.aload_n 0, 1) := by decide +kernel
theorem d_M_fire_61 : decode prog_10_method_31_code 61 = .ok (.getfield 68, 3) := by decide +kernel
theorem d_M_fire_64 : decode prog_10_method_31_code 64 = .ok (.iload_n 2, 1) := by decide +kernel
theorem d_M_fire_65 : decode prog_10_method_31_code 65 = .ok (.iaload, 1) := by decide +kernel
theorem d_M_fire_66 : decode prog_10_method_31_code 66 = .ok (.invokevirtual 241, 3) := by decide +kernel
theorem d_M_fire_69 : decode prog_10_method_31_code 69 = .ok (.iinc 2 1, 3) := by decide +kernel
theorem d_M_fire_72 : decode prog_10_method_31_code 72 = .ok (.goto (-46), 3) := by decide +kernel
theorem d_M_fitting_0 : decode prog_10_method_32_code 0 = .ok (.iload_n 1, 1) := by decide +kernel
theorem d_M_fitting_1 : decode prog_10_method_32_code 1 = .ok (.ifCond .le 29, 3) := by decide +kernel
theorem d_M_fitting_4 : decode prog_10_method_32_code 4 = .ok (.iload_n 2, 1) := by decide +kernel
theorem d_M_fitting_5 : decode prog_10_method_32_code 5 = .ok (.ifCond .lt 11, 3) := by decide +kernel
theorem d_M_fitting_8 : decode prog_10_method_32_code 8 = .ok (.aload_n 0, 1) := by decide +kernel
theorem d_M_fitting_9 : decode prog_10_method_32_code 9 = .ok (.iload_n 2, 1) := by decide +kernel
theorem d_M_fitting_10 : decode prog_10_method_32_code 10 = .ok (.invokevirtual 245, 3) := by decide +kernel
theorem d_M_fitting_13 : decode prog_10_method_32_code 13 = .ok (.ifCond .eq 15, 3) := by decide +kernel
theorem d_M_fitting_28 : decode prog_10_method_32_code 28 = .ok (.iconst (-1), 1) := by decide +kernel
theorem d_M_fitting_29 : decode prog_10_method_32_code 29 = .ok (.ireturn, 1) := by decide +kernel
theorem d_M_fitting_30 : decode prog_10_method_32_code 30 = .ok (.iconst 0, 1) := by decide +kernel
theorem d_M_fitting_31 : decode prog_10_method_32_code 31 = .ok (.istore 4, 2) := by decide +kernel
theorem d_M_fitting_16 : decode prog_10_method_32_code 16 = .ok (.iload_n 3, 1) := by decide +kernel
theorem d_M_fitting_17 : decode prog_10_method_32_code 17 = .ok (.ifCond .lt 13, 3) := by decide +kernel
theorem d_M_fitting_20 : decode prog_10_method_32_code 20 = .ok (.aload_n 0, 1) := by decide +kernel
theorem d_M_fitting_21 : decode prog_10_method_32_code 21 = .ok (.iload_n 3, 1) := by decide +kernel
theorem d_M_fitting_22 : decode prog_10_method_32_code 22 = .ok (.invokevirtual 245, 3) := by decide +kernel
theorem d_M_fitting_25 : decode prog_10_method_32_code 25 = .ok (.ifCond .ne 5, 3) := by decide +kernel
theorem d_M_fitting_33 : decode prog_10_method_32_code 33 = .ok (.iload 4, 2) := by decide +kernel
theorem d_M_fitting_35 : decode prog_10_method_32_code 35 = .ok (.aload_n 0, 1) := by decide +kernel
theorem d_M_fitting_36 : decode prog_10_method_32_code 36 = .ok (.getfield 208, 3) := by decide +kernel
theorem d_M_fitting_39 : decode prog_10_method_32_code 39 = .ok (.if_icmp .ge 100, 3) := by decide +kernel
theorem d_M_fitting_139 : decode prog_10_method_32_code 139 = .ok (.iconst (-1), 1) := by decide +kernel
theorem d_M_fitting_140 : decode prog_10_method_32_code 140 = .ok (.ireturn, 1) := by decide +kernel
theorem d_M_fitting_42 : decode prog_10_method_32_code 42 = .ok (.aload_n 0, 1) := by decide +kernel
theorem d_M_fitting_43 : decode prog_10_method_32_code 43 = .ok (.getfield 44, 3) := by decide +kernel
theorem d_M_fitting_46 : decode prog_10_method_32_code 46 = .ok (.iload 4, 2) := by decide +kernel
theorem d_M_fitting_48 : decode prog_10_method_32_code 48 = .ok (.baload, 1) := by decide +kernel
theorem d_M_fitting_49 : decode prog_10_method_32_code 49 = .ok (.ifCond .ne 64, 3) := by decide +kernel
theorem d_M_fitting_52 : decode prog_10_method_32_code 52 = .ok (.aload_n 0, 1) := by decide +kernel
theorem d_M_fitting_53 : decode prog_10_method_32_code 53 = .ok (.getfield 32, 3) := by decide +kernel
theorem d_M_fitting_56 : decode prog_10_method_32_code 56 = .ok (.iload 4, 2) := by decide +kernel
theorem d_M_fitting_58 : decode prog_10_method_32_code 58 = .ok (.iaload, 1) := by decide +kernel
theorem d_M_fitting_59 : decode prog_10_method_32_code 59 = .ok (.iload_n 1, 1) := by decide +kernel
theorem d_M_fitting_60 : decode prog_10_method_32_code 60 = .ok (.if_icmp .ne 53, 3) := by decide +kernel
theorem d_M_fitting_63 : decode prog_10_method_32_code 63 = .ok (.aload_n 0, 1) := by decide +kernel
theorem d_M_fitting_64 : decode prog_10_method_32_code 64 = .ok (.getfield 35, 3) := by decide +kernel
theorem d_M_fitting_67 : decode prog_10_method_32_code 67 = .ok (.iload 4, 2) := by decide +kernel
theorem d_M_fitting_69 : decode prog_10_method_32_code 69 = .ok (.iaload, 1) := by decide +kernel
theorem d_M_fitting_70 : decode prog_10_method_32_code 70 = .ok (.bipush (-2), 2) := by decide +kernel
theorem d_M_fitting_72 : decode prog_10_method_32_code 72 = .ok (.if_icmp .eq 14, 3) := by decide +kernel
theorem d_M_fitting_75 : decode prog_10_method_32_code 75 = .ok (.aload_n 0, 1) := by decide +kernel
theorem d_M_fitting_76 : decode prog_10_method_32_code 76 = .ok (.getfield 35, 3) := by decide +kernel
theorem d_M_fitting_79 : decode prog_10_method_32_code 79 = .ok (.iload 4, 2) := by decide +kernel
theorem d_M_fitting_81 : decode prog_10_method_32_code 81 = .ok (.iaload, 1) := by decide +kernel
theorem d_M_fitting_82 : decode prog_10_method_32_code 82 = .ok (.iload_n 2, 1) := by decide +kernel
theorem d_M_fitting_83 : decode prog_10_method_32_code 83 = .ok (.if_icmp .ne 30, 3) := by decide +kernel
theorem d_M_fitting_113 : decode prog_10_method_32_code 113 = .ok (.iconst 0, 1) := by decide +kernel
theorem d_M_fitting_86 : decode prog_10_method_32_code 86 = .ok (.aload_n 0, 1) := by decide +kernel
theorem d_M_fitting_87 : decode prog_10_method_32_code 87 = .ok (.getfield 38, 3) := by decide +kernel
theorem d_M_fitting_90 : decode prog_10_method_32_code 90 = .ok (.iload 4, 2) := by decide +kernel
theorem d_M_fitting_92 : decode prog_10_method_32_code 92 = .ok (.iaload, 1) := by decide +kernel
theorem d_M_fitting_93 : decode prog_10_method_32_code 93 = .ok (.bipush (-2), 2) := by decide +kernel
theorem d_M_fitting_95 : decode prog_10_method_32_code 95 = .ok (.if_icmp .eq 14, 3) := by decide +kernel
theorem d_M_fitting_98 : decode prog_10_method_32_code 98 = .ok (.aload_n 0, 1) := by decide +kernel
theorem d_M_fitting_99 : decode prog_10_method_32_code 99 = .ok (.getfield 38, 3) := by decide +kernel
theorem d_M_fitting_102 : decode prog_10_method_32_code 102 = .ok (.iload 4, 2) := by decide +kernel
theorem d_M_fitting_104 : decode prog_10_method_32_code 104 = .ok (.iaload, 1) := by decide +kernel
theorem d_M_fitting_105 : decode prog_10_method_32_code 105 = .ok (.iload_n 3, 1) := by decide +kernel
theorem d_M_fitting_106 : decode prog_10_method_32_code 106 = .ok (.if_icmp .ne 7, 3) := by decide +kernel
theorem d_M_fitting_114 : decode prog_10_method_32_code 114 = .ok (.istore 5, 2) := by decide +kernel
theorem d_M_fitting_116 : decode prog_10_method_32_code 116 = .ok (.iload 5, 2) := by decide +kernel
theorem d_M_fitting_118 : decode prog_10_method_32_code 118 = .ok (.ifCond .eq 15, 3) := by decide +kernel
theorem d_M_fitting_133 : decode prog_10_method_32_code 133 = .ok (.iinc 4 1, 3) := by decide +kernel
theorem d_M_fitting_136 : decode prog_10_method_32_code 136 = .ok (.goto (-103), 3) := by decide +kernel
theorem d_M_fitting_121 : decode prog_10_method_32_code 121 = .ok (.aload_n 0, 1) := by decide +kernel
theorem d_M_fitting_122 : decode prog_10_method_32_code 122 = .ok (.iload 4, 2) := by decide +kernel
theorem d_M_fitting_124 : decode prog_10_method_32_code 124 = .ok (.invokevirtual 248, 3) := by decide +kernel
theorem d_M_fitting_127 : decode prog_10_method_32_code 127 = .ok (.ifCond .eq 6, 3) := by decide +kernel
theorem d_M_fitting_130 : decode prog_10_method_32_code 130 = .ok (.iload 4, 2) := by decide +kernel
theorem d_M_fitting_132 : decode prog_10_method_32_code 132 = .ok (.ireturn, 1) := by decide +kernel
theorem d_M_fitting_109 : decode prog_10_method_32_code 109 = .ok (.iconst 1, 1) := by decide +kernel
theorem d_M_fitting_110 : decode prog_10_method_32_code 110 = .ok (.goto 4, 3) := by decide +kernel
theorem d_M_plain_0 : decode prog_10_method_33_code 0 = .ok (.iload_n 1, 1) := by decide +kernel
theorem d_M_plain_1 : decode prog_10_method_33_code 1 = .ok (.tableswitch 294 0 5 #[39, 103, 145, 170, 170, 230], 39) := by decide +kernel
theorem d_M_plain_40 : decode prog_10_method_33_code 40 = .ok (.iconst 4, 1) := by decide +kernel
theorem d_M_plain_41 : decode prog_10_method_33_code 41 = .ok (.aload_n 0, 1) := by decide +kernel
theorem d_M_plain_42 : decode prog_10_method_33_code 42 = .ok (.getfield 141, 3) := by decide +kernel
theorem d_M_plain_45 : decode prog_10_method_33_code 45 = .ok (.imul, 1) := by decide +kernel
theorem d_M_plain_46 : decode prog_10_method_33_code 46 = .ok (.iload_n 2, 1) := by decide +kernel
theorem d_M_plain_47 : decode prog_10_method_33_code 47 = .ok (.iadd, 1) := by decide +kernel
theorem d_M_plain_48 : decode prog_10_method_33_code 48 = .ok (.istore 4, 2) := by decide +kernel
theorem d_M_plain_50 : decode prog_10_method_33_code 50 = .ok (.aload_n 0, 1) := by decide +kernel
theorem d_M_plain_51 : decode prog_10_method_33_code 51 = .ok (.getfield 7, 3) := by decide +kernel
theorem d_M_plain_54 : decode prog_10_method_33_code 54 = .ok (.iload 4, 2) := by decide +kernel
theorem d_M_plain_56 : decode prog_10_method_33_code 56 = .ok (.iaload, 1) := by decide +kernel
theorem d_M_plain_57 : decode prog_10_method_33_code 57 = .ok (.ifCond .eq 30, 3) := by decide +kernel
theorem d_M_plain_87 : decode prog_10_method_33_code 87 = .ok (.iconst 0, 1) := by decide +kernel
theorem d_M_plain_88 : decode prog_10_method_33_code 88 = .ok (.ireturn, 1) := by decide +kernel
theorem d_M_plain_60 : decode prog_10_method_33_code 60 = .ok (.aload_n 0, 1) := by decide +kernel
theorem d_M_plain_61 : decode prog_10_method_33_code 61 = .ok (.getfield 13, 3) := by decide +kernel
theorem d_M_plain_64 : decode prog_10_method_33_code 64 = .ok (.iload 4, 2) := by decide +kernel
theorem d_M_plain_66 : decode prog_10_method_33_code 66 = .ok (.iaload, 1) := by decide +kernel
theorem d_M_plain_67 : decode prog_10_method_33_code 67 = .ok (.ifCond .le 22, 3) := by decide +kernel
theorem d_M_plain_70 : decode prog_10_method_33_code 70 = .ok (.aload_n 0, 1) := by decide +kernel
theorem d_M_plain_71 : decode prog_10_method_33_code 71 = .ok (.getfield 86, 3) := by decide +kernel
theorem d_M_plain_74 : decode prog_10_method_33_code 74 = .ok (.aload_n 0, 1) := by decide +kernel
theorem d_M_plain_75 : decode prog_10_method_33_code 75 = .ok (.getfield 13, 3) := by decide +kernel
theorem d_M_plain_78 : decode prog_10_method_33_code 78 = .ok (.iload 4, 2) := by decide +kernel
theorem d_M_plain_80 : decode prog_10_method_33_code 80 = .ok (.iaload, 1) := by decide +kernel
theorem d_M_plain_81 : decode prog_10_method_33_code 81 = .ok (.iconst 1, 1) := by decide +kernel
theorem d_M_plain_82 : decode prog_10_method_33_code 82 = .ok (.isub, 1) := by decide +kernel
theorem d_M_plain_83 : decode prog_10_method_33_code 83 = .ok (.baload, 1) := by decide +kernel
theorem d_M_plain_84 : decode prog_10_method_33_code 84 = .ok (.ifCond .ne 5, 3) := by decide +kernel
theorem d_M_plain_104 : decode prog_10_method_33_code 104 = .ok (.aload_n 0, 1) := by decide +kernel
theorem d_M_plain_105 : decode prog_10_method_33_code 105 = .ok (.iload_n 2, 1) := by decide +kernel
theorem d_M_plain_106 : decode prog_10_method_33_code 106 = .ok (.invokevirtual 245, 3) := by decide +kernel
theorem d_M_plain_109 : decode prog_10_method_33_code 109 = .ok (.ifCond .eq 25, 3) := by decide +kernel
theorem d_M_plain_134 : decode prog_10_method_33_code 134 = .ok (.iconst 0, 1) := by decide +kernel
theorem d_M_plain_135 : decode prog_10_method_33_code 135 = .ok (.ireturn, 1) := by decide +kernel
theorem d_M_plain_112 : decode prog_10_method_33_code 112 = .ok (.aload_n 0, 1) := by decide +kernel
theorem d_M_plain_113 : decode prog_10_method_33_code 113 = .ok (.getfield 16, 3) := by decide +kernel
theorem d_M_plain_116 : decode prog_10_method_33_code 116 = .ok (.iload_n 2, 1) := by decide +kernel
theorem d_M_plain_117 : decode prog_10_method_33_code 117 = .ok (.iaload, 1) := by decide +kernel
theorem d_M_plain_118 : decode prog_10_method_33_code 118 = .ok (.iconst 2, 1) := by decide +kernel
theorem d_M_plain_119 : decode prog_10_method_33_code 119 = .ok (.irem, 1) := by decide +kernel
theorem d_M_plain_120 : decode prog_10_method_33_code 120 = .ok (.ifCond .eq 14, 3) := by decide +kernel
theorem d_M_plain_123 : decode prog_10_method_33_code 123 = .ok (.aload_n 0, 1) := by decide +kernel
theorem d_M_plain_124 : decode prog_10_method_33_code 124 = .ok (.getfield 83, 3) := by decide +kernel
theorem d_M_plain_127 : decode prog_10_method_33_code 127 = .ok (.iload_n 2, 1) := by decide +kernel
theorem d_M_plain_128 : decode prog_10_method_33_code 128 = .ok (.iaload, 1) := by decide +kernel
theorem d_M_plain_129 : decode prog_10_method_33_code 129 = .ok (.bipush 6, 2) := by decide +kernel
theorem d_M_plain_131 : decode prog_10_method_33_code 131 = .ok (.if_icmp .ne 5, 3) := by decide +kernel
theorem d_M_plain_136 : decode prog_10_method_33_code 136 = .ok (.aload_n 0, 1) := by decide +kernel
theorem d_M_plain_137 : decode prog_10_method_33_code 137 = .ok (.getfield 83, 3) := by decide +kernel
theorem d_M_plain_140 : decode prog_10_method_33_code 140 = .ok (.iload_n 2, 1) := by decide +kernel
theorem d_M_plain_141 : decode prog_10_method_33_code 141 = .ok (.bipush 6, 2) := by decide +kernel
theorem d_M_plain_143 : decode prog_10_method_33_code 143 = .ok (.iastore, 1) := by decide +kernel
theorem d_M_plain_144 : decode prog_10_method_33_code 144 = .ok (.iconst 1, 1) := by decide +kernel
theorem d_M_plain_145 : decode prog_10_method_33_code 145 = .ok (.ireturn, 1) := by decide +kernel
theorem d_M_plain_146 : decode prog_10_method_33_code 146 = .ok (.aload_n 0, 1) := by decide +kernel
theorem d_M_plain_147 : decode prog_10_method_33_code 147 = .ok (.getfield 83, 3) := by decide +kernel
theorem d_M_plain_150 : decode prog_10_method_33_code 150 = .ok (.iload_n 2, 1) := by decide +kernel
theorem d_M_plain_151 : decode prog_10_method_33_code 151 = .ok (.iaload, 1) := by decide +kernel
theorem d_M_plain_152 : decode prog_10_method_33_code 152 = .ok (.bipush 6, 2) := by decide +kernel
theorem d_M_plain_154 : decode prog_10_method_33_code 154 = .ok (.if_icmp .eq 5, 3) := by decide +kernel
theorem d_M_plain_159 : decode prog_10_method_33_code 159 = .ok (.aload_n 0, 1) := by decide +kernel
theorem d_M_plain_160 : decode prog_10_method_33_code 160 = .ok (.getfield 83, 3) := by decide +kernel
theorem d_M_plain_163 : decode prog_10_method_33_code 163 = .ok (.iload_n 2, 1) := by decide +kernel
theorem d_M_plain_164 : decode prog_10_method_33_code 164 = .ok (.aload_n 0, 1) := by decide +kernel
theorem d_M_plain_165 : decode prog_10_method_33_code 165 = .ok (.getfield 141, 3) := by decide +kernel
theorem d_M_plain_168 : decode prog_10_method_33_code 168 = .ok (.iastore, 1) := by decide +kernel
theorem d_M_plain_169 : decode prog_10_method_33_code 169 = .ok (.iconst 1, 1) := by decide +kernel
theorem d_M_plain_170 : decode prog_10_method_33_code 170 = .ok (.ireturn, 1) := by decide +kernel
theorem d_M_plain_157 : decode prog_10_method_33_code 157 = .ok (.iconst 0, 1) := by decide +kernel
theorem d_M_plain_158 : decode prog_10_method_33_code 158 = .ok (.ireturn, 1) := by decide +kernel
theorem d_M_plain_171 : decode prog_10_method_33_code 171 = .ok (.aload_n 0, 1) := by decide +kernel
theorem d_M_plain_172 : decode prog_10_method_33_code 172 = .ok (.iload_n 2, 1) := by decide +kernel
theorem d_M_plain_173 : decode prog_10_method_33_code 173 = .ok (.invokevirtual 245, 3) := by decide +kernel
theorem d_M_plain_176 : decode prog_10_method_33_code 176 = .ok (.ifCond .eq 35, 3) := by decide +kernel
theorem d_M_plain_211 : decode prog_10_method_33_code 211 = .ok (.iconst 0, 1) := by decide +kernel
theorem d_M_plain_212 : decode prog_10_method_33_code 212 = .ok (.ireturn, 1) := by decide +kernel
theorem d_M_plain_179 : decode prog_10_method_33_code 179 = .ok (.aload_n 0, 1) := by decide +kernel
theorem d_M_plain_180 : decode prog_10_method_33_code 180 = .ok (.getfield 16, 3) := by decide +kernel
theorem d_M_plain_183 : decode prog_10_method_33_code 183 = .ok (.iload_n 2, 1) := by decide +kernel
theorem d_M_plain_184 : decode prog_10_method_33_code 184 = .ok (.iaload, 1) := by decide +kernel
theorem d_M_plain_185 : decode prog_10_method_33_code 185 = .ok (.iconst 2, 1) := by decide +kernel
theorem d_M_plain_186 : decode prog_10_method_33_code 186 = .ok (.idiv, 1) := by decide +kernel
theorem d_M_plain_187 : decode prog_10_method_33_code 187 = .ok (.iconst 2, 1) := by decide +kernel
theorem d_M_plain_188 : decode prog_10_method_33_code 188 = .ok (.irem, 1) := by decide +kernel
theorem d_M_plain_189 : decode prog_10_method_33_code 189 = .ok (.ifCond .eq 22, 3) := by decide +kernel
theorem d_M_plain_192 : decode prog_10_method_33_code 192 = .ok (.aload_n 0, 1) := by decide +kernel
theorem d_M_plain_193 : decode prog_10_method_33_code 193 = .ok (.getfield 86, 3) := by decide +kernel
theorem d_M_plain_196 : decode prog_10_method_33_code 196 = .ok (.iload_n 2, 1) := by decide +kernel
theorem d_M_plain_197 : decode prog_10_method_33_code 197 = .ok (.baload, 1) := by decide +kernel
theorem d_M_plain_198 : decode prog_10_method_33_code 198 = .ok (.iload_n 1, 1) := by decide +kernel
theorem d_M_plain_199 : decode prog_10_method_33_code 199 = .ok (.iconst 3, 1) := by decide +kernel
theorem d_M_plain_200 : decode prog_10_method_33_code 200 = .ok (.if_icmp .ne 7, 3) := by decide +kernel
theorem d_M_plain_203 : decode prog_10_method_33_code 203 = .ok (.iconst 1, 1) := by decide +kernel
theorem d_M_plain_204 : decode prog_10_method_33_code 204 = .ok (.goto 4, 3) := by decide +kernel
theorem d_M_plain_207 : decode prog_10_method_33_code 207 = .ok (.iconst 0, 1) := by decide +kernel
theorem d_M_plain_231 : decode prog_10_method_33_code 231 = .ok (.aload_n 0, 1) := by decide +kernel
theorem d_M_plain_232 : decode prog_10_method_33_code 232 = .ok (.getfield 83, 3) := by decide +kernel
theorem d_M_plain_235 : decode prog_10_method_33_code 235 = .ok (.iload_n 2, 1) := by decide +kernel
theorem d_M_plain_236 : decode prog_10_method_33_code 236 = .ok (.iaload, 1) := by decide +kernel
theorem d_M_plain_237 : decode prog_10_method_33_code 237 = .ok (.bipush 6, 2) := by decide +kernel
theorem d_M_plain_239 : decode prog_10_method_33_code 239 = .ok (.if_icmp .ne 42, 3) := by decide +kernel
theorem d_M_plain_281 : decode prog_10_method_33_code 281 = .ok (.iconst 0, 1) := by decide +kernel
theorem d_M_plain_282 : decode prog_10_method_33_code 282 = .ok (.ireturn, 1) := by decide +kernel
theorem d_M_plain_242 : decode prog_10_method_33_code 242 = .ok (.aload_n 0, 1) := by decide +kernel
theorem d_M_plain_243 : decode prog_10_method_33_code 243 = .ok (.iload_n 3, 1) := by decide +kernel
theorem d_M_plain_244 : decode prog_10_method_33_code 244 = .ok (.invokevirtual 245, 3) := by decide +kernel
theorem d_M_plain_247 : decode prog_10_method_33_code 247 = .ok (.ifCond .eq 34, 3) := by decide +kernel
theorem d_M_plain_250 : decode prog_10_method_33_code 250 = .ok (.aload_n 0, 1) := by decide +kernel
theorem d_M_plain_251 : decode prog_10_method_33_code 251 = .ok (.getfield 16, 3) := by decide +kernel
theorem d_M_plain_254 : decode prog_10_method_33_code 254 = .ok (.iload_n 3, 1) := by decide +kernel
theorem d_M_plain_255 : decode prog_10_method_33_code 255 = .ok (.iaload, 1) := by decide +kernel
theorem d_M_plain_256 : decode prog_10_method_33_code 256 = .ok (.iconst 2, 1) := by decide +kernel
theorem d_M_plain_257 : decode prog_10_method_33_code 257 = .ok (.idiv, 1) := by decide +kernel
theorem d_M_plain_258 : decode prog_10_method_33_code 258 = .ok (.iconst 2, 1) := by decide +kernel
theorem d_M_plain_259 : decode prog_10_method_33_code 259 = .ok (.irem, 1) := by decide +kernel
theorem d_M_plain_260 : decode prog_10_method_33_code 260 = .ok (.ifCond .eq 21, 3) := by decide +kernel
theorem d_M_plain_263 : decode prog_10_method_33_code 263 = .ok (.aload_n 0, 1) := by decide +kernel
theorem d_M_plain_264 : decode prog_10_method_33_code 264 = .ok (.getfield 86, 3) := by decide +kernel
theorem d_M_plain_267 : decode prog_10_method_33_code 267 = .ok (.iload_n 3, 1) := by decide +kernel
theorem d_M_plain_268 : decode prog_10_method_33_code 268 = .ok (.baload, 1) := by decide +kernel
theorem d_M_plain_269 : decode prog_10_method_33_code 269 = .ok (.ifCond .eq 12, 3) := by decide +kernel
theorem d_M_plain_272 : decode prog_10_method_33_code 272 = .ok (.aload_n 0, 1) := by decide +kernel
theorem d_M_plain_273 : decode prog_10_method_33_code 273 = .ok (.iload_n 3, 1) := by decide +kernel
theorem d_M_plain_274 : decode prog_10_method_33_code 274 = .ok (.iload_n 2, 1) := by decide +kernel
theorem d_M_plain_275 : decode prog_10_method_33_code 275 = .ok (.invokevirtual 230, 3) := by decide +kernel
theorem d_M_plain_278 : decode prog_10_method_33_code 278 = .ok (.ifCond .eq 5, 3) := by decide +kernel
theorem d_M_plain_283 : decode prog_10_method_33_code 283 = .ok (.aload_n 0, 1) := by decide +kernel
theorem d_M_plain_284 : decode prog_10_method_33_code 284 = .ok (.getfield 83, 3) := by decide +kernel
theorem d_M_plain_287 : decode prog_10_method_33_code 287 = .ok (.iload_n 2, 1) := by decide +kernel
theorem d_M_plain_288 : decode prog_10_method_33_code 288 = .ok (.bipush 7, 2) := by decide +kernel
theorem d_M_plain_290 : decode prog_10_method_33_code 290 = .ok (.iload_n 3, 1) := by decide +kernel
theorem d_M_plain_291 : decode prog_10_method_33_code 291 = .ok (.iadd, 1) := by decide +kernel
theorem d_M_plain_292 : decode prog_10_method_33_code 292 = .ok (.iastore, 1) := by decide +kernel
theorem d_M_plain_293 : decode prog_10_method_33_code 293 = .ok (.iconst 1, 1) := by decide +kernel
theorem d_M_plain_294 : decode prog_10_method_33_code 294 = .ok (.ireturn, 1) := by decide +kernel
theorem d_M_plain_295 : decode prog_10_method_33_code 295 = .ok (.iload_n 1, 1) := by decide +kernel
theorem d_M_plain_296 : decode prog_10_method_33_code 296 = .ok (.bipush 6, 2) := by decide +kernel
theorem d_M_plain_298 : decode prog_10_method_33_code 298 = .ok (.if_icmp .ne 7, 3) := by decide +kernel
theorem d_M_plain_305 : decode prog_10_method_33_code 305 = .ok (.iconst 0, 1) := by decide +kernel
theorem d_M_plain_306 : decode prog_10_method_33_code 306 = .ok (.ireturn, 1) := by decide +kernel
theorem d_M_plain_301 : decode prog_10_method_33_code 301 = .ok (.iconst 1, 1) := by decide +kernel
theorem d_M_plain_302 : decode prog_10_method_33_code 302 = .ok (.goto 4, 3) := by decide +kernel
theorem d_M_plain_89 : decode prog_10_method_33_code 89 = .ok (.aload_n 0, 1) := by decide +kernel
theorem d_M_plain_90 : decode prog_10_method_33_code 90 = .ok (.aload_n 0, 1) := by decide +kernel
theorem d_M_plain_91 : decode prog_10_method_33_code 91 = .ok (.getfield 7, 3) := by decide +kernel
theorem d_M_plain_94 : decode prog_10_method_33_code 94 = .ok (.iload 4, 2) := by decide +kernel
theorem d_M_plain_96 : decode prog_10_method_33_code 96 = .ok (.iaload, 1) := by decide +kernel
theorem d_M_plain_97 : decode prog_10_method_33_code 97 = .ok (.iconst 1, 1) := by decide +kernel
theorem d_M_plain_98 : decode prog_10_method_33_code 98 = .ok (.isub, 1) := by decide +kernel
theorem d_M_plain_99 : decode prog_10_method_33_code 99 = .ok (.putfield 141, 3) := by decide +kernel
theorem d_M_plain_102 : decode prog_10_method_33_code 102 = .ok (.iconst 1, 1) := by decide +kernel
theorem d_M_plain_103 : decode prog_10_method_33_code 103 = .ok (.ireturn, 1) := by decide +kernel
theorem d_M_plain_208 : decode prog_10_method_33_code 208 = .ok (.if_icmp .ne 5, 3) := by decide +kernel
theorem d_M_plain_213 : decode prog_10_method_33_code 213 = .ok (.aload_n 0, 1) := by decide +kernel
theorem d_M_plain_214 : decode prog_10_method_33_code 214 = .ok (.getfield 86, 3) := by decide +kernel
theorem d_M_plain_217 : decode prog_10_method_33_code 217 = .ok (.iload_n 2, 1) := by decide +kernel
theorem d_M_plain_218 : decode prog_10_method_33_code 218 = .ok (.iload_n 1, 1) := by decide +kernel
theorem d_M_plain_219 : decode prog_10_method_33_code 219 = .ok (.iconst 3, 1) := by decide +kernel
theorem d_M_plain_220 : decode prog_10_method_33_code 220 = .ok (.if_icmp .ne 7, 3) := by decide +kernel
theorem d_M_plain_227 : decode prog_10_method_33_code 227 = .ok (.iconst 0, 1) := by decide +kernel
theorem d_M_plain_228 : decode prog_10_method_33_code 228 = .ok (.bastore, 1) := by decide +kernel
theorem d_M_plain_229 : decode prog_10_method_33_code 229 = .ok (.iconst 1, 1) := by decide +kernel
theorem d_M_plain_230 : decode prog_10_method_33_code 230 = .ok (.ireturn, 1) := by decide +kernel
theorem d_M_plain_223 : decode prog_10_method_33_code 223 = .ok (.iconst 1, 1) := by decide +kernel
theorem d_M_plain_224 : decode prog_10_method_33_code 224 = .ok (.goto 4, 3) := by decide +kernel
theorem d_M_turn_0 : decode prog_10_method_34_code 0 = .ok (.aload_n 0, 1) := by decide +kernel
theorem d_M_turn_1 : decode prog_10_method_34_code 1 = .ok (.iconst 0, 1) := by decide +kernel
theorem d_M_turn_2 : decode prog_10_method_34_code 2 = .ok (.putfield 234, 3) := by decide +kernel
theorem d_M_turn_5 : decode prog_10_method_34_code 5 = .ok (.aload_n 0, 1) := by decide +kernel
theorem d_M_turn_6 : decode prog_10_method_34_code 6 = .ok (.iload_n 1, 1) := by decide +kernel
theorem d_M_turn_7 : decode prog_10_method_34_code 7 = .ok (.iload_n 2, 1) := by decide +kernel
theorem d_M_turn_8 : decode prog_10_method_34_code 8 = .ok (.iload_n 3, 1) := by decide +kernel
theorem d_M_turn_9 : decode prog_10_method_34_code 9 = .ok (.invokevirtual 251, 3) := by decide +kernel
theorem d_M_turn_12 : decode prog_10_method_34_code 12 = .ok (.istore 4, 2) := by decide +kernel
theorem d_M_turn_14 : decode prog_10_method_34_code 14 = .ok (.iload 4, 2) := by decide +kernel
theorem d_M_turn_16 : decode prog_10_method_34_code 16 = .ok (.ifCond .lt 12, 3) := by decide +kernel
theorem d_M_turn_28 : decode prog_10_method_34_code 28 = .ok (.aload_n 0, 1) := by decide +kernel
theorem d_M_turn_29 : decode prog_10_method_34_code 29 = .ok (.iload_n 1, 1) := by decide +kernel
theorem d_M_turn_30 : decode prog_10_method_34_code 30 = .ok (.iload_n 2, 1) := by decide +kernel
theorem d_M_turn_31 : decode prog_10_method_34_code 31 = .ok (.iload_n 3, 1) := by decide +kernel
theorem d_M_turn_32 : decode prog_10_method_34_code 32 = .ok (.invokevirtual 258, 3) := by decide +kernel
theorem d_M_turn_35 : decode prog_10_method_34_code 35 = .ok (.istore 5, 2) := by decide +kernel
theorem d_M_turn_37 : decode prog_10_method_34_code 37 = .ok (.aload_n 0, 1) := by decide +kernel
theorem d_M_turn_38 : decode prog_10_method_34_code 38 = .ok (.iload 5, 2) := by decide +kernel
theorem d_M_turn_40 : decode prog_10_method_34_code 40 = .ok (.ifCond .eq 10, 3) := by decide +kernel
theorem d_M_turn_50 : decode prog_10_method_34_code 50 = .ok (.bipush 99, 2) := by decide +kernel
theorem d_M_turn_43 : decode prog_10_method_34_code 43 = .ok (.bipush 100, 2) := by decide +kernel
theorem d_M_turn_45 : decode prog_10_method_34_code 45 = .ok (.iload_n 1, 1) := by decide +kernel
theorem d_M_turn_46 : decode prog_10_method_34_code 46 = .ok (.iadd, 1) := by decide +kernel
theorem d_M_turn_47 : decode prog_10_method_34_code 47 = .ok (.goto 5, 3) := by decide +kernel
theorem d_M_turn_19 : decode prog_10_method_34_code 19 = .ok (.aload_n 0, 1) := by decide +kernel
theorem d_M_turn_20 : decode prog_10_method_34_code 20 = .ok (.iload 4, 2) := by decide +kernel
theorem d_M_turn_22 : decode prog_10_method_34_code 22 = .ok (.invokevirtual 255, 3) := by decide +kernel
theorem d_M_turn_25 : decode prog_10_method_34_code 25 = .ok (.goto 30, 3) := by decide +kernel
theorem d_M_turn_52 : decode prog_10_method_34_code 52 = .ok (.invokevirtual 237, 3) := by decide +kernel
theorem d_M_turn_55 : decode prog_10_method_34_code 55 = .ok (.iconst 0, 1) := by decide +kernel
theorem d_M_turn_56 : decode prog_10_method_34_code 56 = .ok (.istore 5, 2) := by decide +kernel
theorem d_M_turn_58 : decode prog_10_method_34_code 58 = .ok (.iload 5, 2) := by decide +kernel
theorem d_M_turn_60 : decode prog_10_method_34_code 60 = .ok (.aload_n 0, 1) := by decide +kernel
theorem d_M_turn_61 : decode prog_10_method_34_code 61 = .ok (.getfield 214, 3) := by decide +kernel
theorem d_M_turn_64 : decode prog_10_method_34_code 64 = .ok (.if_icmp .ge 92, 3) := by decide +kernel
theorem d_M_turn_67 : decode prog_10_method_34_code 67 = .ok (.aload_n 0, 1) := by decide +kernel
theorem d_M_turn_68 : decode prog_10_method_34_code 68 = .ok (.getfield 144, 3) := by decide +kernel
theorem d_M_turn_71 : decode prog_10_method_34_code 71 = .ok (.ifCond .ne 85, 3) := by decide +kernel
theorem d_M_turn_74 : decode prog_10_method_34_code 74 = .ok (.aload_n 0, 1) := by decide +kernel
theorem d_M_turn_75 : decode prog_10_method_34_code 75 = .ok (.getfield 71, 3) := by decide +kernel
theorem d_M_turn_78 : decode prog_10_method_34_code 78 = .ok (.iload 5, 2) := by decide +kernel
