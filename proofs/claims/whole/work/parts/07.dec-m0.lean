theorem d_M_thrown_0 : decode prog_10_method_2_code 0 = .ok (.aload_n 0, 1) := by decide +kernel
theorem d_M_thrown_1 : decode prog_10_method_2_code 1 = .ok (.getfield 137, 3) := by decide +kernel
theorem d_M_thrown_4 : decode prog_10_method_2_code 4 = .ok (.ireturn, 1) := by decide +kernel
theorem d_M_packA_0 : decode prog_10_method_3_code 0 = .ok (.aload_n 0, 1) := by decide +kernel
theorem d_M_packA_1 : decode prog_10_method_3_code 1 = .ok (.getfield 141, 3) := by decide +kernel
theorem d_M_packA_4 : decode prog_10_method_3_code 4 = .ok (.istore_n 1, 1) := by decide +kernel
theorem d_M_packA_5 : decode prog_10_method_3_code 5 = .ok (.iconst 0, 1) := by decide +kernel
theorem d_M_packA_6 : decode prog_10_method_3_code 6 = .ok (.istore_n 2, 1) := by decide +kernel
theorem d_M_packA_7 : decode prog_10_method_3_code 7 = .ok (.iload_n 2, 1) := by decide +kernel
theorem d_M_packA_8 : decode prog_10_method_3_code 8 = .ok (.bipush 6, 2) := by decide +kernel
theorem d_M_packA_10 : decode prog_10_method_3_code 10 = .ok (.if_icmp .ge 21, 3) := by decide +kernel
theorem d_M_packA_31 : decode prog_10_method_3_code 31 = .ok (.bipush 8, 2) := by decide +kernel
theorem d_M_packA_33 : decode prog_10_method_3_code 33 = .ok (.iload_n 1, 1) := by decide +kernel
theorem d_M_packA_34 : decode prog_10_method_3_code 34 = .ok (.imul, 1) := by decide +kernel
theorem d_M_packA_35 : decode prog_10_method_3_code 35 = .ok (.aload_n 0, 1) := by decide +kernel
theorem d_M_packA_36 : decode prog_10_method_3_code 36 = .ok (.getfield 144, 3) := by decide +kernel
theorem d_M_packA_39 : decode prog_10_method_3_code 39 = .ok (.iadd, 1) := by decide +kernel
theorem d_M_packA_40 : decode prog_10_method_3_code 40 = .ok (.ireturn, 1) := by decide +kernel
theorem d_M_packA_13 : decode prog_10_method_3_code 13 = .ok (.bipush 16, 2) := by decide +kernel
theorem d_M_packA_15 : decode prog_10_method_3_code 15 = .ok (.iload_n 1, 1) := by decide +kernel
theorem d_M_packA_16 : decode prog_10_method_3_code 16 = .ok (.imul, 1) := by decide +kernel
theorem d_M_packA_17 : decode prog_10_method_3_code 17 = .ok (.aload_n 0, 1) := by decide +kernel
theorem d_M_packA_18 : decode prog_10_method_3_code 18 = .ok (.getfield 83, 3) := by decide +kernel
theorem d_M_packA_21 : decode prog_10_method_3_code 21 = .ok (.iload_n 2, 1) := by decide +kernel
theorem d_M_packA_22 : decode prog_10_method_3_code 22 = .ok (.iaload, 1) := by decide +kernel
theorem d_M_packA_23 : decode prog_10_method_3_code 23 = .ok (.iadd, 1) := by decide +kernel
theorem d_M_packA_24 : decode prog_10_method_3_code 24 = .ok (.istore_n 1, 1) := by decide +kernel
theorem d_M_packA_25 : decode prog_10_method_3_code 25 = .ok (.iinc 2 1, 3) := by decide +kernel
theorem d_M_packA_28 : decode prog_10_method_3_code 28 = .ok (.goto (-21), 3) := by decide +kernel
theorem d_M_packB_0 : decode prog_10_method_4_code 0 = .ok (.iconst 0, 1) := by decide +kernel
theorem d_M_packB_1 : decode prog_10_method_4_code 1 = .ok (.istore_n 1, 1) := by decide +kernel
theorem d_M_packB_2 : decode prog_10_method_4_code 2 = .ok (.iconst 0, 1) := by decide +kernel
theorem d_M_packB_3 : decode prog_10_method_4_code 3 = .ok (.istore_n 2, 1) := by decide +kernel
theorem d_M_packB_4 : decode prog_10_method_4_code 4 = .ok (.iload_n 2, 1) := by decide +kernel
theorem d_M_packB_5 : decode prog_10_method_4_code 5 = .ok (.bipush 6, 2) := by decide +kernel
theorem d_M_packB_7 : decode prog_10_method_4_code 7 = .ok (.if_icmp .ge 28, 3) := by decide +kernel
theorem d_M_packB_35 : decode prog_10_method_4_code 35 = .ok (.iconst 0, 1) := by decide +kernel
theorem d_M_packB_36 : decode prog_10_method_4_code 36 = .ok (.istore_n 2, 1) := by decide +kernel
theorem d_M_packB_10 : decode prog_10_method_4_code 10 = .ok (.iconst 2, 1) := by decide +kernel
theorem d_M_packB_11 : decode prog_10_method_4_code 11 = .ok (.iload_n 1, 1) := by decide +kernel
theorem d_M_packB_12 : decode prog_10_method_4_code 12 = .ok (.imul, 1) := by decide +kernel
theorem d_M_packB_13 : decode prog_10_method_4_code 13 = .ok (.aload_n 0, 1) := by decide +kernel
theorem d_M_packB_14 : decode prog_10_method_4_code 14 = .ok (.getfield 86, 3) := by decide +kernel
theorem d_M_packB_17 : decode prog_10_method_4_code 17 = .ok (.iload_n 2, 1) := by decide +kernel
theorem d_M_packB_18 : decode prog_10_method_4_code 18 = .ok (.baload, 1) := by decide +kernel
theorem d_M_packB_19 : decode prog_10_method_4_code 19 = .ok (.ifCond .eq 7, 3) := by decide +kernel
theorem d_M_packB_26 : decode prog_10_method_4_code 26 = .ok (.iconst 0, 1) := by decide +kernel
theorem d_M_packB_27 : decode prog_10_method_4_code 27 = .ok (.iadd, 1) := by decide +kernel
theorem d_M_packB_28 : decode prog_10_method_4_code 28 = .ok (.istore_n 1, 1) := by decide +kernel
theorem d_M_packB_29 : decode prog_10_method_4_code 29 = .ok (.iinc 2 1, 3) := by decide +kernel
theorem d_M_packB_32 : decode prog_10_method_4_code 32 = .ok (.goto (-28), 3) := by decide +kernel
theorem d_M_packB_22 : decode prog_10_method_4_code 22 = .ok (.iconst 1, 1) := by decide +kernel
theorem d_M_packB_23 : decode prog_10_method_4_code 23 = .ok (.goto 4, 3) := by decide +kernel
theorem d_M_packB_37 : decode prog_10_method_4_code 37 = .ok (.iload_n 2, 1) := by decide +kernel
theorem d_M_packB_38 : decode prog_10_method_4_code 38 = .ok (.iconst 3, 1) := by decide +kernel
theorem d_M_packB_39 : decode prog_10_method_4_code 39 = .ok (.if_icmp .ge 21, 3) := by decide +kernel
theorem d_M_packB_60 : decode prog_10_method_4_code 60 = .ok (.iconst 0, 1) := by decide +kernel
theorem d_M_packB_61 : decode prog_10_method_4_code 61 = .ok (.istore_n 2, 1) := by decide +kernel
theorem d_M_packB_42 : decode prog_10_method_4_code 42 = .ok (.bipush 8, 2) := by decide +kernel
theorem d_M_packB_44 : decode prog_10_method_4_code 44 = .ok (.iload_n 1, 1) := by decide +kernel
theorem d_M_packB_45 : decode prog_10_method_4_code 45 = .ok (.imul, 1) := by decide +kernel
theorem d_M_packB_46 : decode prog_10_method_4_code 46 = .ok (.aload_n 0, 1) := by decide +kernel
theorem d_M_packB_47 : decode prog_10_method_4_code 47 = .ok (.getfield 89, 3) := by decide +kernel
theorem d_M_packB_50 : decode prog_10_method_4_code 50 = .ok (.iload_n 2, 1) := by decide +kernel
theorem d_M_packB_51 : decode prog_10_method_4_code 51 = .ok (.iaload, 1) := by decide +kernel
theorem d_M_packB_52 : decode prog_10_method_4_code 52 = .ok (.iadd, 1) := by decide +kernel
theorem d_M_packB_53 : decode prog_10_method_4_code 53 = .ok (.istore_n 1, 1) := by decide +kernel
theorem d_M_packB_54 : decode prog_10_method_4_code 54 = .ok (.iinc 2 1, 3) := by decide +kernel
theorem d_M_packB_57 : decode prog_10_method_4_code 57 = .ok (.goto (-20), 3) := by decide +kernel
theorem d_M_packB_62 : decode prog_10_method_4_code 62 = .ok (.iload_n 2, 1) := by decide +kernel
theorem d_M_packB_63 : decode prog_10_method_4_code 63 = .ok (.iconst 2, 1) := by decide +kernel
theorem d_M_packB_64 : decode prog_10_method_4_code 64 = .ok (.if_icmp .ge 31, 3) := by decide +kernel
theorem d_M_packB_95 : decode prog_10_method_4_code 95 = .ok (.iload_n 1, 1) := by decide +kernel
theorem d_M_packB_96 : decode prog_10_method_4_code 96 = .ok (.ireturn, 1) := by decide +kernel
theorem d_M_packB_67 : decode prog_10_method_4_code 67 = .ok (.bipush 64, 2) := by decide +kernel
theorem d_M_packB_69 : decode prog_10_method_4_code 69 = .ok (.iload_n 1, 1) := by decide +kernel
theorem d_M_packB_70 : decode prog_10_method_4_code 70 = .ok (.imul, 1) := by decide +kernel
theorem d_M_packB_71 : decode prog_10_method_4_code 71 = .ok (.bipush 16, 2) := by decide +kernel
theorem d_M_packB_73 : decode prog_10_method_4_code 73 = .ok (.aload_n 0, 1) := by decide +kernel
theorem d_M_packB_74 : decode prog_10_method_4_code 74 = .ok (.getfield 92, 3) := by decide +kernel
theorem d_M_packB_77 : decode prog_10_method_4_code 77 = .ok (.iload_n 2, 1) := by decide +kernel
theorem d_M_packB_78 : decode prog_10_method_4_code 78 = .ok (.iaload, 1) := by decide +kernel
theorem d_M_packB_79 : decode prog_10_method_4_code 79 = .ok (.imul, 1) := by decide +kernel
theorem d_M_packB_80 : decode prog_10_method_4_code 80 = .ok (.iadd, 1) := by decide +kernel
theorem d_M_packB_81 : decode prog_10_method_4_code 81 = .ok (.aload_n 0, 1) := by decide +kernel
theorem d_M_packB_82 : decode prog_10_method_4_code 82 = .ok (.getfield 95, 3) := by decide +kernel
theorem d_M_packB_85 : decode prog_10_method_4_code 85 = .ok (.iload_n 2, 1) := by decide +kernel
theorem d_M_packB_86 : decode prog_10_method_4_code 86 = .ok (.iaload, 1) := by decide +kernel
theorem d_M_packB_87 : decode prog_10_method_4_code 87 = .ok (.iadd, 1) := by decide +kernel
theorem d_M_packB_88 : decode prog_10_method_4_code 88 = .ok (.istore_n 1, 1) := by decide +kernel
theorem d_M_packB_89 : decode prog_10_method_4_code 89 = .ok (.iinc 2 1, 3) := by decide +kernel
theorem d_M_packB_92 : decode prog_10_method_4_code 92 = .ok (.goto (-30), 3) := by decide +kernel
theorem d_M_lay_0 : decode prog_10_method_5_code 0 = .ok (.iload_n 1, 1) := by decide +kernel
theorem d_M_lay_1 : decode prog_10_method_5_code 1 = .ok (.istore_n 3, 1) := by decide +kernel
theorem d_M_lay_2 : decode prog_10_method_5_code 2 = .ok (.aload_n 0, 1) := by decide +kernel
theorem d_M_lay_3 : decode prog_10_method_5_code 3 = .ok (.iload_n 3, 1) := by decide +kernel
theorem d_M_lay_4 : decode prog_10_method_5_code 4 = .ok (.bipush 8, 2) := by decide +kernel
theorem d_M_lay_6 : decode prog_10_method_5_code 6 = .ok (.irem, 1) := by decide +kernel
theorem d_M_lay_7 : decode prog_10_method_5_code 7 = .ok (.putfield 144, 3) := by decide +kernel
theorem d_M_lay_10 : decode prog_10_method_5_code 10 = .ok (.iload_n 3, 1) := by decide +kernel
theorem d_M_lay_11 : decode prog_10_method_5_code 11 = .ok (.bipush 8, 2) := by decide +kernel
theorem d_M_lay_13 : decode prog_10_method_5_code 13 = .ok (.idiv, 1) := by decide +kernel
theorem d_M_lay_14 : decode prog_10_method_5_code 14 = .ok (.istore_n 3, 1) := by decide +kernel
theorem d_M_lay_15 : decode prog_10_method_5_code 15 = .ok (.iconst 5, 1) := by decide +kernel
theorem d_M_lay_16 : decode prog_10_method_5_code 16 = .ok (.istore 4, 2) := by decide +kernel
theorem d_M_lay_18 : decode prog_10_method_5_code 18 = .ok (.iload 4, 2) := by decide +kernel
theorem d_M_lay_20 : decode prog_10_method_5_code 20 = .ok (.ifCond .lt 25, 3) := by decide +kernel
theorem d_M_lay_45 : decode prog_10_method_5_code 45 = .ok (.aload_n 0, 1) := by decide +kernel
theorem d_M_lay_46 : decode prog_10_method_5_code 46 = .ok (.iload_n 3, 1) := by decide +kernel
theorem d_M_lay_47 : decode prog_10_method_5_code 47 = .ok (.putfield 141, 3) := by decide +kernel
theorem d_M_lay_50 : decode prog_10_method_5_code 50 = .ok (.iload_n 2, 1) := by decide +kernel
theorem d_M_lay_51 : decode prog_10_method_5_code 51 = .ok (.istore_n 3, 1) := by decide +kernel
theorem d_M_lay_52 : decode prog_10_method_5_code 52 = .ok (.iconst 1, 1) := by decide +kernel
theorem d_M_lay_53 : decode prog_10_method_5_code 53 = .ok (.istore 4, 2) := by decide +kernel
theorem d_M_lay_23 : decode prog_10_method_5_code 23 = .ok (.aload_n 0, 1) := by decide +kernel
theorem d_M_lay_24 : decode prog_10_method_5_code 24 = .ok (.getfield 83, 3) := by decide +kernel
theorem d_M_lay_27 : decode prog_10_method_5_code 27 = .ok (.iload 4, 2) := by decide +kernel
theorem d_M_lay_29 : decode prog_10_method_5_code 29 = .ok (.iload_n 3, 1) := by decide +kernel
theorem d_M_lay_30 : decode prog_10_method_5_code 30 = .ok (.bipush 16, 2) := by decide +kernel
theorem d_M_lay_32 : decode prog_10_method_5_code 32 = .ok (.irem, 1) := by decide +kernel
theorem d_M_lay_33 : decode prog_10_method_5_code 33 = .ok (.iastore, 1) := by decide +kernel
theorem d_M_lay_34 : decode prog_10_method_5_code 34 = .ok (.iload_n 3, 1) := by decide +kernel
theorem d_M_lay_35 : decode prog_10_method_5_code 35 = .ok (.bipush 16, 2) := by decide +kernel
theorem d_M_lay_37 : decode prog_10_method_5_code 37 = .ok (.idiv, 1) := by decide +kernel
theorem d_M_lay_38 : decode prog_10_method_5_code 38 = .ok (.istore_n 3, 1) := by decide +kernel
theorem d_M_lay_39 : decode prog_10_method_5_code 39 = .ok (.iinc 4 (-1), 3) := by decide +kernel
theorem d_M_lay_42 : decode prog_10_method_5_code 42 = .ok (.goto (-24), 3) := by decide +kernel
theorem d_M_lay_55 : decode prog_10_method_5_code 55 = .ok (.iload 4, 2) := by decide +kernel
theorem d_M_lay_57 : decode prog_10_method_5_code 57 = .ok (.ifCond .lt 38, 3) := by decide +kernel
theorem d_M_lay_95 : decode prog_10_method_5_code 95 = .ok (.iconst 2, 1) := by decide +kernel
theorem d_M_lay_96 : decode prog_10_method_5_code 96 = .ok (.istore 4, 2) := by decide +kernel
theorem d_M_lay_60 : decode prog_10_method_5_code 60 = .ok (.aload_n 0, 1) := by decide +kernel
theorem d_M_lay_61 : decode prog_10_method_5_code 61 = .ok (.getfield 95, 3) := by decide +kernel
theorem d_M_lay_64 : decode prog_10_method_5_code 64 = .ok (.iload 4, 2) := by decide +kernel
theorem d_M_lay_66 : decode prog_10_method_5_code 66 = .ok (.iload_n 3, 1) := by decide +kernel
theorem d_M_lay_67 : decode prog_10_method_5_code 67 = .ok (.bipush 16, 2) := by decide +kernel
theorem d_M_lay_69 : decode prog_10_method_5_code 69 = .ok (.irem, 1) := by decide +kernel
theorem d_M_lay_70 : decode prog_10_method_5_code 70 = .ok (.iastore, 1) := by decide +kernel
theorem d_M_lay_71 : decode prog_10_method_5_code 71 = .ok (.aload_n 0, 1) := by decide +kernel
theorem d_M_lay_72 : decode prog_10_method_5_code 72 = .ok (.getfield 92, 3) := by decide +kernel
theorem d_M_lay_75 : decode prog_10_method_5_code 75 = .ok (.iload 4, 2) := by decide +kernel
theorem d_M_lay_77 : decode prog_10_method_5_code 77 = .ok (.iload_n 3, 1) := by decide +kernel
theorem d_M_lay_78 : decode prog_10_method_5_code 78 = .ok (.bipush 16, 2) := by decide +kernel
theorem d_M_lay_80 : decode prog_10_method_5_code 80 = .ok (.idiv, 1) := by decide +kernel
theorem d_M_lay_81 : decode prog_10_method_5_code 81 = .ok (.iconst 4, 1) := by decide +kernel
theorem d_M_lay_82 : decode prog_10_method_5_code 82 = .ok (.irem, 1) := by decide +kernel
theorem d_M_lay_83 : decode prog_10_method_5_code 83 = .ok (.iastore, 1) := by decide +kernel
theorem d_M_lay_84 : decode prog_10_method_5_code 84 = .ok (.iload_n 3, 1) := by decide +kernel
theorem d_M_lay_85 : decode prog_10_method_5_code 85 = .ok (.bipush 64, 2) := by decide +kernel
theorem d_M_lay_87 : decode prog_10_method_5_code 87 = .ok (.idiv, 1) := by decide +kernel
theorem d_M_lay_88 : decode prog_10_method_5_code 88 = .ok (.istore_n 3, 1) := by decide +kernel
theorem d_M_lay_89 : decode prog_10_method_5_code 89 = .ok (.iinc 4 (-1), 3) := by decide +kernel
theorem d_M_lay_92 : decode prog_10_method_5_code 92 = .ok (.goto (-37), 3) := by decide +kernel
theorem d_M_lay_98 : decode prog_10_method_5_code 98 = .ok (.iload 4, 2) := by decide +kernel
theorem d_M_lay_100 : decode prog_10_method_5_code 100 = .ok (.ifCond .lt 25, 3) := by decide +kernel
theorem d_M_lay_125 : decode prog_10_method_5_code 125 = .ok (.iconst 5, 1) := by decide +kernel
theorem d_M_lay_126 : decode prog_10_method_5_code 126 = .ok (.istore 4, 2) := by decide +kernel
theorem d_M_lay_103 : decode prog_10_method_5_code 103 = .ok (.aload_n 0, 1) := by decide +kernel
theorem d_M_lay_104 : decode prog_10_method_5_code 104 = .ok (.getfield 89, 3) := by decide +kernel
theorem d_M_lay_107 : decode prog_10_method_5_code 107 = .ok (.iload 4, 2) := by decide +kernel
theorem d_M_lay_109 : decode prog_10_method_5_code 109 = .ok (.iload_n 3, 1) := by decide +kernel
theorem d_M_lay_110 : decode prog_10_method_5_code 110 = .ok (.bipush 8, 2) := by decide +kernel
theorem d_M_lay_112 : decode prog_10_method_5_code 112 = .ok (.irem, 1) := by decide +kernel
theorem d_M_lay_113 : decode prog_10_method_5_code 113 = .ok (.iastore, 1) := by decide +kernel
theorem d_M_lay_114 : decode prog_10_method_5_code 114 = .ok (.iload_n 3, 1) := by decide +kernel
theorem d_M_lay_115 : decode prog_10_method_5_code 115 = .ok (.bipush 8, 2) := by decide +kernel
theorem d_M_lay_117 : decode prog_10_method_5_code 117 = .ok (.idiv, 1) := by decide +kernel
theorem d_M_lay_118 : decode prog_10_method_5_code 118 = .ok (.istore_n 3, 1) := by decide +kernel
theorem d_M_lay_119 : decode prog_10_method_5_code 119 = .ok (.iinc 4 (-1), 3) := by decide +kernel
theorem d_M_lay_122 : decode prog_10_method_5_code 122 = .ok (.goto (-24), 3) := by decide +kernel
theorem d_M_lay_128 : decode prog_10_method_5_code 128 = .ok (.iload 4, 2) := by decide +kernel
theorem d_M_lay_130 : decode prog_10_method_5_code 130 = .ok (.ifCond .lt 32, 3) := by decide +kernel
theorem d_M_lay_162 : decode prog_10_method_5_code 162 = .ok (.return_, 1) := by decide +kernel
theorem d_M_lay_133 : decode prog_10_method_5_code 133 = .ok (.aload_n 0, 1) := by decide +kernel
theorem d_M_lay_134 : decode prog_10_method_5_code 134 = .ok (.getfield 86, 3) := by decide +kernel
theorem d_M_lay_137 : decode prog_10_method_5_code 137 = .ok (.iload 4, 2) := by decide +kernel
theorem d_M_lay_139 : decode prog_10_method_5_code 139 = .ok (.iload_n 3, 1) := by decide +kernel
theorem d_M_lay_140 : decode prog_10_method_5_code 140 = .ok (.iconst 2, 1) := by decide +kernel
theorem d_M_lay_141 : decode prog_10_method_5_code 141 = .ok (.irem, 1) := by decide +kernel
theorem d_M_lay_142 : decode prog_10_method_5_code 142 = .ok (.iconst 1, 1) := by decide +kernel
theorem d_M_lay_143 : decode prog_10_method_5_code 143 = .ok (.if_icmp .ne 7, 3) := by decide +kernel
theorem d_M_lay_150 : decode prog_10_method_5_code 150 = .ok (.iconst 0, 1) := by decide +kernel
theorem d_M_lay_151 : decode prog_10_method_5_code 151 = .ok (.bastore, 1) := by decide +kernel
theorem d_M_lay_152 : decode prog_10_method_5_code 152 = .ok (.iload_n 3, 1) := by decide +kernel
theorem d_M_lay_153 : decode prog_10_method_5_code 153 = .ok (.iconst 2, 1) := by decide +kernel
theorem d_M_lay_154 : decode prog_10_method_5_code 154 = .ok (.idiv, 1) := by decide +kernel
theorem d_M_lay_155 : decode prog_10_method_5_code 155 = .ok (.istore_n 3, 1) := by decide +kernel
theorem d_M_lay_156 : decode prog_10_method_5_code 156 = .ok (.iinc 4 (-1), 3) := by decide +kernel
theorem d_M_lay_159 : decode prog_10_method_5_code 159 = .ok (.goto (-31), 3) := by decide +kernel
theorem d_M_lay_146 : decode prog_10_method_5_code 146 = .ok (.iconst 1, 1) := by decide +kernel
theorem d_M_lay_147 : decode prog_10_method_5_code 147 = .ok (.goto 4, 3) := by decide +kernel
theorem d_M_layFirst_0 : decode prog_10_method_6_code 0 = .ok (.aload_n 0, 1) := by decide +kernel
theorem d_M_layFirst_1 : decode prog_10_method_6_code 1 = .ok (.iconst 0, 1) := by decide +kernel
theorem d_M_layFirst_2 : decode prog_10_method_6_code 2 = .ok (.putfield 141, 3) := by decide +kernel
theorem d_M_layFirst_5 : decode prog_10_method_6_code 5 = .ok (.aload_n 0, 1) := by decide +kernel
theorem d_M_layFirst_6 : decode prog_10_method_6_code 6 = .ok (.iconst 0, 1) := by decide +kernel
theorem d_M_layFirst_7 : decode prog_10_method_6_code 7 = .ok (.putfield 144, 3) := by decide +kernel
theorem d_M_layFirst_10 : decode prog_10_method_6_code 10 = .ok (.iconst 0, 1) := by decide +kernel
theorem d_M_layFirst_11 : decode prog_10_method_6_code 11 = .ok (.istore_n 1, 1) := by decide +kernel
theorem d_M_layFirst_12 : decode prog_10_method_6_code 12 = .ok (.iload_n 1, 1) := by decide +kernel
theorem d_M_layFirst_13 : decode prog_10_method_6_code 13 = .ok (.bipush 6, 2) := by decide +kernel
theorem d_M_layFirst_15 : decode prog_10_method_6_code 15 = .ok (.if_icmp .ge 62, 3) := by decide +kernel
theorem d_M_layFirst_77 : decode prog_10_method_6_code 77 = .ok (.iconst 0, 1) := by decide +kernel
theorem d_M_layFirst_78 : decode prog_10_method_6_code 78 = .ok (.istore_n 1, 1) := by decide +kernel
theorem d_M_layFirst_18 : decode prog_10_method_6_code 18 = .ok (.aload_n 0, 1) := by decide +kernel
theorem d_M_layFirst_19 : decode prog_10_method_6_code 19 = .ok (.getfield 83, 3) := by decide +kernel
theorem d_M_layFirst_22 : decode prog_10_method_6_code 22 = .ok (.iload_n 1, 1) := by decide +kernel
theorem d_M_layFirst_23 : decode prog_10_method_6_code 23 = .ok (.iload_n 1, 1) := by decide +kernel
theorem d_M_layFirst_24 : decode prog_10_method_6_code 24 = .ok (.aload_n 0, 1) := by decide +kernel
theorem d_M_layFirst_25 : decode prog_10_method_6_code 25 = .ok (.getfield 147, 3) := by decide +kernel
theorem d_M_layFirst_28 : decode prog_10_method_6_code 28 = .ok (.if_icmp .ge 12, 3) := by decide +kernel
theorem d_M_layFirst_40 : decode prog_10_method_6_code 40 = .ok (.iconst 0, 1) := by decide +kernel
theorem d_M_layFirst_31 : decode prog_10_method_6_code 31 = .ok (.aload_n 0, 1) := by decide +kernel
theorem d_M_layFirst_32 : decode prog_10_method_6_code 32 = .ok (.getfield 19, 3) := by decide +kernel
theorem d_M_layFirst_35 : decode prog_10_method_6_code 35 = .ok (.iload_n 1, 1) := by decide +kernel
theorem d_M_layFirst_36 : decode prog_10_method_6_code 36 = .ok (.iaload, 1) := by decide +kernel
theorem d_M_layFirst_37 : decode prog_10_method_6_code 37 = .ok (.goto 4, 3) := by decide +kernel
theorem d_M_layFirst_79 : decode prog_10_method_6_code 79 = .ok (.iload_n 1, 1) := by decide +kernel
theorem d_M_layFirst_80 : decode prog_10_method_6_code 80 = .ok (.iconst 3, 1) := by decide +kernel
theorem d_M_layFirst_81 : decode prog_10_method_6_code 81 = .ok (.if_icmp .ge 33, 3) := by decide +kernel
theorem d_M_layFirst_114 : decode prog_10_method_6_code 114 = .ok (.iconst 0, 1) := by decide +kernel
theorem d_M_layFirst_115 : decode prog_10_method_6_code 115 = .ok (.istore_n 1, 1) := by decide +kernel
theorem d_M_layFirst_84 : decode prog_10_method_6_code 84 = .ok (.aload_n 0, 1) := by decide +kernel
theorem d_M_layFirst_85 : decode prog_10_method_6_code 85 = .ok (.getfield 89, 3) := by decide +kernel
theorem d_M_layFirst_88 : decode prog_10_method_6_code 88 = .ok (.iload_n 1, 1) := by decide +kernel
theorem d_M_layFirst_89 : decode prog_10_method_6_code 89 = .ok (.iload_n 1, 1) := by decide +kernel
theorem d_M_layFirst_90 : decode prog_10_method_6_code 90 = .ok (.aload_n 0, 1) := by decide +kernel
theorem d_M_layFirst_91 : decode prog_10_method_6_code 91 = .ok (.getfield 150, 3) := by decide +kernel
theorem d_M_layFirst_94 : decode prog_10_method_6_code 94 = .ok (.if_icmp .ge 12, 3) := by decide +kernel
theorem d_M_layFirst_106 : decode prog_10_method_6_code 106 = .ok (.iconst 0, 1) := by decide +kernel
theorem d_M_layFirst_107 : decode prog_10_method_6_code 107 = .ok (.iastore, 1) := by decide +kernel
theorem d_M_layFirst_108 : decode prog_10_method_6_code 108 = .ok (.iinc 1 1, 3) := by decide +kernel
theorem d_M_layFirst_111 : decode prog_10_method_6_code 111 = .ok (.goto (-32), 3) := by decide +kernel
theorem d_M_layFirst_97 : decode prog_10_method_6_code 97 = .ok (.aload_n 0, 1) := by decide +kernel
theorem d_M_layFirst_98 : decode prog_10_method_6_code 98 = .ok (.getfield 25, 3) := by decide +kernel
theorem d_M_layFirst_101 : decode prog_10_method_6_code 101 = .ok (.iload_n 1, 1) := by decide +kernel
theorem d_M_layFirst_102 : decode prog_10_method_6_code 102 = .ok (.iaload, 1) := by decide +kernel
theorem d_M_layFirst_103 : decode prog_10_method_6_code 103 = .ok (.goto 4, 3) := by decide +kernel
theorem d_M_layFirst_41 : decode prog_10_method_6_code 41 = .ok (.iastore, 1) := by decide +kernel
theorem d_M_layFirst_42 : decode prog_10_method_6_code 42 = .ok (.aload_n 0, 1) := by decide +kernel
theorem d_M_layFirst_43 : decode prog_10_method_6_code 43 = .ok (.getfield 86, 3) := by decide +kernel
theorem d_M_layFirst_46 : decode prog_10_method_6_code 46 = .ok (.iload_n 1, 1) := by decide +kernel
theorem d_M_layFirst_47 : decode prog_10_method_6_code 47 = .ok (.iload_n 1, 1) := by decide +kernel
theorem d_M_layFirst_48 : decode prog_10_method_6_code 48 = .ok (.aload_n 0, 1) := by decide +kernel
theorem d_M_layFirst_49 : decode prog_10_method_6_code 49 = .ok (.getfield 147, 3) := by decide +kernel
theorem d_M_layFirst_52 : decode prog_10_method_6_code 52 = .ok (.if_icmp .ge 17, 3) := by decide +kernel
theorem d_M_layFirst_69 : decode prog_10_method_6_code 69 = .ok (.iconst 0, 1) := by decide +kernel
theorem d_M_layFirst_70 : decode prog_10_method_6_code 70 = .ok (.bastore, 1) := by decide +kernel
theorem d_M_layFirst_71 : decode prog_10_method_6_code 71 = .ok (.iinc 1 1, 3) := by decide +kernel
theorem d_M_layFirst_74 : decode prog_10_method_6_code 74 = .ok (.goto (-62), 3) := by decide +kernel
theorem d_M_layFirst_55 : decode prog_10_method_6_code 55 = .ok (.aload_n 0, 1) := by decide +kernel
theorem d_M_layFirst_56 : decode prog_10_method_6_code 56 = .ok (.getfield 16, 3) := by decide +kernel
theorem d_M_layFirst_59 : decode prog_10_method_6_code 59 = .ok (.iload_n 1, 1) := by decide +kernel
theorem d_M_layFirst_60 : decode prog_10_method_6_code 60 = .ok (.iaload, 1) := by decide +kernel
theorem d_M_layFirst_61 : decode prog_10_method_6_code 61 = .ok (.iconst 4, 1) := by decide +kernel
theorem d_M_layFirst_62 : decode prog_10_method_6_code 62 = .ok (.if_icmp .lt 7, 3) := by decide +kernel
theorem d_M_layFirst_65 : decode prog_10_method_6_code 65 = .ok (.iconst 1, 1) := by decide +kernel
theorem d_M_layFirst_66 : decode prog_10_method_6_code 66 = .ok (.goto 4, 3) := by decide +kernel
theorem d_M_layFirst_116 : decode prog_10_method_6_code 116 = .ok (.iload_n 1, 1) := by decide +kernel
theorem d_M_layFirst_117 : decode prog_10_method_6_code 117 = .ok (.iconst 2, 1) := by decide +kernel
theorem d_M_layFirst_118 : decode prog_10_method_6_code 118 = .ok (.if_icmp .ge 40, 3) := by decide +kernel
theorem d_M_layFirst_158 : decode prog_10_method_6_code 158 = .ok (.return_, 1) := by decide +kernel
theorem d_M_layFirst_121 : decode prog_10_method_6_code 121 = .ok (.aload_n 0, 1) := by decide +kernel
theorem d_M_layFirst_122 : decode prog_10_method_6_code 122 = .ok (.getfield 92, 3) := by decide +kernel
theorem d_M_layFirst_125 : decode prog_10_method_6_code 125 = .ok (.iload_n 1, 1) := by decide +kernel
theorem d_M_layFirst_126 : decode prog_10_method_6_code 126 = .ok (.iconst 0, 1) := by decide +kernel
theorem d_M_layFirst_127 : decode prog_10_method_6_code 127 = .ok (.iastore, 1) := by decide +kernel
theorem d_M_layFirst_128 : decode prog_10_method_6_code 128 = .ok (.aload_n 0, 1) := by decide +kernel
theorem d_M_layFirst_129 : decode prog_10_method_6_code 129 = .ok (.getfield 95, 3) := by decide +kernel
theorem d_M_layFirst_132 : decode prog_10_method_6_code 132 = .ok (.iload_n 1, 1) := by decide +kernel
theorem d_M_layFirst_133 : decode prog_10_method_6_code 133 = .ok (.iload_n 1, 1) := by decide +kernel
theorem d_M_layFirst_134 : decode prog_10_method_6_code 134 = .ok (.aload_n 0, 1) := by decide +kernel
theorem d_M_layFirst_135 : decode prog_10_method_6_code 135 = .ok (.getfield 153, 3) := by decide +kernel
theorem d_M_layFirst_138 : decode prog_10_method_6_code 138 = .ok (.if_icmp .ge 12, 3) := by decide +kernel
theorem d_M_layFirst_150 : decode prog_10_method_6_code 150 = .ok (.iconst 0, 1) := by decide +kernel
theorem d_M_layFirst_151 : decode prog_10_method_6_code 151 = .ok (.iastore, 1) := by decide +kernel
theorem d_M_layFirst_152 : decode prog_10_method_6_code 152 = .ok (.iinc 1 1, 3) := by decide +kernel
theorem d_M_layFirst_155 : decode prog_10_method_6_code 155 = .ok (.goto (-39), 3) := by decide +kernel
theorem d_M_layFirst_141 : decode prog_10_method_6_code 141 = .ok (.aload_n 0, 1) := by decide +kernel
theorem d_M_layFirst_142 : decode prog_10_method_6_code 142 = .ok (.getfield 80, 3) := by decide +kernel
theorem d_M_layFirst_145 : decode prog_10_method_6_code 145 = .ok (.iload_n 1, 1) := by decide +kernel
theorem d_M_layFirst_146 : decode prog_10_method_6_code 146 = .ok (.iaload, 1) := by decide +kernel
theorem d_M_layFirst_147 : decode prog_10_method_6_code 147 = .ok (.goto 4, 3) := by decide +kernel
theorem d_M_restart_0 : decode prog_10_method_7_code 0 = .ok (.aload_n 0, 1) := by decide +kernel
theorem d_M_restart_1 : decode prog_10_method_7_code 1 = .ok (.invokevirtual 156, 3) := by decide +kernel
theorem d_M_restart_4 : decode prog_10_method_7_code 4 = .ok (.aload_n 0, 1) := by decide +kernel
theorem d_M_restart_5 : decode prog_10_method_7_code 5 = .ok (.aload_n 0, 1) := by decide +kernel
theorem d_M_restart_6 : decode prog_10_method_7_code 6 = .ok (.invokevirtual 159, 3) := by decide +kernel
theorem d_M_restart_9 : decode prog_10_method_7_code 9 = .ok (.putfield 163, 3) := by decide +kernel
theorem d_M_restart_12 : decode prog_10_method_7_code 12 = .ok (.aload_n 0, 1) := by decide +kernel
theorem d_M_restart_13 : decode prog_10_method_7_code 13 = .ok (.aload_n 0, 1) := by decide +kernel
theorem d_M_restart_14 : decode prog_10_method_7_code 14 = .ok (.invokevirtual 166, 3) := by decide +kernel
theorem d_M_restart_17 : decode prog_10_method_7_code 17 = .ok (.putfield 169, 3) := by decide +kernel
theorem d_M_restart_20 : decode prog_10_method_7_code 20 = .ok (.aload_n 0, 1) := by decide +kernel
theorem d_M_restart_21 : decode prog_10_method_7_code 21 = .ok (.iconst 0, 1) := by decide +kernel
theorem d_M_restart_22 : decode prog_10_method_7_code 22 = .ok (.putfield 172, 3) := by decide +kernel
theorem d_M_restart_25 : decode prog_10_method_7_code 25 = .ok (.aload_n 0, 1) := by decide +kernel
theorem d_M_restart_26 : decode prog_10_method_7_code 26 = .ok (.iconst 0, 1) := by decide +kernel
theorem d_M_restart_27 : decode prog_10_method_7_code 27 = .ok (.putfield 175, 3) := by decide +kernel
theorem d_M_restart_30 : decode prog_10_method_7_code 30 = .ok (.return_, 1) := by decide +kernel
theorem d_M_insert_0 : decode prog_10_method_42_code 0 = .ok (.aload_n 0, 1) := by decide +kernel
theorem d_M_insert_1 : decode prog_10_method_42_code 1 = .ok (.getfield 110, 3) := by decide +kernel
theorem d_M_insert_4 : decode prog_10_method_42_code 4 = .ok (.aload_n 0, 1) := by decide +kernel
theorem d_M_insert_5 : decode prog_10_method_42_code 5 = .ok (.getfield 181, 3) := by decide +kernel
theorem d_M_insert_8 : decode prog_10_method_42_code 8 = .ok (.iload_n 1, 1) := by decide +kernel
theorem d_M_insert_9 : decode prog_10_method_42_code 9 = .ok (.iastore, 1) := by decide +kernel
theorem d_M_insert_10 : decode prog_10_method_42_code 10 = .ok (.aload_n 0, 1) := by decide +kernel
theorem d_M_insert_11 : decode prog_10_method_42_code 11 = .ok (.getfield 113, 3) := by decide +kernel
theorem d_M_insert_14 : decode prog_10_method_42_code 14 = .ok (.aload_n 0, 1) := by decide +kernel
theorem d_M_insert_15 : decode prog_10_method_42_code 15 = .ok (.getfield 181, 3) := by decide +kernel
theorem d_M_insert_18 : decode prog_10_method_42_code 18 = .ok (.iload_n 2, 1) := by decide +kernel
theorem d_M_insert_19 : decode prog_10_method_42_code 19 = .ok (.iastore, 1) := by decide +kernel
theorem d_M_insert_20 : decode prog_10_method_42_code 20 = .ok (.aload_n 0, 1) := by decide +kernel
theorem d_M_insert_21 : decode prog_10_method_42_code 21 = .ok (.getfield 116, 3) := by decide +kernel
theorem d_M_insert_24 : decode prog_10_method_42_code 24 = .ok (.aload_n 0, 1) := by decide +kernel
theorem d_M_insert_25 : decode prog_10_method_42_code 25 = .ok (.getfield 181, 3) := by decide +kernel
theorem d_M_insert_28 : decode prog_10_method_42_code 28 = .ok (.iload_n 3, 1) := by decide +kernel
theorem d_M_insert_29 : decode prog_10_method_42_code 29 = .ok (.iastore, 1) := by decide +kernel
theorem d_M_insert_30 : decode prog_10_method_42_code 30 = .ok (.aload_n 0, 1) := by decide +kernel
theorem d_M_insert_31 : decode prog_10_method_42_code 31 = .ok (.getfield 119, 3) := by decide +kernel
theorem d_M_insert_34 : decode prog_10_method_42_code 34 = .ok (.aload_n 0, 1) := by decide +kernel
theorem d_M_insert_35 : decode prog_10_method_42_code 35 = .ok (.getfield 181, 3) := by decide +kernel
theorem d_M_insert_38 : decode prog_10_method_42_code 38 = .ok (.iload 4, 2) := by decide +kernel
theorem d_M_insert_40 : decode prog_10_method_42_code 40 = .ok (.iastore, 1) := by decide +kernel
theorem d_M_insert_41 : decode prog_10_method_42_code 41 = .ok (.aload_n 0, 1) := by decide +kernel
theorem d_M_insert_42 : decode prog_10_method_42_code 42 = .ok (.getfield 122, 3) := by decide +kernel
theorem d_M_insert_45 : decode prog_10_method_42_code 45 = .ok (.aload_n 0, 1) := by decide +kernel
theorem d_M_insert_46 : decode prog_10_method_42_code 46 = .ok (.getfield 181, 3) := by decide +kernel
theorem d_M_insert_49 : decode prog_10_method_42_code 49 = .ok (.iload 5, 2) := by decide +kernel
theorem d_M_insert_51 : decode prog_10_method_42_code 51 = .ok (.iastore, 1) := by decide +kernel
theorem d_M_insert_52 : decode prog_10_method_42_code 52 = .ok (.aload_n 0, 1) := by decide +kernel
theorem d_M_insert_53 : decode prog_10_method_42_code 53 = .ok (.getfield 125, 3) := by decide +kernel
theorem d_M_insert_56 : decode prog_10_method_42_code 56 = .ok (.aload_n 0, 1) := by decide +kernel
theorem d_M_insert_57 : decode prog_10_method_42_code 57 = .ok (.getfield 181, 3) := by decide +kernel
theorem d_M_insert_60 : decode prog_10_method_42_code 60 = .ok (.iload 6, 2) := by decide +kernel
theorem d_M_insert_62 : decode prog_10_method_42_code 62 = .ok (.iastore, 1) := by decide +kernel
theorem d_M_insert_63 : decode prog_10_method_42_code 63 = .ok (.iconst 0, 1) := by decide +kernel
theorem d_M_insert_64 : decode prog_10_method_42_code 64 = .ok (.istore 7, 2) := by decide +kernel
theorem d_M_insert_66 : decode prog_10_method_42_code 66 = .ok (.iload 7, 2) := by decide +kernel
theorem d_M_insert_68 : decode prog_10_method_42_code 68 = .ok (.iconst 5, 1) := by decide +kernel
theorem d_M_insert_69 : decode prog_10_method_42_code 69 = .ok (.if_icmp .ge 24, 3) := by decide +kernel
theorem d_M_insert_93 : decode prog_10_method_42_code 93 = .ok (.aload_n 0, 1) := by decide +kernel
theorem d_M_insert_94 : decode prog_10_method_42_code 94 = .ok (.dup, 1) := by decide +kernel
theorem d_M_insert_95 : decode prog_10_method_42_code 95 = .ok (.getfield 181, 3) := by decide +kernel
theorem d_M_insert_98 : decode prog_10_method_42_code 98 = .ok (.iconst 1, 1) := by decide +kernel
theorem d_M_insert_99 : decode prog_10_method_42_code 99 = .ok (.iadd, 1) := by decide +kernel
theorem d_M_insert_100 : decode prog_10_method_42_code 100 = .ok (.putfield 181, 3) := by decide +kernel
theorem d_M_insert_103 : decode prog_10_method_42_code 103 = .ok (.return_, 1) := by decide +kernel
theorem d_M_insert_72 : decode prog_10_method_42_code 72 = .ok (.aload_n 0, 1) := by decide +kernel
theorem d_M_insert_73 : decode prog_10_method_42_code 73 = .ok (.getfield 128, 3) := by decide +kernel
theorem d_M_insert_76 : decode prog_10_method_42_code 76 = .ok (.iconst 5, 1) := by decide +kernel
theorem d_M_insert_77 : decode prog_10_method_42_code 77 = .ok (.aload_n 0, 1) := by decide +kernel
theorem d_M_insert_78 : decode prog_10_method_42_code 78 = .ok (.getfield 181, 3) := by decide +kernel
theorem d_M_insert_81 : decode prog_10_method_42_code 81 = .ok (.imul, 1) := by decide +kernel
theorem d_M_insert_82 : decode prog_10_method_42_code 82 = .ok (.iload 7, 2) := by decide +kernel
theorem d_M_insert_84 : decode prog_10_method_42_code 84 = .ok (.iadd, 1) := by decide +kernel
theorem d_M_insert_85 : decode prog_10_method_42_code 85 = .ok (.iconst 0, 1) := by decide +kernel
theorem d_M_insert_86 : decode prog_10_method_42_code 86 = .ok (.iastore, 1) := by decide +kernel
theorem d_M_insert_87 : decode prog_10_method_42_code 87 = .ok (.iinc 7 1, 3) := by decide +kernel
theorem d_M_insert_90 : decode prog_10_method_42_code 90 = .ok (.goto (-24), 3) := by decide +kernel
theorem d_M_renew_0 : decode prog_10_method_8_code 0 = .ok (.aload_n 0, 1) := by decide +kernel
theorem d_M_renew_1 : decode prog_10_method_8_code 1 = .ok (.invokevirtual 178, 3) := by decide +kernel
theorem d_M_renew_4 : decode prog_10_method_8_code 4 = .ok (.aload_n 0, 1) := by decide +kernel
theorem d_M_renew_5 : decode prog_10_method_8_code 5 = .ok (.iconst 0, 1) := by decide +kernel
theorem d_M_renew_6 : decode prog_10_method_8_code 6 = .ok (.putfield 181, 3) := by decide +kernel
theorem d_M_renew_9 : decode prog_10_method_8_code 9 = .ok (.aload_n 0, 1) := by decide +kernel
theorem d_M_renew_10 : decode prog_10_method_8_code 10 = .ok (.iconst 0, 1) := by decide +kernel
theorem d_M_renew_11 : decode prog_10_method_8_code 11 = .ok (.putfield 184, 3) := by decide +kernel
theorem d_M_renew_14 : decode prog_10_method_8_code 14 = .ok (.aload_n 0, 1) := by decide +kernel
theorem d_M_renew_15 : decode prog_10_method_8_code 15 = .ok (.iconst 0, 1) := by decide +kernel
theorem d_M_renew_16 : decode prog_10_method_8_code 16 = .ok (.putfield 187, 3) := by decide +kernel
theorem d_M_renew_19 : decode prog_10_method_8_code 19 = .ok (.aload_n 0, 1) := by decide +kernel
theorem d_M_renew_20 : decode prog_10_method_8_code 20 = .ok (.iconst 0, 1) := by decide +kernel
theorem d_M_renew_21 : decode prog_10_method_8_code 21 = .ok (.putfield 191, 3) := by decide +kernel
theorem d_M_renew_24 : decode prog_10_method_8_code 24 = .ok (.aload_n 0, 1) := by decide +kernel
theorem d_M_renew_25 : decode prog_10_method_8_code 25 = .ok (.aload_n 0, 1) := by decide +kernel
theorem d_M_renew_26 : decode prog_10_method_8_code 26 = .ok (.getfield 163, 3) := by decide +kernel
theorem d_M_renew_29 : decode prog_10_method_8_code 29 = .ok (.aload_n 0, 1) := by decide +kernel
theorem d_M_renew_30 : decode prog_10_method_8_code 30 = .ok (.getfield 169, 3) := by decide +kernel
theorem d_M_renew_33 : decode prog_10_method_8_code 33 = .ok (.iconst (-1), 1) := by decide +kernel
theorem d_M_renew_34 : decode prog_10_method_8_code 34 = .ok (.iconst 0, 1) := by decide +kernel
theorem d_M_renew_35 : decode prog_10_method_8_code 35 = .ok (.iconst 0, 1) := by decide +kernel
theorem d_M_renew_36 : decode prog_10_method_8_code 36 = .ok (.iconst 0, 1) := by decide +kernel
theorem d_M_renew_37 : decode prog_10_method_8_code 37 = .ok (.invokevirtual 194, 3) := by decide +kernel
theorem d_M_renew_40 : decode prog_10_method_8_code 40 = .ok (.return_, 1) := by decide +kernel
theorem d_M_noRoom_0 : decode prog_10_method_9_code 0 = .ok (.iload_n 1, 1) := by decide +kernel
theorem d_M_noRoom_1 : decode prog_10_method_9_code 1 = .ok (.ifCond .lt 11, 3) := by decide +kernel
theorem d_M_noRoom_12 : decode prog_10_method_9_code 12 = .ok (.iconst 1, 1) := by decide +kernel
theorem d_M_noRoom_13 : decode prog_10_method_9_code 13 = .ok (.goto 4, 3) := by decide +kernel
theorem d_M_noRoom_17 : decode prog_10_method_9_code 17 = .ok (.ireturn, 1) := by decide +kernel
theorem d_M_noRoom_4 : decode prog_10_method_9_code 4 = .ok (.iload_n 1, 1) := by decide +kernel
theorem d_M_noRoom_5 : decode prog_10_method_9_code 5 = .ok (.aload_n 0, 1) := by decide +kernel
theorem d_M_noRoom_6 : decode prog_10_method_9_code 6 = .ok (.getfield 198, 3) := by decide +kernel
theorem d_M_noRoom_9 : decode prog_10_method_9_code 9 = .ok (.if_icmp .lt 7, 3) := by decide +kernel
theorem d_M_noRoom_16 : decode prog_10_method_9_code 16 = .ok (.iconst 0, 1) := by decide +kernel
theorem d_M_noThing_0 : decode prog_10_method_10_code 0 = .ok (.iload_n 1, 1) := by decide +kernel
theorem d_M_noThing_1 : decode prog_10_method_10_code 1 = .ok (.ifCond .lt 11, 3) := by decide +kernel
theorem d_M_noThing_12 : decode prog_10_method_10_code 12 = .ok (.iconst 1, 1) := by decide +kernel
theorem d_M_noThing_13 : decode prog_10_method_10_code 13 = .ok (.goto 4, 3) := by decide +kernel
theorem d_M_noThing_17 : decode prog_10_method_10_code 17 = .ok (.ireturn, 1) := by decide +kernel
theorem d_M_noThing_4 : decode prog_10_method_10_code 4 = .ok (.iload_n 1, 1) := by decide +kernel
theorem d_M_noThing_5 : decode prog_10_method_10_code 5 = .ok (.aload_n 0, 1) := by decide +kernel
theorem d_M_noThing_6 : decode prog_10_method_10_code 6 = .ok (.getfield 147, 3) := by decide +kernel
theorem d_M_noThing_9 : decode prog_10_method_10_code 9 = .ok (.if_icmp .lt 7, 3) := by decide +kernel
theorem d_M_noThing_16 : decode prog_10_method_10_code 16 = .ok (.iconst 0, 1) := by decide +kernel
theorem d_M_noPlace_0 : decode prog_10_method_11_code 0 = .ok (.iload_n 1, 1) := by decide +kernel
theorem d_M_noPlace_1 : decode prog_10_method_11_code 1 = .ok (.bipush 6, 2) := by decide +kernel
theorem d_M_noPlace_3 : decode prog_10_method_11_code 3 = .ok (.if_icmp .ge 11, 3) := by decide +kernel
theorem d_M_noPlace_14 : decode prog_10_method_11_code 14 = .ok (.iload_n 1, 1) := by decide +kernel
theorem d_M_noPlace_15 : decode prog_10_method_11_code 15 = .ok (.bipush 6, 2) := by decide +kernel
theorem d_M_noPlace_17 : decode prog_10_method_11_code 17 = .ok (.if_icmp .le 18, 3) := by decide +kernel
theorem d_M_noPlace_35 : decode prog_10_method_11_code 35 = .ok (.iconst 0, 1) := by decide +kernel
theorem d_M_noPlace_36 : decode prog_10_method_11_code 36 = .ok (.ireturn, 1) := by decide +kernel
theorem d_M_noPlace_20 : decode prog_10_method_11_code 20 = .ok (.aload_n 0, 1) := by decide +kernel
theorem d_M_noPlace_21 : decode prog_10_method_11_code 21 = .ok (.iload_n 1, 1) := by decide +kernel
theorem d_M_noPlace_22 : decode prog_10_method_11_code 22 = .ok (.bipush 7, 2) := by decide +kernel
theorem d_M_noPlace_24 : decode prog_10_method_11_code 24 = .ok (.isub, 1) := by decide +kernel
theorem d_M_noPlace_25 : decode prog_10_method_11_code 25 = .ok (.invokevirtual 205, 3) := by decide +kernel
theorem d_M_noPlace_28 : decode prog_10_method_11_code 28 = .ok (.ifCond .eq 7, 3) := by decide +kernel
theorem d_M_noPlace_31 : decode prog_10_method_11_code 31 = .ok (.iconst 1, 1) := by decide +kernel
theorem d_M_noPlace_32 : decode prog_10_method_11_code 32 = .ok (.goto 4, 3) := by decide +kernel
theorem d_M_noPlace_6 : decode prog_10_method_11_code 6 = .ok (.aload_n 0, 1) := by decide +kernel
theorem d_M_noPlace_7 : decode prog_10_method_11_code 7 = .ok (.iload_n 1, 1) := by decide +kernel
theorem d_M_noPlace_8 : decode prog_10_method_11_code 8 = .ok (.invokevirtual 201, 3) := by decide +kernel
theorem d_M_noPlace_11 : decode prog_10_method_11_code 11 = .ok (.goto 25, 3) := by decide +kernel
theorem d_M_noNumber_0 : decode prog_10_method_12_code 0 = .ok (.iload_n 1, 1) := by decide +kernel
theorem d_M_noNumber_1 : decode prog_10_method_12_code 1 = .ok (.ifCond .lt 11, 3) := by decide +kernel
theorem d_M_noNumber_12 : decode prog_10_method_12_code 12 = .ok (.iconst 1, 1) := by decide +kernel
theorem d_M_noNumber_13 : decode prog_10_method_12_code 13 = .ok (.goto 4, 3) := by decide +kernel
theorem d_M_noNumber_17 : decode prog_10_method_12_code 17 = .ok (.ireturn, 1) := by decide +kernel
theorem d_M_noNumber_4 : decode prog_10_method_12_code 4 = .ok (.iload_n 1, 1) := by decide +kernel
theorem d_M_noNumber_5 : decode prog_10_method_12_code 5 = .ok (.aload_n 0, 1) := by decide +kernel
theorem d_M_noNumber_6 : decode prog_10_method_12_code 6 = .ok (.getfield 150, 3) := by decide +kernel
theorem d_M_noNumber_9 : decode prog_10_method_12_code 9 = .ok (.if_icmp .lt 7, 3) := by decide +kernel
theorem d_M_noNumber_16 : decode prog_10_method_12_code 16 = .ok (.iconst 0, 1) := by decide +kernel
theorem d_M_noRule_0 : decode prog_10_method_13_code 0 = .ok (.iload_n 1, 1) := by decide +kernel
theorem d_M_noRule_1 : decode prog_10_method_13_code 1 = .ok (.ifCond .lt 11, 3) := by decide +kernel
theorem d_M_noRule_12 : decode prog_10_method_13_code 12 = .ok (.iconst 1, 1) := by decide +kernel
theorem d_M_noRule_13 : decode prog_10_method_13_code 13 = .ok (.goto 4, 3) := by decide +kernel
theorem d_M_noRule_17 : decode prog_10_method_13_code 17 = .ok (.ireturn, 1) := by decide +kernel
theorem d_M_noRule_4 : decode prog_10_method_13_code 4 = .ok (.iload_n 1, 1) := by decide +kernel
theorem d_M_noRule_5 : decode prog_10_method_13_code 5 = .ok (.aload_n 0, 1) := by decide +kernel
theorem d_M_noRule_6 : decode prog_10_method_13_code 6 = .ok (.getfield 208, 3) := by decide +kernel
theorem d_M_noRule_9 : decode prog_10_method_13_code 9 = .ok (.if_icmp .lt 7, 3) := by decide +kernel
theorem d_M_noRule_16 : decode prog_10_method_13_code 16 = .ok (.iconst 0, 1) := by decide +kernel
theorem d_M_clear_0 : decode prog_10_method_14_code 0 = .ok (.aload_n 0, 1) := by decide +kernel
theorem d_M_clear_1 : decode prog_10_method_14_code 1 = .ok (.iconst 0, 1) := by decide +kernel
theorem d_M_clear_2 : decode prog_10_method_14_code 2 = .ok (.putfield 137, 3) := by decide +kernel
theorem d_M_clear_5 : decode prog_10_method_14_code 5 = .ok (.aload_n 0, 1) := by decide +kernel
theorem d_M_clear_6 : decode prog_10_method_14_code 6 = .ok (.iconst 0, 1) := by decide +kernel
theorem d_M_clear_7 : decode prog_10_method_14_code 7 = .ok (.putfield 198, 3) := by decide +kernel
theorem d_M_clear_10 : decode prog_10_method_14_code 10 = .ok (.aload_n 0, 1) := by decide +kernel
theorem d_M_clear_11 : decode prog_10_method_14_code 11 = .ok (.iconst 0, 1) := by decide +kernel
theorem d_M_clear_12 : decode prog_10_method_14_code 12 = .ok (.putfield 147, 3) := by decide +kernel
theorem d_M_clear_15 : decode prog_10_method_14_code 15 = .ok (.aload_n 0, 1) := by decide +kernel
theorem d_M_clear_16 : decode prog_10_method_14_code 16 = .ok (.iconst 0, 1) := by decide +kernel
theorem d_M_clear_17 : decode prog_10_method_14_code 17 = .ok (.putfield 150, 3) := by decide +kernel
theorem d_M_clear_20 : decode prog_10_method_14_code 20 = .ok (.aload_n 0, 1) := by decide +kernel
theorem d_M_clear_21 : decode prog_10_method_14_code 21 = .ok (.iconst 0, 1) := by decide +kernel
theorem d_M_clear_22 : decode prog_10_method_14_code 22 = .ok (.putfield 211, 3) := by decide +kernel
theorem d_M_clear_25 : decode prog_10_method_14_code 25 = .ok (.aload_n 0, 1) := by decide +kernel
theorem d_M_clear_26 : decode prog_10_method_14_code 26 = .ok (.iconst 0, 1) := by decide +kernel
theorem d_M_clear_27 : decode prog_10_method_14_code 27 = .ok (.putfield 208, 3) := by decide +kernel
theorem d_M_clear_30 : decode prog_10_method_14_code 30 = .ok (.aload_n 0, 1) := by decide +kernel
theorem d_M_clear_31 : decode prog_10_method_14_code 31 = .ok (.iconst 0, 1) := by decide +kernel
theorem d_M_clear_32 : decode prog_10_method_14_code 32 = .ok (.putfield 214, 3) := by decide +kernel
theorem d_M_clear_35 : decode prog_10_method_14_code 35 = .ok (.aload_n 0, 1) := by decide +kernel
theorem d_M_clear_36 : decode prog_10_method_14_code 36 = .ok (.iconst 0, 1) := by decide +kernel
theorem d_M_clear_37 : decode prog_10_method_14_code 37 = .ok (.putfield 153, 3) := by decide +kernel
theorem d_M_clear_40 : decode prog_10_method_14_code 40 = .ok (.iconst 0, 1) := by decide +kernel
theorem d_M_clear_41 : decode prog_10_method_14_code 41 = .ok (.istore_n 1, 1) := by decide +kernel
theorem d_M_clear_42 : decode prog_10_method_14_code 42 = .ok (.iload_n 1, 1) := by decide +kernel
theorem d_M_clear_43 : decode prog_10_method_14_code 43 = .ok (.bipush 24, 2) := by decide +kernel
theorem d_M_clear_45 : decode prog_10_method_14_code 45 = .ok (.if_icmp .ge 16, 3) := by decide +kernel
theorem d_M_clear_61 : decode prog_10_method_14_code 61 = .ok (.aload_n 0, 1) := by decide +kernel
theorem d_M_clear_62 : decode prog_10_method_14_code 62 = .ok (.invokevirtual 134, 3) := by decide +kernel
theorem d_M_clear_65 : decode prog_10_method_14_code 65 = .ok (.return_, 1) := by decide +kernel
theorem d_M_clear_48 : decode prog_10_method_14_code 48 = .ok (.aload_n 0, 1) := by decide +kernel
theorem d_M_clear_49 : decode prog_10_method_14_code 49 = .ok (.getfield 7, 3) := by decide +kernel
theorem d_M_clear_52 : decode prog_10_method_14_code 52 = .ok (.iload_n 1, 1) := by decide +kernel
theorem d_M_clear_53 : decode prog_10_method_14_code 53 = .ok (.iconst 0, 1) := by decide +kernel
theorem d_M_clear_54 : decode prog_10_method_14_code 54 = .ok (.iastore, 1) := by decide +kernel
theorem d_M_clear_55 : decode prog_10_method_14_code 55 = .ok (.iinc 1 1, 3) := by decide +kernel
theorem d_M_clear_58 : decode prog_10_method_14_code 58 = .ok (.goto (-16), 3) := by decide +kernel
theorem d_M_room_0 : decode prog_10_method_15_code 0 = .ok (.aload_n 0, 1) := by decide +kernel
theorem d_M_room_1 : decode prog_10_method_15_code 1 = .ok (.aload_n 0, 1) := by decide +kernel
theorem d_M_room_2 : decode prog_10_method_15_code 2 = .ok (.getfield 198, 3) := by decide +kernel
theorem d_M_room_5 : decode prog_10_method_15_code 5 = .ok (.bipush 6, 2) := by decide +kernel
theorem d_M_room_7 : decode prog_10_method_15_code 7 = .ok (.if_icmp .ne 7, 3) := by decide +kernel
theorem d_M_room_14 : decode prog_10_method_15_code 14 = .ok (.iconst 0, 1) := by decide +kernel
theorem d_M_room_10 : decode prog_10_method_15_code 10 = .ok (.iconst 1, 1) := by decide +kernel
theorem d_M_room_11 : decode prog_10_method_15_code 11 = .ok (.goto 4, 3) := by decide +kernel
theorem d_M_room_15 : decode prog_10_method_15_code 15 = .ok (.putfield 137, 3) := by decide +kernel
theorem d_M_room_18 : decode prog_10_method_15_code 18 = .ok (.aload_n 0, 1) := by decide +kernel
theorem d_M_room_19 : decode prog_10_method_15_code 19 = .ok (.getfield 137, 3) := by decide +kernel
theorem d_M_room_22 : decode prog_10_method_15_code 22 = .ok (.ifCond .le 5, 3) := by decide +kernel
theorem d_M_room_27 : decode prog_10_method_15_code 27 = .ok (.aload_n 0, 1) := by decide +kernel
theorem d_M_room_28 : decode prog_10_method_15_code 28 = .ok (.dup, 1) := by decide +kernel
theorem d_M_room_29 : decode prog_10_method_15_code 29 = .ok (.getfield 198, 3) := by decide +kernel
theorem d_M_room_32 : decode prog_10_method_15_code 32 = .ok (.iconst 1, 1) := by decide +kernel
theorem d_M_room_33 : decode prog_10_method_15_code 33 = .ok (.iadd, 1) := by decide +kernel
theorem d_M_room_34 : decode prog_10_method_15_code 34 = .ok (.putfield 198, 3) := by decide +kernel
theorem d_M_room_37 : decode prog_10_method_15_code 37 = .ok (.aload_n 0, 1) := by decide +kernel
theorem d_M_room_38 : decode prog_10_method_15_code 38 = .ok (.invokevirtual 134, 3) := by decide +kernel
theorem d_M_room_41 : decode prog_10_method_15_code 41 = .ok (.aload_n 0, 1) := by decide +kernel
theorem d_M_room_42 : decode prog_10_method_15_code 42 = .ok (.getfield 198, 3) := by decide +kernel
theorem d_M_room_45 : decode prog_10_method_15_code 45 = .ok (.iconst 1, 1) := by decide +kernel
theorem d_M_room_46 : decode prog_10_method_15_code 46 = .ok (.isub, 1) := by decide +kernel
theorem d_M_room_47 : decode prog_10_method_15_code 47 = .ok (.ireturn, 1) := by decide +kernel
theorem d_M_room_25 : decode prog_10_method_15_code 25 = .ok (.iconst 0, 1) := by decide +kernel
theorem d_M_room_26 : decode prog_10_method_15_code 26 = .ok (.ireturn, 1) := by decide +kernel
theorem d_M_exit_0 : decode prog_10_method_16_code 0 = .ok (.aload_n 0, 1) := by decide +kernel
theorem d_M_exit_1 : decode prog_10_method_16_code 1 = .ok (.aload_n 0, 1) := by decide +kernel
theorem d_M_exit_2 : decode prog_10_method_16_code 2 = .ok (.iload_n 1, 1) := by decide +kernel
theorem d_M_exit_3 : decode prog_10_method_16_code 3 = .ok (.invokevirtual 201, 3) := by decide +kernel
theorem d_M_exit_6 : decode prog_10_method_16_code 6 = .ok (.ifCond .ne 26, 3) := by decide +kernel
theorem d_M_exit_9 : decode prog_10_method_16_code 9 = .ok (.aload_n 0, 1) := by decide +kernel
theorem d_M_exit_10 : decode prog_10_method_16_code 10 = .ok (.iload_n 3, 1) := by decide +kernel
theorem d_M_exit_11 : decode prog_10_method_16_code 11 = .ok (.invokevirtual 201, 3) := by decide +kernel
theorem d_M_exit_14 : decode prog_10_method_16_code 14 = .ok (.ifCond .ne 18, 3) := by decide +kernel
theorem d_M_exit_17 : decode prog_10_method_16_code 17 = .ok (.iload 4, 2) := by decide +kernel
theorem d_M_exit_19 : decode prog_10_method_16_code 19 = .ok (.iconst (-1), 1) := by decide +kernel
theorem d_M_exit_20 : decode prog_10_method_16_code 20 = .ok (.if_icmp .eq 16, 3) := by decide +kernel
theorem d_M_exit_23 : decode prog_10_method_16_code 23 = .ok (.aload_n 0, 1) := by decide +kernel
theorem d_M_exit_24 : decode prog_10_method_16_code 24 = .ok (.iload 4, 2) := by decide +kernel
theorem d_M_exit_26 : decode prog_10_method_16_code 26 = .ok (.invokevirtual 205, 3) := by decide +kernel
theorem d_M_exit_29 : decode prog_10_method_16_code 29 = .ok (.ifCond .eq 7, 3) := by decide +kernel
theorem d_M_exit_32 : decode prog_10_method_16_code 32 = .ok (.iconst 1, 1) := by decide +kernel
theorem d_M_exit_33 : decode prog_10_method_16_code 33 = .ok (.goto 17, 3) := by decide +kernel
theorem d_M_exit_36 : decode prog_10_method_16_code 36 = .ok (.iload_n 2, 1) := by decide +kernel
theorem d_M_exit_37 : decode prog_10_method_16_code 37 = .ok (.ifCond .lt 8, 3) := by decide +kernel
theorem d_M_exit_40 : decode prog_10_method_16_code 40 = .ok (.iload_n 2, 1) := by decide +kernel
theorem d_M_exit_41 : decode prog_10_method_16_code 41 = .ok (.iconst 3, 1) := by decide +kernel
theorem d_M_exit_42 : decode prog_10_method_16_code 42 = .ok (.if_icmp .le 7, 3) := by decide +kernel
theorem d_M_exit_49 : decode prog_10_method_16_code 49 = .ok (.iconst 0, 1) := by decide +kernel
theorem d_M_exit_50 : decode prog_10_method_16_code 50 = .ok (.putfield 137, 3) := by decide +kernel
theorem d_M_exit_53 : decode prog_10_method_16_code 53 = .ok (.aload_n 0, 1) := by decide +kernel
theorem d_M_exit_54 : decode prog_10_method_16_code 54 = .ok (.getfield 137, 3) := by decide +kernel
theorem d_M_exit_57 : decode prog_10_method_16_code 57 = .ok (.ifCond .le 4, 3) := by decide +kernel
theorem d_M_exit_61 : decode prog_10_method_16_code 61 = .ok (.aload_n 0, 1) := by decide +kernel
theorem d_M_exit_62 : decode prog_10_method_16_code 62 = .ok (.getfield 7, 3) := by decide +kernel
theorem d_M_exit_65 : decode prog_10_method_16_code 65 = .ok (.iconst 4, 1) := by decide +kernel
theorem d_M_exit_66 : decode prog_10_method_16_code 66 = .ok (.iload_n 1, 1) := by decide +kernel
theorem d_M_exit_67 : decode prog_10_method_16_code 67 = .ok (.imul, 1) := by decide +kernel
theorem d_M_exit_68 : decode prog_10_method_16_code 68 = .ok (.iload_n 2, 1) := by decide +kernel
theorem d_M_exit_69 : decode prog_10_method_16_code 69 = .ok (.iadd, 1) := by decide +kernel
theorem d_M_exit_70 : decode prog_10_method_16_code 70 = .ok (.iload_n 3, 1) := by decide +kernel
theorem d_M_exit_71 : decode prog_10_method_16_code 71 = .ok (.iconst 1, 1) := by decide +kernel
theorem d_M_exit_72 : decode prog_10_method_16_code 72 = .ok (.iadd, 1) := by decide +kernel
theorem d_M_exit_73 : decode prog_10_method_16_code 73 = .ok (.iastore, 1) := by decide +kernel
theorem d_M_exit_74 : decode prog_10_method_16_code 74 = .ok (.aload_n 0, 1) := by decide +kernel
theorem d_M_exit_75 : decode prog_10_method_16_code 75 = .ok (.getfield 13, 3) := by decide +kernel
theorem d_M_exit_78 : decode prog_10_method_16_code 78 = .ok (.iconst 4, 1) := by decide +kernel
theorem d_M_exit_79 : decode prog_10_method_16_code 79 = .ok (.iload_n 1, 1) := by decide +kernel
theorem d_M_exit_80 : decode prog_10_method_16_code 80 = .ok (.imul, 1) := by decide +kernel
theorem d_M_exit_81 : decode prog_10_method_16_code 81 = .ok (.iload_n 2, 1) := by decide +kernel
theorem d_M_exit_82 : decode prog_10_method_16_code 82 = .ok (.iadd, 1) := by decide +kernel
theorem d_M_exit_83 : decode prog_10_method_16_code 83 = .ok (.iload 4, 2) := by decide +kernel
theorem d_M_exit_85 : decode prog_10_method_16_code 85 = .ok (.iconst 1, 1) := by decide +kernel
theorem d_M_exit_86 : decode prog_10_method_16_code 86 = .ok (.iadd, 1) := by decide +kernel
theorem d_M_exit_87 : decode prog_10_method_16_code 87 = .ok (.iastore, 1) := by decide +kernel
theorem d_M_exit_88 : decode prog_10_method_16_code 88 = .ok (.aload_n 0, 1) := by decide +kernel
theorem d_M_exit_89 : decode prog_10_method_16_code 89 = .ok (.invokevirtual 134, 3) := by decide +kernel
theorem d_M_exit_92 : decode prog_10_method_16_code 92 = .ok (.return_, 1) := by decide +kernel
theorem d_M_exit_60 : decode prog_10_method_16_code 60 = .ok (.return_, 1) := by decide +kernel
theorem d_M_exit_45 : decode prog_10_method_16_code 45 = .ok (.iconst 2, 1) := by decide +kernel
theorem d_M_exit_46 : decode prog_10_method_16_code 46 = .ok (.goto 4, 3) := by decide +kernel
theorem d_M_thing_0 : decode prog_10_method_17_code 0 = .ok (.aload_n 0, 1) := by decide +kernel
theorem d_M_thing_1 : decode prog_10_method_17_code 1 = .ok (.aload_n 0, 1) := by decide +kernel
theorem d_M_thing_2 : decode prog_10_method_17_code 2 = .ok (.iload_n 1, 1) := by decide +kernel
theorem d_M_thing_3 : decode prog_10_method_17_code 3 = .ok (.invokevirtual 217, 3) := by decide +kernel
theorem d_M_thing_6 : decode prog_10_method_17_code 6 = .ok (.ifCond .eq 7, 3) := by decide +kernel
theorem d_M_thing_13 : decode prog_10_method_17_code 13 = .ok (.iload_n 2, 1) := by decide +kernel
theorem d_M_thing_14 : decode prog_10_method_17_code 14 = .ok (.ifCond .lt 19, 3) := by decide +kernel
theorem d_M_thing_17 : decode prog_10_method_17_code 17 = .ok (.iload_n 2, 1) := by decide +kernel
theorem d_M_thing_18 : decode prog_10_method_17_code 18 = .ok (.bipush 7, 2) := by decide +kernel
theorem d_M_thing_20 : decode prog_10_method_17_code 20 = .ok (.if_icmp .gt 13, 3) := by decide +kernel
theorem d_M_thing_23 : decode prog_10_method_17_code 23 = .ok (.iload_n 2, 1) := by decide +kernel
theorem d_M_thing_24 : decode prog_10_method_17_code 24 = .ok (.iconst 4, 1) := by decide +kernel
theorem d_M_thing_25 : decode prog_10_method_17_code 25 = .ok (.if_icmp .eq 8, 3) := by decide +kernel
theorem d_M_thing_28 : decode prog_10_method_17_code 28 = .ok (.iload_n 2, 1) := by decide +kernel
theorem d_M_thing_29 : decode prog_10_method_17_code 29 = .ok (.iconst 5, 1) := by decide +kernel
theorem d_M_thing_30 : decode prog_10_method_17_code 30 = .ok (.if_icmp .ne 7, 3) := by decide +kernel
theorem d_M_thing_37 : decode prog_10_method_17_code 37 = .ok (.aload_n 0, 1) := by decide +kernel
theorem d_M_thing_38 : decode prog_10_method_17_code 38 = .ok (.getfield 147, 3) := by decide +kernel
theorem d_M_thing_41 : decode prog_10_method_17_code 41 = .ok (.bipush 6, 2) := by decide +kernel
theorem d_M_thing_43 : decode prog_10_method_17_code 43 = .ok (.if_icmp .ne 7, 3) := by decide +kernel
theorem d_M_thing_50 : decode prog_10_method_17_code 50 = .ok (.iconst 0, 1) := by decide +kernel
theorem d_M_thing_46 : decode prog_10_method_17_code 46 = .ok (.iconst 3, 1) := by decide +kernel
theorem d_M_thing_47 : decode prog_10_method_17_code 47 = .ok (.goto 4, 3) := by decide +kernel
theorem d_M_thing_9 : decode prog_10_method_17_code 9 = .ok (.iconst 1, 1) := by decide +kernel
theorem d_M_thing_10 : decode prog_10_method_17_code 10 = .ok (.goto 41, 3) := by decide +kernel
theorem d_M_thing_33 : decode prog_10_method_17_code 33 = .ok (.iconst 2, 1) := by decide +kernel
theorem d_M_thing_34 : decode prog_10_method_17_code 34 = .ok (.goto 17, 3) := by decide +kernel
theorem d_M_thing_51 : decode prog_10_method_17_code 51 = .ok (.putfield 137, 3) := by decide +kernel
theorem d_M_thing_54 : decode prog_10_method_17_code 54 = .ok (.aload_n 0, 1) := by decide +kernel
theorem d_M_thing_55 : decode prog_10_method_17_code 55 = .ok (.getfield 137, 3) := by decide +kernel
theorem d_M_thing_58 : decode prog_10_method_17_code 58 = .ok (.ifCond .le 5, 3) := by decide +kernel
theorem d_M_thing_63 : decode prog_10_method_17_code 63 = .ok (.aload_n 0, 1) := by decide +kernel
theorem d_M_thing_64 : decode prog_10_method_17_code 64 = .ok (.getfield 19, 3) := by decide +kernel
