theorem d_M_turn_80 : decode prog_10_method_34_code 80 = .ok (.iaload, 1) := by decide +kernel
theorem d_M_turn_81 : decode prog_10_method_34_code 81 = .ok (.istore 6, 2) := by decide +kernel
theorem d_M_turn_83 : decode prog_10_method_34_code 83 = .ok (.aload_n 0, 1) := by decide +kernel
theorem d_M_turn_84 : decode prog_10_method_34_code 84 = .ok (.getfield 83, 3) := by decide +kernel
theorem d_M_turn_87 : decode prog_10_method_34_code 87 = .ok (.iload 6, 2) := by decide +kernel
theorem d_M_turn_89 : decode prog_10_method_34_code 89 = .ok (.iaload, 1) := by decide +kernel
theorem d_M_turn_90 : decode prog_10_method_34_code 90 = .ok (.bipush 6, 2) := by decide +kernel
theorem d_M_turn_92 : decode prog_10_method_34_code 92 = .ok (.if_icmp .ge 58, 3) := by decide +kernel
theorem d_M_turn_150 : decode prog_10_method_34_code 150 = .ok (.iinc 5 1, 3) := by decide +kernel
theorem d_M_turn_153 : decode prog_10_method_34_code 153 = .ok (.goto (-95), 3) := by decide +kernel
theorem d_M_turn_95 : decode prog_10_method_34_code 95 = .ok (.aload_n 0, 1) := by decide +kernel
theorem d_M_turn_96 : decode prog_10_method_34_code 96 = .ok (.getfield 92, 3) := by decide +kernel
theorem d_M_turn_99 : decode prog_10_method_34_code 99 = .ok (.iload 5, 2) := by decide +kernel
theorem d_M_turn_101 : decode prog_10_method_34_code 101 = .ok (.aload_n 0, 1) := by decide +kernel
theorem d_M_turn_102 : decode prog_10_method_34_code 102 = .ok (.getfield 92, 3) := by decide +kernel
theorem d_M_turn_105 : decode prog_10_method_34_code 105 = .ok (.iload 5, 2) := by decide +kernel
theorem d_M_turn_107 : decode prog_10_method_34_code 107 = .ok (.iaload, 1) := by decide +kernel
theorem d_M_turn_108 : decode prog_10_method_34_code 108 = .ok (.iconst 2, 1) := by decide +kernel
theorem d_M_turn_109 : decode prog_10_method_34_code 109 = .ok (.if_icmp .ne 7, 3) := by decide +kernel
theorem d_M_turn_116 : decode prog_10_method_34_code 116 = .ok (.aload_n 0, 1) := by decide +kernel
theorem d_M_turn_117 : decode prog_10_method_34_code 117 = .ok (.getfield 92, 3) := by decide +kernel
theorem d_M_turn_120 : decode prog_10_method_34_code 120 = .ok (.iload 5, 2) := by decide +kernel
theorem d_M_turn_122 : decode prog_10_method_34_code 122 = .ok (.iaload, 1) := by decide +kernel
theorem d_M_turn_123 : decode prog_10_method_34_code 123 = .ok (.iconst 1, 1) := by decide +kernel
theorem d_M_turn_124 : decode prog_10_method_34_code 124 = .ok (.iadd, 1) := by decide +kernel
theorem d_M_turn_112 : decode prog_10_method_34_code 112 = .ok (.iconst 0, 1) := by decide +kernel
theorem d_M_turn_113 : decode prog_10_method_34_code 113 = .ok (.goto 12, 3) := by decide +kernel
theorem d_M_turn_156 : decode prog_10_method_34_code 156 = .ok (.iconst 0, 1) := by decide +kernel
theorem d_M_turn_157 : decode prog_10_method_34_code 157 = .ok (.istore 5, 2) := by decide +kernel
theorem d_M_turn_125 : decode prog_10_method_34_code 125 = .ok (.iastore, 1) := by decide +kernel
theorem d_M_turn_126 : decode prog_10_method_34_code 126 = .ok (.aload_n 0, 1) := by decide +kernel
theorem d_M_turn_127 : decode prog_10_method_34_code 127 = .ok (.getfield 83, 3) := by decide +kernel
theorem d_M_turn_130 : decode prog_10_method_34_code 130 = .ok (.iload 6, 2) := by decide +kernel
theorem d_M_turn_132 : decode prog_10_method_34_code 132 = .ok (.aload_n 0, 1) := by decide +kernel
theorem d_M_turn_133 : decode prog_10_method_34_code 133 = .ok (.getfield 74, 3) := by decide +kernel
theorem d_M_turn_136 : decode prog_10_method_34_code 136 = .ok (.iconst 3, 1) := by decide +kernel
theorem d_M_turn_137 : decode prog_10_method_34_code 137 = .ok (.iload 5, 2) := by decide +kernel
theorem d_M_turn_139 : decode prog_10_method_34_code 139 = .ok (.imul, 1) := by decide +kernel
theorem d_M_turn_140 : decode prog_10_method_34_code 140 = .ok (.aload_n 0, 1) := by decide +kernel
theorem d_M_turn_141 : decode prog_10_method_34_code 141 = .ok (.getfield 92, 3) := by decide +kernel
theorem d_M_turn_144 : decode prog_10_method_34_code 144 = .ok (.iload 5, 2) := by decide +kernel
theorem d_M_turn_146 : decode prog_10_method_34_code 146 = .ok (.iaload, 1) := by decide +kernel
theorem d_M_turn_147 : decode prog_10_method_34_code 147 = .ok (.iadd, 1) := by decide +kernel
theorem d_M_turn_148 : decode prog_10_method_34_code 148 = .ok (.iaload, 1) := by decide +kernel
theorem d_M_turn_149 : decode prog_10_method_34_code 149 = .ok (.iastore, 1) := by decide +kernel
theorem d_M_turn_159 : decode prog_10_method_34_code 159 = .ok (.iload 5, 2) := by decide +kernel
theorem d_M_turn_161 : decode prog_10_method_34_code 161 = .ok (.aload_n 0, 1) := by decide +kernel
theorem d_M_turn_162 : decode prog_10_method_34_code 162 = .ok (.getfield 153, 3) := by decide +kernel
theorem d_M_turn_165 : decode prog_10_method_34_code 165 = .ok (.if_icmp .ge 72, 3) := by decide +kernel
theorem d_M_turn_237 : decode prog_10_method_34_code 237 = .ok (.return_, 1) := by decide +kernel
theorem d_M_turn_168 : decode prog_10_method_34_code 168 = .ok (.aload_n 0, 1) := by decide +kernel
theorem d_M_turn_169 : decode prog_10_method_34_code 169 = .ok (.getfield 144, 3) := by decide +kernel
theorem d_M_turn_172 : decode prog_10_method_34_code 172 = .ok (.ifCond .ne 65, 3) := by decide +kernel
theorem d_M_turn_175 : decode prog_10_method_34_code 175 = .ok (.aload_n 0, 1) := by decide +kernel
theorem d_M_turn_176 : decode prog_10_method_34_code 176 = .ok (.getfield 95, 3) := by decide +kernel
theorem d_M_turn_179 : decode prog_10_method_34_code 179 = .ok (.iload 5, 2) := by decide +kernel
theorem d_M_turn_181 : decode prog_10_method_34_code 181 = .ok (.iaload, 1) := by decide +kernel
theorem d_M_turn_182 : decode prog_10_method_34_code 182 = .ok (.ifCond .le 49, 3) := by decide +kernel
theorem d_M_turn_231 : decode prog_10_method_34_code 231 = .ok (.iinc 5 1, 3) := by decide +kernel
theorem d_M_turn_234 : decode prog_10_method_34_code 234 = .ok (.goto (-75), 3) := by decide +kernel
theorem d_M_turn_185 : decode prog_10_method_34_code 185 = .ok (.aload_n 0, 1) := by decide +kernel
theorem d_M_turn_186 : decode prog_10_method_34_code 186 = .ok (.getfield 95, 3) := by decide +kernel
theorem d_M_turn_189 : decode prog_10_method_34_code 189 = .ok (.iload 5, 2) := by decide +kernel
theorem d_M_turn_191 : decode prog_10_method_34_code 191 = .ok (.dup2, 1) := by decide +kernel
theorem d_M_turn_192 : decode prog_10_method_34_code 192 = .ok (.iaload, 1) := by decide +kernel
theorem d_M_turn_193 : decode prog_10_method_34_code 193 = .ok (.iconst 1, 1) := by decide +kernel
theorem d_M_turn_194 : decode prog_10_method_34_code 194 = .ok (.isub, 1) := by decide +kernel
theorem d_M_turn_195 : decode prog_10_method_34_code 195 = .ok (.iastore, 1) := by decide +kernel
theorem d_M_turn_196 : decode prog_10_method_34_code 196 = .ok (.aload_n 0, 1) := by decide +kernel
theorem d_M_turn_197 : decode prog_10_method_34_code 197 = .ok (.getfield 95, 3) := by decide +kernel
theorem d_M_turn_200 : decode prog_10_method_34_code 200 = .ok (.iload 5, 2) := by decide +kernel
theorem d_M_turn_202 : decode prog_10_method_34_code 202 = .ok (.iaload, 1) := by decide +kernel
theorem d_M_turn_203 : decode prog_10_method_34_code 203 = .ok (.ifCond .ne 28, 3) := by decide +kernel
theorem d_M_turn_206 : decode prog_10_method_34_code 206 = .ok (.aload_n 0, 1) := by decide +kernel
theorem d_M_turn_207 : decode prog_10_method_34_code 207 = .ok (.aload_n 0, 1) := by decide +kernel
theorem d_M_turn_208 : decode prog_10_method_34_code 208 = .ok (.getfield 77, 3) := by decide +kernel
theorem d_M_turn_211 : decode prog_10_method_34_code 211 = .ok (.iload 5, 2) := by decide +kernel
theorem d_M_turn_213 : decode prog_10_method_34_code 213 = .ok (.iaload, 1) := by decide +kernel
theorem d_M_turn_214 : decode prog_10_method_34_code 214 = .ok (.invokevirtual 248, 3) := by decide +kernel
theorem d_M_turn_217 : decode prog_10_method_34_code 217 = .ok (.ifCond .eq 14, 3) := by decide +kernel
theorem d_M_turn_220 : decode prog_10_method_34_code 220 = .ok (.aload_n 0, 1) := by decide +kernel
theorem d_M_turn_221 : decode prog_10_method_34_code 221 = .ok (.aload_n 0, 1) := by decide +kernel
theorem d_M_turn_222 : decode prog_10_method_34_code 222 = .ok (.getfield 77, 3) := by decide +kernel
theorem d_M_turn_225 : decode prog_10_method_34_code 225 = .ok (.iload 5, 2) := by decide +kernel
theorem d_M_turn_227 : decode prog_10_method_34_code 227 = .ok (.iaload, 1) := by decide +kernel
theorem d_M_turn_228 : decode prog_10_method_34_code 228 = .ok (.invokevirtual 255, 3) := by decide +kernel
theorem d_M_isCommand_0 : decode prog_10_method_35_code 0 = .ok (.iload_n 2, 1) := by decide +kernel
theorem d_M_isCommand_1 : decode prog_10_method_35_code 1 = .ok (.iconst (-1), 1) := by decide +kernel
theorem d_M_isCommand_2 : decode prog_10_method_35_code 2 = .ok (.if_icmp .ne 7, 3) := by decide +kernel
theorem d_M_isCommand_9 : decode prog_10_method_35_code 9 = .ok (.iconst 0, 1) := by decide +kernel
theorem d_M_isCommand_5 : decode prog_10_method_35_code 5 = .ok (.iconst 1, 1) := by decide +kernel
theorem d_M_isCommand_6 : decode prog_10_method_35_code 6 = .ok (.goto 4, 3) := by decide +kernel
theorem d_M_isCommand_10 : decode prog_10_method_35_code 10 = .ok (.istore 4, 2) := by decide +kernel
theorem d_M_isCommand_12 : decode prog_10_method_35_code 12 = .ok (.iload_n 3, 1) := by decide +kernel
theorem d_M_isCommand_13 : decode prog_10_method_35_code 13 = .ok (.iconst (-1), 1) := by decide +kernel
theorem d_M_isCommand_14 : decode prog_10_method_35_code 14 = .ok (.if_icmp .ne 7, 3) := by decide +kernel
theorem d_M_isCommand_21 : decode prog_10_method_35_code 21 = .ok (.iconst 0, 1) := by decide +kernel
theorem d_M_isCommand_17 : decode prog_10_method_35_code 17 = .ok (.iconst 1, 1) := by decide +kernel
theorem d_M_isCommand_18 : decode prog_10_method_35_code 18 = .ok (.goto 4, 3) := by decide +kernel
theorem d_M_isCommand_22 : decode prog_10_method_35_code 22 = .ok (.istore 5, 2) := by decide +kernel
theorem d_M_isCommand_24 : decode prog_10_method_35_code 24 = .ok (.iload_n 1, 1) := by decide +kernel
theorem d_M_isCommand_25 : decode prog_10_method_35_code 25 = .ok (.tableswitch 160 0 8 #[51, 71, 71, 71, 71, 90, 112, 128, 128], 51) := by decide +kernel
theorem d_M_isCommand_76 : decode prog_10_method_35_code 76 = .ok (.iload_n 2, 1) := by decide +kernel
theorem d_M_isCommand_77 : decode prog_10_method_35_code 77 = .ok (.ifCond .lt 17, 3) := by decide +kernel
theorem d_M_isCommand_94 : decode prog_10_method_35_code 94 = .ok (.iconst 0, 1) := by decide +kernel
theorem d_M_isCommand_95 : decode prog_10_method_35_code 95 = .ok (.ireturn, 1) := by decide +kernel
theorem d_M_isCommand_80 : decode prog_10_method_35_code 80 = .ok (.iload_n 2, 1) := by decide +kernel
theorem d_M_isCommand_81 : decode prog_10_method_35_code 81 = .ok (.iconst 3, 1) := by decide +kernel
theorem d_M_isCommand_82 : decode prog_10_method_35_code 82 = .ok (.if_icmp .gt 12, 3) := by decide +kernel
theorem d_M_isCommand_85 : decode prog_10_method_35_code 85 = .ok (.iload 5, 2) := by decide +kernel
theorem d_M_isCommand_87 : decode prog_10_method_35_code 87 = .ok (.ifCond .eq 7, 3) := by decide +kernel
theorem d_M_isCommand_90 : decode prog_10_method_35_code 90 = .ok (.iconst 1, 1) := by decide +kernel
theorem d_M_isCommand_91 : decode prog_10_method_35_code 91 = .ok (.goto 4, 3) := by decide +kernel
theorem d_M_isCommand_96 : decode prog_10_method_35_code 96 = .ok (.aload_n 0, 1) := by decide +kernel
theorem d_M_isCommand_97 : decode prog_10_method_35_code 97 = .ok (.iload_n 2, 1) := by decide +kernel
theorem d_M_isCommand_98 : decode prog_10_method_35_code 98 = .ok (.invokevirtual 205, 3) := by decide +kernel
theorem d_M_isCommand_101 : decode prog_10_method_35_code 101 = .ok (.ifCond .ne 12, 3) := by decide +kernel
theorem d_M_isCommand_113 : decode prog_10_method_35_code 113 = .ok (.iconst 0, 1) := by decide +kernel
theorem d_M_isCommand_114 : decode prog_10_method_35_code 114 = .ok (.ireturn, 1) := by decide +kernel
theorem d_M_isCommand_104 : decode prog_10_method_35_code 104 = .ok (.iload 5, 2) := by decide +kernel
theorem d_M_isCommand_106 : decode prog_10_method_35_code 106 = .ok (.ifCond .eq 7, 3) := by decide +kernel
theorem d_M_isCommand_109 : decode prog_10_method_35_code 109 = .ok (.iconst 1, 1) := by decide +kernel
theorem d_M_isCommand_110 : decode prog_10_method_35_code 110 = .ok (.goto 4, 3) := by decide +kernel
theorem d_M_isCommand_115 : decode prog_10_method_35_code 115 = .ok (.aload_n 0, 1) := by decide +kernel
theorem d_M_isCommand_116 : decode prog_10_method_35_code 116 = .ok (.iload_n 2, 1) := by decide +kernel
theorem d_M_isCommand_117 : decode prog_10_method_35_code 117 = .ok (.invokevirtual 205, 3) := by decide +kernel
theorem d_M_isCommand_120 : decode prog_10_method_35_code 120 = .ok (.ifCond .ne 15, 3) := by decide +kernel
theorem d_M_isCommand_135 : decode prog_10_method_35_code 135 = .ok (.iconst 0, 1) := by decide +kernel
theorem d_M_isCommand_136 : decode prog_10_method_35_code 136 = .ok (.ireturn, 1) := by decide +kernel
theorem d_M_isCommand_123 : decode prog_10_method_35_code 123 = .ok (.aload_n 0, 1) := by decide +kernel
theorem d_M_isCommand_124 : decode prog_10_method_35_code 124 = .ok (.iload_n 3, 1) := by decide +kernel
theorem d_M_isCommand_125 : decode prog_10_method_35_code 125 = .ok (.invokevirtual 205, 3) := by decide +kernel
theorem d_M_isCommand_128 : decode prog_10_method_35_code 128 = .ok (.ifCond .ne 7, 3) := by decide +kernel
theorem d_M_isCommand_131 : decode prog_10_method_35_code 131 = .ok (.iconst 1, 1) := by decide +kernel
theorem d_M_isCommand_132 : decode prog_10_method_35_code 132 = .ok (.goto 4, 3) := by decide +kernel
theorem d_M_isCommand_137 : decode prog_10_method_35_code 137 = .ok (.iload 4, 2) := by decide +kernel
theorem d_M_isCommand_139 : decode prog_10_method_35_code 139 = .ok (.ifCond .eq 12, 3) := by decide +kernel
theorem d_M_isCommand_151 : decode prog_10_method_35_code 151 = .ok (.iconst 0, 1) := by decide +kernel
theorem d_M_isCommand_152 : decode prog_10_method_35_code 152 = .ok (.ireturn, 1) := by decide +kernel
theorem d_M_isCommand_142 : decode prog_10_method_35_code 142 = .ok (.iload 5, 2) := by decide +kernel
theorem d_M_isCommand_144 : decode prog_10_method_35_code 144 = .ok (.ifCond .eq 7, 3) := by decide +kernel
theorem d_M_isCommand_147 : decode prog_10_method_35_code 147 = .ok (.iconst 1, 1) := by decide +kernel
theorem d_M_isCommand_148 : decode prog_10_method_35_code 148 = .ok (.goto 4, 3) := by decide +kernel
theorem d_M_isCommand_153 : decode prog_10_method_35_code 153 = .ok (.iload 4, 2) := by decide +kernel
theorem d_M_isCommand_155 : decode prog_10_method_35_code 155 = .ok (.ifCond .ne 11, 3) := by decide +kernel
theorem d_M_isCommand_158 : decode prog_10_method_35_code 158 = .ok (.aload_n 0, 1) := by decide +kernel
theorem d_M_isCommand_159 : decode prog_10_method_35_code 159 = .ok (.iload_n 2, 1) := by decide +kernel
theorem d_M_isCommand_160 : decode prog_10_method_35_code 160 = .ok (.invokevirtual 205, 3) := by decide +kernel
theorem d_M_isCommand_163 : decode prog_10_method_35_code 163 = .ok (.ifCond .ne 20, 3) := by decide +kernel
theorem d_M_isCommand_183 : decode prog_10_method_35_code 183 = .ok (.iconst 0, 1) := by decide +kernel
theorem d_M_isCommand_184 : decode prog_10_method_35_code 184 = .ok (.ireturn, 1) := by decide +kernel
theorem d_M_isCommand_185 : decode prog_10_method_35_code 185 = .ok (.iconst 0, 1) := by decide +kernel
theorem d_M_isCommand_186 : decode prog_10_method_35_code 186 = .ok (.ireturn, 1) := by decide +kernel
theorem d_M_isCommand_166 : decode prog_10_method_35_code 166 = .ok (.iload 5, 2) := by decide +kernel
theorem d_M_isCommand_168 : decode prog_10_method_35_code 168 = .ok (.ifCond .ne 11, 3) := by decide +kernel
theorem d_M_isCommand_179 : decode prog_10_method_35_code 179 = .ok (.iconst 1, 1) := by decide +kernel
theorem d_M_isCommand_180 : decode prog_10_method_35_code 180 = .ok (.goto 4, 3) := by decide +kernel
theorem d_M_isCommand_171 : decode prog_10_method_35_code 171 = .ok (.aload_n 0, 1) := by decide +kernel
theorem d_M_isCommand_172 : decode prog_10_method_35_code 172 = .ok (.iload_n 3, 1) := by decide +kernel
theorem d_M_isCommand_173 : decode prog_10_method_35_code 173 = .ok (.invokevirtual 205, 3) := by decide +kernel
theorem d_M_isCommand_176 : decode prog_10_method_35_code 176 = .ok (.ifCond .ne 7, 3) := by decide +kernel
theorem d_M_begin_0 : decode prog_10_method_36_code 0 = .ok (.aload_n 0, 1) := by decide +kernel
theorem d_M_begin_1 : decode prog_10_method_36_code 1 = .ok (.aload_n 0, 1) := by decide +kernel
theorem d_M_begin_2 : decode prog_10_method_36_code 2 = .ok (.getfield 198, 3) := by decide +kernel
theorem d_M_begin_5 : decode prog_10_method_36_code 5 = .ok (.ifCond .ne 7, 3) := by decide +kernel
theorem d_M_begin_12 : decode prog_10_method_36_code 12 = .ok (.iconst 0, 1) := by decide +kernel
theorem d_M_begin_13 : decode prog_10_method_36_code 13 = .ok (.putfield 137, 3) := by decide +kernel
theorem d_M_begin_16 : decode prog_10_method_36_code 16 = .ok (.aload_n 0, 1) := by decide +kernel
theorem d_M_begin_17 : decode prog_10_method_36_code 17 = .ok (.getfield 137, 3) := by decide +kernel
theorem d_M_begin_20 : decode prog_10_method_36_code 20 = .ok (.ifCond .ne 7, 3) := by decide +kernel
theorem d_M_begin_23 : decode prog_10_method_36_code 23 = .ok (.aload_n 0, 1) := by decide +kernel
theorem d_M_begin_24 : decode prog_10_method_36_code 24 = .ok (.invokevirtual 178, 3) := by decide +kernel
theorem d_M_begin_27 : decode prog_10_method_36_code 27 = .ok (.return_, 1) := by decide +kernel
theorem d_M_begin_8 : decode prog_10_method_36_code 8 = .ok (.iconst 1, 1) := by decide +kernel
theorem d_M_begin_9 : decode prog_10_method_36_code 9 = .ok (.goto 4, 3) := by decide +kernel
theorem d_M_command_0 : decode prog_10_method_37_code 0 = .ok (.aload_n 0, 1) := by decide +kernel
theorem d_M_command_1 : decode prog_10_method_37_code 1 = .ok (.aload_n 0, 1) := by decide +kernel
theorem d_M_command_2 : decode prog_10_method_37_code 2 = .ok (.iload_n 1, 1) := by decide +kernel
theorem d_M_command_3 : decode prog_10_method_37_code 3 = .ok (.iload_n 2, 1) := by decide +kernel
theorem d_M_command_4 : decode prog_10_method_37_code 4 = .ok (.iload_n 3, 1) := by decide +kernel
theorem d_M_command_5 : decode prog_10_method_37_code 5 = .ok (.invokevirtual 261, 3) := by decide +kernel
theorem d_M_command_8 : decode prog_10_method_37_code 8 = .ok (.ifCond .ne 7, 3) := by decide +kernel
theorem d_M_command_15 : decode prog_10_method_37_code 15 = .ok (.aload_n 0, 1) := by decide +kernel
theorem d_M_command_16 : decode prog_10_method_37_code 16 = .ok (.getfield 198, 3) := by decide +kernel
theorem d_M_command_19 : decode prog_10_method_37_code 19 = .ok (.ifCond .eq 12, 3) := by decide +kernel
theorem d_M_command_22 : decode prog_10_method_37_code 22 = .ok (.aload_n 0, 1) := by decide +kernel
theorem d_M_command_23 : decode prog_10_method_37_code 23 = .ok (.getfield 172, 3) := by decide +kernel
theorem d_M_command_26 : decode prog_10_method_37_code 26 = .ok (.bipush 60, 2) := by decide +kernel
theorem d_M_command_28 : decode prog_10_method_37_code 28 = .ok (.if_icmp .ne 7, 3) := by decide +kernel
theorem d_M_command_35 : decode prog_10_method_37_code 35 = .ok (.iconst 0, 1) := by decide +kernel
theorem d_M_command_11 : decode prog_10_method_37_code 11 = .ok (.iconst 1, 1) := by decide +kernel
theorem d_M_command_12 : decode prog_10_method_37_code 12 = .ok (.goto 24, 3) := by decide +kernel
theorem d_M_command_31 : decode prog_10_method_37_code 31 = .ok (.iconst 2, 1) := by decide +kernel
theorem d_M_command_32 : decode prog_10_method_37_code 32 = .ok (.goto 4, 3) := by decide +kernel
theorem d_M_command_36 : decode prog_10_method_37_code 36 = .ok (.putfield 137, 3) := by decide +kernel
theorem d_M_command_39 : decode prog_10_method_37_code 39 = .ok (.aload_n 0, 1) := by decide +kernel
theorem d_M_command_40 : decode prog_10_method_37_code 40 = .ok (.getfield 137, 3) := by decide +kernel
theorem d_M_command_43 : decode prog_10_method_37_code 43 = .ok (.ifCond .le 5, 3) := by decide +kernel
theorem d_M_command_48 : decode prog_10_method_37_code 48 = .ok (.aload_n 0, 1) := by decide +kernel
theorem d_M_command_49 : decode prog_10_method_37_code 49 = .ok (.getfield 163, 3) := by decide +kernel
theorem d_M_command_52 : decode prog_10_method_37_code 52 = .ok (.bipush 8, 2) := by decide +kernel
theorem d_M_command_54 : decode prog_10_method_37_code 54 = .ok (.irem, 1) := by decide +kernel
theorem d_M_command_55 : decode prog_10_method_37_code 55 = .ok (.ifCond .le 5, 3) := by decide +kernel
theorem d_M_command_60 : decode prog_10_method_37_code 60 = .ok (.aload_n 0, 1) := by decide +kernel
theorem d_M_command_61 : decode prog_10_method_37_code 61 = .ok (.getfield 101, 3) := by decide +kernel
theorem d_M_command_64 : decode prog_10_method_37_code 64 = .ok (.aload_n 0, 1) := by decide +kernel
theorem d_M_command_65 : decode prog_10_method_37_code 65 = .ok (.getfield 172, 3) := by decide +kernel
theorem d_M_command_68 : decode prog_10_method_37_code 68 = .ok (.aload_n 0, 1) := by decide +kernel
theorem d_M_command_69 : decode prog_10_method_37_code 69 = .ok (.getfield 163, 3) := by decide +kernel
theorem d_M_command_72 : decode prog_10_method_37_code 72 = .ok (.iastore, 1) := by decide +kernel
theorem d_M_command_73 : decode prog_10_method_37_code 73 = .ok (.aload_n 0, 1) := by decide +kernel
theorem d_M_command_74 : decode prog_10_method_37_code 74 = .ok (.getfield 104, 3) := by decide +kernel
theorem d_M_command_77 : decode prog_10_method_37_code 77 = .ok (.aload_n 0, 1) := by decide +kernel
theorem d_M_command_78 : decode prog_10_method_37_code 78 = .ok (.getfield 172, 3) := by decide +kernel
theorem d_M_command_81 : decode prog_10_method_37_code 81 = .ok (.aload_n 0, 1) := by decide +kernel
theorem d_M_command_82 : decode prog_10_method_37_code 82 = .ok (.getfield 169, 3) := by decide +kernel
theorem d_M_command_85 : decode prog_10_method_37_code 85 = .ok (.iastore, 1) := by decide +kernel
theorem d_M_command_86 : decode prog_10_method_37_code 86 = .ok (.aload_n 0, 1) := by decide +kernel
theorem d_M_command_87 : decode prog_10_method_37_code 87 = .ok (.dup, 1) := by decide +kernel
theorem d_M_command_88 : decode prog_10_method_37_code 88 = .ok (.getfield 172, 3) := by decide +kernel
theorem d_M_command_91 : decode prog_10_method_37_code 91 = .ok (.iconst 1, 1) := by decide +kernel
theorem d_M_command_92 : decode prog_10_method_37_code 92 = .ok (.iadd, 1) := by decide +kernel
theorem d_M_command_93 : decode prog_10_method_37_code 93 = .ok (.putfield 172, 3) := by decide +kernel
theorem d_M_command_96 : decode prog_10_method_37_code 96 = .ok (.aload_n 0, 1) := by decide +kernel
theorem d_M_command_97 : decode prog_10_method_37_code 97 = .ok (.getfield 191, 3) := by decide +kernel
theorem d_M_command_100 : decode prog_10_method_37_code 100 = .ok (.istore 4, 2) := by decide +kernel
theorem d_M_command_102 : decode prog_10_method_37_code 102 = .ok (.aload_n 0, 1) := by decide +kernel
theorem d_M_command_103 : decode prog_10_method_37_code 103 = .ok (.aload_n 0, 1) := by decide +kernel
theorem d_M_command_104 : decode prog_10_method_37_code 104 = .ok (.getfield 163, 3) := by decide +kernel
theorem d_M_command_107 : decode prog_10_method_37_code 107 = .ok (.aload_n 0, 1) := by decide +kernel
theorem d_M_command_108 : decode prog_10_method_37_code 108 = .ok (.getfield 169, 3) := by decide +kernel
theorem d_M_command_111 : decode prog_10_method_37_code 111 = .ok (.invokevirtual 264, 3) := by decide +kernel
theorem d_M_command_114 : decode prog_10_method_37_code 114 = .ok (.aload_n 0, 1) := by decide +kernel
theorem d_M_command_115 : decode prog_10_method_37_code 115 = .ok (.iload_n 1, 1) := by decide +kernel
theorem d_M_command_116 : decode prog_10_method_37_code 116 = .ok (.iload_n 2, 1) := by decide +kernel
theorem d_M_command_117 : decode prog_10_method_37_code 117 = .ok (.iload_n 3, 1) := by decide +kernel
theorem d_M_command_118 : decode prog_10_method_37_code 118 = .ok (.invokevirtual 268, 3) := by decide +kernel
theorem d_M_command_121 : decode prog_10_method_37_code 121 = .ok (.aload_n 0, 1) := by decide +kernel
theorem d_M_command_122 : decode prog_10_method_37_code 122 = .ok (.iload 4, 2) := by decide +kernel
theorem d_M_command_124 : decode prog_10_method_37_code 124 = .ok (.putfield 191, 3) := by decide +kernel
theorem d_M_command_127 : decode prog_10_method_37_code 127 = .ok (.aload_n 0, 1) := by decide +kernel
theorem d_M_command_128 : decode prog_10_method_37_code 128 = .ok (.aload_n 0, 1) := by decide +kernel
theorem d_M_command_129 : decode prog_10_method_37_code 129 = .ok (.invokevirtual 159, 3) := by decide +kernel
theorem d_M_command_132 : decode prog_10_method_37_code 132 = .ok (.putfield 163, 3) := by decide +kernel
theorem d_M_command_135 : decode prog_10_method_37_code 135 = .ok (.aload_n 0, 1) := by decide +kernel
theorem d_M_command_136 : decode prog_10_method_37_code 136 = .ok (.aload_n 0, 1) := by decide +kernel
theorem d_M_command_137 : decode prog_10_method_37_code 137 = .ok (.invokevirtual 166, 3) := by decide +kernel
theorem d_M_command_140 : decode prog_10_method_37_code 140 = .ok (.putfield 169, 3) := by decide +kernel
theorem d_M_command_143 : decode prog_10_method_37_code 143 = .ok (.aload_n 0, 1) := by decide +kernel
theorem d_M_command_144 : decode prog_10_method_37_code 144 = .ok (.aload_n 0, 1) := by decide +kernel
theorem d_M_command_145 : decode prog_10_method_37_code 145 = .ok (.getfield 234, 3) := by decide +kernel
theorem d_M_command_148 : decode prog_10_method_37_code 148 = .ok (.putfield 175, 3) := by decide +kernel
theorem d_M_command_151 : decode prog_10_method_37_code 151 = .ok (.iconst 0, 1) := by decide +kernel
theorem d_M_command_152 : decode prog_10_method_37_code 152 = .ok (.istore 5, 2) := by decide +kernel
theorem d_M_command_58 : decode prog_10_method_37_code 58 = .ok (.iconst (-1), 1) := by decide +kernel
theorem d_M_command_59 : decode prog_10_method_37_code 59 = .ok (.ireturn, 1) := by decide +kernel
theorem d_M_command_46 : decode prog_10_method_37_code 46 = .ok (.iconst 0, 1) := by decide +kernel
theorem d_M_command_47 : decode prog_10_method_37_code 47 = .ok (.ireturn, 1) := by decide +kernel
theorem d_M_command_154 : decode prog_10_method_37_code 154 = .ok (.iload 5, 2) := by decide +kernel
theorem d_M_command_156 : decode prog_10_method_37_code 156 = .ok (.aload_n 0, 1) := by decide +kernel
theorem d_M_command_157 : decode prog_10_method_37_code 157 = .ok (.getfield 234, 3) := by decide +kernel
theorem d_M_command_160 : decode prog_10_method_37_code 160 = .ok (.if_icmp .ge 23, 3) := by decide +kernel
theorem d_M_command_183 : decode prog_10_method_37_code 183 = .ok (.aload_n 0, 1) := by decide +kernel
theorem d_M_command_184 : decode prog_10_method_37_code 184 = .ok (.getfield 175, 3) := by decide +kernel
theorem d_M_command_187 : decode prog_10_method_37_code 187 = .ok (.ireturn, 1) := by decide +kernel
theorem d_M_command_163 : decode prog_10_method_37_code 163 = .ok (.aload_n 0, 1) := by decide +kernel
theorem d_M_command_164 : decode prog_10_method_37_code 164 = .ok (.getfield 107, 3) := by decide +kernel
theorem d_M_command_167 : decode prog_10_method_37_code 167 = .ok (.iload 5, 2) := by decide +kernel
theorem d_M_command_169 : decode prog_10_method_37_code 169 = .ok (.aload_n 0, 1) := by decide +kernel
theorem d_M_command_170 : decode prog_10_method_37_code 170 = .ok (.getfield 98, 3) := by decide +kernel
theorem d_M_command_173 : decode prog_10_method_37_code 173 = .ok (.iload 5, 2) := by decide +kernel
theorem d_M_command_175 : decode prog_10_method_37_code 175 = .ok (.iaload, 1) := by decide +kernel
theorem d_M_command_176 : decode prog_10_method_37_code 176 = .ok (.iastore, 1) := by decide +kernel
theorem d_M_command_177 : decode prog_10_method_37_code 177 = .ok (.iinc 5 1, 3) := by decide +kernel
theorem d_M_command_180 : decode prog_10_method_37_code 180 = .ok (.goto (-26), 3) := by decide +kernel
theorem d_M_said_0 : decode prog_10_method_38_code 0 = .ok (.aload_n 0, 1) := by decide +kernel
theorem d_M_said_1 : decode prog_10_method_38_code 1 = .ok (.iconst 0, 1) := by decide +kernel
theorem d_M_said_2 : decode prog_10_method_38_code 2 = .ok (.putfield 137, 3) := by decide +kernel
theorem d_M_said_5 : decode prog_10_method_38_code 5 = .ok (.iload_n 1, 1) := by decide +kernel
theorem d_M_said_6 : decode prog_10_method_38_code 6 = .ok (.ifCond .lt 11, 3) := by decide +kernel
theorem d_M_said_17 : decode prog_10_method_38_code 17 = .ok (.iconst (-1), 1) := by decide +kernel
theorem d_M_said_18 : decode prog_10_method_38_code 18 = .ok (.goto 9, 3) := by decide +kernel
theorem d_M_said_27 : decode prog_10_method_38_code 27 = .ok (.ireturn, 1) := by decide +kernel
theorem d_M_said_9 : decode prog_10_method_38_code 9 = .ok (.iload_n 1, 1) := by decide +kernel
theorem d_M_said_10 : decode prog_10_method_38_code 10 = .ok (.aload_n 0, 1) := by decide +kernel
theorem d_M_said_11 : decode prog_10_method_38_code 11 = .ok (.getfield 175, 3) := by decide +kernel
theorem d_M_said_14 : decode prog_10_method_38_code 14 = .ok (.if_icmp .lt 7, 3) := by decide +kernel
theorem d_M_said_21 : decode prog_10_method_38_code 21 = .ok (.aload_n 0, 1) := by decide +kernel
theorem d_M_said_22 : decode prog_10_method_38_code 22 = .ok (.getfield 107, 3) := by decide +kernel
theorem d_M_said_25 : decode prog_10_method_38_code 25 = .ok (.iload_n 1, 1) := by decide +kernel
theorem d_M_said_26 : decode prog_10_method_38_code 26 = .ok (.iaload, 1) := by decide +kernel
theorem d_M_undo_0 : decode prog_10_method_39_code 0 = .ok (.aload_n 0, 1) := by decide +kernel
theorem d_M_undo_1 : decode prog_10_method_39_code 1 = .ok (.iconst 0, 1) := by decide +kernel
theorem d_M_undo_2 : decode prog_10_method_39_code 2 = .ok (.putfield 137, 3) := by decide +kernel
theorem d_M_undo_5 : decode prog_10_method_39_code 5 = .ok (.aload_n 0, 1) := by decide +kernel
theorem d_M_undo_6 : decode prog_10_method_39_code 6 = .ok (.getfield 172, 3) := by decide +kernel
theorem d_M_undo_9 : decode prog_10_method_39_code 9 = .ok (.ifCond .ne 5, 3) := by decide +kernel
theorem d_M_undo_14 : decode prog_10_method_39_code 14 = .ok (.aload_n 0, 1) := by decide +kernel
theorem d_M_undo_15 : decode prog_10_method_39_code 15 = .ok (.dup, 1) := by decide +kernel
theorem d_M_undo_16 : decode prog_10_method_39_code 16 = .ok (.getfield 172, 3) := by decide +kernel
theorem d_M_undo_19 : decode prog_10_method_39_code 19 = .ok (.iconst 1, 1) := by decide +kernel
theorem d_M_undo_20 : decode prog_10_method_39_code 20 = .ok (.isub, 1) := by decide +kernel
theorem d_M_undo_21 : decode prog_10_method_39_code 21 = .ok (.putfield 172, 3) := by decide +kernel
theorem d_M_undo_24 : decode prog_10_method_39_code 24 = .ok (.aload_n 0, 1) := by decide +kernel
theorem d_M_undo_25 : decode prog_10_method_39_code 25 = .ok (.aload_n 0, 1) := by decide +kernel
theorem d_M_undo_26 : decode prog_10_method_39_code 26 = .ok (.getfield 101, 3) := by decide +kernel
theorem d_M_undo_29 : decode prog_10_method_39_code 29 = .ok (.aload_n 0, 1) := by decide +kernel
theorem d_M_undo_30 : decode prog_10_method_39_code 30 = .ok (.getfield 172, 3) := by decide +kernel
theorem d_M_undo_33 : decode prog_10_method_39_code 33 = .ok (.iaload, 1) := by decide +kernel
theorem d_M_undo_34 : decode prog_10_method_39_code 34 = .ok (.putfield 163, 3) := by decide +kernel
theorem d_M_undo_37 : decode prog_10_method_39_code 37 = .ok (.aload_n 0, 1) := by decide +kernel
theorem d_M_undo_38 : decode prog_10_method_39_code 38 = .ok (.aload_n 0, 1) := by decide +kernel
theorem d_M_undo_39 : decode prog_10_method_39_code 39 = .ok (.getfield 104, 3) := by decide +kernel
theorem d_M_undo_42 : decode prog_10_method_39_code 42 = .ok (.aload_n 0, 1) := by decide +kernel
theorem d_M_undo_43 : decode prog_10_method_39_code 43 = .ok (.getfield 172, 3) := by decide +kernel
theorem d_M_undo_46 : decode prog_10_method_39_code 46 = .ok (.iaload, 1) := by decide +kernel
theorem d_M_undo_47 : decode prog_10_method_39_code 47 = .ok (.putfield 169, 3) := by decide +kernel
theorem d_M_undo_50 : decode prog_10_method_39_code 50 = .ok (.aload_n 0, 1) := by decide +kernel
theorem d_M_undo_51 : decode prog_10_method_39_code 51 = .ok (.iconst 0, 1) := by decide +kernel
theorem d_M_undo_52 : decode prog_10_method_39_code 52 = .ok (.putfield 175, 3) := by decide +kernel
theorem d_M_undo_55 : decode prog_10_method_39_code 55 = .ok (.iconst 1, 1) := by decide +kernel
theorem d_M_undo_56 : decode prog_10_method_39_code 56 = .ok (.ireturn, 1) := by decide +kernel
theorem d_M_undo_12 : decode prog_10_method_39_code 12 = .ok (.iconst 0, 1) := by decide +kernel
theorem d_M_undo_13 : decode prog_10_method_39_code 13 = .ok (.ireturn, 1) := by decide +kernel
theorem d_M_state_0 : decode prog_10_method_40_code 0 = .ok (.iload_n 1, 1) := by decide +kernel
theorem d_M_state_1 : decode prog_10_method_40_code 1 = .ok (.iconst 1, 1) := by decide +kernel
theorem d_M_state_2 : decode prog_10_method_40_code 2 = .ok (.if_icmp .eq 14, 3) := by decide +kernel
theorem d_M_state_5 : decode prog_10_method_40_code 5 = .ok (.iload_n 1, 1) := by decide +kernel
theorem d_M_state_6 : decode prog_10_method_40_code 6 = .ok (.iconst 2, 1) := by decide +kernel
theorem d_M_state_7 : decode prog_10_method_40_code 7 = .ok (.if_icmp .eq 9, 3) := by decide +kernel
theorem d_M_state_10 : decode prog_10_method_40_code 10 = .ok (.iload_n 1, 1) := by decide +kernel
theorem d_M_state_11 : decode prog_10_method_40_code 11 = .ok (.bipush 6, 2) := by decide +kernel
theorem d_M_state_13 : decode prog_10_method_40_code 13 = .ok (.if_icmp .ne 11, 3) := by decide +kernel
theorem d_M_state_16 : decode prog_10_method_40_code 16 = .ok (.aload_n 0, 1) := by decide +kernel
theorem d_M_state_17 : decode prog_10_method_40_code 17 = .ok (.iload_n 2, 1) := by decide +kernel
theorem d_M_state_18 : decode prog_10_method_40_code 18 = .ok (.invokevirtual 205, 3) := by decide +kernel
theorem d_M_state_21 : decode prog_10_method_40_code 21 = .ok (.ifCond .ne 52, 3) := by decide +kernel
theorem d_M_state_24 : decode prog_10_method_40_code 24 = .ok (.iload_n 1, 1) := by decide +kernel
theorem d_M_state_25 : decode prog_10_method_40_code 25 = .ok (.iconst 3, 1) := by decide +kernel
theorem d_M_state_26 : decode prog_10_method_40_code 26 = .ok (.if_icmp .ne 11, 3) := by decide +kernel
theorem d_M_state_29 : decode prog_10_method_40_code 29 = .ok (.aload_n 0, 1) := by decide +kernel
theorem d_M_state_30 : decode prog_10_method_40_code 30 = .ok (.iload_n 2, 1) := by decide +kernel
theorem d_M_state_31 : decode prog_10_method_40_code 31 = .ok (.invokevirtual 220, 3) := by decide +kernel
theorem d_M_state_34 : decode prog_10_method_40_code 34 = .ok (.ifCond .ne 39, 3) := by decide +kernel
theorem d_M_state_73 : decode prog_10_method_40_code 73 = .ok (.iconst 1, 1) := by decide +kernel
theorem d_M_state_74 : decode prog_10_method_40_code 74 = .ok (.goto 4, 3) := by decide +kernel
theorem d_M_state_37 : decode prog_10_method_40_code 37 = .ok (.iload_n 1, 1) := by decide +kernel
theorem d_M_state_38 : decode prog_10_method_40_code 38 = .ok (.bipush 7, 2) := by decide +kernel
theorem d_M_state_40 : decode prog_10_method_40_code 40 = .ok (.if_icmp .ne 15, 3) := by decide +kernel
theorem d_M_state_43 : decode prog_10_method_40_code 43 = .ok (.iload_n 2, 1) := by decide +kernel
theorem d_M_state_44 : decode prog_10_method_40_code 44 = .ok (.ifCond .lt 29, 3) := by decide +kernel
theorem d_M_state_47 : decode prog_10_method_40_code 47 = .ok (.iload_n 2, 1) := by decide +kernel
theorem d_M_state_48 : decode prog_10_method_40_code 48 = .ok (.aload_n 0, 1) := by decide +kernel
theorem d_M_state_49 : decode prog_10_method_40_code 49 = .ok (.getfield 153, 3) := by decide +kernel
theorem d_M_state_52 : decode prog_10_method_40_code 52 = .ok (.if_icmp .ge 21, 3) := by decide +kernel
theorem d_M_state_78 : decode prog_10_method_40_code 78 = .ok (.istore_n 3, 1) := by decide +kernel
theorem d_M_state_79 : decode prog_10_method_40_code 79 = .ok (.aload_n 0, 1) := by decide +kernel
theorem d_M_state_80 : decode prog_10_method_40_code 80 = .ok (.iload_n 3, 1) := by decide +kernel
theorem d_M_state_81 : decode prog_10_method_40_code 81 = .ok (.ifCond .eq 7, 3) := by decide +kernel
theorem d_M_state_88 : decode prog_10_method_40_code 88 = .ok (.iload_n 1, 1) := by decide +kernel
theorem d_M_state_89 : decode prog_10_method_40_code 89 = .ok (.ifCond .lt 9, 3) := by decide +kernel
theorem d_M_state_92 : decode prog_10_method_40_code 92 = .ok (.iload_n 1, 1) := by decide +kernel
theorem d_M_state_93 : decode prog_10_method_40_code 93 = .ok (.bipush 8, 2) := by decide +kernel
theorem d_M_state_95 : decode prog_10_method_40_code 95 = .ok (.if_icmp .le 7, 3) := by decide +kernel
theorem d_M_state_102 : decode prog_10_method_40_code 102 = .ok (.aload_n 0, 1) := by decide +kernel
theorem d_M_state_103 : decode prog_10_method_40_code 103 = .ok (.getfield 198, 3) := by decide +kernel
theorem d_M_state_106 : decode prog_10_method_40_code 106 = .ok (.ifCond .ne 7, 3) := by decide +kernel
theorem d_M_state_113 : decode prog_10_method_40_code 113 = .ok (.iconst 0, 1) := by decide +kernel
theorem d_M_state_109 : decode prog_10_method_40_code 109 = .ok (.iconst 3, 1) := by decide +kernel
theorem d_M_state_110 : decode prog_10_method_40_code 110 = .ok (.goto 4, 3) := by decide +kernel
theorem d_M_state_84 : decode prog_10_method_40_code 84 = .ok (.iconst 1, 1) := by decide +kernel
theorem d_M_state_85 : decode prog_10_method_40_code 85 = .ok (.goto 29, 3) := by decide +kernel
theorem d_M_state_55 : decode prog_10_method_40_code 55 = .ok (.iload_n 1, 1) := by decide +kernel
theorem d_M_state_56 : decode prog_10_method_40_code 56 = .ok (.bipush 8, 2) := by decide +kernel
theorem d_M_state_58 : decode prog_10_method_40_code 58 = .ok (.if_icmp .ne 19, 3) := by decide +kernel
theorem d_M_state_61 : decode prog_10_method_40_code 61 = .ok (.iload_n 2, 1) := by decide +kernel
theorem d_M_state_62 : decode prog_10_method_40_code 62 = .ok (.ifCond .lt 11, 3) := by decide +kernel
theorem d_M_state_65 : decode prog_10_method_40_code 65 = .ok (.iload_n 2, 1) := by decide +kernel
theorem d_M_state_66 : decode prog_10_method_40_code 66 = .ok (.aload_n 0, 1) := by decide +kernel
theorem d_M_state_67 : decode prog_10_method_40_code 67 = .ok (.getfield 214, 3) := by decide +kernel
theorem d_M_state_70 : decode prog_10_method_40_code 70 = .ok (.if_icmp .lt 7, 3) := by decide +kernel
theorem d_M_state_98 : decode prog_10_method_40_code 98 = .ok (.iconst 2, 1) := by decide +kernel
theorem d_M_state_99 : decode prog_10_method_40_code 99 = .ok (.goto 15, 3) := by decide +kernel
theorem d_M_state_114 : decode prog_10_method_40_code 114 = .ok (.putfield 137, 3) := by decide +kernel
theorem d_M_state_117 : decode prog_10_method_40_code 117 = .ok (.aload_n 0, 1) := by decide +kernel
theorem d_M_state_118 : decode prog_10_method_40_code 118 = .ok (.getfield 137, 3) := by decide +kernel
theorem d_M_state_121 : decode prog_10_method_40_code 121 = .ok (.ifCond .le 5, 3) := by decide +kernel
theorem d_M_state_126 : decode prog_10_method_40_code 126 = .ok (.aload_n 0, 1) := by decide +kernel
theorem d_M_state_127 : decode prog_10_method_40_code 127 = .ok (.aload_n 0, 1) := by decide +kernel
theorem d_M_state_128 : decode prog_10_method_40_code 128 = .ok (.getfield 163, 3) := by decide +kernel
theorem d_M_state_131 : decode prog_10_method_40_code 131 = .ok (.aload_n 0, 1) := by decide +kernel
theorem d_M_state_132 : decode prog_10_method_40_code 132 = .ok (.getfield 169, 3) := by decide +kernel
theorem d_M_state_135 : decode prog_10_method_40_code 135 = .ok (.invokevirtual 264, 3) := by decide +kernel
theorem d_M_state_138 : decode prog_10_method_40_code 138 = .ok (.iload_n 1, 1) := by decide +kernel
theorem d_M_state_139 : decode prog_10_method_40_code 139 = .ok (.tableswitch 112 0 7 #[45, 50, 57, 72, 79, 86, 91, 105], 45) := by decide +kernel
theorem d_M_state_184 : decode prog_10_method_40_code 184 = .ok (.aload_n 0, 1) := by decide +kernel
theorem d_M_state_185 : decode prog_10_method_40_code 185 = .ok (.getfield 141, 3) := by decide +kernel
theorem d_M_state_188 : decode prog_10_method_40_code 188 = .ok (.ireturn, 1) := by decide +kernel
theorem d_M_state_189 : decode prog_10_method_40_code 189 = .ok (.aload_n 0, 1) := by decide +kernel
theorem d_M_state_190 : decode prog_10_method_40_code 190 = .ok (.getfield 83, 3) := by decide +kernel
theorem d_M_state_193 : decode prog_10_method_40_code 193 = .ok (.iload_n 2, 1) := by decide +kernel
theorem d_M_state_194 : decode prog_10_method_40_code 194 = .ok (.iaload, 1) := by decide +kernel
theorem d_M_state_195 : decode prog_10_method_40_code 195 = .ok (.ireturn, 1) := by decide +kernel
theorem d_M_state_196 : decode prog_10_method_40_code 196 = .ok (.aload_n 0, 1) := by decide +kernel
theorem d_M_state_197 : decode prog_10_method_40_code 197 = .ok (.getfield 86, 3) := by decide +kernel
theorem d_M_state_200 : decode prog_10_method_40_code 200 = .ok (.iload_n 2, 1) := by decide +kernel
theorem d_M_state_201 : decode prog_10_method_40_code 201 = .ok (.baload, 1) := by decide +kernel
theorem d_M_state_202 : decode prog_10_method_40_code 202 = .ok (.ifCond .eq 7, 3) := by decide +kernel
theorem d_M_state_209 : decode prog_10_method_40_code 209 = .ok (.iconst 0, 1) := by decide +kernel
theorem d_M_state_210 : decode prog_10_method_40_code 210 = .ok (.ireturn, 1) := by decide +kernel
theorem d_M_state_205 : decode prog_10_method_40_code 205 = .ok (.iconst 1, 1) := by decide +kernel
theorem d_M_state_206 : decode prog_10_method_40_code 206 = .ok (.goto 4, 3) := by decide +kernel
theorem d_M_state_211 : decode prog_10_method_40_code 211 = .ok (.aload_n 0, 1) := by decide +kernel
theorem d_M_state_212 : decode prog_10_method_40_code 212 = .ok (.getfield 89, 3) := by decide +kernel
theorem d_M_state_215 : decode prog_10_method_40_code 215 = .ok (.iload_n 2, 1) := by decide +kernel
theorem d_M_state_216 : decode prog_10_method_40_code 216 = .ok (.iaload, 1) := by decide +kernel
theorem d_M_state_217 : decode prog_10_method_40_code 217 = .ok (.ireturn, 1) := by decide +kernel
theorem d_M_state_218 : decode prog_10_method_40_code 218 = .ok (.aload_n 0, 1) := by decide +kernel
theorem d_M_state_219 : decode prog_10_method_40_code 219 = .ok (.getfield 144, 3) := by decide +kernel
theorem d_M_state_222 : decode prog_10_method_40_code 222 = .ok (.iconst 1, 1) := by decide +kernel
theorem d_M_state_223 : decode prog_10_method_40_code 223 = .ok (.isub, 1) := by decide +kernel
theorem d_M_state_224 : decode prog_10_method_40_code 224 = .ok (.ireturn, 1) := by decide +kernel
theorem d_M_state_225 : decode prog_10_method_40_code 225 = .ok (.aload_n 0, 1) := by decide +kernel
theorem d_M_state_226 : decode prog_10_method_40_code 226 = .ok (.getfield 172, 3) := by decide +kernel
theorem d_M_state_229 : decode prog_10_method_40_code 229 = .ok (.ireturn, 1) := by decide +kernel
theorem d_M_state_230 : decode prog_10_method_40_code 230 = .ok (.aload_n 0, 1) := by decide +kernel
theorem d_M_state_231 : decode prog_10_method_40_code 231 = .ok (.iload_n 2, 1) := by decide +kernel
theorem d_M_state_232 : decode prog_10_method_40_code 232 = .ok (.invokevirtual 245, 3) := by decide +kernel
theorem d_M_state_235 : decode prog_10_method_40_code 235 = .ok (.ifCond .eq 7, 3) := by decide +kernel
theorem d_M_state_242 : decode prog_10_method_40_code 242 = .ok (.iconst 0, 1) := by decide +kernel
theorem d_M_state_243 : decode prog_10_method_40_code 243 = .ok (.ireturn, 1) := by decide +kernel
theorem d_M_state_238 : decode prog_10_method_40_code 238 = .ok (.iconst 1, 1) := by decide +kernel
theorem d_M_state_239 : decode prog_10_method_40_code 239 = .ok (.goto 4, 3) := by decide +kernel
theorem d_M_state_244 : decode prog_10_method_40_code 244 = .ok (.aload_n 0, 1) := by decide +kernel
theorem d_M_state_245 : decode prog_10_method_40_code 245 = .ok (.getfield 95, 3) := by decide +kernel
theorem d_M_state_248 : decode prog_10_method_40_code 248 = .ok (.iload_n 2, 1) := by decide +kernel
theorem d_M_state_249 : decode prog_10_method_40_code 249 = .ok (.iaload, 1) := by decide +kernel
theorem d_M_state_250 : decode prog_10_method_40_code 250 = .ok (.ireturn, 1) := by decide +kernel
theorem d_M_state_251 : decode prog_10_method_40_code 251 = .ok (.aload_n 0, 1) := by decide +kernel
theorem d_M_state_252 : decode prog_10_method_40_code 252 = .ok (.getfield 92, 3) := by decide +kernel
theorem d_M_state_255 : decode prog_10_method_40_code 255 = .ok (.iload_n 2, 1) := by decide +kernel
theorem d_M_state_256 : decode prog_10_method_40_code 256 = .ok (.iaload, 1) := by decide +kernel
theorem d_M_state_257 : decode prog_10_method_40_code 257 = .ok (.ireturn, 1) := by decide +kernel
theorem d_M_state_124 : decode prog_10_method_40_code 124 = .ok (.iconst 0, 1) := by decide +kernel
theorem d_M_state_125 : decode prog_10_method_40_code 125 = .ok (.ireturn, 1) := by decide +kernel
theorem d_M_state_77 : decode prog_10_method_40_code 77 = .ok (.iconst 0, 1) := by decide +kernel
theorem d_M_search_0 : decode prog_10_method_41_code 0 = .ok (.iconst 0, 1) := by decide +kernel
theorem d_M_search_1 : decode prog_10_method_41_code 1 = .ok (.istore_n 3, 1) := by decide +kernel
theorem d_M_search_2 : decode prog_10_method_41_code 2 = .ok (.iload_n 3, 1) := by decide +kernel
theorem d_M_search_3 : decode prog_10_method_41_code 3 = .ok (.aload_n 0, 1) := by decide +kernel
theorem d_M_search_4 : decode prog_10_method_41_code 4 = .ok (.getfield 181, 3) := by decide +kernel
theorem d_M_search_7 : decode prog_10_method_41_code 7 = .ok (.if_icmp .ge 31, 3) := by decide +kernel
theorem d_M_search_38 : decode prog_10_method_41_code 38 = .ok (.iconst (-1), 1) := by decide +kernel
theorem d_M_search_39 : decode prog_10_method_41_code 39 = .ok (.ireturn, 1) := by decide +kernel
theorem d_M_search_10 : decode prog_10_method_41_code 10 = .ok (.aload_n 0, 1) := by decide +kernel
theorem d_M_search_11 : decode prog_10_method_41_code 11 = .ok (.getfield 110, 3) := by decide +kernel
theorem d_M_search_14 : decode prog_10_method_41_code 14 = .ok (.iload_n 3, 1) := by decide +kernel
theorem d_M_search_15 : decode prog_10_method_41_code 15 = .ok (.iaload, 1) := by decide +kernel
theorem d_M_search_16 : decode prog_10_method_41_code 16 = .ok (.iload_n 1, 1) := by decide +kernel
theorem d_M_search_17 : decode prog_10_method_41_code 17 = .ok (.if_icmp .ne 15, 3) := by decide +kernel
theorem d_M_search_32 : decode prog_10_method_41_code 32 = .ok (.iinc 3 1, 3) := by decide +kernel
theorem d_M_search_35 : decode prog_10_method_41_code 35 = .ok (.goto (-33), 3) := by decide +kernel
theorem d_M_search_20 : decode prog_10_method_41_code 20 = .ok (.aload_n 0, 1) := by decide +kernel
theorem d_M_search_21 : decode prog_10_method_41_code 21 = .ok (.getfield 113, 3) := by decide +kernel
theorem d_M_search_24 : decode prog_10_method_41_code 24 = .ok (.iload_n 3, 1) := by decide +kernel
theorem d_M_search_25 : decode prog_10_method_41_code 25 = .ok (.iaload, 1) := by decide +kernel
theorem d_M_search_26 : decode prog_10_method_41_code 26 = .ok (.iload_n 2, 1) := by decide +kernel
theorem d_M_search_27 : decode prog_10_method_41_code 27 = .ok (.if_icmp .ne 5, 3) := by decide +kernel
theorem d_M_search_30 : decode prog_10_method_41_code 30 = .ok (.iload_n 3, 1) := by decide +kernel
theorem d_M_search_31 : decode prog_10_method_41_code 31 = .ok (.ireturn, 1) := by decide +kernel
theorem d_M_tryOne_0 : decode prog_10_method_43_code 0 = .ok (.aload_n 0, 1) := by decide +kernel
theorem d_M_tryOne_1 : decode prog_10_method_43_code 1 = .ok (.aload_n 0, 1) := by decide +kernel
theorem d_M_tryOne_2 : decode prog_10_method_43_code 2 = .ok (.getfield 110, 3) := by decide +kernel
theorem d_M_tryOne_5 : decode prog_10_method_43_code 5 = .ok (.aload_n 0, 1) := by decide +kernel
theorem d_M_tryOne_6 : decode prog_10_method_43_code 6 = .ok (.getfield 184, 3) := by decide +kernel
theorem d_M_tryOne_9 : decode prog_10_method_43_code 9 = .ok (.iaload, 1) := by decide +kernel
theorem d_M_tryOne_10 : decode prog_10_method_43_code 10 = .ok (.aload_n 0, 1) := by decide +kernel
theorem d_M_tryOne_11 : decode prog_10_method_43_code 11 = .ok (.getfield 113, 3) := by decide +kernel
theorem d_M_tryOne_14 : decode prog_10_method_43_code 14 = .ok (.aload_n 0, 1) := by decide +kernel
theorem d_M_tryOne_15 : decode prog_10_method_43_code 15 = .ok (.getfield 184, 3) := by decide +kernel
theorem d_M_tryOne_18 : decode prog_10_method_43_code 18 = .ok (.iaload, 1) := by decide +kernel
theorem d_M_tryOne_19 : decode prog_10_method_43_code 19 = .ok (.invokevirtual 264, 3) := by decide +kernel
theorem d_M_tryOne_22 : decode prog_10_method_43_code 22 = .ok (.aload_n 0, 1) := by decide +kernel
theorem d_M_tryOne_23 : decode prog_10_method_43_code 23 = .ok (.iload_n 1, 1) := by decide +kernel
theorem d_M_tryOne_24 : decode prog_10_method_43_code 24 = .ok (.iload_n 2, 1) := by decide +kernel
theorem d_M_tryOne_25 : decode prog_10_method_43_code 25 = .ok (.iload_n 3, 1) := by decide +kernel
theorem d_M_tryOne_26 : decode prog_10_method_43_code 26 = .ok (.invokevirtual 268, 3) := by decide +kernel
theorem d_M_tryOne_29 : decode prog_10_method_43_code 29 = .ok (.aload_n 0, 1) := by decide +kernel
theorem d_M_tryOne_30 : decode prog_10_method_43_code 30 = .ok (.invokevirtual 159, 3) := by decide +kernel
theorem d_M_tryOne_33 : decode prog_10_method_43_code 33 = .ok (.istore 4, 2) := by decide +kernel
theorem d_M_tryOne_35 : decode prog_10_method_43_code 35 = .ok (.aload_n 0, 1) := by decide +kernel
theorem d_M_tryOne_36 : decode prog_10_method_43_code 36 = .ok (.invokevirtual 166, 3) := by decide +kernel
theorem d_M_tryOne_39 : decode prog_10_method_43_code 39 = .ok (.istore 5, 2) := by decide +kernel
theorem d_M_tryOne_41 : decode prog_10_method_43_code 41 = .ok (.aload_n 0, 1) := by decide +kernel
theorem d_M_tryOne_42 : decode prog_10_method_43_code 42 = .ok (.iload 4, 2) := by decide +kernel
theorem d_M_tryOne_44 : decode prog_10_method_43_code 44 = .ok (.iload 5, 2) := by decide +kernel
theorem d_M_tryOne_46 : decode prog_10_method_43_code 46 = .ok (.invokevirtual 271, 3) := by decide +kernel
theorem d_M_tryOne_49 : decode prog_10_method_43_code 49 = .ok (.istore 6, 2) := by decide +kernel
theorem d_M_tryOne_51 : decode prog_10_method_43_code 51 = .ok (.iload 6, 2) := by decide +kernel
theorem d_M_tryOne_53 : decode prog_10_method_43_code 53 = .ok (.ifCond .ge 19, 3) := by decide +kernel
theorem d_M_tryOne_56 : decode prog_10_method_43_code 56 = .ok (.aload_n 0, 1) := by decide +kernel
theorem d_M_tryOne_57 : decode prog_10_method_43_code 57 = .ok (.getfield 181, 3) := by decide +kernel
theorem d_M_tryOne_60 : decode prog_10_method_43_code 60 = .ok (.sipush 160, 3) := by decide +kernel
theorem d_M_tryOne_63 : decode prog_10_method_43_code 63 = .ok (.if_icmp .ne 9, 3) := by decide +kernel
theorem d_M_tryOne_66 : decode prog_10_method_43_code 66 = .ok (.aload_n 0, 1) := by decide +kernel
theorem d_M_tryOne_67 : decode prog_10_method_43_code 67 = .ok (.iconst 1, 1) := by decide +kernel
theorem d_M_tryOne_68 : decode prog_10_method_43_code 68 = .ok (.putfield 187, 3) := by decide +kernel
theorem d_M_tryOne_71 : decode prog_10_method_43_code 71 = .ok (.return_, 1) := by decide +kernel
theorem d_M_tryOne_72 : decode prog_10_method_43_code 72 = .ok (.iload 6, 2) := by decide +kernel
theorem d_M_tryOne_74 : decode prog_10_method_43_code 74 = .ok (.ifCond .ge 24, 3) := by decide +kernel
theorem d_M_tryOne_77 : decode prog_10_method_43_code 77 = .ok (.aload_n 0, 1) := by decide +kernel
theorem d_M_tryOne_78 : decode prog_10_method_43_code 78 = .ok (.getfield 181, 3) := by decide +kernel
theorem d_M_tryOne_81 : decode prog_10_method_43_code 81 = .ok (.istore 6, 2) := by decide +kernel
theorem d_M_tryOne_83 : decode prog_10_method_43_code 83 = .ok (.aload_n 0, 1) := by decide +kernel
theorem d_M_tryOne_84 : decode prog_10_method_43_code 84 = .ok (.iload 4, 2) := by decide +kernel
theorem d_M_tryOne_86 : decode prog_10_method_43_code 86 = .ok (.iload 5, 2) := by decide +kernel
theorem d_M_tryOne_88 : decode prog_10_method_43_code 88 = .ok (.aload_n 0, 1) := by decide +kernel
theorem d_M_tryOne_89 : decode prog_10_method_43_code 89 = .ok (.getfield 184, 3) := by decide +kernel
theorem d_M_tryOne_92 : decode prog_10_method_43_code 92 = .ok (.iload_n 1, 1) := by decide +kernel
theorem d_M_tryOne_93 : decode prog_10_method_43_code 93 = .ok (.iload_n 2, 1) := by decide +kernel
theorem d_M_tryOne_94 : decode prog_10_method_43_code 94 = .ok (.iload_n 3, 1) := by decide +kernel
theorem d_M_tryOne_95 : decode prog_10_method_43_code 95 = .ok (.invokevirtual 194, 3) := by decide +kernel
theorem d_M_tryOne_98 : decode prog_10_method_43_code 98 = .ok (.aload_n 0, 1) := by decide +kernel
theorem d_M_tryOne_99 : decode prog_10_method_43_code 99 = .ok (.getfield 128, 3) := by decide +kernel
theorem d_M_tryOne_102 : decode prog_10_method_43_code 102 = .ok (.iconst 5, 1) := by decide +kernel
theorem d_M_tryOne_103 : decode prog_10_method_43_code 103 = .ok (.aload_n 0, 1) := by decide +kernel
theorem d_M_tryOne_104 : decode prog_10_method_43_code 104 = .ok (.getfield 184, 3) := by decide +kernel
theorem d_M_tryOne_107 : decode prog_10_method_43_code 107 = .ok (.imul, 1) := by decide +kernel
theorem d_M_tryOne_108 : decode prog_10_method_43_code 108 = .ok (.iload 6, 2) := by decide +kernel
theorem d_M_tryOne_110 : decode prog_10_method_43_code 110 = .ok (.bipush 32, 2) := by decide +kernel
theorem d_M_tryOne_112 : decode prog_10_method_43_code 112 = .ok (.idiv, 1) := by decide +kernel
theorem d_M_tryOne_113 : decode prog_10_method_43_code 113 = .ok (.iadd, 1) := by decide +kernel
theorem d_M_tryOne_114 : decode prog_10_method_43_code 114 = .ok (.aload_n 0, 1) := by decide +kernel
theorem d_M_tryOne_115 : decode prog_10_method_43_code 115 = .ok (.getfield 128, 3) := by decide +kernel
theorem d_M_tryOne_118 : decode prog_10_method_43_code 118 = .ok (.iconst 5, 1) := by decide +kernel
theorem d_M_tryOne_119 : decode prog_10_method_43_code 119 = .ok (.aload_n 0, 1) := by decide +kernel
theorem d_M_tryOne_120 : decode prog_10_method_43_code 120 = .ok (.getfield 184, 3) := by decide +kernel
theorem d_M_tryOne_123 : decode prog_10_method_43_code 123 = .ok (.imul, 1) := by decide +kernel
theorem d_M_tryOne_124 : decode prog_10_method_43_code 124 = .ok (.iload 6, 2) := by decide +kernel
theorem d_M_tryOne_126 : decode prog_10_method_43_code 126 = .ok (.bipush 32, 2) := by decide +kernel
theorem d_M_tryOne_128 : decode prog_10_method_43_code 128 = .ok (.idiv, 1) := by decide +kernel
theorem d_M_tryOne_129 : decode prog_10_method_43_code 129 = .ok (.iadd, 1) := by decide +kernel
theorem d_M_tryOne_130 : decode prog_10_method_43_code 130 = .ok (.iaload, 1) := by decide +kernel
theorem d_M_tryOne_131 : decode prog_10_method_43_code 131 = .ok (.iconst 1, 1) := by decide +kernel
theorem d_M_tryOne_132 : decode prog_10_method_43_code 132 = .ok (.iload 6, 2) := by decide +kernel
theorem d_M_tryOne_134 : decode prog_10_method_43_code 134 = .ok (.bipush 32, 2) := by decide +kernel
theorem d_M_tryOne_136 : decode prog_10_method_43_code 136 = .ok (.irem, 1) := by decide +kernel
theorem d_M_tryOne_137 : decode prog_10_method_43_code 137 = .ok (.ishl, 1) := by decide +kernel
theorem d_M_tryOne_138 : decode prog_10_method_43_code 138 = .ok (.ior, 1) := by decide +kernel
theorem d_M_tryOne_139 : decode prog_10_method_43_code 139 = .ok (.iastore, 1) := by decide +kernel
theorem d_M_tryOne_140 : decode prog_10_method_43_code 140 = .ok (.return_, 1) := by decide +kernel
theorem d_M_tryAll_0 : decode prog_10_method_44_code 0 = .ok (.iconst 0, 1) := by decide +kernel
theorem d_M_tryAll_1 : decode prog_10_method_44_code 1 = .ok (.istore_n 1, 1) := by decide +kernel
theorem d_M_tryAll_2 : decode prog_10_method_44_code 2 = .ok (.iload_n 1, 1) := by decide +kernel
theorem d_M_tryAll_3 : decode prog_10_method_44_code 3 = .ok (.bipush 9, 2) := by decide +kernel
theorem d_M_tryAll_5 : decode prog_10_method_44_code 5 = .ok (.if_icmp .ge 61, 3) := by decide +kernel
theorem d_M_tryAll_66 : decode prog_10_method_44_code 66 = .ok (.return_, 1) := by decide +kernel
theorem d_M_tryAll_8 : decode prog_10_method_44_code 8 = .ok (.iconst (-1), 1) := by decide +kernel
theorem d_M_tryAll_9 : decode prog_10_method_44_code 9 = .ok (.istore_n 2, 1) := by decide +kernel
theorem d_M_tryAll_10 : decode prog_10_method_44_code 10 = .ok (.iload_n 2, 1) := by decide +kernel
theorem d_M_tryAll_11 : decode prog_10_method_44_code 11 = .ok (.bipush 6, 2) := by decide +kernel
theorem d_M_tryAll_13 : decode prog_10_method_44_code 13 = .ok (.if_icmp .ge 47, 3) := by decide +kernel
theorem d_M_tryAll_60 : decode prog_10_method_44_code 60 = .ok (.iinc 1 1, 3) := by decide +kernel
theorem d_M_tryAll_63 : decode prog_10_method_44_code 63 = .ok (.goto (-61), 3) := by decide +kernel
theorem d_M_tryAll_16 : decode prog_10_method_44_code 16 = .ok (.iconst (-1), 1) := by decide +kernel
theorem d_M_tryAll_17 : decode prog_10_method_44_code 17 = .ok (.istore_n 3, 1) := by decide +kernel
theorem d_M_tryAll_18 : decode prog_10_method_44_code 18 = .ok (.iload_n 3, 1) := by decide +kernel
theorem d_M_tryAll_19 : decode prog_10_method_44_code 19 = .ok (.bipush 6, 2) := by decide +kernel
theorem d_M_tryAll_21 : decode prog_10_method_44_code 21 = .ok (.if_icmp .ge 33, 3) := by decide +kernel
theorem d_M_tryAll_54 : decode prog_10_method_44_code 54 = .ok (.iinc 2 1, 3) := by decide +kernel
theorem d_M_tryAll_57 : decode prog_10_method_44_code 57 = .ok (.goto (-47), 3) := by decide +kernel
theorem d_M_tryAll_24 : decode prog_10_method_44_code 24 = .ok (.aload_n 0, 1) := by decide +kernel
theorem d_M_tryAll_25 : decode prog_10_method_44_code 25 = .ok (.getfield 187, 3) := by decide +kernel
theorem d_M_tryAll_28 : decode prog_10_method_44_code 28 = .ok (.ifCond .ne 20, 3) := by decide +kernel
theorem d_M_tryAll_48 : decode prog_10_method_44_code 48 = .ok (.iinc 3 1, 3) := by decide +kernel
theorem d_M_tryAll_51 : decode prog_10_method_44_code 51 = .ok (.goto (-33), 3) := by decide +kernel
theorem d_M_tryAll_31 : decode prog_10_method_44_code 31 = .ok (.aload_n 0, 1) := by decide +kernel
theorem d_M_tryAll_32 : decode prog_10_method_44_code 32 = .ok (.iload_n 1, 1) := by decide +kernel
theorem d_M_tryAll_33 : decode prog_10_method_44_code 33 = .ok (.iload_n 2, 1) := by decide +kernel
theorem d_M_tryAll_34 : decode prog_10_method_44_code 34 = .ok (.iload_n 3, 1) := by decide +kernel
theorem d_M_tryAll_35 : decode prog_10_method_44_code 35 = .ok (.invokevirtual 261, 3) := by decide +kernel
theorem d_M_tryAll_38 : decode prog_10_method_44_code 38 = .ok (.ifCond .eq 10, 3) := by decide +kernel
theorem d_M_tryAll_41 : decode prog_10_method_44_code 41 = .ok (.aload_n 0, 1) := by decide +kernel
theorem d_M_tryAll_42 : decode prog_10_method_44_code 42 = .ok (.iload_n 1, 1) := by decide +kernel
theorem d_M_tryAll_43 : decode prog_10_method_44_code 43 = .ok (.iload_n 2, 1) := by decide +kernel
theorem d_M_tryAll_44 : decode prog_10_method_44_code 44 = .ok (.iload_n 3, 1) := by decide +kernel
theorem d_M_tryAll_45 : decode prog_10_method_44_code 45 = .ok (.invokevirtual 275, 3) := by decide +kernel
theorem d_M_finished_0 : decode prog_10_method_45_code 0 = .ok (.aload_n 0, 1) := by decide +kernel
theorem d_M_finished_1 : decode prog_10_method_45_code 1 = .ok (.getfield 187, 3) := by decide +kernel
theorem d_M_finished_4 : decode prog_10_method_45_code 4 = .ok (.ifCond .ne 18, 3) := by decide +kernel
theorem d_M_finished_22 : decode prog_10_method_45_code 22 = .ok (.iconst 0, 1) := by decide +kernel
theorem d_M_finished_23 : decode prog_10_method_45_code 23 = .ok (.ireturn, 1) := by decide +kernel
theorem d_M_finished_7 : decode prog_10_method_45_code 7 = .ok (.aload_n 0, 1) := by decide +kernel
theorem d_M_finished_8 : decode prog_10_method_45_code 8 = .ok (.getfield 184, 3) := by decide +kernel
theorem d_M_finished_11 : decode prog_10_method_45_code 11 = .ok (.aload_n 0, 1) := by decide +kernel
theorem d_M_finished_12 : decode prog_10_method_45_code 12 = .ok (.getfield 181, 3) := by decide +kernel
theorem d_M_finished_15 : decode prog_10_method_45_code 15 = .ok (.if_icmp .ne 7, 3) := by decide +kernel
theorem d_M_finished_18 : decode prog_10_method_45_code 18 = .ok (.iconst 1, 1) := by decide +kernel
theorem d_M_finished_19 : decode prog_10_method_45_code 19 = .ok (.goto 4, 3) := by decide +kernel
theorem d_M_explore_0 : decode prog_10_method_46_code 0 = .ok (.aload_n 0, 1) := by decide +kernel
