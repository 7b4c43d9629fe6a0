theorem d_A_leadsToHope_1 : decode prog_2_method_13_code 1 = .ok (.istore_n 2, 1) := by decide +kernel
theorem d_A_leadsToHope_2 : decode prog_2_method_13_code 2 = .ok (.iload_n 2, 1) := by decide +kernel
theorem d_A_leadsToHope_3 : decode prog_2_method_13_code 3 = .ok (.iconst 3, 1) := by decide +kernel
theorem d_A_leadsToHope_4 : decode prog_2_method_13_code 4 = .ok (.if_icmp .ge 33, 3) := by decide +kernel
theorem d_A_leadsToHope_37 : decode prog_2_method_13_code 37 = .ok (.iconst 0, 1) := by decide +kernel
theorem d_A_leadsToHope_38 : decode prog_2_method_13_code 38 = .ok (.ireturn, 1) := by decide +kernel
theorem d_A_leadsToHope_7 : decode prog_2_method_13_code 7 = .ok (.aload_n 0, 1) := by decide +kernel
theorem d_A_leadsToHope_8 : decode prog_2_method_13_code 8 = .ok (.getfield 28, 3) := by decide +kernel
theorem d_A_leadsToHope_11 : decode prog_2_method_13_code 11 = .ok (.iload_n 1, 1) := by decide +kernel
theorem d_A_leadsToHope_12 : decode prog_2_method_13_code 12 = .ok (.iconst 3, 1) := by decide +kernel
theorem d_A_leadsToHope_13 : decode prog_2_method_13_code 13 = .ok (.imul, 1) := by decide +kernel
theorem d_A_leadsToHope_14 : decode prog_2_method_13_code 14 = .ok (.iload_n 2, 1) := by decide +kernel
theorem d_A_leadsToHope_15 : decode prog_2_method_13_code 15 = .ok (.iadd, 1) := by decide +kernel
theorem d_A_leadsToHope_16 : decode prog_2_method_13_code 16 = .ok (.laload, 1) := by decide +kernel
theorem d_A_leadsToHope_17 : decode prog_2_method_13_code 17 = .ok (.aload_n 0, 1) := by decide +kernel
theorem d_A_leadsToHope_18 : decode prog_2_method_13_code 18 = .ok (.getfield 31, 3) := by decide +kernel
theorem d_A_leadsToHope_21 : decode prog_2_method_13_code 21 = .ok (.iload_n 2, 1) := by decide +kernel
theorem d_A_leadsToHope_22 : decode prog_2_method_13_code 22 = .ok (.laload, 1) := by decide +kernel
theorem d_A_leadsToHope_23 : decode prog_2_method_13_code 23 = .ok (.land, 1) := by decide +kernel
theorem d_A_leadsToHope_24 : decode prog_2_method_13_code 24 = .ok (.lconst 0, 1) := by decide +kernel
theorem d_A_leadsToHope_25 : decode prog_2_method_13_code 25 = .ok (.lcmp, 1) := by decide +kernel
theorem d_A_leadsToHope_26 : decode prog_2_method_13_code 26 = .ok (.ifCond .eq 5, 3) := by decide +kernel
theorem d_A_leadsToHope_31 : decode prog_2_method_13_code 31 = .ok (.iinc 2 1, 3) := by decide +kernel
theorem d_A_leadsToHope_34 : decode prog_2_method_13_code 34 = .ok (.goto (-32), 3) := by decide +kernel
theorem d_A_leadsToHope_29 : decode prog_2_method_13_code 29 = .ok (.iconst 1, 1) := by decide +kernel
theorem d_A_leadsToHope_30 : decode prog_2_method_13_code 30 = .ok (.ireturn, 1) := by decide +kernel
theorem d_A_findHope_0 : decode prog_2_method_11_code 0 = .ok (.aload_n 0, 1) := by decide +kernel
theorem d_A_findHope_1 : decode prog_2_method_11_code 1 = .ok (.getfield 31, 3) := by decide +kernel
theorem d_A_findHope_4 : decode prog_2_method_11_code 4 = .ok (.lconst 0, 1) := by decide +kernel
theorem d_A_findHope_5 : decode prog_2_method_11_code 5 = .ok (.invokestatic 132, 3) := by decide +kernel
theorem d_A_findHope_8 : decode prog_2_method_11_code 8 = .ok (.iconst 1, 1) := by decide +kernel
theorem d_A_findHope_9 : decode prog_2_method_11_code 9 = .ok (.istore_n 2, 1) := by decide +kernel
theorem d_A_findHope_10 : decode prog_2_method_11_code 10 = .ok (.iconst 0, 1) := by decide +kernel
theorem d_A_findHope_11 : decode prog_2_method_11_code 11 = .ok (.istore_n 3, 1) := by decide +kernel
theorem d_A_findHope_12 : decode prog_2_method_11_code 12 = .ok (.iload_n 3, 1) := by decide +kernel
theorem d_A_findHope_13 : decode prog_2_method_11_code 13 = .ok (.sipush 160, 3) := by decide +kernel
theorem d_A_findHope_16 : decode prog_2_method_11_code 16 = .ok (.if_icmp .gt 74, 3) := by decide +kernel
theorem d_A_findHope_90 : decode prog_2_method_11_code 90 = .ok (.return_, 1) := by decide +kernel
theorem d_A_findHope_19 : decode prog_2_method_11_code 19 = .ok (.iload_n 2, 1) := by decide +kernel
theorem d_A_findHope_20 : decode prog_2_method_11_code 20 = .ok (.ifCond .eq 70, 3) := by decide +kernel
theorem d_A_findHope_23 : decode prog_2_method_11_code 23 = .ok (.iconst 0, 1) := by decide +kernel
theorem d_A_findHope_24 : decode prog_2_method_11_code 24 = .ok (.istore_n 2, 1) := by decide +kernel
theorem d_A_findHope_25 : decode prog_2_method_11_code 25 = .ok (.aload_n 0, 1) := by decide +kernel
theorem d_A_findHope_26 : decode prog_2_method_11_code 26 = .ok (.getfield 34, 3) := by decide +kernel
theorem d_A_findHope_29 : decode prog_2_method_11_code 29 = .ok (.iconst 1, 1) := by decide +kernel
theorem d_A_findHope_30 : decode prog_2_method_11_code 30 = .ok (.isub, 1) := by decide +kernel
theorem d_A_findHope_31 : decode prog_2_method_11_code 31 = .ok (.istore 4, 2) := by decide +kernel
theorem d_A_findHope_33 : decode prog_2_method_11_code 33 = .ok (.iload 4, 2) := by decide +kernel
theorem d_A_findHope_35 : decode prog_2_method_11_code 35 = .ok (.ifCond .lt 49, 3) := by decide +kernel
theorem d_A_findHope_84 : decode prog_2_method_11_code 84 = .ok (.iinc 3 1, 3) := by decide +kernel
theorem d_A_findHope_87 : decode prog_2_method_11_code 87 = .ok (.goto (-75), 3) := by decide +kernel
theorem d_A_findHope_38 : decode prog_2_method_11_code 38 = .ok (.aload_n 0, 1) := by decide +kernel
theorem d_A_findHope_39 : decode prog_2_method_11_code 39 = .ok (.iload 4, 2) := by decide +kernel
theorem d_A_findHope_41 : decode prog_2_method_11_code 41 = .ok (.invokevirtual 135, 3) := by decide +kernel
theorem d_A_findHope_44 : decode prog_2_method_11_code 44 = .ok (.ifCond .ne 34, 3) := by decide +kernel
theorem d_A_findHope_78 : decode prog_2_method_11_code 78 = .ok (.iinc 4 (-1), 3) := by decide +kernel
theorem d_A_findHope_81 : decode prog_2_method_11_code 81 = .ok (.goto (-48), 3) := by decide +kernel
theorem d_A_findHope_47 : decode prog_2_method_11_code 47 = .ok (.aload_n 0, 1) := by decide +kernel
theorem d_A_findHope_48 : decode prog_2_method_11_code 48 = .ok (.iload 4, 2) := by decide +kernel
theorem d_A_findHope_50 : decode prog_2_method_11_code 50 = .ok (.aload_n 1, 1) := by decide +kernel
theorem d_A_findHope_51 : decode prog_2_method_11_code 51 = .ok (.invokevirtual 139, 3) := by decide +kernel
theorem d_A_findHope_54 : decode prog_2_method_11_code 54 = .ok (.ifCond .ne 12, 3) := by decide +kernel
theorem d_A_findHope_57 : decode prog_2_method_11_code 57 = .ok (.aload_n 0, 1) := by decide +kernel
theorem d_A_findHope_58 : decode prog_2_method_11_code 58 = .ok (.iload 4, 2) := by decide +kernel
theorem d_A_findHope_60 : decode prog_2_method_11_code 60 = .ok (.invokevirtual 143, 3) := by decide +kernel
theorem d_A_findHope_63 : decode prog_2_method_11_code 63 = .ok (.ifCond .eq 15, 3) := by decide +kernel
theorem d_A_findHope_66 : decode prog_2_method_11_code 66 = .ok (.aload_n 0, 1) := by decide +kernel
theorem d_A_findHope_67 : decode prog_2_method_11_code 67 = .ok (.getfield 31, 3) := by decide +kernel
theorem d_A_findHope_70 : decode prog_2_method_11_code 70 = .ok (.iconst 0, 1) := by decide +kernel
theorem d_A_findHope_71 : decode prog_2_method_11_code 71 = .ok (.iload 4, 2) := by decide +kernel
theorem d_A_findHope_73 : decode prog_2_method_11_code 73 = .ok (.invokestatic 126, 3) := by decide +kernel
theorem d_A_findHope_76 : decode prog_2_method_11_code 76 = .ok (.iconst 1, 1) := by decide +kernel
theorem d_A_findHope_77 : decode prog_2_method_11_code 77 = .ok (.istore_n 2, 1) := by decide +kernel
theorem d_A_goThroughNext_0 : decode prog_2_method_7_code 0 = .ok (.aload_n 0, 1) := by decide +kernel
theorem d_A_goThroughNext_1 : decode prog_2_method_7_code 1 = .ok (.invokevirtual 85, 3) := by decide +kernel
theorem d_A_goThroughNext_4 : decode prog_2_method_7_code 4 = .ok (.ifCond .ne 4, 3) := by decide +kernel
theorem d_A_goThroughNext_8 : decode prog_2_method_7_code 8 = .ok (.aload_n 0, 1) := by decide +kernel
theorem d_A_goThroughNext_9 : decode prog_2_method_7_code 9 = .ok (.getfield 15, 3) := by decide +kernel
theorem d_A_goThroughNext_12 : decode prog_2_method_7_code 12 = .ok (.aload_n 0, 1) := by decide +kernel
theorem d_A_goThroughNext_13 : decode prog_2_method_7_code 13 = .ok (.getfield 38, 3) := by decide +kernel
theorem d_A_goThroughNext_16 : decode prog_2_method_7_code 16 = .ok (.laload, 1) := by decide +kernel
theorem d_A_goThroughNext_17 : decode prog_2_method_7_code 17 = .ok (.lstore_n 2, 1) := by decide +kernel
theorem d_A_goThroughNext_18 : decode prog_2_method_7_code 18 = .ok (.lload_n 2, 1) := by decide +kernel
theorem d_A_goThroughNext_19 : decode prog_2_method_7_code 19 = .ok (.invokestatic 89, 3) := by decide +kernel
theorem d_A_goThroughNext_22 : decode prog_2_method_7_code 22 = .ok (.ifCond .eq 7, 3) := by decide +kernel
theorem d_A_goThroughNext_29 : decode prog_2_method_7_code 29 = .ok (.aload_n 0, 1) := by decide +kernel
theorem d_A_goThroughNext_30 : decode prog_2_method_7_code 30 = .ok (.getfield 72, 3) := by decide +kernel
theorem d_A_goThroughNext_25 : decode prog_2_method_7_code 25 = .ok (.iconst 0, 1) := by decide +kernel
theorem d_A_goThroughNext_26 : decode prog_2_method_7_code 26 = .ok (.goto 7, 3) := by decide +kernel
theorem d_A_goThroughNext_7 : decode prog_2_method_7_code 7 = .ok (.return_, 1) := by decide +kernel
theorem d_A_goThroughNext_33 : decode prog_2_method_7_code 33 = .ok (.istore 4, 2) := by decide +kernel
theorem d_A_goThroughNext_35 : decode prog_2_method_7_code 35 = .ok (.iconst 0, 1) := by decide +kernel
theorem d_A_goThroughNext_36 : decode prog_2_method_7_code 36 = .ok (.istore 5, 2) := by decide +kernel
theorem d_A_goThroughNext_38 : decode prog_2_method_7_code 38 = .ok (.iload 5, 2) := by decide +kernel
theorem d_A_goThroughNext_40 : decode prog_2_method_7_code 40 = .ok (.iload 4, 2) := by decide +kernel
theorem d_A_goThroughNext_42 : decode prog_2_method_7_code 42 = .ok (.if_icmp .ge 68, 3) := by decide +kernel
theorem d_A_goThroughNext_45 : decode prog_2_method_7_code 45 = .ok (.aload_n 0, 1) := by decide +kernel
theorem d_A_goThroughNext_46 : decode prog_2_method_7_code 46 = .ok (.getfield 41, 3) := by decide +kernel
theorem d_A_goThroughNext_49 : decode prog_2_method_7_code 49 = .ok (.ifCond .ne 61, 3) := by decide +kernel
theorem d_A_goThroughNext_52 : decode prog_2_method_7_code 52 = .ok (.aload_n 0, 1) := by decide +kernel
theorem d_A_goThroughNext_53 : decode prog_2_method_7_code 53 = .ok (.getfield 11, 3) := by decide +kernel
theorem d_A_goThroughNext_56 : decode prog_2_method_7_code 56 = .ok (.iload 5, 2) := by decide +kernel
theorem d_A_goThroughNext_58 : decode prog_2_method_7_code 58 = .ok (.iaload, 1) := by decide +kernel
theorem d_A_goThroughNext_59 : decode prog_2_method_7_code 59 = .ok (.istore 6, 2) := by decide +kernel
theorem d_A_goThroughNext_61 : decode prog_2_method_7_code 61 = .ok (.aload_n 1, 1) := by decide +kernel
theorem d_A_goThroughNext_62 : decode prog_2_method_7_code 62 = .ok (.lload_n 2, 1) := by decide +kernel
theorem d_A_goThroughNext_63 : decode prog_2_method_7_code 63 = .ok (.iload 6, 2) := by decide +kernel
theorem d_A_goThroughNext_65 : decode prog_2_method_7_code 65 = .ok (.invokestatic 95, 3) := by decide +kernel
theorem d_A_goThroughNext_68 : decode prog_2_method_7_code 68 = .ok (.iload 6, 2) := by decide +kernel
theorem d_A_goThroughNext_70 : decode prog_2_method_7_code 70 = .ok (.invokestatic 99, 3) := by decide +kernel
theorem d_A_goThroughNext_73 : decode prog_2_method_7_code 73 = .ok (.iload 6, 2) := by decide +kernel
theorem d_A_goThroughNext_75 : decode prog_2_method_7_code 75 = .ok (.invokestatic 102, 3) := by decide +kernel
theorem d_A_goThroughNext_78 : decode prog_2_method_7_code 78 = .ok (.invokevirtual 105, 3) := by decide +kernel
theorem d_A_goThroughNext_81 : decode prog_2_method_7_code 81 = .ok (.lstore 7, 2) := by decide +kernel
theorem d_A_goThroughNext_83 : decode prog_2_method_7_code 83 = .ok (.aload_n 0, 1) := by decide +kernel
theorem d_A_goThroughNext_84 : decode prog_2_method_7_code 84 = .ok (.dup, 1) := by decide +kernel
theorem d_A_goThroughNext_85 : decode prog_2_method_7_code 85 = .ok (.getfield 45, 3) := by decide +kernel
theorem d_A_goThroughNext_88 : decode prog_2_method_7_code 88 = .ok (.aload_n 1, 1) := by decide +kernel
theorem d_A_goThroughNext_89 : decode prog_2_method_7_code 89 = .ok (.getfield 111, 3) := by decide +kernel
theorem d_A_goThroughNext_92 : decode prog_2_method_7_code 92 = .ok (.ior, 1) := by decide +kernel
theorem d_A_goThroughNext_93 : decode prog_2_method_7_code 93 = .ok (.putfield 45, 3) := by decide +kernel
theorem d_A_goThroughNext_96 : decode prog_2_method_7_code 96 = .ok (.aload_n 0, 1) := by decide +kernel
theorem d_A_goThroughNext_97 : decode prog_2_method_7_code 97 = .ok (.lload 7, 2) := by decide +kernel
theorem d_A_goThroughNext_99 : decode prog_2_method_7_code 99 = .ok (.iload 6, 2) := by decide +kernel
theorem d_A_goThroughNext_101 : decode prog_2_method_7_code 101 = .ok (.invokevirtual 112, 3) := by decide +kernel
theorem d_A_goThroughNext_104 : decode prog_2_method_7_code 104 = .ok (.iinc 5 1, 3) := by decide +kernel
theorem d_A_goThroughNext_107 : decode prog_2_method_7_code 107 = .ok (.goto (-69), 3) := by decide +kernel
theorem d_A_goThroughNext_110 : decode prog_2_method_7_code 110 = .ok (.aload_n 0, 1) := by decide +kernel
theorem d_A_goThroughNext_111 : decode prog_2_method_7_code 111 = .ok (.getfield 41, 3) := by decide +kernel
theorem d_A_goThroughNext_114 : decode prog_2_method_7_code 114 = .ok (.ifCond .ne 13, 3) := by decide +kernel
theorem d_A_goThroughNext_127 : decode prog_2_method_7_code 127 = .ok (.aload_n 0, 1) := by decide +kernel
theorem d_A_goThroughNext_128 : decode prog_2_method_7_code 128 = .ok (.invokevirtual 116, 3) := by decide +kernel
theorem d_A_goThroughNext_131 : decode prog_2_method_7_code 131 = .ok (.ifCond .eq 11, 3) := by decide +kernel
theorem d_A_goThroughNext_142 : decode prog_2_method_7_code 142 = .ok (.return_, 1) := by decide +kernel
theorem d_A_goThroughNext_134 : decode prog_2_method_7_code 134 = .ok (.aload_n 0, 1) := by decide +kernel
theorem d_A_goThroughNext_135 : decode prog_2_method_7_code 135 = .ok (.aload_n 1, 1) := by decide +kernel
theorem d_A_goThroughNext_136 : decode prog_2_method_7_code 136 = .ok (.getfield 119, 3) := by decide +kernel
theorem d_A_goThroughNext_139 : decode prog_2_method_7_code 139 = .ok (.invokevirtual 123, 3) := by decide +kernel
theorem d_A_goThroughNext_117 : decode prog_2_method_7_code 117 = .ok (.aload_n 0, 1) := by decide +kernel
theorem d_A_goThroughNext_118 : decode prog_2_method_7_code 118 = .ok (.dup, 1) := by decide +kernel
theorem d_A_goThroughNext_119 : decode prog_2_method_7_code 119 = .ok (.getfield 38, 3) := by decide +kernel
theorem d_A_goThroughNext_122 : decode prog_2_method_7_code 122 = .ok (.iconst 1, 1) := by decide +kernel
theorem d_A_goThroughNext_123 : decode prog_2_method_7_code 123 = .ok (.iadd, 1) := by decide +kernel
theorem d_A_goThroughNext_124 : decode prog_2_method_7_code 124 = .ok (.putfield 38, 3) := by decide +kernel
theorem d_A_isHopeless_0 : decode prog_2_method_16_code 0 = .ok (.aload_n 0, 1) := by decide +kernel
theorem d_A_isHopeless_1 : decode prog_2_method_16_code 1 = .ok (.getfield 25, 3) := by decide +kernel
theorem d_A_isHopeless_4 : decode prog_2_method_16_code 4 = .ok (.aload_n 0, 1) := by decide +kernel
theorem d_A_isHopeless_5 : decode prog_2_method_16_code 5 = .ok (.lload_n 1, 1) := by decide +kernel
theorem d_A_isHopeless_6 : decode prog_2_method_16_code 6 = .ok (.invokevirtual 64, 3) := by decide +kernel
theorem d_A_isHopeless_9 : decode prog_2_method_16_code 9 = .ok (.iaload, 1) := by decide +kernel
theorem d_A_isHopeless_10 : decode prog_2_method_16_code 10 = .ok (.iconst 1, 1) := by decide +kernel
theorem d_A_isHopeless_11 : decode prog_2_method_16_code 11 = .ok (.isub, 1) := by decide +kernel
theorem d_A_isHopeless_12 : decode prog_2_method_16_code 12 = .ok (.istore_n 3, 1) := by decide +kernel
theorem d_A_isHopeless_13 : decode prog_2_method_16_code 13 = .ok (.iload_n 3, 1) := by decide +kernel
theorem d_A_isHopeless_14 : decode prog_2_method_16_code 14 = .ok (.iconst (-1), 1) := by decide +kernel
theorem d_A_isHopeless_15 : decode prog_2_method_16_code 15 = .ok (.if_icmp .eq 11, 3) := by decide +kernel
theorem d_A_isHopeless_26 : decode prog_2_method_16_code 26 = .ok (.iconst 1, 1) := by decide +kernel
theorem d_A_isHopeless_27 : decode prog_2_method_16_code 27 = .ok (.goto 4, 3) := by decide +kernel
theorem d_A_isHopeless_31 : decode prog_2_method_16_code 31 = .ok (.ireturn, 1) := by decide +kernel
theorem d_A_isHopeless_18 : decode prog_2_method_16_code 18 = .ok (.aload_n 0, 1) := by decide +kernel
theorem d_A_isHopeless_19 : decode prog_2_method_16_code 19 = .ok (.iload_n 3, 1) := by decide +kernel
theorem d_A_isHopeless_20 : decode prog_2_method_16_code 20 = .ok (.invokevirtual 135, 3) := by decide +kernel
theorem d_A_isHopeless_23 : decode prog_2_method_16_code 23 = .ok (.ifCond .ne 7, 3) := by decide +kernel
theorem d_A_isHopeless_30 : decode prog_2_method_16_code 30 = .ok (.iconst 0, 1) := by decide +kernel
theorem d_A_leadsOnlyToItself_0 : decode prog_2_method_18_code 0 = .ok (.iconst 0, 1) := by decide +kernel
theorem d_A_leadsOnlyToItself_1 : decode prog_2_method_18_code 1 = .ok (.istore_n 2, 1) := by decide +kernel
theorem d_A_leadsOnlyToItself_2 : decode prog_2_method_18_code 2 = .ok (.iload_n 2, 1) := by decide +kernel
theorem d_A_leadsOnlyToItself_3 : decode prog_2_method_18_code 3 = .ok (.iconst 3, 1) := by decide +kernel
theorem d_A_leadsOnlyToItself_4 : decode prog_2_method_18_code 4 = .ok (.if_icmp .ge 45, 3) := by decide +kernel
theorem d_A_leadsOnlyToItself_49 : decode prog_2_method_18_code 49 = .ok (.iconst 1, 1) := by decide +kernel
theorem d_A_leadsOnlyToItself_50 : decode prog_2_method_18_code 50 = .ok (.ireturn, 1) := by decide +kernel
theorem d_A_leadsOnlyToItself_7 : decode prog_2_method_18_code 7 = .ok (.iload_n 2, 1) := by decide +kernel
theorem d_A_leadsOnlyToItself_8 : decode prog_2_method_18_code 8 = .ok (.iload_n 1, 1) := by decide +kernel
theorem d_A_leadsOnlyToItself_9 : decode prog_2_method_18_code 9 = .ok (.bipush 64, 2) := by decide +kernel
theorem d_A_leadsOnlyToItself_11 : decode prog_2_method_18_code 11 = .ok (.idiv, 1) := by decide +kernel
theorem d_A_leadsOnlyToItself_12 : decode prog_2_method_18_code 12 = .ok (.if_icmp .ne 12, 3) := by decide +kernel
theorem d_A_leadsOnlyToItself_24 : decode prog_2_method_18_code 24 = .ok (.lconst 0, 1) := by decide +kernel
theorem d_A_leadsOnlyToItself_15 : decode prog_2_method_18_code 15 = .ok (.lconst 1, 1) := by decide +kernel
theorem d_A_leadsOnlyToItself_16 : decode prog_2_method_18_code 16 = .ok (.iload_n 1, 1) := by decide +kernel
theorem d_A_leadsOnlyToItself_17 : decode prog_2_method_18_code 17 = .ok (.bipush 64, 2) := by decide +kernel
theorem d_A_leadsOnlyToItself_19 : decode prog_2_method_18_code 19 = .ok (.irem, 1) := by decide +kernel
theorem d_A_leadsOnlyToItself_20 : decode prog_2_method_18_code 20 = .ok (.lshl, 1) := by decide +kernel
theorem d_A_leadsOnlyToItself_21 : decode prog_2_method_18_code 21 = .ok (.goto 4, 3) := by decide +kernel
theorem d_A_leadsOnlyToItself_25 : decode prog_2_method_18_code 25 = .ok (.lstore_n 3, 1) := by decide +kernel
theorem d_A_leadsOnlyToItself_26 : decode prog_2_method_18_code 26 = .ok (.aload_n 0, 1) := by decide +kernel
theorem d_A_leadsOnlyToItself_27 : decode prog_2_method_18_code 27 = .ok (.getfield 28, 3) := by decide +kernel
theorem d_A_leadsOnlyToItself_30 : decode prog_2_method_18_code 30 = .ok (.iload_n 1, 1) := by decide +kernel
theorem d_A_leadsOnlyToItself_31 : decode prog_2_method_18_code 31 = .ok (.iconst 3, 1) := by decide +kernel
theorem d_A_leadsOnlyToItself_32 : decode prog_2_method_18_code 32 = .ok (.imul, 1) := by decide +kernel
theorem d_A_leadsOnlyToItself_33 : decode prog_2_method_18_code 33 = .ok (.iload_n 2, 1) := by decide +kernel
theorem d_A_leadsOnlyToItself_34 : decode prog_2_method_18_code 34 = .ok (.iadd, 1) := by decide +kernel
theorem d_A_leadsOnlyToItself_35 : decode prog_2_method_18_code 35 = .ok (.laload, 1) := by decide +kernel
theorem d_A_leadsOnlyToItself_36 : decode prog_2_method_18_code 36 = .ok (.lload_n 3, 1) := by decide +kernel
theorem d_A_leadsOnlyToItself_37 : decode prog_2_method_18_code 37 = .ok (.lcmp, 1) := by decide +kernel
theorem d_A_leadsOnlyToItself_38 : decode prog_2_method_18_code 38 = .ok (.ifCond .eq 5, 3) := by decide +kernel
theorem d_A_leadsOnlyToItself_43 : decode prog_2_method_18_code 43 = .ok (.iinc 2 1, 3) := by decide +kernel
theorem d_A_leadsOnlyToItself_46 : decode prog_2_method_18_code 46 = .ok (.goto (-44), 3) := by decide +kernel
theorem d_A_leadsOnlyToItself_41 : decode prog_2_method_18_code 41 = .ok (.iconst 0, 1) := by decide +kernel
theorem d_A_leadsOnlyToItself_42 : decode prog_2_method_18_code 42 = .ok (.ireturn, 1) := by decide +kernel
theorem d_A_countStuck_0 : decode prog_2_method_17_code 0 = .ok (.iconst 0, 1) := by decide +kernel
theorem d_A_countStuck_1 : decode prog_2_method_17_code 1 = .ok (.istore_n 1, 1) := by decide +kernel
theorem d_A_countStuck_2 : decode prog_2_method_17_code 2 = .ok (.iconst 0, 1) := by decide +kernel
theorem d_A_countStuck_3 : decode prog_2_method_17_code 3 = .ok (.istore_n 2, 1) := by decide +kernel
theorem d_A_countStuck_4 : decode prog_2_method_17_code 4 = .ok (.iload_n 2, 1) := by decide +kernel
theorem d_A_countStuck_5 : decode prog_2_method_17_code 5 = .ok (.aload_n 0, 1) := by decide +kernel
theorem d_A_countStuck_6 : decode prog_2_method_17_code 6 = .ok (.getfield 34, 3) := by decide +kernel
theorem d_A_countStuck_9 : decode prog_2_method_17_code 9 = .ok (.if_icmp .ge 32, 3) := by decide +kernel
theorem d_A_countStuck_41 : decode prog_2_method_17_code 41 = .ok (.iload_n 1, 1) := by decide +kernel
theorem d_A_countStuck_42 : decode prog_2_method_17_code 42 = .ok (.ireturn, 1) := by decide +kernel
theorem d_A_countStuck_12 : decode prog_2_method_17_code 12 = .ok (.aload_n 0, 1) := by decide +kernel
theorem d_A_countStuck_13 : decode prog_2_method_17_code 13 = .ok (.getfield 15, 3) := by decide +kernel
theorem d_A_countStuck_16 : decode prog_2_method_17_code 16 = .ok (.iload_n 2, 1) := by decide +kernel
theorem d_A_countStuck_17 : decode prog_2_method_17_code 17 = .ok (.laload, 1) := by decide +kernel
theorem d_A_countStuck_18 : decode prog_2_method_17_code 18 = .ok (.invokestatic 89, 3) := by decide +kernel
theorem d_A_countStuck_21 : decode prog_2_method_17_code 21 = .ok (.ifCond .ne 14, 3) := by decide +kernel
theorem d_A_countStuck_35 : decode prog_2_method_17_code 35 = .ok (.iinc 2 1, 3) := by decide +kernel
theorem d_A_countStuck_38 : decode prog_2_method_17_code 38 = .ok (.goto (-34), 3) := by decide +kernel
theorem d_A_countStuck_24 : decode prog_2_method_17_code 24 = .ok (.aload_n 0, 1) := by decide +kernel
theorem d_A_countStuck_25 : decode prog_2_method_17_code 25 = .ok (.iload_n 2, 1) := by decide +kernel
theorem d_A_countStuck_26 : decode prog_2_method_17_code 26 = .ok (.invokevirtual 156, 3) := by decide +kernel
theorem d_A_countStuck_29 : decode prog_2_method_17_code 29 = .ok (.ifCond .eq 6, 3) := by decide +kernel
theorem d_A_countStuck_32 : decode prog_2_method_17_code 32 = .ok (.iinc 1 1, 3) := by decide +kernel
theorem d_A_idleRule_0 : decode prog_2_method_19_code 0 = .ok (.iconst 0, 1) := by decide +kernel
theorem d_A_idleRule_1 : decode prog_2_method_19_code 1 = .ok (.istore_n 3, 1) := by decide +kernel
theorem d_A_idleRule_2 : decode prog_2_method_19_code 2 = .ok (.iconst 0, 1) := by decide +kernel
theorem d_A_idleRule_3 : decode prog_2_method_19_code 3 = .ok (.istore 4, 2) := by decide +kernel
theorem d_A_idleRule_5 : decode prog_2_method_19_code 5 = .ok (.iload 4, 2) := by decide +kernel
theorem d_A_idleRule_7 : decode prog_2_method_19_code 7 = .ok (.iload_n 2, 1) := by decide +kernel
theorem d_A_idleRule_8 : decode prog_2_method_19_code 8 = .ok (.if_icmp .ge 32, 3) := by decide +kernel
theorem d_A_idleRule_40 : decode prog_2_method_19_code 40 = .ok (.iconst (-1), 1) := by decide +kernel
theorem d_A_idleRule_41 : decode prog_2_method_19_code 41 = .ok (.ireturn, 1) := by decide +kernel
theorem d_A_idleRule_11 : decode prog_2_method_19_code 11 = .ok (.aload_n 0, 1) := by decide +kernel
theorem d_A_idleRule_12 : decode prog_2_method_19_code 12 = .ok (.getfield 45, 3) := by decide +kernel
theorem d_A_idleRule_15 : decode prog_2_method_19_code 15 = .ok (.iload 4, 2) := by decide +kernel
theorem d_A_idleRule_17 : decode prog_2_method_19_code 17 = .ok (.ishr, 1) := by decide +kernel
theorem d_A_idleRule_18 : decode prog_2_method_19_code 18 = .ok (.iconst 1, 1) := by decide +kernel
theorem d_A_idleRule_19 : decode prog_2_method_19_code 19 = .ok (.iand, 1) := by decide +kernel
theorem d_A_idleRule_20 : decode prog_2_method_19_code 20 = .ok (.ifCond .ne 14, 3) := by decide +kernel
theorem d_A_idleRule_34 : decode prog_2_method_19_code 34 = .ok (.iinc 4 1, 3) := by decide +kernel
theorem d_A_idleRule_37 : decode prog_2_method_19_code 37 = .ok (.goto (-32), 3) := by decide +kernel
theorem d_A_idleRule_23 : decode prog_2_method_19_code 23 = .ok (.iload_n 3, 1) := by decide +kernel
theorem d_A_idleRule_24 : decode prog_2_method_19_code 24 = .ok (.iload_n 1, 1) := by decide +kernel
theorem d_A_idleRule_25 : decode prog_2_method_19_code 25 = .ok (.if_icmp .ne 6, 3) := by decide +kernel
theorem d_A_idleRule_31 : decode prog_2_method_19_code 31 = .ok (.iinc 3 1, 3) := by decide +kernel
theorem d_A_idleRule_28 : decode prog_2_method_19_code 28 = .ok (.iload 4, 2) := by decide +kernel
theorem d_A_idleRule_30 : decode prog_2_method_19_code 30 = .ok (.ireturn, 1) := by decide +kernel
theorem d_A_firstOverWith_0 : decode prog_2_method_20_code 0 = .ok (.iconst 0, 1) := by decide +kernel
theorem d_A_firstOverWith_1 : decode prog_2_method_20_code 1 = .ok (.istore_n 2, 1) := by decide +kernel
theorem d_A_firstOverWith_2 : decode prog_2_method_20_code 2 = .ok (.iload_n 2, 1) := by decide +kernel
theorem d_A_firstOverWith_3 : decode prog_2_method_20_code 3 = .ok (.aload_n 0, 1) := by decide +kernel
theorem d_A_firstOverWith_4 : decode prog_2_method_20_code 4 = .ok (.getfield 34, 3) := by decide +kernel
theorem d_A_firstOverWith_7 : decode prog_2_method_20_code 7 = .ok (.if_icmp .ge 24, 3) := by decide +kernel
theorem d_A_firstOverWith_31 : decode prog_2_method_20_code 31 = .ok (.iconst (-1), 1) := by decide +kernel
theorem d_A_firstOverWith_32 : decode prog_2_method_20_code 32 = .ok (.ireturn, 1) := by decide +kernel
theorem d_A_firstOverWith_10 : decode prog_2_method_20_code 10 = .ok (.aload_n 0, 1) := by decide +kernel
theorem d_A_firstOverWith_11 : decode prog_2_method_20_code 11 = .ok (.getfield 15, 3) := by decide +kernel
theorem d_A_firstOverWith_14 : decode prog_2_method_20_code 14 = .ok (.iload_n 2, 1) := by decide +kernel
theorem d_A_firstOverWith_15 : decode prog_2_method_20_code 15 = .ok (.laload, 1) := by decide +kernel
theorem d_A_firstOverWith_16 : decode prog_2_method_20_code 16 = .ok (.invokestatic 146, 3) := by decide +kernel
theorem d_A_firstOverWith_19 : decode prog_2_method_20_code 19 = .ok (.iload_n 1, 1) := by decide +kernel
theorem d_A_firstOverWith_20 : decode prog_2_method_20_code 20 = .ok (.if_icmp .ne 5, 3) := by decide +kernel
theorem d_A_firstOverWith_25 : decode prog_2_method_20_code 25 = .ok (.iinc 2 1, 3) := by decide +kernel
theorem d_A_firstOverWith_28 : decode prog_2_method_20_code 28 = .ok (.goto (-26), 3) := by decide +kernel
theorem d_A_firstOverWith_23 : decode prog_2_method_20_code 23 = .ok (.iload_n 2, 1) := by decide +kernel
theorem d_A_firstOverWith_24 : decode prog_2_method_20_code 24 = .ok (.ireturn, 1) := by decide +kernel
theorem d_A_depthOf_0 : decode prog_2_method_21_code 0 = .ok (.iconst 0, 1) := by decide +kernel
theorem d_A_depthOf_1 : decode prog_2_method_21_code 1 = .ok (.istore_n 2, 1) := by decide +kernel
theorem d_A_depthOf_2 : decode prog_2_method_21_code 2 = .ok (.iload_n 1, 1) := by decide +kernel
theorem d_A_depthOf_3 : decode prog_2_method_21_code 3 = .ok (.istore_n 3, 1) := by decide +kernel
theorem d_A_depthOf_4 : decode prog_2_method_21_code 4 = .ok (.iload_n 3, 1) := by decide +kernel
theorem d_A_depthOf_5 : decode prog_2_method_21_code 5 = .ok (.ifCond .le 23, 3) := by decide +kernel
theorem d_A_depthOf_28 : decode prog_2_method_21_code 28 = .ok (.iload_n 2, 1) := by decide +kernel
theorem d_A_depthOf_29 : decode prog_2_method_21_code 29 = .ok (.ireturn, 1) := by decide +kernel
theorem d_A_depthOf_8 : decode prog_2_method_21_code 8 = .ok (.iload_n 2, 1) := by decide +kernel
theorem d_A_depthOf_9 : decode prog_2_method_21_code 9 = .ok (.sipush 160, 3) := by decide +kernel
theorem d_A_depthOf_12 : decode prog_2_method_21_code 12 = .ok (.if_icmp .ge 16, 3) := by decide +kernel
theorem d_A_depthOf_15 : decode prog_2_method_21_code 15 = .ok (.iinc 2 1, 3) := by decide +kernel
theorem d_A_depthOf_18 : decode prog_2_method_21_code 18 = .ok (.aload_n 0, 1) := by decide +kernel
theorem d_A_depthOf_19 : decode prog_2_method_21_code 19 = .ok (.getfield 19, 3) := by decide +kernel
theorem d_A_depthOf_22 : decode prog_2_method_21_code 22 = .ok (.iload_n 3, 1) := by decide +kernel
theorem d_A_depthOf_23 : decode prog_2_method_21_code 23 = .ok (.iaload, 1) := by decide +kernel
theorem d_A_depthOf_24 : decode prog_2_method_21_code 24 = .ok (.istore_n 3, 1) := by decide +kernel
theorem d_A_depthOf_25 : decode prog_2_method_21_code 25 = .ok (.goto (-21), 3) := by decide +kernel
theorem d_A_codeOnWay_0 : decode prog_2_method_22_code 0 = .ok (.iload_n 1, 1) := by decide +kernel
theorem d_A_codeOnWay_1 : decode prog_2_method_22_code 1 = .ok (.istore_n 3, 1) := by decide +kernel
theorem d_A_codeOnWay_2 : decode prog_2_method_22_code 2 = .ok (.aload_n 0, 1) := by decide +kernel
theorem d_A_codeOnWay_3 : decode prog_2_method_22_code 3 = .ok (.iload_n 1, 1) := by decide +kernel
theorem d_A_codeOnWay_4 : decode prog_2_method_22_code 4 = .ok (.invokevirtual 159, 3) := by decide +kernel
theorem d_A_codeOnWay_7 : decode prog_2_method_22_code 7 = .ok (.iconst 1, 1) := by decide +kernel
theorem d_A_codeOnWay_8 : decode prog_2_method_22_code 8 = .ok (.isub, 1) := by decide +kernel
theorem d_A_codeOnWay_9 : decode prog_2_method_22_code 9 = .ok (.istore 4, 2) := by decide +kernel
theorem d_A_codeOnWay_11 : decode prog_2_method_22_code 11 = .ok (.iload 4, 2) := by decide +kernel
theorem d_A_codeOnWay_13 : decode prog_2_method_22_code 13 = .ok (.iload_n 2, 1) := by decide +kernel
theorem d_A_codeOnWay_14 : decode prog_2_method_22_code 14 = .ok (.if_icmp .le 16, 3) := by decide +kernel
theorem d_A_codeOnWay_30 : decode prog_2_method_22_code 30 = .ok (.aload_n 0, 1) := by decide +kernel
theorem d_A_codeOnWay_31 : decode prog_2_method_22_code 31 = .ok (.getfield 22, 3) := by decide +kernel
theorem d_A_codeOnWay_34 : decode prog_2_method_22_code 34 = .ok (.iload_n 3, 1) := by decide +kernel
theorem d_A_codeOnWay_35 : decode prog_2_method_22_code 35 = .ok (.iaload, 1) := by decide +kernel
theorem d_A_codeOnWay_36 : decode prog_2_method_22_code 36 = .ok (.ireturn, 1) := by decide +kernel
theorem d_A_codeOnWay_17 : decode prog_2_method_22_code 17 = .ok (.aload_n 0, 1) := by decide +kernel
theorem d_A_codeOnWay_18 : decode prog_2_method_22_code 18 = .ok (.getfield 19, 3) := by decide +kernel
theorem d_A_codeOnWay_21 : decode prog_2_method_22_code 21 = .ok (.iload_n 3, 1) := by decide +kernel
theorem d_A_codeOnWay_22 : decode prog_2_method_22_code 22 = .ok (.iaload, 1) := by decide +kernel
theorem d_A_codeOnWay_23 : decode prog_2_method_22_code 23 = .ok (.istore_n 3, 1) := by decide +kernel
theorem d_A_codeOnWay_24 : decode prog_2_method_22_code 24 = .ok (.iinc 4 (-1), 3) := by decide +kernel
theorem d_A_codeOnWay_27 : decode prog_2_method_22_code 27 = .ok (.goto (-16), 3) := by decide +kernel
theorem d_S_startPlay_0 : decode prog_1_method_24_code 0 = .ok (.aload_n 0, 1) := by decide +kernel
theorem d_S_startPlay_1 : decode prog_1_method_24_code 1 = .ok (.getfield 28, 3) := by decide +kernel
theorem d_S_startPlay_4 : decode prog_1_method_24_code 4 = .ok (.iconst 0, 1) := by decide +kernel
theorem d_S_startPlay_5 : decode prog_1_method_24_code 5 = .ok (.aload_n 0, 1) := by decide +kernel
theorem d_S_startPlay_6 : decode prog_1_method_24_code 6 = .ok (.getfield 20, 3) := by decide +kernel
theorem d_S_startPlay_9 : decode prog_1_method_24_code 9 = .ok (.invokevirtual 289, 3) := by decide +kernel
theorem d_S_startPlay_12 : decode prog_1_method_24_code 12 = .ok (.lastore, 1) := by decide +kernel
theorem d_S_startPlay_13 : decode prog_1_method_24_code 13 = .ok (.aload_n 0, 1) := by decide +kernel
theorem d_S_startPlay_14 : decode prog_1_method_24_code 14 = .ok (.iconst 0, 1) := by decide +kernel
theorem d_S_startPlay_15 : decode prog_1_method_24_code 15 = .ok (.putfield 36, 3) := by decide +kernel
theorem d_S_startPlay_18 : decode prog_1_method_24_code 18 = .ok (.aload_n 0, 1) := by decide +kernel
theorem d_S_startPlay_19 : decode prog_1_method_24_code 19 = .ok (.iconst 0, 1) := by decide +kernel
theorem d_S_startPlay_20 : decode prog_1_method_24_code 20 = .ok (.putfield 40, 3) := by decide +kernel
theorem d_S_startPlay_23 : decode prog_1_method_24_code 23 = .ok (.return_, 1) := by decide +kernel
theorem d_S_startAnew_0 : decode prog_1_method_23_code 0 = .ok (.aload_n 0, 1) := by decide +kernel
theorem d_S_startAnew_1 : decode prog_1_method_23_code 1 = .ok (.invokevirtual 172, 3) := by decide +kernel
theorem d_S_startAnew_4 : decode prog_1_method_23_code 4 = .ok (.aload_n 0, 1) := by decide +kernel
theorem d_S_startAnew_5 : decode prog_1_method_23_code 5 = .ok (.getfield 24, 3) := by decide +kernel
theorem d_S_startAnew_8 : decode prog_1_method_23_code 8 = .ok (.invokevirtual 286, 3) := by decide +kernel
theorem d_S_startAnew_11 : decode prog_1_method_23_code 11 = .ok (.return_, 1) := by decide +kernel
theorem d_S_hasAsked_0 : decode prog_1_method_25_code 0 = .ok (.iload_n 1, 1) := by decide +kernel
theorem d_S_hasAsked_1 : decode prog_1_method_25_code 1 = .ok (.tableswitch 95 1 8 #[47, 47, 56, 95, 95, 47, 65, 80], 47) := by decide +kernel
theorem d_S_hasAsked_48 : decode prog_1_method_25_code 48 = .ok (.aload_n 0, 1) := by decide +kernel
theorem d_S_hasAsked_49 : decode prog_1_method_25_code 49 = .ok (.getfield 20, 3) := by decide +kernel
theorem d_S_hasAsked_52 : decode prog_1_method_25_code 52 = .ok (.iload_n 2, 1) := by decide +kernel
theorem d_S_hasAsked_53 : decode prog_1_method_25_code 53 = .ok (.invokevirtual 66, 3) := by decide +kernel
theorem d_S_hasAsked_56 : decode prog_1_method_25_code 56 = .ok (.ireturn, 1) := by decide +kernel
theorem d_S_hasAsked_57 : decode prog_1_method_25_code 57 = .ok (.aload_n 0, 1) := by decide +kernel
theorem d_S_hasAsked_58 : decode prog_1_method_25_code 58 = .ok (.getfield 20, 3) := by decide +kernel
theorem d_S_hasAsked_61 : decode prog_1_method_25_code 61 = .ok (.iload_n 2, 1) := by decide +kernel
theorem d_S_hasAsked_62 : decode prog_1_method_25_code 62 = .ok (.invokevirtual 293, 3) := by decide +kernel
theorem d_S_hasAsked_65 : decode prog_1_method_25_code 65 = .ok (.ireturn, 1) := by decide +kernel
theorem d_S_hasAsked_96 : decode prog_1_method_25_code 96 = .ok (.iconst 1, 1) := by decide +kernel
theorem d_S_hasAsked_97 : decode prog_1_method_25_code 97 = .ok (.ireturn, 1) := by decide +kernel
theorem d_S_hasAsked_66 : decode prog_1_method_25_code 66 = .ok (.iload_n 2, 1) := by decide +kernel
theorem d_S_hasAsked_67 : decode prog_1_method_25_code 67 = .ok (.iconst 0, 1) := by decide +kernel
theorem d_S_hasAsked_68 : decode prog_1_method_25_code 68 = .ok (.aload_n 0, 1) := by decide +kernel
theorem d_S_hasAsked_69 : decode prog_1_method_25_code 69 = .ok (.getfield 20, 3) := by decide +kernel
theorem d_S_hasAsked_72 : decode prog_1_method_25_code 72 = .ok (.getfield 161, 3) := by decide +kernel
theorem d_S_hasAsked_75 : decode prog_1_method_25_code 75 = .ok (.iconst 1, 1) := by decide +kernel
theorem d_S_hasAsked_76 : decode prog_1_method_25_code 76 = .ok (.isub, 1) := by decide +kernel
theorem d_S_hasAsked_77 : decode prog_1_method_25_code 77 = .ok (.invokestatic 72, 3) := by decide +kernel
theorem d_S_hasAsked_80 : decode prog_1_method_25_code 80 = .ok (.ireturn, 1) := by decide +kernel
theorem d_S_hasAsked_81 : decode prog_1_method_25_code 81 = .ok (.iload_n 2, 1) := by decide +kernel
theorem d_S_hasAsked_82 : decode prog_1_method_25_code 82 = .ok (.iconst 0, 1) := by decide +kernel
theorem d_S_hasAsked_83 : decode prog_1_method_25_code 83 = .ok (.aload_n 0, 1) := by decide +kernel
theorem d_S_hasAsked_84 : decode prog_1_method_25_code 84 = .ok (.getfield 20, 3) := by decide +kernel
theorem d_S_hasAsked_87 : decode prog_1_method_25_code 87 = .ok (.getfield 152, 3) := by decide +kernel
theorem d_S_hasAsked_90 : decode prog_1_method_25_code 90 = .ok (.iconst 1, 1) := by decide +kernel
theorem d_S_hasAsked_91 : decode prog_1_method_25_code 91 = .ok (.isub, 1) := by decide +kernel
theorem d_S_hasAsked_92 : decode prog_1_method_25_code 92 = .ok (.invokestatic 72, 3) := by decide +kernel
theorem d_S_hasAsked_95 : decode prog_1_method_25_code 95 = .ok (.ireturn, 1) := by decide +kernel
theorem d_S_spoilingTurn_0 : decode prog_1_method_22_code 0 = .ok (.aload_n 0, 1) := by decide +kernel
theorem d_S_spoilingTurn_1 : decode prog_1_method_22_code 1 = .ok (.getfield 24, 3) := by decide +kernel
theorem d_S_spoilingTurn_4 : decode prog_1_method_22_code 4 = .ok (.aload_n 0, 1) := by decide +kernel
theorem d_S_spoilingTurn_5 : decode prog_1_method_22_code 5 = .ok (.getfield 28, 3) := by decide +kernel
theorem d_S_spoilingTurn_8 : decode prog_1_method_22_code 8 = .ok (.aload_n 0, 1) := by decide +kernel
theorem d_S_spoilingTurn_9 : decode prog_1_method_22_code 9 = .ok (.getfield 36, 3) := by decide +kernel
theorem d_S_spoilingTurn_12 : decode prog_1_method_22_code 12 = .ok (.laload, 1) := by decide +kernel
theorem d_S_spoilingTurn_13 : decode prog_1_method_22_code 13 = .ok (.invokevirtual 274, 3) := by decide +kernel
theorem d_S_spoilingTurn_16 : decode prog_1_method_22_code 16 = .ok (.ifCond .ne 5, 3) := by decide +kernel
theorem d_S_spoilingTurn_21 : decode prog_1_method_22_code 21 = .ok (.aload_n 0, 1) := by decide +kernel
theorem d_S_spoilingTurn_22 : decode prog_1_method_22_code 22 = .ok (.getfield 36, 3) := by decide +kernel
theorem d_S_spoilingTurn_25 : decode prog_1_method_22_code 25 = .ok (.iconst 1, 1) := by decide +kernel
theorem d_S_spoilingTurn_26 : decode prog_1_method_22_code 26 = .ok (.isub, 1) := by decide +kernel
theorem d_S_spoilingTurn_27 : decode prog_1_method_22_code 27 = .ok (.istore_n 1, 1) := by decide +kernel
theorem d_S_spoilingTurn_19 : decode prog_1_method_22_code 19 = .ok (.iconst (-1), 1) := by decide +kernel
theorem d_S_spoilingTurn_20 : decode prog_1_method_22_code 20 = .ok (.ireturn, 1) := by decide +kernel
theorem d_S_spoilingTurn_28 : decode prog_1_method_22_code 28 = .ok (.iload_n 1, 1) := by decide +kernel
theorem d_S_spoilingTurn_29 : decode prog_1_method_22_code 29 = .ok (.ifCond .lt 27, 3) := by decide +kernel
theorem d_S_spoilingTurn_56 : decode prog_1_method_22_code 56 = .ok (.iconst (-1), 1) := by decide +kernel
theorem d_S_spoilingTurn_57 : decode prog_1_method_22_code 57 = .ok (.ireturn, 1) := by decide +kernel
theorem d_S_spoilingTurn_32 : decode prog_1_method_22_code 32 = .ok (.aload_n 0, 1) := by decide +kernel
theorem d_S_spoilingTurn_33 : decode prog_1_method_22_code 33 = .ok (.getfield 24, 3) := by decide +kernel
theorem d_S_spoilingTurn_36 : decode prog_1_method_22_code 36 = .ok (.aload_n 0, 1) := by decide +kernel
theorem d_S_spoilingTurn_37 : decode prog_1_method_22_code 37 = .ok (.getfield 28, 3) := by decide +kernel
theorem d_S_spoilingTurn_40 : decode prog_1_method_22_code 40 = .ok (.iload_n 1, 1) := by decide +kernel
theorem d_S_spoilingTurn_41 : decode prog_1_method_22_code 41 = .ok (.laload, 1) := by decide +kernel
theorem d_S_spoilingTurn_42 : decode prog_1_method_22_code 42 = .ok (.invokevirtual 274, 3) := by decide +kernel
theorem d_S_spoilingTurn_45 : decode prog_1_method_22_code 45 = .ok (.ifCond .ne 5, 3) := by decide +kernel
theorem d_S_spoilingTurn_50 : decode prog_1_method_22_code 50 = .ok (.iinc 1 (-1), 3) := by decide +kernel
theorem d_S_spoilingTurn_53 : decode prog_1_method_22_code 53 = .ok (.goto (-25), 3) := by decide +kernel
theorem d_S_spoilingTurn_48 : decode prog_1_method_22_code 48 = .ok (.iload_n 1, 1) := by decide +kernel
theorem d_S_spoilingTurn_49 : decode prog_1_method_22_code 49 = .ok (.ireturn, 1) := by decide +kernel
theorem d_S_isThingKind_0 : decode prog_1_method_26_code 0 = .ok (.iload_n 0, 1) := by decide +kernel
theorem d_S_isThingKind_1 : decode prog_1_method_26_code 1 = .ok (.iconst 4, 1) := by decide +kernel
theorem d_S_isThingKind_2 : decode prog_1_method_26_code 2 = .ok (.iand, 1) := by decide +kernel
theorem d_S_isThingKind_3 : decode prog_1_method_26_code 3 = .ok (.ifCond .eq 7, 3) := by decide +kernel
theorem d_S_isThingKind_10 : decode prog_1_method_26_code 10 = .ok (.iconst 0, 1) := by decide +kernel
theorem d_S_isThingKind_6 : decode prog_1_method_26_code 6 = .ok (.iconst 1, 1) := by decide +kernel
theorem d_S_isThingKind_7 : decode prog_1_method_26_code 7 = .ok (.goto 4, 3) := by decide +kernel
theorem d_S_isThingKind_11 : decode prog_1_method_26_code 11 = .ok (.istore_n 1, 1) := by decide +kernel
theorem d_S_isThingKind_12 : decode prog_1_method_26_code 12 = .ok (.iload_n 0, 1) := by decide +kernel
theorem d_S_isThingKind_13 : decode prog_1_method_26_code 13 = .ok (.iconst 0, 1) := by decide +kernel
theorem d_S_isThingKind_14 : decode prog_1_method_26_code 14 = .ok (.bipush 7, 2) := by decide +kernel
theorem d_S_isThingKind_16 : decode prog_1_method_26_code 16 = .ok (.invokestatic 72, 3) := by decide +kernel
theorem d_S_isThingKind_19 : decode prog_1_method_26_code 19 = .ok (.ifCond .eq 17, 3) := by decide +kernel
theorem d_S_isThingKind_36 : decode prog_1_method_26_code 36 = .ok (.iconst 0, 1) := by decide +kernel
theorem d_S_isThingKind_37 : decode prog_1_method_26_code 37 = .ok (.ireturn, 1) := by decide +kernel
theorem d_S_isThingKind_22 : decode prog_1_method_26_code 22 = .ok (.iload_n 1, 1) := by decide +kernel
theorem d_S_isThingKind_23 : decode prog_1_method_26_code 23 = .ok (.ifCond .eq 9, 3) := by decide +kernel
theorem d_S_isThingKind_32 : decode prog_1_method_26_code 32 = .ok (.iconst 1, 1) := by decide +kernel
theorem d_S_isThingKind_33 : decode prog_1_method_26_code 33 = .ok (.goto 4, 3) := by decide +kernel
theorem d_S_isThingKind_26 : decode prog_1_method_26_code 26 = .ok (.iload_n 0, 1) := by decide +kernel
theorem d_S_isThingKind_27 : decode prog_1_method_26_code 27 = .ok (.iconst 2, 1) := by decide +kernel
theorem d_S_isThingKind_28 : decode prog_1_method_26_code 28 = .ok (.iand, 1) := by decide +kernel
theorem d_S_isThingKind_29 : decode prog_1_method_26_code 29 = .ok (.ifCond .eq 7, 3) := by decide +kernel
theorem d_S_isConditionLevel_0 : decode prog_1_method_27_code 0 = .ok (.iload_n 0, 1) := by decide +kernel
theorem d_S_isConditionLevel_1 : decode prog_1_method_27_code 1 = .ok (.tableswitch 42 2 4 #[27, 34, 34], 27) := by decide +kernel
theorem d_S_isConditionLevel_28 : decode prog_1_method_27_code 28 = .ok (.iload_n 1, 1) := by decide +kernel
theorem d_S_isConditionLevel_29 : decode prog_1_method_27_code 29 = .ok (.iconst 0, 1) := by decide +kernel
theorem d_S_isConditionLevel_30 : decode prog_1_method_27_code 30 = .ok (.iconst 1, 1) := by decide +kernel
theorem d_S_isConditionLevel_31 : decode prog_1_method_27_code 31 = .ok (.invokestatic 72, 3) := by decide +kernel
theorem d_S_isConditionLevel_34 : decode prog_1_method_27_code 34 = .ok (.ireturn, 1) := by decide +kernel
theorem d_S_isConditionLevel_35 : decode prog_1_method_27_code 35 = .ok (.iload_n 1, 1) := by decide +kernel
theorem d_S_isConditionLevel_36 : decode prog_1_method_27_code 36 = .ok (.iconst 0, 1) := by decide +kernel
theorem d_S_isConditionLevel_37 : decode prog_1_method_27_code 37 = .ok (.bipush 7, 2) := by decide +kernel
theorem d_S_isConditionLevel_39 : decode prog_1_method_27_code 39 = .ok (.invokestatic 72, 3) := by decide +kernel
theorem d_S_isConditionLevel_42 : decode prog_1_method_27_code 42 = .ok (.ireturn, 1) := by decide +kernel
theorem d_S_isConditionLevel_43 : decode prog_1_method_27_code 43 = .ok (.iconst 1, 1) := by decide +kernel
theorem d_S_isConditionLevel_44 : decode prog_1_method_27_code 44 = .ok (.ireturn, 1) := by decide +kernel
theorem d_S_isEffectLevel_0 : decode prog_1_method_28_code 0 = .ok (.iload_n 0, 1) := by decide +kernel
theorem d_S_isEffectLevel_1 : decode prog_1_method_28_code 1 = .ok (.lookupswitch 43 #[(2, 27), (3, 34)], 27) := by decide +kernel
theorem d_S_isEffectLevel_28 : decode prog_1_method_28_code 28 = .ok (.iload_n 1, 1) := by decide +kernel
theorem d_S_isEffectLevel_29 : decode prog_1_method_28_code 29 = .ok (.iconst 0, 1) := by decide +kernel
theorem d_S_isEffectLevel_30 : decode prog_1_method_28_code 30 = .ok (.iconst 1, 1) := by decide +kernel
theorem d_S_isEffectLevel_31 : decode prog_1_method_28_code 31 = .ok (.invokestatic 72, 3) := by decide +kernel
theorem d_S_isEffectLevel_34 : decode prog_1_method_28_code 34 = .ok (.ireturn, 1) := by decide +kernel
theorem d_S_isEffectLevel_35 : decode prog_1_method_28_code 35 = .ok (.iload_n 1, 1) := by decide +kernel
theorem d_S_isEffectLevel_36 : decode prog_1_method_28_code 36 = .ok (.bipush (-7), 2) := by decide +kernel
theorem d_S_isEffectLevel_38 : decode prog_1_method_28_code 38 = .ok (.bipush 7, 2) := by decide +kernel
theorem d_S_isEffectLevel_40 : decode prog_1_method_28_code 40 = .ok (.invokestatic 72, 3) := by decide +kernel
theorem d_S_isEffectLevel_43 : decode prog_1_method_28_code 43 = .ok (.ireturn, 1) := by decide +kernel
theorem d_S_isEffectLevel_44 : decode prog_1_method_28_code 44 = .ok (.iconst 1, 1) := by decide +kernel
theorem d_S_isEffectLevel_45 : decode prog_1_method_28_code 45 = .ok (.ireturn, 1) := by decide +kernel
theorem d_S_clear_0 : decode prog_1_method_2_code 0 = .ok (.aload_n 0, 1) := by decide +kernel
theorem d_S_clear_1 : decode prog_1_method_2_code 1 = .ok (.getfield 20, 3) := by decide +kernel
theorem d_S_clear_4 : decode prog_1_method_2_code 4 = .ok (.invokevirtual 43, 3) := by decide +kernel
theorem d_S_clear_7 : decode prog_1_method_2_code 7 = .ok (.aload_n 0, 1) := by decide +kernel
theorem d_S_clear_8 : decode prog_1_method_2_code 8 = .ok (.invokevirtual 48, 3) := by decide +kernel
theorem d_S_clear_11 : decode prog_1_method_2_code 11 = .ok (.return_, 1) := by decide +kernel
theorem d_S_said_0 : decode prog_1_method_15_code 0 = .ok (.iload_n 1, 1) := by decide +kernel
theorem d_S_said_1 : decode prog_1_method_15_code 1 = .ok (.iconst 0, 1) := by decide +kernel
theorem d_S_said_2 : decode prog_1_method_15_code 2 = .ok (.aload_n 0, 1) := by decide +kernel
theorem d_S_said_3 : decode prog_1_method_15_code 3 = .ok (.getfield 40, 3) := by decide +kernel
theorem d_S_said_6 : decode prog_1_method_15_code 6 = .ok (.iconst 1, 1) := by decide +kernel
theorem d_S_said_7 : decode prog_1_method_15_code 7 = .ok (.isub, 1) := by decide +kernel
theorem d_S_said_8 : decode prog_1_method_15_code 8 = .ok (.invokestatic 72, 3) := by decide +kernel
theorem d_S_said_11 : decode prog_1_method_15_code 11 = .ok (.ifCond .eq 12, 3) := by decide +kernel
theorem d_S_said_23 : decode prog_1_method_15_code 23 = .ok (.iconst (-1), 1) := by decide +kernel
theorem d_S_said_24 : decode prog_1_method_15_code 24 = .ok (.ireturn, 1) := by decide +kernel
theorem d_S_said_14 : decode prog_1_method_15_code 14 = .ok (.aload_n 0, 1) := by decide +kernel
theorem d_S_said_15 : decode prog_1_method_15_code 15 = .ok (.getfield 32, 3) := by decide +kernel
theorem d_S_said_18 : decode prog_1_method_15_code 18 = .ok (.iload_n 1, 1) := by decide +kernel
theorem d_S_said_19 : decode prog_1_method_15_code 19 = .ok (.iaload, 1) := by decide +kernel
theorem d_S_said_20 : decode prog_1_method_15_code 20 = .ok (.goto 4, 3) := by decide +kernel
theorem d_S_undo_0 : decode prog_1_method_16_code 0 = .ok (.aload_n 0, 1) := by decide +kernel
theorem d_S_undo_1 : decode prog_1_method_16_code 1 = .ok (.iconst 0, 1) := by decide +kernel
theorem d_S_undo_2 : decode prog_1_method_16_code 2 = .ok (.putfield 40, 3) := by decide +kernel
theorem d_S_undo_5 : decode prog_1_method_16_code 5 = .ok (.aload_n 0, 1) := by decide +kernel
theorem d_S_undo_6 : decode prog_1_method_16_code 6 = .ok (.getfield 36, 3) := by decide +kernel
theorem d_S_undo_9 : decode prog_1_method_16_code 9 = .ok (.ifCond .ne 5, 3) := by decide +kernel
theorem d_S_undo_14 : decode prog_1_method_16_code 14 = .ok (.aload_n 0, 1) := by decide +kernel
theorem d_S_undo_15 : decode prog_1_method_16_code 15 = .ok (.dup, 1) := by decide +kernel
theorem d_S_undo_16 : decode prog_1_method_16_code 16 = .ok (.getfield 36, 3) := by decide +kernel
theorem d_S_undo_19 : decode prog_1_method_16_code 19 = .ok (.iconst 1, 1) := by decide +kernel
theorem d_S_undo_20 : decode prog_1_method_16_code 20 = .ok (.isub, 1) := by decide +kernel
theorem d_S_undo_21 : decode prog_1_method_16_code 21 = .ok (.putfield 36, 3) := by decide +kernel
theorem d_S_undo_24 : decode prog_1_method_16_code 24 = .ok (.iconst 1, 1) := by decide +kernel
theorem d_S_undo_25 : decode prog_1_method_16_code 25 = .ok (.ireturn, 1) := by decide +kernel
theorem d_S_undo_12 : decode prog_1_method_16_code 12 = .ok (.iconst 0, 1) := by decide +kernel
theorem d_S_undo_13 : decode prog_1_method_16_code 13 = .ok (.ireturn, 1) := by decide +kernel
theorem d_S_room_0 : decode prog_1_method_3_code 0 = .ok (.aload_n 0, 1) := by decide +kernel
theorem d_S_room_1 : decode prog_1_method_3_code 1 = .ok (.getfield 20, 3) := by decide +kernel
theorem d_S_room_4 : decode prog_1_method_3_code 4 = .ok (.getfield 51, 3) := by decide +kernel
theorem d_S_room_7 : decode prog_1_method_3_code 7 = .ok (.bipush 6, 2) := by decide +kernel
theorem d_S_room_9 : decode prog_1_method_3_code 9 = .ok (.if_icmp .ge 7, 3) := by decide +kernel
theorem d_S_room_16 : decode prog_1_method_3_code 16 = .ok (.iconst 0, 1) := by decide +kernel
theorem d_S_room_12 : decode prog_1_method_3_code 12 = .ok (.iconst 1, 1) := by decide +kernel
theorem d_S_room_13 : decode prog_1_method_3_code 13 = .ok (.goto 4, 3) := by decide +kernel
theorem d_S_room_17 : decode prog_1_method_3_code 17 = .ok (.invokestatic 54, 3) := by decide +kernel
theorem d_S_room_20 : decode prog_1_method_3_code 20 = .ok (.aload_n 0, 1) := by decide +kernel
theorem d_S_room_21 : decode prog_1_method_3_code 21 = .ok (.getfield 20, 3) := by decide +kernel
theorem d_S_room_24 : decode prog_1_method_3_code 24 = .ok (.invokevirtual 58, 3) := by decide +kernel
theorem d_S_room_27 : decode prog_1_method_3_code 27 = .ok (.istore_n 1, 1) := by decide +kernel
theorem d_S_room_28 : decode prog_1_method_3_code 28 = .ok (.aload_n 0, 1) := by decide +kernel
theorem d_S_room_29 : decode prog_1_method_3_code 29 = .ok (.invokevirtual 48, 3) := by decide +kernel
theorem d_S_room_32 : decode prog_1_method_3_code 32 = .ok (.iload_n 1, 1) := by decide +kernel
theorem d_S_room_33 : decode prog_1_method_3_code 33 = .ok (.ireturn, 1) := by decide +kernel
theorem d_S_exit_0 : decode prog_1_method_4_code 0 = .ok (.aload_n 0, 1) := by decide +kernel
theorem d_S_exit_1 : decode prog_1_method_4_code 1 = .ok (.getfield 20, 3) := by decide +kernel
theorem d_S_exit_4 : decode prog_1_method_4_code 4 = .ok (.iload_n 1, 1) := by decide +kernel
theorem d_S_exit_5 : decode prog_1_method_4_code 5 = .ok (.invokevirtual 62, 3) := by decide +kernel
theorem d_S_exit_8 : decode prog_1_method_4_code 8 = .ok (.ifCond .eq 36, 3) := by decide +kernel
theorem d_S_exit_11 : decode prog_1_method_4_code 11 = .ok (.aload_n 0, 1) := by decide +kernel
theorem d_S_exit_12 : decode prog_1_method_4_code 12 = .ok (.getfield 20, 3) := by decide +kernel
theorem d_S_exit_15 : decode prog_1_method_4_code 15 = .ok (.iload_n 3, 1) := by decide +kernel
theorem d_S_exit_16 : decode prog_1_method_4_code 16 = .ok (.invokevirtual 62, 3) := by decide +kernel
theorem d_S_exit_19 : decode prog_1_method_4_code 19 = .ok (.ifCond .eq 25, 3) := by decide +kernel
theorem d_S_exit_22 : decode prog_1_method_4_code 22 = .ok (.iload 4, 2) := by decide +kernel
theorem d_S_exit_24 : decode prog_1_method_4_code 24 = .ok (.iconst (-1), 1) := by decide +kernel
theorem d_S_exit_25 : decode prog_1_method_4_code 25 = .ok (.if_icmp .eq 15, 3) := by decide +kernel
theorem d_S_exit_28 : decode prog_1_method_4_code 28 = .ok (.aload_n 0, 1) := by decide +kernel
theorem d_S_exit_29 : decode prog_1_method_4_code 29 = .ok (.getfield 20, 3) := by decide +kernel
theorem d_S_exit_32 : decode prog_1_method_4_code 32 = .ok (.iload 4, 2) := by decide +kernel
theorem d_S_exit_34 : decode prog_1_method_4_code 34 = .ok (.invokevirtual 66, 3) := by decide +kernel
theorem d_S_exit_37 : decode prog_1_method_4_code 37 = .ok (.ifCond .eq 7, 3) := by decide +kernel
theorem d_S_exit_44 : decode prog_1_method_4_code 44 = .ok (.iconst 0, 1) := by decide +kernel
theorem d_S_exit_40 : decode prog_1_method_4_code 40 = .ok (.iconst 1, 1) := by decide +kernel
theorem d_S_exit_41 : decode prog_1_method_4_code 41 = .ok (.goto 4, 3) := by decide +kernel
theorem d_S_exit_45 : decode prog_1_method_4_code 45 = .ok (.invokestatic 69, 3) := by decide +kernel
theorem d_S_exit_48 : decode prog_1_method_4_code 48 = .ok (.iload_n 2, 1) := by decide +kernel
theorem d_S_exit_49 : decode prog_1_method_4_code 49 = .ok (.iconst 0, 1) := by decide +kernel
theorem d_S_exit_50 : decode prog_1_method_4_code 50 = .ok (.iconst 3, 1) := by decide +kernel
theorem d_S_exit_51 : decode prog_1_method_4_code 51 = .ok (.invokestatic 72, 3) := by decide +kernel
theorem d_S_exit_54 : decode prog_1_method_4_code 54 = .ok (.invokestatic 76, 3) := by decide +kernel
theorem d_S_exit_57 : decode prog_1_method_4_code 57 = .ok (.aload_n 0, 1) := by decide +kernel
theorem d_S_exit_58 : decode prog_1_method_4_code 58 = .ok (.getfield 20, 3) := by decide +kernel
theorem d_S_exit_61 : decode prog_1_method_4_code 61 = .ok (.iload_n 1, 1) := by decide +kernel
theorem d_S_exit_62 : decode prog_1_method_4_code 62 = .ok (.iload_n 2, 1) := by decide +kernel
theorem d_S_exit_63 : decode prog_1_method_4_code 63 = .ok (.iload_n 3, 1) := by decide +kernel
theorem d_S_exit_64 : decode prog_1_method_4_code 64 = .ok (.iload 4, 2) := by decide +kernel
theorem d_S_exit_66 : decode prog_1_method_4_code 66 = .ok (.invokevirtual 79, 3) := by decide +kernel
theorem d_S_exit_69 : decode prog_1_method_4_code 69 = .ok (.aload_n 0, 1) := by decide +kernel
theorem d_S_exit_70 : decode prog_1_method_4_code 70 = .ok (.invokevirtual 48, 3) := by decide +kernel
theorem d_S_exit_73 : decode prog_1_method_4_code 73 = .ok (.return_, 1) := by decide +kernel
theorem d_S_thing_0 : decode prog_1_method_5_code 0 = .ok (.aload_n 0, 1) := by decide +kernel
theorem d_S_thing_1 : decode prog_1_method_5_code 1 = .ok (.getfield 20, 3) := by decide +kernel
theorem d_S_thing_4 : decode prog_1_method_5_code 4 = .ok (.iload_n 1, 1) := by decide +kernel
theorem d_S_thing_5 : decode prog_1_method_5_code 5 = .ok (.invokevirtual 83, 3) := by decide +kernel
theorem d_S_thing_8 : decode prog_1_method_5_code 8 = .ok (.invokestatic 69, 3) := by decide +kernel
theorem d_S_thing_11 : decode prog_1_method_5_code 11 = .ok (.iload_n 2, 1) := by decide +kernel
theorem d_S_thing_12 : decode prog_1_method_5_code 12 = .ok (.invokestatic 86, 3) := by decide +kernel
theorem d_S_thing_15 : decode prog_1_method_5_code 15 = .ok (.invokestatic 76, 3) := by decide +kernel
theorem d_S_thing_18 : decode prog_1_method_5_code 18 = .ok (.aload_n 0, 1) := by decide +kernel
theorem d_S_thing_19 : decode prog_1_method_5_code 19 = .ok (.getfield 20, 3) := by decide +kernel
theorem d_S_thing_22 : decode prog_1_method_5_code 22 = .ok (.getfield 89, 3) := by decide +kernel
theorem d_S_thing_25 : decode prog_1_method_5_code 25 = .ok (.bipush 6, 2) := by decide +kernel
theorem d_S_thing_27 : decode prog_1_method_5_code 27 = .ok (.if_icmp .ge 7, 3) := by decide +kernel
theorem d_S_thing_34 : decode prog_1_method_5_code 34 = .ok (.iconst 0, 1) := by decide +kernel
theorem d_S_thing_30 : decode prog_1_method_5_code 30 = .ok (.iconst 1, 1) := by decide +kernel
theorem d_S_thing_31 : decode prog_1_method_5_code 31 = .ok (.goto 4, 3) := by decide +kernel
theorem d_S_thing_35 : decode prog_1_method_5_code 35 = .ok (.invokestatic 54, 3) := by decide +kernel
theorem d_S_thing_38 : decode prog_1_method_5_code 38 = .ok (.aload_n 0, 1) := by decide +kernel
theorem d_S_thing_39 : decode prog_1_method_5_code 39 = .ok (.getfield 20, 3) := by decide +kernel
theorem d_S_thing_42 : decode prog_1_method_5_code 42 = .ok (.iload_n 1, 1) := by decide +kernel
theorem d_S_thing_43 : decode prog_1_method_5_code 43 = .ok (.iload_n 2, 1) := by decide +kernel
theorem d_S_thing_44 : decode prog_1_method_5_code 44 = .ok (.invokevirtual 92, 3) := by decide +kernel
theorem d_S_thing_47 : decode prog_1_method_5_code 47 = .ok (.istore_n 3, 1) := by decide +kernel
theorem d_S_thing_48 : decode prog_1_method_5_code 48 = .ok (.aload_n 0, 1) := by decide +kernel
theorem d_S_thing_49 : decode prog_1_method_5_code 49 = .ok (.invokevirtual 48, 3) := by decide +kernel
theorem d_S_thing_52 : decode prog_1_method_5_code 52 = .ok (.iload_n 3, 1) := by decide +kernel
theorem d_S_thing_53 : decode prog_1_method_5_code 53 = .ok (.ireturn, 1) := by decide +kernel
theorem d_S_number_0 : decode prog_1_method_6_code 0 = .ok (.iload_n 2, 1) := by decide +kernel
theorem d_S_number_1 : decode prog_1_method_6_code 1 = .ok (.iconst 1, 1) := by decide +kernel
theorem d_S_number_2 : decode prog_1_method_6_code 2 = .ok (.bipush 7, 2) := by decide +kernel
theorem d_S_number_4 : decode prog_1_method_6_code 4 = .ok (.invokestatic 72, 3) := by decide +kernel
theorem d_S_number_7 : decode prog_1_method_6_code 7 = .ok (.ifCond .eq 16, 3) := by decide +kernel
theorem d_S_number_10 : decode prog_1_method_6_code 10 = .ok (.iload_n 1, 1) := by decide +kernel
theorem d_S_number_11 : decode prog_1_method_6_code 11 = .ok (.iconst 0, 1) := by decide +kernel
theorem d_S_number_12 : decode prog_1_method_6_code 12 = .ok (.iload_n 2, 1) := by decide +kernel
theorem d_S_number_13 : decode prog_1_method_6_code 13 = .ok (.invokestatic 72, 3) := by decide +kernel
theorem d_S_number_16 : decode prog_1_method_6_code 16 = .ok (.ifCond .eq 7, 3) := by decide +kernel
theorem d_S_number_19 : decode prog_1_method_6_code 19 = .ok (.iconst 1, 1) := by decide +kernel
theorem d_S_number_20 : decode prog_1_method_6_code 20 = .ok (.goto 4, 3) := by decide +kernel
theorem d_S_number_23 : decode prog_1_method_6_code 23 = .ok (.iconst 0, 1) := by decide +kernel
theorem d_S_number_24 : decode prog_1_method_6_code 24 = .ok (.invokestatic 76, 3) := by decide +kernel
theorem d_S_number_27 : decode prog_1_method_6_code 27 = .ok (.aload_n 0, 1) := by decide +kernel
theorem d_S_number_28 : decode prog_1_method_6_code 28 = .ok (.getfield 20, 3) := by decide +kernel
theorem d_S_number_31 : decode prog_1_method_6_code 31 = .ok (.getfield 96, 3) := by decide +kernel
theorem d_S_number_34 : decode prog_1_method_6_code 34 = .ok (.iconst 3, 1) := by decide +kernel
theorem d_S_number_35 : decode prog_1_method_6_code 35 = .ok (.if_icmp .ge 7, 3) := by decide +kernel
theorem d_S_number_42 : decode prog_1_method_6_code 42 = .ok (.iconst 0, 1) := by decide +kernel
theorem d_S_number_38 : decode prog_1_method_6_code 38 = .ok (.iconst 1, 1) := by decide +kernel
theorem d_S_number_39 : decode prog_1_method_6_code 39 = .ok (.goto 4, 3) := by decide +kernel
theorem d_S_number_43 : decode prog_1_method_6_code 43 = .ok (.invokestatic 54, 3) := by decide +kernel
theorem d_S_number_46 : decode prog_1_method_6_code 46 = .ok (.aload_n 0, 1) := by decide +kernel
theorem d_S_number_47 : decode prog_1_method_6_code 47 = .ok (.getfield 20, 3) := by decide +kernel
theorem d_S_number_50 : decode prog_1_method_6_code 50 = .ok (.iload_n 1, 1) := by decide +kernel
theorem d_S_number_51 : decode prog_1_method_6_code 51 = .ok (.iload_n 2, 1) := by decide +kernel
theorem d_S_number_52 : decode prog_1_method_6_code 52 = .ok (.invokevirtual 99, 3) := by decide +kernel
theorem d_S_number_55 : decode prog_1_method_6_code 55 = .ok (.istore_n 3, 1) := by decide +kernel
theorem d_S_number_56 : decode prog_1_method_6_code 56 = .ok (.aload_n 0, 1) := by decide +kernel
theorem d_S_number_57 : decode prog_1_method_6_code 57 = .ok (.invokevirtual 48, 3) := by decide +kernel
theorem d_S_number_60 : decode prog_1_method_6_code 60 = .ok (.iload_n 3, 1) := by decide +kernel
theorem d_S_number_61 : decode prog_1_method_6_code 61 = .ok (.ireturn, 1) := by decide +kernel
theorem d_S_ending_0 : decode prog_1_method_7_code 0 = .ok (.aload_n 0, 1) := by decide +kernel
theorem d_S_ending_1 : decode prog_1_method_7_code 1 = .ok (.getfield 20, 3) := by decide +kernel
theorem d_S_ending_4 : decode prog_1_method_7_code 4 = .ok (.getfield 102, 3) := by decide +kernel
theorem d_S_ending_7 : decode prog_1_method_7_code 7 = .ok (.iconst 4, 1) := by decide +kernel
theorem d_S_ending_8 : decode prog_1_method_7_code 8 = .ok (.if_icmp .ge 7, 3) := by decide +kernel
theorem d_S_ending_15 : decode prog_1_method_7_code 15 = .ok (.iconst 0, 1) := by decide +kernel
theorem d_S_ending_11 : decode prog_1_method_7_code 11 = .ok (.iconst 1, 1) := by decide +kernel
theorem d_S_ending_12 : decode prog_1_method_7_code 12 = .ok (.goto 4, 3) := by decide +kernel
