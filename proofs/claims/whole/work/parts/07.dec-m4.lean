theorem d_M_explore_1 : decode prog_10_method_46_code 1 = .ok (.aload_n 0, 1) := by decide +kernel
theorem d_M_explore_2 : decode prog_10_method_46_code 2 = .ok (.getfield 198, 3) := by decide +kernel
theorem d_M_explore_5 : decode prog_10_method_46_code 5 = .ok (.ifCond .ne 7, 3) := by decide +kernel
theorem d_M_explore_12 : decode prog_10_method_46_code 12 = .ok (.iload_n 1, 1) := by decide +kernel
theorem d_M_explore_13 : decode prog_10_method_46_code 13 = .ok (.ifCond .lt 10, 3) := by decide +kernel
theorem d_M_explore_16 : decode prog_10_method_46_code 16 = .ok (.iload_n 1, 1) := by decide +kernel
theorem d_M_explore_17 : decode prog_10_method_46_code 17 = .ok (.sipush 1000, 3) := by decide +kernel
theorem d_M_explore_20 : decode prog_10_method_46_code 20 = .ok (.if_icmp .le 7, 3) := by decide +kernel
theorem d_M_explore_27 : decode prog_10_method_46_code 27 = .ok (.iconst 0, 1) := by decide +kernel
theorem d_M_explore_8 : decode prog_10_method_46_code 8 = .ok (.iconst 1, 1) := by decide +kernel
theorem d_M_explore_9 : decode prog_10_method_46_code 9 = .ok (.goto 19, 3) := by decide +kernel
theorem d_M_explore_23 : decode prog_10_method_46_code 23 = .ok (.iconst 2, 1) := by decide +kernel
theorem d_M_explore_24 : decode prog_10_method_46_code 24 = .ok (.goto 4, 3) := by decide +kernel
theorem d_M_explore_28 : decode prog_10_method_46_code 28 = .ok (.putfield 137, 3) := by decide +kernel
theorem d_M_explore_31 : decode prog_10_method_46_code 31 = .ok (.aload_n 0, 1) := by decide +kernel
theorem d_M_explore_32 : decode prog_10_method_46_code 32 = .ok (.getfield 137, 3) := by decide +kernel
theorem d_M_explore_35 : decode prog_10_method_46_code 35 = .ok (.ifCond .le 5, 3) := by decide +kernel
theorem d_M_explore_40 : decode prog_10_method_46_code 40 = .ok (.iconst 0, 1) := by decide +kernel
theorem d_M_explore_41 : decode prog_10_method_46_code 41 = .ok (.istore_n 2, 1) := by decide +kernel
theorem d_M_explore_38 : decode prog_10_method_46_code 38 = .ok (.iconst 0, 1) := by decide +kernel
theorem d_M_explore_39 : decode prog_10_method_46_code 39 = .ok (.ireturn, 1) := by decide +kernel
theorem d_M_explore_42 : decode prog_10_method_46_code 42 = .ok (.iload_n 2, 1) := by decide +kernel
theorem d_M_explore_43 : decode prog_10_method_46_code 43 = .ok (.iload_n 1, 1) := by decide +kernel
theorem d_M_explore_44 : decode prog_10_method_46_code 44 = .ok (.if_icmp .ge 70, 3) := by decide +kernel
theorem d_M_explore_47 : decode prog_10_method_46_code 47 = .ok (.aload_n 0, 1) := by decide +kernel
theorem d_M_explore_48 : decode prog_10_method_46_code 48 = .ok (.getfield 187, 3) := by decide +kernel
theorem d_M_explore_51 : decode prog_10_method_46_code 51 = .ok (.ifCond .ne 63, 3) := by decide +kernel
theorem d_M_explore_54 : decode prog_10_method_46_code 54 = .ok (.aload_n 0, 1) := by decide +kernel
theorem d_M_explore_55 : decode prog_10_method_46_code 55 = .ok (.getfield 184, 3) := by decide +kernel
theorem d_M_explore_58 : decode prog_10_method_46_code 58 = .ok (.aload_n 0, 1) := by decide +kernel
theorem d_M_explore_59 : decode prog_10_method_46_code 59 = .ok (.getfield 181, 3) := by decide +kernel
theorem d_M_explore_62 : decode prog_10_method_46_code 62 = .ok (.if_icmp .ge 52, 3) := by decide +kernel
theorem d_M_explore_65 : decode prog_10_method_46_code 65 = .ok (.aload_n 0, 1) := by decide +kernel
theorem d_M_explore_66 : decode prog_10_method_46_code 66 = .ok (.getfield 110, 3) := by decide +kernel
theorem d_M_explore_69 : decode prog_10_method_46_code 69 = .ok (.aload_n 0, 1) := by decide +kernel
theorem d_M_explore_70 : decode prog_10_method_46_code 70 = .ok (.getfield 184, 3) := by decide +kernel
theorem d_M_explore_73 : decode prog_10_method_46_code 73 = .ok (.iaload, 1) := by decide +kernel
theorem d_M_explore_74 : decode prog_10_method_46_code 74 = .ok (.bipush 8, 2) := by decide +kernel
theorem d_M_explore_76 : decode prog_10_method_46_code 76 = .ok (.irem, 1) := by decide +kernel
theorem d_M_explore_77 : decode prog_10_method_46_code 77 = .ok (.ifCond .ne 7, 3) := by decide +kernel
theorem d_M_explore_80 : decode prog_10_method_46_code 80 = .ok (.aload_n 0, 1) := by decide +kernel
theorem d_M_explore_81 : decode prog_10_method_46_code 81 = .ok (.invokevirtual 278, 3) := by decide +kernel
theorem d_M_explore_114 : decode prog_10_method_46_code 114 = .ok (.aload_n 0, 1) := by decide +kernel
theorem d_M_explore_115 : decode prog_10_method_46_code 115 = .ok (.getfield 187, 3) := by decide +kernel
theorem d_M_explore_118 : decode prog_10_method_46_code 118 = .ok (.ifCond .eq 7, 3) := by decide +kernel
theorem d_M_explore_125 : decode prog_10_method_46_code 125 = .ok (.aload_n 0, 1) := by decide +kernel
theorem d_M_explore_126 : decode prog_10_method_46_code 126 = .ok (.getfield 184, 3) := by decide +kernel
theorem d_M_explore_129 : decode prog_10_method_46_code 129 = .ok (.aload_n 0, 1) := by decide +kernel
theorem d_M_explore_130 : decode prog_10_method_46_code 130 = .ok (.getfield 181, 3) := by decide +kernel
theorem d_M_explore_133 : decode prog_10_method_46_code 133 = .ok (.if_icmp .ne 7, 3) := by decide +kernel
theorem d_M_explore_140 : decode prog_10_method_46_code 140 = .ok (.iconst 0, 1) := by decide +kernel
theorem d_M_explore_141 : decode prog_10_method_46_code 141 = .ok (.ireturn, 1) := by decide +kernel
theorem d_M_explore_136 : decode prog_10_method_46_code 136 = .ok (.iconst 1, 1) := by decide +kernel
theorem d_M_explore_137 : decode prog_10_method_46_code 137 = .ok (.goto 4, 3) := by decide +kernel
theorem d_M_explore_121 : decode prog_10_method_46_code 121 = .ok (.iconst 2, 1) := by decide +kernel
theorem d_M_explore_122 : decode prog_10_method_46_code 122 = .ok (.goto 19, 3) := by decide +kernel
theorem d_M_explore_84 : decode prog_10_method_46_code 84 = .ok (.aload_n 0, 1) := by decide +kernel
theorem d_M_explore_85 : decode prog_10_method_46_code 85 = .ok (.aload_n 0, 1) := by decide +kernel
theorem d_M_explore_86 : decode prog_10_method_46_code 86 = .ok (.getfield 187, 3) := by decide +kernel
theorem d_M_explore_89 : decode prog_10_method_46_code 89 = .ok (.ifCond .eq 10, 3) := by decide +kernel
theorem d_M_explore_99 : decode prog_10_method_46_code 99 = .ok (.aload_n 0, 1) := by decide +kernel
theorem d_M_explore_100 : decode prog_10_method_46_code 100 = .ok (.getfield 184, 3) := by decide +kernel
theorem d_M_explore_103 : decode prog_10_method_46_code 103 = .ok (.iconst 1, 1) := by decide +kernel
theorem d_M_explore_104 : decode prog_10_method_46_code 104 = .ok (.iadd, 1) := by decide +kernel
theorem d_M_explore_105 : decode prog_10_method_46_code 105 = .ok (.putfield 184, 3) := by decide +kernel
theorem d_M_explore_108 : decode prog_10_method_46_code 108 = .ok (.iinc 2 1, 3) := by decide +kernel
theorem d_M_explore_111 : decode prog_10_method_46_code 111 = .ok (.goto (-69), 3) := by decide +kernel
theorem d_M_explore_92 : decode prog_10_method_46_code 92 = .ok (.aload_n 0, 1) := by decide +kernel
theorem d_M_explore_93 : decode prog_10_method_46_code 93 = .ok (.getfield 184, 3) := by decide +kernel
theorem d_M_explore_96 : decode prog_10_method_46_code 96 = .ok (.goto 9, 3) := by decide +kernel
theorem d_M_firstOver_0 : decode prog_10_method_47_code 0 = .ok (.iconst 0, 1) := by decide +kernel
theorem d_M_firstOver_1 : decode prog_10_method_47_code 1 = .ok (.istore_n 2, 1) := by decide +kernel
theorem d_M_firstOver_2 : decode prog_10_method_47_code 2 = .ok (.iload_n 2, 1) := by decide +kernel
theorem d_M_firstOver_3 : decode prog_10_method_47_code 3 = .ok (.aload_n 0, 1) := by decide +kernel
theorem d_M_firstOver_4 : decode prog_10_method_47_code 4 = .ok (.getfield 181, 3) := by decide +kernel
theorem d_M_firstOver_7 : decode prog_10_method_47_code 7 = .ok (.if_icmp .ge 26, 3) := by decide +kernel
theorem d_M_firstOver_33 : decode prog_10_method_47_code 33 = .ok (.iconst (-1), 1) := by decide +kernel
theorem d_M_firstOver_34 : decode prog_10_method_47_code 34 = .ok (.ireturn, 1) := by decide +kernel
theorem d_M_firstOver_10 : decode prog_10_method_47_code 10 = .ok (.aload_n 0, 1) := by decide +kernel
theorem d_M_firstOver_11 : decode prog_10_method_47_code 11 = .ok (.getfield 110, 3) := by decide +kernel
theorem d_M_firstOver_14 : decode prog_10_method_47_code 14 = .ok (.iload_n 2, 1) := by decide +kernel
theorem d_M_firstOver_15 : decode prog_10_method_47_code 15 = .ok (.iaload, 1) := by decide +kernel
theorem d_M_firstOver_16 : decode prog_10_method_47_code 16 = .ok (.bipush 8, 2) := by decide +kernel
theorem d_M_firstOver_18 : decode prog_10_method_47_code 18 = .ok (.irem, 1) := by decide +kernel
theorem d_M_firstOver_19 : decode prog_10_method_47_code 19 = .ok (.iload_n 1, 1) := by decide +kernel
theorem d_M_firstOver_20 : decode prog_10_method_47_code 20 = .ok (.iconst 1, 1) := by decide +kernel
theorem d_M_firstOver_21 : decode prog_10_method_47_code 21 = .ok (.iadd, 1) := by decide +kernel
theorem d_M_firstOver_22 : decode prog_10_method_47_code 22 = .ok (.if_icmp .ne 5, 3) := by decide +kernel
theorem d_M_firstOver_27 : decode prog_10_method_47_code 27 = .ok (.iinc 2 1, 3) := by decide +kernel
theorem d_M_firstOver_30 : decode prog_10_method_47_code 30 = .ok (.goto (-28), 3) := by decide +kernel
theorem d_M_firstOver_25 : decode prog_10_method_47_code 25 = .ok (.iload_n 2, 1) := by decide +kernel
theorem d_M_firstOver_26 : decode prog_10_method_47_code 26 = .ok (.ireturn, 1) := by decide +kernel
theorem d_M_depth_0 : decode prog_10_method_48_code 0 = .ok (.iconst 0, 1) := by decide +kernel
theorem d_M_depth_1 : decode prog_10_method_48_code 1 = .ok (.istore_n 2, 1) := by decide +kernel
theorem d_M_depth_2 : decode prog_10_method_48_code 2 = .ok (.iload_n 1, 1) := by decide +kernel
theorem d_M_depth_3 : decode prog_10_method_48_code 3 = .ok (.istore_n 3, 1) := by decide +kernel
theorem d_M_depth_4 : decode prog_10_method_48_code 4 = .ok (.aload_n 0, 1) := by decide +kernel
theorem d_M_depth_5 : decode prog_10_method_48_code 5 = .ok (.getfield 116, 3) := by decide +kernel
theorem d_M_depth_8 : decode prog_10_method_48_code 8 = .ok (.iload_n 3, 1) := by decide +kernel
theorem d_M_depth_9 : decode prog_10_method_48_code 9 = .ok (.iaload, 1) := by decide +kernel
theorem d_M_depth_10 : decode prog_10_method_48_code 10 = .ok (.ifCond .lt 16, 3) := by decide +kernel
theorem d_M_depth_26 : decode prog_10_method_48_code 26 = .ok (.iload_n 2, 1) := by decide +kernel
theorem d_M_depth_27 : decode prog_10_method_48_code 27 = .ok (.ireturn, 1) := by decide +kernel
theorem d_M_depth_13 : decode prog_10_method_48_code 13 = .ok (.iinc 2 1, 3) := by decide +kernel
theorem d_M_depth_16 : decode prog_10_method_48_code 16 = .ok (.aload_n 0, 1) := by decide +kernel
theorem d_M_depth_17 : decode prog_10_method_48_code 17 = .ok (.getfield 116, 3) := by decide +kernel
theorem d_M_depth_20 : decode prog_10_method_48_code 20 = .ok (.iload_n 3, 1) := by decide +kernel
theorem d_M_depth_21 : decode prog_10_method_48_code 21 = .ok (.iaload, 1) := by decide +kernel
theorem d_M_depth_22 : decode prog_10_method_48_code 22 = .ok (.istore_n 3, 1) := by decide +kernel
theorem d_M_depth_23 : decode prog_10_method_48_code 23 = .ok (.goto (-19), 3) := by decide +kernel
theorem d_M_reach_0 : decode prog_10_method_49_code 0 = .ok (.aload_n 0, 1) := by decide +kernel
theorem d_M_reach_1 : decode prog_10_method_49_code 1 = .ok (.aload_n 0, 1) := by decide +kernel
theorem d_M_reach_2 : decode prog_10_method_49_code 2 = .ok (.getfield 198, 3) := by decide +kernel
theorem d_M_reach_5 : decode prog_10_method_49_code 5 = .ok (.ifCond .ne 7, 3) := by decide +kernel
theorem d_M_reach_12 : decode prog_10_method_49_code 12 = .ok (.iload_n 1, 1) := by decide +kernel
theorem d_M_reach_13 : decode prog_10_method_49_code 13 = .ok (.ifCond .lt 11, 3) := by decide +kernel
theorem d_M_reach_16 : decode prog_10_method_49_code 16 = .ok (.iload_n 1, 1) := by decide +kernel
theorem d_M_reach_17 : decode prog_10_method_49_code 17 = .ok (.aload_n 0, 1) := by decide +kernel
theorem d_M_reach_18 : decode prog_10_method_49_code 18 = .ok (.getfield 211, 3) := by decide +kernel
theorem d_M_reach_21 : decode prog_10_method_49_code 21 = .ok (.if_icmp .lt 7, 3) := by decide +kernel
theorem d_M_reach_28 : decode prog_10_method_49_code 28 = .ok (.iconst 0, 1) := by decide +kernel
theorem d_M_reach_8 : decode prog_10_method_49_code 8 = .ok (.iconst 1, 1) := by decide +kernel
theorem d_M_reach_9 : decode prog_10_method_49_code 9 = .ok (.goto 20, 3) := by decide +kernel
theorem d_M_reach_24 : decode prog_10_method_49_code 24 = .ok (.iconst 2, 1) := by decide +kernel
theorem d_M_reach_25 : decode prog_10_method_49_code 25 = .ok (.goto 4, 3) := by decide +kernel
theorem d_M_reach_29 : decode prog_10_method_49_code 29 = .ok (.putfield 137, 3) := by decide +kernel
theorem d_M_reach_32 : decode prog_10_method_49_code 32 = .ok (.aload_n 0, 1) := by decide +kernel
theorem d_M_reach_33 : decode prog_10_method_49_code 33 = .ok (.getfield 137, 3) := by decide +kernel
theorem d_M_reach_36 : decode prog_10_method_49_code 36 = .ok (.ifCond .le 5, 3) := by decide +kernel
theorem d_M_reach_41 : decode prog_10_method_49_code 41 = .ok (.aload_n 0, 1) := by decide +kernel
theorem d_M_reach_42 : decode prog_10_method_49_code 42 = .ok (.iload_n 1, 1) := by decide +kernel
theorem d_M_reach_43 : decode prog_10_method_49_code 43 = .ok (.invokevirtual 281, 3) := by decide +kernel
theorem d_M_reach_46 : decode prog_10_method_49_code 46 = .ok (.istore_n 3, 1) := by decide +kernel
theorem d_M_reach_47 : decode prog_10_method_49_code 47 = .ok (.iload_n 2, 1) := by decide +kernel
theorem d_M_reach_48 : decode prog_10_method_49_code 48 = .ok (.ifCond .eq 17, 3) := by decide +kernel
theorem d_M_reach_65 : decode prog_10_method_49_code 65 = .ok (.iload_n 3, 1) := by decide +kernel
theorem d_M_reach_66 : decode prog_10_method_49_code 66 = .ok (.ifCond .lt 7, 3) := by decide +kernel
theorem d_M_reach_73 : decode prog_10_method_49_code 73 = .ok (.aload_n 0, 1) := by decide +kernel
theorem d_M_reach_74 : decode prog_10_method_49_code 74 = .ok (.invokevirtual 288, 3) := by decide +kernel
theorem d_M_reach_77 : decode prog_10_method_49_code 77 = .ok (.ifCond .eq 7, 3) := by decide +kernel
theorem d_M_reach_84 : decode prog_10_method_49_code 84 = .ok (.iconst 2, 1) := by decide +kernel
theorem d_M_reach_85 : decode prog_10_method_49_code 85 = .ok (.ireturn, 1) := by decide +kernel
theorem d_M_reach_80 : decode prog_10_method_49_code 80 = .ok (.iconst 0, 1) := by decide +kernel
theorem d_M_reach_81 : decode prog_10_method_49_code 81 = .ok (.goto 4, 3) := by decide +kernel
theorem d_M_reach_69 : decode prog_10_method_49_code 69 = .ok (.iconst 1, 1) := by decide +kernel
theorem d_M_reach_70 : decode prog_10_method_49_code 70 = .ok (.goto 15, 3) := by decide +kernel
theorem d_M_reach_51 : decode prog_10_method_49_code 51 = .ok (.iload_n 3, 1) := by decide +kernel
theorem d_M_reach_52 : decode prog_10_method_49_code 52 = .ok (.ifCond .ge 7, 3) := by decide +kernel
theorem d_M_reach_59 : decode prog_10_method_49_code 59 = .ok (.aload_n 0, 1) := by decide +kernel
theorem d_M_reach_60 : decode prog_10_method_49_code 60 = .ok (.iload_n 3, 1) := by decide +kernel
theorem d_M_reach_61 : decode prog_10_method_49_code 61 = .ok (.invokevirtual 285, 3) := by decide +kernel
theorem d_M_reach_64 : decode prog_10_method_49_code 64 = .ok (.ireturn, 1) := by decide +kernel
theorem d_M_reach_55 : decode prog_10_method_49_code 55 = .ok (.iconst (-1), 1) := by decide +kernel
theorem d_M_reach_56 : decode prog_10_method_49_code 56 = .ok (.goto 8, 3) := by decide +kernel
theorem d_M_reach_39 : decode prog_10_method_49_code 39 = .ok (.iconst 0, 1) := by decide +kernel
theorem d_M_reach_40 : decode prog_10_method_49_code 40 = .ok (.ireturn, 1) := by decide +kernel
theorem d_M_way_0 : decode prog_10_method_50_code 0 = .ok (.aload_n 0, 1) := by decide +kernel
theorem d_M_way_1 : decode prog_10_method_50_code 1 = .ok (.aload_n 0, 1) := by decide +kernel
theorem d_M_way_2 : decode prog_10_method_50_code 2 = .ok (.getfield 198, 3) := by decide +kernel
theorem d_M_way_5 : decode prog_10_method_50_code 5 = .ok (.ifCond .ne 7, 3) := by decide +kernel
theorem d_M_way_12 : decode prog_10_method_50_code 12 = .ok (.iload_n 1, 1) := by decide +kernel
theorem d_M_way_13 : decode prog_10_method_50_code 13 = .ok (.ifCond .lt 11, 3) := by decide +kernel
theorem d_M_way_16 : decode prog_10_method_50_code 16 = .ok (.iload_n 1, 1) := by decide +kernel
theorem d_M_way_17 : decode prog_10_method_50_code 17 = .ok (.aload_n 0, 1) := by decide +kernel
theorem d_M_way_18 : decode prog_10_method_50_code 18 = .ok (.getfield 211, 3) := by decide +kernel
theorem d_M_way_21 : decode prog_10_method_50_code 21 = .ok (.if_icmp .lt 7, 3) := by decide +kernel
theorem d_M_way_28 : decode prog_10_method_50_code 28 = .ok (.iconst 0, 1) := by decide +kernel
theorem d_M_way_8 : decode prog_10_method_50_code 8 = .ok (.iconst 1, 1) := by decide +kernel
theorem d_M_way_9 : decode prog_10_method_50_code 9 = .ok (.goto 20, 3) := by decide +kernel
theorem d_M_way_24 : decode prog_10_method_50_code 24 = .ok (.iconst 2, 1) := by decide +kernel
theorem d_M_way_25 : decode prog_10_method_50_code 25 = .ok (.goto 4, 3) := by decide +kernel
theorem d_M_way_29 : decode prog_10_method_50_code 29 = .ok (.putfield 137, 3) := by decide +kernel
theorem d_M_way_32 : decode prog_10_method_50_code 32 = .ok (.aload_n 0, 1) := by decide +kernel
theorem d_M_way_33 : decode prog_10_method_50_code 33 = .ok (.getfield 137, 3) := by decide +kernel
theorem d_M_way_36 : decode prog_10_method_50_code 36 = .ok (.ifCond .le 5, 3) := by decide +kernel
theorem d_M_way_41 : decode prog_10_method_50_code 41 = .ok (.aload_n 0, 1) := by decide +kernel
theorem d_M_way_42 : decode prog_10_method_50_code 42 = .ok (.iload_n 1, 1) := by decide +kernel
theorem d_M_way_43 : decode prog_10_method_50_code 43 = .ok (.invokevirtual 281, 3) := by decide +kernel
theorem d_M_way_46 : decode prog_10_method_50_code 46 = .ok (.istore 4, 2) := by decide +kernel
theorem d_M_way_48 : decode prog_10_method_50_code 48 = .ok (.iload 4, 2) := by decide +kernel
theorem d_M_way_50 : decode prog_10_method_50_code 50 = .ok (.ifCond .lt 26, 3) := by decide +kernel
theorem d_M_way_76 : decode prog_10_method_50_code 76 = .ok (.iconst (-1), 1) := by decide +kernel
theorem d_M_way_77 : decode prog_10_method_50_code 77 = .ok (.ireturn, 1) := by decide +kernel
theorem d_M_way_53 : decode prog_10_method_50_code 53 = .ok (.iload_n 2, 1) := by decide +kernel
theorem d_M_way_54 : decode prog_10_method_50_code 54 = .ok (.ifCond .lt 22, 3) := by decide +kernel
theorem d_M_way_57 : decode prog_10_method_50_code 57 = .ok (.iload_n 2, 1) := by decide +kernel
theorem d_M_way_58 : decode prog_10_method_50_code 58 = .ok (.aload_n 0, 1) := by decide +kernel
theorem d_M_way_59 : decode prog_10_method_50_code 59 = .ok (.iload 4, 2) := by decide +kernel
theorem d_M_way_61 : decode prog_10_method_50_code 61 = .ok (.invokevirtual 285, 3) := by decide +kernel
theorem d_M_way_64 : decode prog_10_method_50_code 64 = .ok (.if_icmp .ge 12, 3) := by decide +kernel
theorem d_M_way_67 : decode prog_10_method_50_code 67 = .ok (.iload_n 3, 1) := by decide +kernel
theorem d_M_way_68 : decode prog_10_method_50_code 68 = .ok (.ifCond .lt 8, 3) := by decide +kernel
theorem d_M_way_71 : decode prog_10_method_50_code 71 = .ok (.iload_n 3, 1) := by decide +kernel
theorem d_M_way_72 : decode prog_10_method_50_code 72 = .ok (.iconst 2, 1) := by decide +kernel
theorem d_M_way_73 : decode prog_10_method_50_code 73 = .ok (.if_icmp .le 5, 3) := by decide +kernel
theorem d_M_way_39 : decode prog_10_method_50_code 39 = .ok (.iconst 0, 1) := by decide +kernel
theorem d_M_way_40 : decode prog_10_method_50_code 40 = .ok (.ireturn, 1) := by decide +kernel
theorem d_M_way_78 : decode prog_10_method_50_code 78 = .ok (.aload_n 0, 1) := by decide +kernel
theorem d_M_way_79 : decode prog_10_method_50_code 79 = .ok (.iload 4, 2) := by decide +kernel
theorem d_M_way_81 : decode prog_10_method_50_code 81 = .ok (.invokevirtual 285, 3) := by decide +kernel
theorem d_M_way_84 : decode prog_10_method_50_code 84 = .ok (.iload_n 2, 1) := by decide +kernel
theorem d_M_way_85 : decode prog_10_method_50_code 85 = .ok (.iconst 1, 1) := by decide +kernel
theorem d_M_way_86 : decode prog_10_method_50_code 86 = .ok (.iadd, 1) := by decide +kernel
theorem d_M_way_87 : decode prog_10_method_50_code 87 = .ok (.if_icmp .le 15, 3) := by decide +kernel
theorem d_M_way_102 : decode prog_10_method_50_code 102 = .ok (.iload_n 3, 1) := by decide +kernel
theorem d_M_way_103 : decode prog_10_method_50_code 103 = .ok (.ifCond .ne 13, 3) := by decide +kernel
theorem d_M_way_116 : decode prog_10_method_50_code 116 = .ok (.iload_n 3, 1) := by decide +kernel
theorem d_M_way_117 : decode prog_10_method_50_code 117 = .ok (.iconst 1, 1) := by decide +kernel
theorem d_M_way_118 : decode prog_10_method_50_code 118 = .ok (.if_icmp .ne 13, 3) := by decide +kernel
theorem d_M_way_131 : decode prog_10_method_50_code 131 = .ok (.aload_n 0, 1) := by decide +kernel
theorem d_M_way_132 : decode prog_10_method_50_code 132 = .ok (.getfield 125, 3) := by decide +kernel
theorem d_M_way_135 : decode prog_10_method_50_code 135 = .ok (.iload 4, 2) := by decide +kernel
theorem d_M_way_137 : decode prog_10_method_50_code 137 = .ok (.iaload, 1) := by decide +kernel
theorem d_M_way_138 : decode prog_10_method_50_code 138 = .ok (.ireturn, 1) := by decide +kernel
theorem d_M_way_121 : decode prog_10_method_50_code 121 = .ok (.aload_n 0, 1) := by decide +kernel
theorem d_M_way_122 : decode prog_10_method_50_code 122 = .ok (.getfield 122, 3) := by decide +kernel
theorem d_M_way_125 : decode prog_10_method_50_code 125 = .ok (.iload 4, 2) := by decide +kernel
theorem d_M_way_127 : decode prog_10_method_50_code 127 = .ok (.iaload, 1) := by decide +kernel
theorem d_M_way_128 : decode prog_10_method_50_code 128 = .ok (.goto 10, 3) := by decide +kernel
theorem d_M_way_106 : decode prog_10_method_50_code 106 = .ok (.aload_n 0, 1) := by decide +kernel
theorem d_M_way_107 : decode prog_10_method_50_code 107 = .ok (.getfield 119, 3) := by decide +kernel
theorem d_M_way_110 : decode prog_10_method_50_code 110 = .ok (.iload 4, 2) := by decide +kernel
theorem d_M_way_112 : decode prog_10_method_50_code 112 = .ok (.iaload, 1) := by decide +kernel
theorem d_M_way_113 : decode prog_10_method_50_code 113 = .ok (.goto 25, 3) := by decide +kernel
theorem d_M_way_90 : decode prog_10_method_50_code 90 = .ok (.aload_n 0, 1) := by decide +kernel
theorem d_M_way_91 : decode prog_10_method_50_code 91 = .ok (.getfield 116, 3) := by decide +kernel
theorem d_M_way_94 : decode prog_10_method_50_code 94 = .ok (.iload 4, 2) := by decide +kernel
theorem d_M_way_96 : decode prog_10_method_50_code 96 = .ok (.iaload, 1) := by decide +kernel
theorem d_M_way_97 : decode prog_10_method_50_code 97 = .ok (.istore 4, 2) := by decide +kernel
theorem d_M_way_99 : decode prog_10_method_50_code 99 = .ok (.goto (-21), 3) := by decide +kernel
theorem d_M_isFollowed_0 : decode prog_10_method_51_code 0 = .ok (.aload_n 0, 1) := by decide +kernel
theorem d_M_isFollowed_1 : decode prog_10_method_51_code 1 = .ok (.getfield 128, 3) := by decide +kernel
theorem d_M_isFollowed_4 : decode prog_10_method_51_code 4 = .ok (.iconst 5, 1) := by decide +kernel
theorem d_M_isFollowed_5 : decode prog_10_method_51_code 5 = .ok (.iload_n 1, 1) := by decide +kernel
theorem d_M_isFollowed_6 : decode prog_10_method_51_code 6 = .ok (.imul, 1) := by decide +kernel
theorem d_M_isFollowed_7 : decode prog_10_method_51_code 7 = .ok (.iload_n 2, 1) := by decide +kernel
theorem d_M_isFollowed_8 : decode prog_10_method_51_code 8 = .ok (.bipush 32, 2) := by decide +kernel
theorem d_M_isFollowed_10 : decode prog_10_method_51_code 10 = .ok (.idiv, 1) := by decide +kernel
theorem d_M_isFollowed_11 : decode prog_10_method_51_code 11 = .ok (.iadd, 1) := by decide +kernel
theorem d_M_isFollowed_12 : decode prog_10_method_51_code 12 = .ok (.iaload, 1) := by decide +kernel
theorem d_M_isFollowed_13 : decode prog_10_method_51_code 13 = .ok (.iload_n 2, 1) := by decide +kernel
theorem d_M_isFollowed_14 : decode prog_10_method_51_code 14 = .ok (.bipush 32, 2) := by decide +kernel
theorem d_M_isFollowed_16 : decode prog_10_method_51_code 16 = .ok (.irem, 1) := by decide +kernel
theorem d_M_isFollowed_17 : decode prog_10_method_51_code 17 = .ok (.ishr, 1) := by decide +kernel
theorem d_M_isFollowed_18 : decode prog_10_method_51_code 18 = .ok (.iconst 1, 1) := by decide +kernel
theorem d_M_isFollowed_19 : decode prog_10_method_51_code 19 = .ok (.iand, 1) := by decide +kernel
theorem d_M_isFollowed_20 : decode prog_10_method_51_code 20 = .ok (.iconst 1, 1) := by decide +kernel
theorem d_M_isFollowed_21 : decode prog_10_method_51_code 21 = .ok (.if_icmp .ne 7, 3) := by decide +kernel
theorem d_M_isFollowed_28 : decode prog_10_method_51_code 28 = .ok (.iconst 0, 1) := by decide +kernel
theorem d_M_isFollowed_29 : decode prog_10_method_51_code 29 = .ok (.ireturn, 1) := by decide +kernel
theorem d_M_isFollowed_24 : decode prog_10_method_51_code 24 = .ok (.iconst 1, 1) := by decide +kernel
theorem d_M_isFollowed_25 : decode prog_10_method_51_code 25 = .ok (.goto 4, 3) := by decide +kernel
theorem d_M_judge_0 : decode prog_10_method_52_code 0 = .ok (.iconst 0, 1) := by decide +kernel
theorem d_M_judge_1 : decode prog_10_method_52_code 1 = .ok (.istore_n 1, 1) := by decide +kernel
theorem d_M_judge_2 : decode prog_10_method_52_code 2 = .ok (.iload_n 1, 1) := by decide +kernel
theorem d_M_judge_3 : decode prog_10_method_52_code 3 = .ok (.aload_n 0, 1) := by decide +kernel
theorem d_M_judge_4 : decode prog_10_method_52_code 4 = .ok (.getfield 181, 3) := by decide +kernel
theorem d_M_judge_7 : decode prog_10_method_52_code 7 = .ok (.if_icmp .ge 53, 3) := by decide +kernel
theorem d_M_judge_60 : decode prog_10_method_52_code 60 = .ok (.iconst 1, 1) := by decide +kernel
theorem d_M_judge_61 : decode prog_10_method_52_code 61 = .ok (.istore_n 1, 1) := by decide +kernel
theorem d_M_judge_10 : decode prog_10_method_52_code 10 = .ok (.aload_n 0, 1) := by decide +kernel
theorem d_M_judge_11 : decode prog_10_method_52_code 11 = .ok (.getfield 110, 3) := by decide +kernel
theorem d_M_judge_14 : decode prog_10_method_52_code 14 = .ok (.iload_n 1, 1) := by decide +kernel
theorem d_M_judge_15 : decode prog_10_method_52_code 15 = .ok (.iaload, 1) := by decide +kernel
theorem d_M_judge_16 : decode prog_10_method_52_code 16 = .ok (.bipush 8, 2) := by decide +kernel
theorem d_M_judge_18 : decode prog_10_method_52_code 18 = .ok (.irem, 1) := by decide +kernel
theorem d_M_judge_19 : decode prog_10_method_52_code 19 = .ok (.istore_n 2, 1) := by decide +kernel
theorem d_M_judge_20 : decode prog_10_method_52_code 20 = .ok (.aload_n 0, 1) := by decide +kernel
theorem d_M_judge_21 : decode prog_10_method_52_code 21 = .ok (.getfield 131, 3) := by decide +kernel
theorem d_M_judge_24 : decode prog_10_method_52_code 24 = .ok (.iload_n 1, 1) := by decide +kernel
theorem d_M_judge_25 : decode prog_10_method_52_code 25 = .ok (.iload_n 2, 1) := by decide +kernel
theorem d_M_judge_26 : decode prog_10_method_52_code 26 = .ok (.ifCond .le 26, 3) := by decide +kernel
theorem d_M_judge_52 : decode prog_10_method_52_code 52 = .ok (.iconst 0, 1) := by decide +kernel
theorem d_M_judge_53 : decode prog_10_method_52_code 53 = .ok (.bastore, 1) := by decide +kernel
theorem d_M_judge_54 : decode prog_10_method_52_code 54 = .ok (.iinc 1 1, 3) := by decide +kernel
theorem d_M_judge_57 : decode prog_10_method_52_code 57 = .ok (.goto (-55), 3) := by decide +kernel
theorem d_M_judge_29 : decode prog_10_method_52_code 29 = .ok (.aload_n 0, 1) := by decide +kernel
theorem d_M_judge_30 : decode prog_10_method_52_code 30 = .ok (.getfield 28, 3) := by decide +kernel
theorem d_M_judge_33 : decode prog_10_method_52_code 33 = .ok (.iload_n 2, 1) := by decide +kernel
theorem d_M_judge_34 : decode prog_10_method_52_code 34 = .ok (.ifCond .le 9, 3) := by decide +kernel
theorem d_M_judge_43 : decode prog_10_method_52_code 43 = .ok (.iconst 0, 1) := by decide +kernel
theorem d_M_judge_44 : decode prog_10_method_52_code 44 = .ok (.baload, 1) := by decide +kernel
theorem d_M_judge_45 : decode prog_10_method_52_code 45 = .ok (.ifCond .eq 7, 3) := by decide +kernel
theorem d_M_judge_48 : decode prog_10_method_52_code 48 = .ok (.iconst 1, 1) := by decide +kernel
theorem d_M_judge_49 : decode prog_10_method_52_code 49 = .ok (.goto 4, 3) := by decide +kernel
theorem d_M_judge_37 : decode prog_10_method_52_code 37 = .ok (.iload_n 2, 1) := by decide +kernel
theorem d_M_judge_38 : decode prog_10_method_52_code 38 = .ok (.iconst 1, 1) := by decide +kernel
theorem d_M_judge_39 : decode prog_10_method_52_code 39 = .ok (.isub, 1) := by decide +kernel
theorem d_M_judge_40 : decode prog_10_method_52_code 40 = .ok (.goto 4, 3) := by decide +kernel
theorem d_M_judge_62 : decode prog_10_method_52_code 62 = .ok (.iload_n 1, 1) := by decide +kernel
theorem d_M_judge_63 : decode prog_10_method_52_code 63 = .ok (.ifCond .eq 122, 3) := by decide +kernel
theorem d_M_judge_185 : decode prog_10_method_52_code 185 = .ok (.return_, 1) := by decide +kernel
theorem d_M_judge_66 : decode prog_10_method_52_code 66 = .ok (.iconst 0, 1) := by decide +kernel
theorem d_M_judge_67 : decode prog_10_method_52_code 67 = .ok (.istore_n 1, 1) := by decide +kernel
theorem d_M_judge_68 : decode prog_10_method_52_code 68 = .ok (.aload_n 0, 1) := by decide +kernel
theorem d_M_judge_69 : decode prog_10_method_52_code 69 = .ok (.getfield 181, 3) := by decide +kernel
theorem d_M_judge_72 : decode prog_10_method_52_code 72 = .ok (.iconst 1, 1) := by decide +kernel
theorem d_M_judge_73 : decode prog_10_method_52_code 73 = .ok (.isub, 1) := by decide +kernel
theorem d_M_judge_74 : decode prog_10_method_52_code 74 = .ok (.istore_n 2, 1) := by decide +kernel
theorem d_M_judge_75 : decode prog_10_method_52_code 75 = .ok (.iload_n 2, 1) := by decide +kernel
theorem d_M_judge_76 : decode prog_10_method_52_code 76 = .ok (.ifCond .lt 106, 3) := by decide +kernel
theorem d_M_judge_182 : decode prog_10_method_52_code 182 = .ok (.goto (-120), 3) := by decide +kernel
theorem d_M_judge_79 : decode prog_10_method_52_code 79 = .ok (.iconst 0, 1) := by decide +kernel
theorem d_M_judge_80 : decode prog_10_method_52_code 80 = .ok (.istore_n 3, 1) := by decide +kernel
theorem d_M_judge_81 : decode prog_10_method_52_code 81 = .ok (.iconst 0, 1) := by decide +kernel
theorem d_M_judge_82 : decode prog_10_method_52_code 82 = .ok (.istore 4, 2) := by decide +kernel
theorem d_M_judge_84 : decode prog_10_method_52_code 84 = .ok (.iload 4, 2) := by decide +kernel
theorem d_M_judge_86 : decode prog_10_method_52_code 86 = .ok (.aload_n 0, 1) := by decide +kernel
theorem d_M_judge_87 : decode prog_10_method_52_code 87 = .ok (.getfield 181, 3) := by decide +kernel
theorem d_M_judge_90 : decode prog_10_method_52_code 90 = .ok (.if_icmp .ge 48, 3) := by decide +kernel
theorem d_M_judge_93 : decode prog_10_method_52_code 93 = .ok (.aload_n 0, 1) := by decide +kernel
theorem d_M_judge_94 : decode prog_10_method_52_code 94 = .ok (.getfield 131, 3) := by decide +kernel
theorem d_M_judge_97 : decode prog_10_method_52_code 97 = .ok (.iload_n 2, 1) := by decide +kernel
theorem d_M_judge_98 : decode prog_10_method_52_code 98 = .ok (.baload, 1) := by decide +kernel
theorem d_M_judge_99 : decode prog_10_method_52_code 99 = .ok (.ifCond .ne 39, 3) := by decide +kernel
theorem d_M_judge_102 : decode prog_10_method_52_code 102 = .ok (.iload_n 3, 1) := by decide +kernel
theorem d_M_judge_103 : decode prog_10_method_52_code 103 = .ok (.ifCond .ne 23, 3) := by decide +kernel
theorem d_M_judge_126 : decode prog_10_method_52_code 126 = .ok (.iconst 1, 1) := by decide +kernel
theorem d_M_judge_127 : decode prog_10_method_52_code 127 = .ok (.goto 4, 3) := by decide +kernel
theorem d_M_judge_131 : decode prog_10_method_52_code 131 = .ok (.istore_n 3, 1) := by decide +kernel
theorem d_M_judge_132 : decode prog_10_method_52_code 132 = .ok (.iinc 4 1, 3) := by decide +kernel
theorem d_M_judge_135 : decode prog_10_method_52_code 135 = .ok (.goto (-51), 3) := by decide +kernel
theorem d_M_judge_106 : decode prog_10_method_52_code 106 = .ok (.aload_n 0, 1) := by decide +kernel
theorem d_M_judge_107 : decode prog_10_method_52_code 107 = .ok (.getfield 131, 3) := by decide +kernel
theorem d_M_judge_110 : decode prog_10_method_52_code 110 = .ok (.iload 4, 2) := by decide +kernel
theorem d_M_judge_112 : decode prog_10_method_52_code 112 = .ok (.baload, 1) := by decide +kernel
theorem d_M_judge_113 : decode prog_10_method_52_code 113 = .ok (.ifCond .eq 17, 3) := by decide +kernel
theorem d_M_judge_130 : decode prog_10_method_52_code 130 = .ok (.iconst 0, 1) := by decide +kernel
theorem d_M_judge_116 : decode prog_10_method_52_code 116 = .ok (.aload_n 0, 1) := by decide +kernel
theorem d_M_judge_117 : decode prog_10_method_52_code 117 = .ok (.iload_n 2, 1) := by decide +kernel
theorem d_M_judge_118 : decode prog_10_method_52_code 118 = .ok (.iload 4, 2) := by decide +kernel
theorem d_M_judge_120 : decode prog_10_method_52_code 120 = .ok (.invokevirtual 292, 3) := by decide +kernel
theorem d_M_judge_123 : decode prog_10_method_52_code 123 = .ok (.ifCond .eq 7, 3) := by decide +kernel
theorem d_M_judge_138 : decode prog_10_method_52_code 138 = .ok (.aload_n 0, 1) := by decide +kernel
theorem d_M_judge_139 : decode prog_10_method_52_code 139 = .ok (.getfield 131, 3) := by decide +kernel
theorem d_M_judge_142 : decode prog_10_method_52_code 142 = .ok (.iload_n 2, 1) := by decide +kernel
theorem d_M_judge_143 : decode prog_10_method_52_code 143 = .ok (.aload_n 0, 1) := by decide +kernel
theorem d_M_judge_144 : decode prog_10_method_52_code 144 = .ok (.getfield 131, 3) := by decide +kernel
theorem d_M_judge_147 : decode prog_10_method_52_code 147 = .ok (.iload_n 2, 1) := by decide +kernel
theorem d_M_judge_148 : decode prog_10_method_52_code 148 = .ok (.baload, 1) := by decide +kernel
theorem d_M_judge_149 : decode prog_10_method_52_code 149 = .ok (.ifCond .ne 7, 3) := by decide +kernel
theorem d_M_judge_152 : decode prog_10_method_52_code 152 = .ok (.iload_n 3, 1) := by decide +kernel
theorem d_M_judge_153 : decode prog_10_method_52_code 153 = .ok (.ifCond .eq 7, 3) := by decide +kernel
theorem d_M_judge_160 : decode prog_10_method_52_code 160 = .ok (.iconst 0, 1) := by decide +kernel
theorem d_M_judge_156 : decode prog_10_method_52_code 156 = .ok (.iconst 1, 1) := by decide +kernel
theorem d_M_judge_157 : decode prog_10_method_52_code 157 = .ok (.goto 4, 3) := by decide +kernel
theorem d_M_judge_161 : decode prog_10_method_52_code 161 = .ok (.bastore, 1) := by decide +kernel
theorem d_M_judge_162 : decode prog_10_method_52_code 162 = .ok (.iload_n 1, 1) := by decide +kernel
theorem d_M_judge_163 : decode prog_10_method_52_code 163 = .ok (.ifCond .ne 7, 3) := by decide +kernel
theorem d_M_judge_170 : decode prog_10_method_52_code 170 = .ok (.iconst 1, 1) := by decide +kernel
theorem d_M_judge_171 : decode prog_10_method_52_code 171 = .ok (.goto 4, 3) := by decide +kernel
theorem d_M_judge_175 : decode prog_10_method_52_code 175 = .ok (.istore_n 1, 1) := by decide +kernel
theorem d_M_judge_176 : decode prog_10_method_52_code 176 = .ok (.iinc 2 (-1), 3) := by decide +kernel
theorem d_M_judge_179 : decode prog_10_method_52_code 179 = .ok (.goto (-104), 3) := by decide +kernel
theorem d_M_judge_166 : decode prog_10_method_52_code 166 = .ok (.iload_n 3, 1) := by decide +kernel
theorem d_M_judge_167 : decode prog_10_method_52_code 167 = .ok (.ifCond .eq 7, 3) := by decide +kernel
theorem d_M_judge_174 : decode prog_10_method_52_code 174 = .ok (.iconst 0, 1) := by decide +kernel
theorem d_M_blamed_0 : decode prog_10_method_53_code 0 = .ok (.aload_n 0, 1) := by decide +kernel
theorem d_M_blamed_1 : decode prog_10_method_53_code 1 = .ok (.getfield 172, 3) := by decide +kernel
theorem d_M_blamed_4 : decode prog_10_method_53_code 4 = .ok (.iconst 1, 1) := by decide +kernel
theorem d_M_blamed_5 : decode prog_10_method_53_code 5 = .ok (.isub, 1) := by decide +kernel
theorem d_M_blamed_6 : decode prog_10_method_53_code 6 = .ok (.istore_n 1, 1) := by decide +kernel
theorem d_M_blamed_7 : decode prog_10_method_53_code 7 = .ok (.iload_n 1, 1) := by decide +kernel
theorem d_M_blamed_8 : decode prog_10_method_53_code 8 = .ok (.ifCond .lt 33, 3) := by decide +kernel
theorem d_M_blamed_41 : decode prog_10_method_53_code 41 = .ok (.iload_n 1, 1) := by decide +kernel
theorem d_M_blamed_42 : decode prog_10_method_53_code 42 = .ok (.ireturn, 1) := by decide +kernel
theorem d_M_blamed_11 : decode prog_10_method_53_code 11 = .ok (.aload_n 0, 1) := by decide +kernel
theorem d_M_blamed_12 : decode prog_10_method_53_code 12 = .ok (.getfield 131, 3) := by decide +kernel
theorem d_M_blamed_15 : decode prog_10_method_53_code 15 = .ok (.aload_n 0, 1) := by decide +kernel
theorem d_M_blamed_16 : decode prog_10_method_53_code 16 = .ok (.aload_n 0, 1) := by decide +kernel
theorem d_M_blamed_17 : decode prog_10_method_53_code 17 = .ok (.getfield 101, 3) := by decide +kernel
theorem d_M_blamed_20 : decode prog_10_method_53_code 20 = .ok (.iload_n 1, 1) := by decide +kernel
theorem d_M_blamed_21 : decode prog_10_method_53_code 21 = .ok (.iaload, 1) := by decide +kernel
theorem d_M_blamed_22 : decode prog_10_method_53_code 22 = .ok (.aload_n 0, 1) := by decide +kernel
theorem d_M_blamed_23 : decode prog_10_method_53_code 23 = .ok (.getfield 104, 3) := by decide +kernel
theorem d_M_blamed_26 : decode prog_10_method_53_code 26 = .ok (.iload_n 1, 1) := by decide +kernel
theorem d_M_blamed_27 : decode prog_10_method_53_code 27 = .ok (.iaload, 1) := by decide +kernel
theorem d_M_blamed_28 : decode prog_10_method_53_code 28 = .ok (.invokevirtual 271, 3) := by decide +kernel
theorem d_M_blamed_31 : decode prog_10_method_53_code 31 = .ok (.baload, 1) := by decide +kernel
theorem d_M_blamed_32 : decode prog_10_method_53_code 32 = .ok (.ifCond .ne 9, 3) := by decide +kernel
theorem d_M_blamed_35 : decode prog_10_method_53_code 35 = .ok (.iinc 1 (-1), 3) := by decide +kernel
theorem d_M_blamed_38 : decode prog_10_method_53_code 38 = .ok (.goto (-31), 3) := by decide +kernel
theorem d_M_stuck_0 : decode prog_10_method_54_code 0 = .ok (.iconst 0, 1) := by decide +kernel
theorem d_M_stuck_1 : decode prog_10_method_54_code 1 = .ok (.istore_n 1, 1) := by decide +kernel
theorem d_M_stuck_2 : decode prog_10_method_54_code 2 = .ok (.iconst 0, 1) := by decide +kernel
theorem d_M_stuck_3 : decode prog_10_method_54_code 3 = .ok (.istore_n 2, 1) := by decide +kernel
theorem d_M_stuck_4 : decode prog_10_method_54_code 4 = .ok (.iload_n 2, 1) := by decide +kernel
theorem d_M_stuck_5 : decode prog_10_method_54_code 5 = .ok (.aload_n 0, 1) := by decide +kernel
theorem d_M_stuck_6 : decode prog_10_method_54_code 6 = .ok (.getfield 181, 3) := by decide +kernel
theorem d_M_stuck_9 : decode prog_10_method_54_code 9 = .ok (.if_icmp .ge 83, 3) := by decide +kernel
theorem d_M_stuck_92 : decode prog_10_method_54_code 92 = .ok (.iload_n 1, 1) := by decide +kernel
theorem d_M_stuck_93 : decode prog_10_method_54_code 93 = .ok (.ireturn, 1) := by decide +kernel
theorem d_M_stuck_12 : decode prog_10_method_54_code 12 = .ok (.aload_n 0, 1) := by decide +kernel
theorem d_M_stuck_13 : decode prog_10_method_54_code 13 = .ok (.getfield 110, 3) := by decide +kernel
theorem d_M_stuck_16 : decode prog_10_method_54_code 16 = .ok (.iload_n 2, 1) := by decide +kernel
theorem d_M_stuck_17 : decode prog_10_method_54_code 17 = .ok (.iaload, 1) := by decide +kernel
theorem d_M_stuck_18 : decode prog_10_method_54_code 18 = .ok (.bipush 8, 2) := by decide +kernel
theorem d_M_stuck_20 : decode prog_10_method_54_code 20 = .ok (.irem, 1) := by decide +kernel
theorem d_M_stuck_21 : decode prog_10_method_54_code 21 = .ok (.ifCond .ne 7, 3) := by decide +kernel
theorem d_M_stuck_28 : decode prog_10_method_54_code 28 = .ok (.iconst 0, 1) := by decide +kernel
theorem d_M_stuck_24 : decode prog_10_method_54_code 24 = .ok (.iconst 1, 1) := by decide +kernel
theorem d_M_stuck_25 : decode prog_10_method_54_code 25 = .ok (.goto 4, 3) := by decide +kernel
theorem d_M_stuck_29 : decode prog_10_method_54_code 29 = .ok (.istore_n 3, 1) := by decide +kernel
theorem d_M_stuck_30 : decode prog_10_method_54_code 30 = .ok (.iconst 0, 1) := by decide +kernel
theorem d_M_stuck_31 : decode prog_10_method_54_code 31 = .ok (.istore 4, 2) := by decide +kernel
theorem d_M_stuck_33 : decode prog_10_method_54_code 33 = .ok (.iload 4, 2) := by decide +kernel
theorem d_M_stuck_35 : decode prog_10_method_54_code 35 = .ok (.aload_n 0, 1) := by decide +kernel
theorem d_M_stuck_36 : decode prog_10_method_54_code 36 = .ok (.getfield 181, 3) := by decide +kernel
theorem d_M_stuck_39 : decode prog_10_method_54_code 39 = .ok (.if_icmp .ge 35, 3) := by decide +kernel
theorem d_M_stuck_74 : decode prog_10_method_54_code 74 = .ok (.iload_n 3, 1) := by decide +kernel
theorem d_M_stuck_75 : decode prog_10_method_54_code 75 = .ok (.ifCond .eq 9, 3) := by decide +kernel
theorem d_M_stuck_84 : decode prog_10_method_54_code 84 = .ok (.iload_n 1, 1) := by decide +kernel
theorem d_M_stuck_85 : decode prog_10_method_54_code 85 = .ok (.istore_n 1, 1) := by decide +kernel
theorem d_M_stuck_86 : decode prog_10_method_54_code 86 = .ok (.iinc 2 1, 3) := by decide +kernel
theorem d_M_stuck_89 : decode prog_10_method_54_code 89 = .ok (.goto (-85), 3) := by decide +kernel
theorem d_M_stuck_78 : decode prog_10_method_54_code 78 = .ok (.iload_n 1, 1) := by decide +kernel
theorem d_M_stuck_79 : decode prog_10_method_54_code 79 = .ok (.iconst 1, 1) := by decide +kernel
theorem d_M_stuck_80 : decode prog_10_method_54_code 80 = .ok (.iadd, 1) := by decide +kernel
theorem d_M_stuck_81 : decode prog_10_method_54_code 81 = .ok (.goto 4, 3) := by decide +kernel
theorem d_M_stuck_42 : decode prog_10_method_54_code 42 = .ok (.iload_n 3, 1) := by decide +kernel
theorem d_M_stuck_43 : decode prog_10_method_54_code 43 = .ok (.ifCond .eq 23, 3) := by decide +kernel
theorem d_M_stuck_66 : decode prog_10_method_54_code 66 = .ok (.iconst 0, 1) := by decide +kernel
theorem d_M_stuck_67 : decode prog_10_method_54_code 67 = .ok (.istore_n 3, 1) := by decide +kernel
theorem d_M_stuck_68 : decode prog_10_method_54_code 68 = .ok (.iinc 4 1, 3) := by decide +kernel
theorem d_M_stuck_71 : decode prog_10_method_54_code 71 = .ok (.goto (-38), 3) := by decide +kernel
theorem d_M_stuck_46 : decode prog_10_method_54_code 46 = .ok (.iload 4, 2) := by decide +kernel
theorem d_M_stuck_48 : decode prog_10_method_54_code 48 = .ok (.iload_n 2, 1) := by decide +kernel
theorem d_M_stuck_49 : decode prog_10_method_54_code 49 = .ok (.if_icmp .eq 13, 3) := by decide +kernel
theorem d_M_stuck_62 : decode prog_10_method_54_code 62 = .ok (.iconst 1, 1) := by decide +kernel
theorem d_M_stuck_63 : decode prog_10_method_54_code 63 = .ok (.goto 4, 3) := by decide +kernel
theorem d_M_stuck_52 : decode prog_10_method_54_code 52 = .ok (.aload_n 0, 1) := by decide +kernel
theorem d_M_stuck_53 : decode prog_10_method_54_code 53 = .ok (.iload_n 2, 1) := by decide +kernel
theorem d_M_stuck_54 : decode prog_10_method_54_code 54 = .ok (.iload 4, 2) := by decide +kernel
theorem d_M_stuck_56 : decode prog_10_method_54_code 56 = .ok (.invokevirtual 292, 3) := by decide +kernel
theorem d_M_stuck_59 : decode prog_10_method_54_code 59 = .ok (.ifCond .ne 7, 3) := by decide +kernel
theorem d_M_unused_0 : decode prog_10_method_55_code 0 = .ok (.iconst 0, 1) := by decide +kernel
theorem d_M_unused_1 : decode prog_10_method_55_code 1 = .ok (.istore_n 2, 1) := by decide +kernel
theorem d_M_unused_2 : decode prog_10_method_55_code 2 = .ok (.iconst 0, 1) := by decide +kernel
theorem d_M_unused_3 : decode prog_10_method_55_code 3 = .ok (.istore_n 3, 1) := by decide +kernel
theorem d_M_unused_4 : decode prog_10_method_55_code 4 = .ok (.iload_n 3, 1) := by decide +kernel
theorem d_M_unused_5 : decode prog_10_method_55_code 5 = .ok (.aload_n 0, 1) := by decide +kernel
theorem d_M_unused_6 : decode prog_10_method_55_code 6 = .ok (.getfield 208, 3) := by decide +kernel
theorem d_M_unused_9 : decode prog_10_method_55_code 9 = .ok (.if_icmp .ge 30, 3) := by decide +kernel
theorem d_M_unused_39 : decode prog_10_method_55_code 39 = .ok (.iconst (-1), 1) := by decide +kernel
theorem d_M_unused_40 : decode prog_10_method_55_code 40 = .ok (.ireturn, 1) := by decide +kernel
theorem d_M_unused_12 : decode prog_10_method_55_code 12 = .ok (.aload_n 0, 1) := by decide +kernel
theorem d_M_unused_13 : decode prog_10_method_55_code 13 = .ok (.getfield 191, 3) := by decide +kernel
theorem d_M_unused_16 : decode prog_10_method_55_code 16 = .ok (.iload_n 3, 1) := by decide +kernel
theorem d_M_unused_17 : decode prog_10_method_55_code 17 = .ok (.ishr, 1) := by decide +kernel
theorem d_M_unused_18 : decode prog_10_method_55_code 18 = .ok (.iconst 1, 1) := by decide +kernel
theorem d_M_unused_19 : decode prog_10_method_55_code 19 = .ok (.iand, 1) := by decide +kernel
theorem d_M_unused_20 : decode prog_10_method_55_code 20 = .ok (.ifCond .ne 13, 3) := by decide +kernel
theorem d_M_unused_33 : decode prog_10_method_55_code 33 = .ok (.iinc 3 1, 3) := by decide +kernel
theorem d_M_unused_36 : decode prog_10_method_55_code 36 = .ok (.goto (-32), 3) := by decide +kernel
theorem d_M_unused_23 : decode prog_10_method_55_code 23 = .ok (.iload_n 2, 1) := by decide +kernel
theorem d_M_unused_24 : decode prog_10_method_55_code 24 = .ok (.iload_n 1, 1) := by decide +kernel
theorem d_M_unused_25 : decode prog_10_method_55_code 25 = .ok (.if_icmp .ne 5, 3) := by decide +kernel
theorem d_M_unused_30 : decode prog_10_method_55_code 30 = .ok (.iinc 2 1, 3) := by decide +kernel
theorem d_M_unused_28 : decode prog_10_method_55_code 28 = .ok (.iload_n 3, 1) := by decide +kernel
theorem d_M_unused_29 : decode prog_10_method_55_code 29 = .ok (.ireturn, 1) := by decide +kernel
theorem d_M_study_0 : decode prog_10_method_56_code 0 = .ok (.aload_n 0, 1) := by decide +kernel
theorem d_M_study_1 : decode prog_10_method_56_code 1 = .ok (.aload_n 0, 1) := by decide +kernel
theorem d_M_study_2 : decode prog_10_method_56_code 2 = .ok (.getfield 198, 3) := by decide +kernel
theorem d_M_study_5 : decode prog_10_method_56_code 5 = .ok (.ifCond .ne 7, 3) := by decide +kernel
theorem d_M_study_12 : decode prog_10_method_56_code 12 = .ok (.iload_n 1, 1) := by decide +kernel
theorem d_M_study_13 : decode prog_10_method_56_code 13 = .ok (.ifCond .lt 8, 3) := by decide +kernel
theorem d_M_study_16 : decode prog_10_method_56_code 16 = .ok (.iload_n 1, 1) := by decide +kernel
theorem d_M_study_17 : decode prog_10_method_56_code 17 = .ok (.iconst 4, 1) := by decide +kernel
theorem d_M_study_18 : decode prog_10_method_56_code 18 = .ok (.if_icmp .le 7, 3) := by decide +kernel
theorem d_M_study_25 : decode prog_10_method_56_code 25 = .ok (.iconst 0, 1) := by decide +kernel
theorem d_M_study_8 : decode prog_10_method_56_code 8 = .ok (.iconst 1, 1) := by decide +kernel
theorem d_M_study_9 : decode prog_10_method_56_code 9 = .ok (.goto 17, 3) := by decide +kernel
theorem d_M_study_21 : decode prog_10_method_56_code 21 = .ok (.iconst 2, 1) := by decide +kernel
theorem d_M_study_22 : decode prog_10_method_56_code 22 = .ok (.goto 4, 3) := by decide +kernel
theorem d_M_study_26 : decode prog_10_method_56_code 26 = .ok (.putfield 137, 3) := by decide +kernel
theorem d_M_study_29 : decode prog_10_method_56_code 29 = .ok (.aload_n 0, 1) := by decide +kernel
theorem d_M_study_30 : decode prog_10_method_56_code 30 = .ok (.getfield 137, 3) := by decide +kernel
theorem d_M_study_33 : decode prog_10_method_56_code 33 = .ok (.ifCond .le 5, 3) := by decide +kernel
theorem d_M_study_38 : decode prog_10_method_56_code 38 = .ok (.iload_n 1, 1) := by decide +kernel
theorem d_M_study_39 : decode prog_10_method_56_code 39 = .ok (.ifCond .ne 8, 3) := by decide +kernel
theorem d_M_study_47 : decode prog_10_method_56_code 47 = .ok (.aload_n 0, 1) := by decide +kernel
theorem d_M_study_48 : decode prog_10_method_56_code 48 = .ok (.invokevirtual 288, 3) := by decide +kernel
theorem d_M_study_51 : decode prog_10_method_56_code 51 = .ok (.ifCond .ne 14, 3) := by decide +kernel
theorem d_M_study_65 : decode prog_10_method_56_code 65 = .ok (.iload_n 1, 1) := by decide +kernel
theorem d_M_study_66 : decode prog_10_method_56_code 66 = .ok (.iconst 3, 1) := by decide +kernel
theorem d_M_study_67 : decode prog_10_method_56_code 67 = .ok (.if_icmp .ne 8, 3) := by decide +kernel
theorem d_M_study_75 : decode prog_10_method_56_code 75 = .ok (.iload_n 1, 1) := by decide +kernel
theorem d_M_study_76 : decode prog_10_method_56_code 76 = .ok (.iconst 4, 1) := by decide +kernel
theorem d_M_study_77 : decode prog_10_method_56_code 77 = .ok (.if_icmp .ne 9, 3) := by decide +kernel
theorem d_M_study_86 : decode prog_10_method_56_code 86 = .ok (.aload_n 0, 1) := by decide +kernel
theorem d_M_study_87 : decode prog_10_method_56_code 87 = .ok (.invokevirtual 301, 3) := by decide +kernel
theorem d_M_study_90 : decode prog_10_method_56_code 90 = .ok (.aload_n 0, 1) := by decide +kernel
theorem d_M_study_91 : decode prog_10_method_56_code 91 = .ok (.getfield 131, 3) := by decide +kernel
theorem d_M_study_94 : decode prog_10_method_56_code 94 = .ok (.aload_n 0, 1) := by decide +kernel
theorem d_M_study_95 : decode prog_10_method_56_code 95 = .ok (.aload_n 0, 1) := by decide +kernel
theorem d_M_study_96 : decode prog_10_method_56_code 96 = .ok (.getfield 163, 3) := by decide +kernel
theorem d_M_study_99 : decode prog_10_method_56_code 99 = .ok (.aload_n 0, 1) := by decide +kernel
theorem d_M_study_100 : decode prog_10_method_56_code 100 = .ok (.getfield 169, 3) := by decide +kernel
theorem d_M_study_103 : decode prog_10_method_56_code 103 = .ok (.invokevirtual 271, 3) := by decide +kernel
theorem d_M_study_106 : decode prog_10_method_56_code 106 = .ok (.baload, 1) := by decide +kernel
theorem d_M_study_107 : decode prog_10_method_56_code 107 = .ok (.ifCond .ne 7, 3) := by decide +kernel
theorem d_M_study_114 : decode prog_10_method_56_code 114 = .ok (.iconst 0, 1) := by decide +kernel
theorem d_M_study_110 : decode prog_10_method_56_code 110 = .ok (.iconst 1, 1) := by decide +kernel
theorem d_M_study_111 : decode prog_10_method_56_code 111 = .ok (.goto 4, 3) := by decide +kernel
theorem d_M_study_80 : decode prog_10_method_56_code 80 = .ok (.aload_n 0, 1) := by decide +kernel
theorem d_M_study_81 : decode prog_10_method_56_code 81 = .ok (.iload_n 2, 1) := by decide +kernel
theorem d_M_study_82 : decode prog_10_method_56_code 82 = .ok (.invokevirtual 298, 3) := by decide +kernel
theorem d_M_study_85 : decode prog_10_method_56_code 85 = .ok (.ireturn, 1) := by decide +kernel
theorem d_M_study_70 : decode prog_10_method_56_code 70 = .ok (.aload_n 0, 1) := by decide +kernel
theorem d_M_study_71 : decode prog_10_method_56_code 71 = .ok (.invokevirtual 295, 3) := by decide +kernel
theorem d_M_study_74 : decode prog_10_method_56_code 74 = .ok (.ireturn, 1) := by decide +kernel
theorem d_M_study_54 : decode prog_10_method_56_code 54 = .ok (.iload_n 1, 1) := by decide +kernel
theorem d_M_study_55 : decode prog_10_method_56_code 55 = .ok (.iconst 1, 1) := by decide +kernel
theorem d_M_study_56 : decode prog_10_method_56_code 56 = .ok (.if_icmp .ne 7, 3) := by decide +kernel
theorem d_M_study_63 : decode prog_10_method_56_code 63 = .ok (.iconst (-1), 1) := by decide +kernel
theorem d_M_study_64 : decode prog_10_method_56_code 64 = .ok (.ireturn, 1) := by decide +kernel
theorem d_M_study_59 : decode prog_10_method_56_code 59 = .ok (.iconst 2, 1) := by decide +kernel
theorem d_M_study_60 : decode prog_10_method_56_code 60 = .ok (.goto 4, 3) := by decide +kernel
theorem d_M_study_42 : decode prog_10_method_56_code 42 = .ok (.aload_n 0, 1) := by decide +kernel
theorem d_M_study_43 : decode prog_10_method_56_code 43 = .ok (.getfield 181, 3) := by decide +kernel
theorem d_M_study_46 : decode prog_10_method_56_code 46 = .ok (.ireturn, 1) := by decide +kernel
theorem d_M_study_36 : decode prog_10_method_56_code 36 = .ok (.iconst 0, 1) := by decide +kernel
theorem d_M_study_37 : decode prog_10_method_56_code 37 = .ok (.ireturn, 1) := by decide +kernel
theorem d_M_study_115 : decode prog_10_method_56_code 115 = .ok (.istore_n 3, 1) := by decide +kernel
theorem d_M_study_116 : decode prog_10_method_56_code 116 = .ok (.iload_n 1, 1) := by decide +kernel
theorem d_M_study_117 : decode prog_10_method_56_code 117 = .ok (.iconst 1, 1) := by decide +kernel
theorem d_M_study_118 : decode prog_10_method_56_code 118 = .ok (.if_icmp .ne 15, 3) := by decide +kernel
theorem d_M_study_133 : decode prog_10_method_56_code 133 = .ok (.iload_n 3, 1) := by decide +kernel
theorem d_M_study_134 : decode prog_10_method_56_code 134 = .ok (.ifCond .eq 10, 3) := by decide +kernel
theorem d_M_study_144 : decode prog_10_method_56_code 144 = .ok (.iconst (-1), 1) := by decide +kernel
theorem d_M_study_145 : decode prog_10_method_56_code 145 = .ok (.ireturn, 1) := by decide +kernel
theorem d_M_study_137 : decode prog_10_method_56_code 137 = .ok (.aload_n 0, 1) := by decide +kernel
theorem d_M_study_138 : decode prog_10_method_56_code 138 = .ok (.invokevirtual 304, 3) := by decide +kernel
theorem d_M_study_141 : decode prog_10_method_56_code 141 = .ok (.goto 4, 3) := by decide +kernel
theorem d_M_study_121 : decode prog_10_method_56_code 121 = .ok (.iload_n 3, 1) := by decide +kernel
theorem d_M_study_122 : decode prog_10_method_56_code 122 = .ok (.ifCond .eq 7, 3) := by decide +kernel
theorem d_M_study_129 : decode prog_10_method_56_code 129 = .ok (.iconst 0, 1) := by decide +kernel
theorem d_M_study_130 : decode prog_10_method_56_code 130 = .ok (.goto 15, 3) := by decide +kernel
theorem d_M_study_125 : decode prog_10_method_56_code 125 = .ok (.iconst 1, 1) := by decide +kernel
theorem d_M_study_126 : decode prog_10_method_56_code 126 = .ok (.goto 19, 3) := by decide +kernel
