theorem d_S_init_0 : decode prog_6_method_1_code 0 = .ok (.aload_n 0, 1) := by decide +kernel
theorem d_S_init_1 : decode prog_6_method_1_code 1 = .ok (.invokespecial 3, 3) := by decide +kernel
theorem d_S_init_4 : decode prog_6_method_1_code 4 = .ok (.aload_n 0, 1) := by decide +kernel
theorem d_S_init_5 : decode prog_6_method_1_code 5 = .ok (.bipush 8, 2) := by decide +kernel
theorem d_S_init_7 : decode prog_6_method_1_code 7 = .ok (.newarray .int, 2) := by decide +kernel
theorem d_S_init_9 : decode prog_6_method_1_code 9 = .ok (.putfield 9, 3) := by decide +kernel
theorem d_S_init_12 : decode prog_6_method_1_code 12 = .ok (.aload_n 0, 1) := by decide +kernel
theorem d_S_init_13 : decode prog_6_method_1_code 13 = .ok (.bipush 8, 2) := by decide +kernel
theorem d_S_init_15 : decode prog_6_method_1_code 15 = .ok (.newarray .int, 2) := by decide +kernel
theorem d_S_init_17 : decode prog_6_method_1_code 17 = .ok (.putfield 15, 3) := by decide +kernel
theorem d_S_init_20 : decode prog_6_method_1_code 20 = .ok (.aload_n 0, 1) := by decide +kernel
theorem d_S_init_21 : decode prog_6_method_1_code 21 = .ok (.bipush 24, 2) := by decide +kernel
theorem d_S_init_23 : decode prog_6_method_1_code 23 = .ok (.newarray .int, 2) := by decide +kernel
theorem d_S_init_25 : decode prog_6_method_1_code 25 = .ok (.putfield 18, 3) := by decide +kernel
theorem d_S_init_28 : decode prog_6_method_1_code 28 = .ok (.aload_n 0, 1) := by decide +kernel
theorem d_S_init_29 : decode prog_6_method_1_code 29 = .ok (.bipush 24, 2) := by decide +kernel
theorem d_S_init_31 : decode prog_6_method_1_code 31 = .ok (.newarray .long, 2) := by decide +kernel
theorem d_S_init_33 : decode prog_6_method_1_code 33 = .ok (.putfield 21, 3) := by decide +kernel
theorem d_S_init_36 : decode prog_6_method_1_code 36 = .ok (.aload_n 0, 1) := by decide +kernel
theorem d_S_init_37 : decode prog_6_method_1_code 37 = .ok (.bipush 24, 2) := by decide +kernel
theorem d_S_init_39 : decode prog_6_method_1_code 39 = .ok (.newarray .int, 2) := by decide +kernel
theorem d_S_init_41 : decode prog_6_method_1_code 41 = .ok (.putfield 25, 3) := by decide +kernel
theorem d_S_init_44 : decode prog_6_method_1_code 44 = .ok (.aload_n 0, 1) := by decide +kernel
theorem d_S_init_45 : decode prog_6_method_1_code 45 = .ok (.bipush 8, 2) := by decide +kernel
theorem d_S_init_47 : decode prog_6_method_1_code 47 = .ok (.newarray .int, 2) := by decide +kernel
theorem d_S_init_49 : decode prog_6_method_1_code 49 = .ok (.putfield 28, 3) := by decide +kernel
theorem d_S_init_52 : decode prog_6_method_1_code 52 = .ok (.aload_n 0, 1) := by decide +kernel
theorem d_S_init_53 : decode prog_6_method_1_code 53 = .ok (.bipush 8, 2) := by decide +kernel
theorem d_S_init_55 : decode prog_6_method_1_code 55 = .ok (.newarray .int, 2) := by decide +kernel
theorem d_S_init_57 : decode prog_6_method_1_code 57 = .ok (.putfield 31, 3) := by decide +kernel
theorem d_S_init_60 : decode prog_6_method_1_code 60 = .ok (.return_, 1) := by decide +kernel
theorem d_F_init_0 : decode prog_3_method_1_code 0 = .ok (.aload_n 0, 1) := by decide +kernel
theorem d_F_init_1 : decode prog_3_method_1_code 1 = .ok (.invokespecial 3, 3) := by decide +kernel
theorem d_F_init_4 : decode prog_3_method_1_code 4 = .ok (.aload_n 0, 1) := by decide +kernel
theorem d_F_init_5 : decode prog_3_method_1_code 5 = .ok (.bipush 8, 2) := by decide +kernel
theorem d_F_init_7 : decode prog_3_method_1_code 7 = .ok (.newarray .int, 2) := by decide +kernel
theorem d_F_init_9 : decode prog_3_method_1_code 9 = .ok (.putfield 9, 3) := by decide +kernel
theorem d_F_init_12 : decode prog_3_method_1_code 12 = .ok (.aload_n 0, 1) := by decide +kernel
theorem d_F_init_13 : decode prog_3_method_1_code 13 = .ok (.bipush 8, 2) := by decide +kernel
theorem d_F_init_15 : decode prog_3_method_1_code 15 = .ok (.newarray .int, 2) := by decide +kernel
theorem d_F_init_17 : decode prog_3_method_1_code 17 = .ok (.putfield 15, 3) := by decide +kernel
theorem d_F_init_20 : decode prog_3_method_1_code 20 = .ok (.aload_n 0, 1) := by decide +kernel
theorem d_F_init_21 : decode prog_3_method_1_code 21 = .ok (.bipush 8, 2) := by decide +kernel
theorem d_F_init_23 : decode prog_3_method_1_code 23 = .ok (.newarray .int, 2) := by decide +kernel
theorem d_F_init_25 : decode prog_3_method_1_code 25 = .ok (.putfield 18, 3) := by decide +kernel
theorem d_F_init_28 : decode prog_3_method_1_code 28 = .ok (.aload_n 0, 1) := by decide +kernel
theorem d_F_init_29 : decode prog_3_method_1_code 29 = .ok (.bipush 8, 2) := by decide +kernel
theorem d_F_init_31 : decode prog_3_method_1_code 31 = .ok (.newarray .int, 2) := by decide +kernel
theorem d_F_init_33 : decode prog_3_method_1_code 33 = .ok (.putfield 21, 3) := by decide +kernel
theorem d_F_init_36 : decode prog_3_method_1_code 36 = .ok (.aload_n 0, 1) := by decide +kernel
theorem d_F_init_37 : decode prog_3_method_1_code 37 = .ok (.sipush 176, 3) := by decide +kernel
theorem d_F_init_40 : decode prog_3_method_1_code 40 = .ok (.newarray .char, 2) := by decide +kernel
theorem d_F_init_42 : decode prog_3_method_1_code 42 = .ok (.putfield 24, 3) := by decide +kernel
theorem d_F_init_45 : decode prog_3_method_1_code 45 = .ok (.return_, 1) := by decide +kernel
theorem d_F_sumOfForces_0 : decode prog_3_method_3_code 0 = .ok (.lconst 0, 1) := by decide +kernel
theorem d_F_sumOfForces_1 : decode prog_3_method_3_code 1 = .ok (.lstore_n 2, 1) := by decide +kernel
theorem d_F_sumOfForces_2 : decode prog_3_method_3_code 2 = .ok (.iconst 0, 1) := by decide +kernel
theorem d_F_sumOfForces_3 : decode prog_3_method_3_code 3 = .ok (.istore 4, 2) := by decide +kernel
theorem d_F_sumOfForces_5 : decode prog_3_method_3_code 5 = .ok (.iload 4, 2) := by decide +kernel
theorem d_F_sumOfForces_7 : decode prog_3_method_3_code 7 = .ok (.aload_n 0, 1) := by decide +kernel
theorem d_F_sumOfForces_8 : decode prog_3_method_3_code 8 = .ok (.getfield 58, 3) := by decide +kernel
theorem d_F_sumOfForces_11 : decode prog_3_method_3_code 11 = .ok (.if_icmp .ge 24, 3) := by decide +kernel
theorem d_F_sumOfForces_14 : decode prog_3_method_3_code 14 = .ok (.lload_n 2, 1) := by decide +kernel
theorem d_F_sumOfForces_15 : decode prog_3_method_3_code 15 = .ok (.aload_n 1, 1) := by decide +kernel
theorem d_F_sumOfForces_16 : decode prog_3_method_3_code 16 = .ok (.getfield 61, 3) := by decide +kernel
theorem d_F_sumOfForces_19 : decode prog_3_method_3_code 19 = .ok (.aload_n 0, 1) := by decide +kernel
theorem d_F_sumOfForces_20 : decode prog_3_method_3_code 20 = .ok (.getfield 9, 3) := by decide +kernel
theorem d_F_sumOfForces_23 : decode prog_3_method_3_code 23 = .ok (.iload 4, 2) := by decide +kernel
theorem d_F_sumOfForces_25 : decode prog_3_method_3_code 25 = .ok (.iaload, 1) := by decide +kernel
theorem d_F_sumOfForces_26 : decode prog_3_method_3_code 26 = .ok (.laload, 1) := by decide +kernel
theorem d_F_sumOfForces_27 : decode prog_3_method_3_code 27 = .ok (.ladd, 1) := by decide +kernel
theorem d_F_sumOfForces_28 : decode prog_3_method_3_code 28 = .ok (.lstore_n 2, 1) := by decide +kernel
theorem d_F_sumOfForces_29 : decode prog_3_method_3_code 29 = .ok (.iinc 4 1, 3) := by decide +kernel
theorem d_F_sumOfForces_32 : decode prog_3_method_3_code 32 = .ok (.goto (-27), 3) := by decide +kernel
theorem d_F_sumOfForces_35 : decode prog_3_method_3_code 35 = .ok (.lload_n 2, 1) := by decide +kernel
theorem d_F_sumOfForces_36 : decode prog_3_method_3_code 36 = .ok (.lreturn, 1) := by decide +kernel
theorem d_S_choose_0 : decode prog_6_method_2_code 0 = .ok (.aload_n 0, 1) := by decide +kernel
theorem d_S_choose_1 : decode prog_6_method_2_code 1 = .ok (.aload_n 1, 1) := by decide +kernel
theorem d_S_choose_2 : decode prog_6_method_2_code 2 = .ok (.iload_n 2, 1) := by decide +kernel
theorem d_S_choose_3 : decode prog_6_method_2_code 3 = .ok (.invokevirtual 34, 3) := by decide +kernel
theorem d_S_choose_6 : decode prog_6_method_2_code 6 = .ok (.aload_n 0, 1) := by decide +kernel
theorem d_S_choose_7 : decode prog_6_method_2_code 7 = .ok (.aload_n 1, 1) := by decide +kernel
theorem d_S_choose_8 : decode prog_6_method_2_code 8 = .ok (.invokevirtual 38, 3) := by decide +kernel
theorem d_S_choose_11 : decode prog_6_method_2_code 11 = .ok (.aload_n 0, 1) := by decide +kernel
theorem d_S_choose_12 : decode prog_6_method_2_code 12 = .ok (.aload_n 0, 1) := by decide +kernel
theorem d_S_choose_13 : decode prog_6_method_2_code 13 = .ok (.invokevirtual 42, 3) := by decide +kernel
theorem d_S_choose_16 : decode prog_6_method_2_code 16 = .ok (.lconst 1, 1) := by decide +kernel
theorem d_S_choose_17 : decode prog_6_method_2_code 17 = .ok (.lsub, 1) := by decide +kernel
theorem d_S_choose_18 : decode prog_6_method_2_code 18 = .ok (.putfield 46, 3) := by decide +kernel
theorem d_S_choose_21 : decode prog_6_method_2_code 21 = .ok (.aload_n 0, 1) := by decide +kernel
theorem d_S_choose_22 : decode prog_6_method_2_code 22 = .ok (.iconst 0, 1) := by decide +kernel
theorem d_S_choose_23 : decode prog_6_method_2_code 23 = .ok (.lconst 0, 1) := by decide +kernel
theorem d_S_choose_24 : decode prog_6_method_2_code 24 = .ok (.iconst 0, 1) := by decide +kernel
theorem d_S_choose_25 : decode prog_6_method_2_code 25 = .ok (.invokestatic 50, 3) := by decide +kernel
theorem d_S_choose_28 : decode prog_6_method_2_code 28 = .ok (.return_, 1) := by decide +kernel
theorem d_S_lookAtNets_0 : decode prog_6_method_3_code 0 = .ok (.aload_n 0, 1) := by decide +kernel
theorem d_S_lookAtNets_1 : decode prog_6_method_3_code 1 = .ok (.iconst 0, 1) := by decide +kernel
theorem d_S_lookAtNets_2 : decode prog_6_method_3_code 2 = .ok (.putfield 54, 3) := by decide +kernel
theorem d_S_lookAtNets_5 : decode prog_6_method_3_code 5 = .ok (.iconst 0, 1) := by decide +kernel
theorem d_S_lookAtNets_6 : decode prog_6_method_3_code 6 = .ok (.istore_n 3, 1) := by decide +kernel
theorem d_S_lookAtNets_7 : decode prog_6_method_3_code 7 = .ok (.iload_n 3, 1) := by decide +kernel
theorem d_S_lookAtNets_8 : decode prog_6_method_3_code 8 = .ok (.aload_n 1, 1) := by decide +kernel
theorem d_S_lookAtNets_9 : decode prog_6_method_3_code 9 = .ok (.getfield 58, 3) := by decide +kernel
theorem d_S_lookAtNets_12 : decode prog_6_method_3_code 12 = .ok (.if_icmp .ge 144, 3) := by decide +kernel
theorem d_S_lookAtNets_15 : decode prog_6_method_3_code 15 = .ok (.aload_n 1, 1) := by decide +kernel
theorem d_S_lookAtNets_16 : decode prog_6_method_3_code 16 = .ok (.getfield 63, 3) := by decide +kernel
theorem d_S_lookAtNets_19 : decode prog_6_method_3_code 19 = .ok (.iload_n 3, 1) := by decide +kernel
theorem d_S_lookAtNets_20 : decode prog_6_method_3_code 20 = .ok (.baload, 1) := by decide +kernel
theorem d_S_lookAtNets_21 : decode prog_6_method_3_code 21 = .ok (.ifCond .eq 129, 3) := by decide +kernel
theorem d_S_lookAtNets_24 : decode prog_6_method_3_code 24 = .ok (.aload_n 0, 1) := by decide +kernel
theorem d_S_lookAtNets_25 : decode prog_6_method_3_code 25 = .ok (.getfield 54, 3) := by decide +kernel
theorem d_S_lookAtNets_28 : decode prog_6_method_3_code 28 = .ok (.iload_n 2, 1) := by decide +kernel
theorem d_S_lookAtNets_29 : decode prog_6_method_3_code 29 = .ok (.if_icmp .ge 121, 3) := by decide +kernel
theorem d_S_lookAtNets_32 : decode prog_6_method_3_code 32 = .ok (.aload_n 0, 1) := by decide +kernel
theorem d_S_lookAtNets_33 : decode prog_6_method_3_code 33 = .ok (.getfield 54, 3) := by decide +kernel
theorem d_S_lookAtNets_36 : decode prog_6_method_3_code 36 = .ok (.bipush 8, 2) := by decide +kernel
theorem d_S_lookAtNets_38 : decode prog_6_method_3_code 38 = .ok (.if_icmp .ge 112, 3) := by decide +kernel
theorem d_S_lookAtNets_41 : decode prog_6_method_3_code 41 = .ok (.aload_n 0, 1) := by decide +kernel
theorem d_S_lookAtNets_42 : decode prog_6_method_3_code 42 = .ok (.getfield 9, 3) := by decide +kernel
theorem d_S_lookAtNets_45 : decode prog_6_method_3_code 45 = .ok (.aload_n 0, 1) := by decide +kernel
theorem d_S_lookAtNets_46 : decode prog_6_method_3_code 46 = .ok (.getfield 54, 3) := by decide +kernel
theorem d_S_lookAtNets_49 : decode prog_6_method_3_code 49 = .ok (.iload_n 3, 1) := by decide +kernel
theorem d_S_lookAtNets_50 : decode prog_6_method_3_code 50 = .ok (.iastore, 1) := by decide +kernel
theorem d_S_lookAtNets_51 : decode prog_6_method_3_code 51 = .ok (.aload_n 0, 1) := by decide +kernel
theorem d_S_lookAtNets_52 : decode prog_6_method_3_code 52 = .ok (.getfield 15, 3) := by decide +kernel
theorem d_S_lookAtNets_55 : decode prog_6_method_3_code 55 = .ok (.aload_n 0, 1) := by decide +kernel
theorem d_S_lookAtNets_56 : decode prog_6_method_3_code 56 = .ok (.getfield 54, 3) := by decide +kernel
theorem d_S_lookAtNets_59 : decode prog_6_method_3_code 59 = .ok (.aload_n 1, 1) := by decide +kernel
theorem d_S_lookAtNets_60 : decode prog_6_method_3_code 60 = .ok (.getfield 67, 3) := by decide +kernel
theorem d_S_lookAtNets_63 : decode prog_6_method_3_code 63 = .ok (.iload_n 3, 1) := by decide +kernel
theorem d_S_lookAtNets_64 : decode prog_6_method_3_code 64 = .ok (.iaload, 1) := by decide +kernel
theorem d_S_lookAtNets_65 : decode prog_6_method_3_code 65 = .ok (.iastore, 1) := by decide +kernel
theorem d_S_lookAtNets_66 : decode prog_6_method_3_code 66 = .ok (.iconst 0, 1) := by decide +kernel
theorem d_S_lookAtNets_67 : decode prog_6_method_3_code 67 = .ok (.istore 4, 2) := by decide +kernel
theorem d_S_lookAtNets_69 : decode prog_6_method_3_code 69 = .ok (.iload 4, 2) := by decide +kernel
theorem d_S_lookAtNets_71 : decode prog_6_method_3_code 71 = .ok (.aload_n 1, 1) := by decide +kernel
theorem d_S_lookAtNets_72 : decode prog_6_method_3_code 72 = .ok (.getfield 67, 3) := by decide +kernel
theorem d_S_lookAtNets_75 : decode prog_6_method_3_code 75 = .ok (.iload_n 3, 1) := by decide +kernel
theorem d_S_lookAtNets_76 : decode prog_6_method_3_code 76 = .ok (.iaload, 1) := by decide +kernel
theorem d_S_lookAtNets_77 : decode prog_6_method_3_code 77 = .ok (.if_icmp .ge 63, 3) := by decide +kernel
theorem d_S_lookAtNets_80 : decode prog_6_method_3_code 80 = .ok (.aload_n 1, 1) := by decide +kernel
theorem d_S_lookAtNets_81 : decode prog_6_method_3_code 81 = .ok (.getfield 68, 3) := by decide +kernel
theorem d_S_lookAtNets_84 : decode prog_6_method_3_code 84 = .ok (.iload_n 3, 1) := by decide +kernel
theorem d_S_lookAtNets_85 : decode prog_6_method_3_code 85 = .ok (.iconst 3, 1) := by decide +kernel
theorem d_S_lookAtNets_86 : decode prog_6_method_3_code 86 = .ok (.imul, 1) := by decide +kernel
theorem d_S_lookAtNets_87 : decode prog_6_method_3_code 87 = .ok (.iload 4, 2) := by decide +kernel
theorem d_S_lookAtNets_89 : decode prog_6_method_3_code 89 = .ok (.iadd, 1) := by decide +kernel
theorem d_S_lookAtNets_90 : decode prog_6_method_3_code 90 = .ok (.iaload, 1) := by decide +kernel
theorem d_S_lookAtNets_91 : decode prog_6_method_3_code 91 = .ok (.istore 5, 2) := by decide +kernel
theorem d_S_lookAtNets_93 : decode prog_6_method_3_code 93 = .ok (.aload_n 0, 1) := by decide +kernel
theorem d_S_lookAtNets_94 : decode prog_6_method_3_code 94 = .ok (.getfield 18, 3) := by decide +kernel
theorem d_S_lookAtNets_97 : decode prog_6_method_3_code 97 = .ok (.aload_n 0, 1) := by decide +kernel
theorem d_S_lookAtNets_98 : decode prog_6_method_3_code 98 = .ok (.getfield 54, 3) := by decide +kernel
theorem d_S_lookAtNets_101 : decode prog_6_method_3_code 101 = .ok (.iconst 3, 1) := by decide +kernel
theorem d_S_lookAtNets_102 : decode prog_6_method_3_code 102 = .ok (.imul, 1) := by decide +kernel
theorem d_S_lookAtNets_103 : decode prog_6_method_3_code 103 = .ok (.iload 4, 2) := by decide +kernel
theorem d_S_lookAtNets_105 : decode prog_6_method_3_code 105 = .ok (.iadd, 1) := by decide +kernel
theorem d_S_lookAtNets_106 : decode prog_6_method_3_code 106 = .ok (.iload 5, 2) := by decide +kernel
theorem d_S_lookAtNets_108 : decode prog_6_method_3_code 108 = .ok (.iastore, 1) := by decide +kernel
theorem d_S_lookAtNets_109 : decode prog_6_method_3_code 109 = .ok (.aload_n 0, 1) := by decide +kernel
theorem d_S_lookAtNets_110 : decode prog_6_method_3_code 110 = .ok (.getfield 21, 3) := by decide +kernel
theorem d_S_lookAtNets_113 : decode prog_6_method_3_code 113 = .ok (.aload_n 0, 1) := by decide +kernel
theorem d_S_lookAtNets_114 : decode prog_6_method_3_code 114 = .ok (.getfield 54, 3) := by decide +kernel
theorem d_S_lookAtNets_117 : decode prog_6_method_3_code 117 = .ok (.iconst 3, 1) := by decide +kernel
theorem d_S_lookAtNets_118 : decode prog_6_method_3_code 118 = .ok (.imul, 1) := by decide +kernel
theorem d_S_lookAtNets_119 : decode prog_6_method_3_code 119 = .ok (.iload 4, 2) := by decide +kernel
theorem d_S_lookAtNets_121 : decode prog_6_method_3_code 121 = .ok (.iadd, 1) := by decide +kernel
theorem d_S_lookAtNets_122 : decode prog_6_method_3_code 122 = .ok (.ldc2_w 71, 3) := by decide +kernel
theorem d_S_lookAtNets_125 : decode prog_6_method_3_code 125 = .ok (.aload_n 1, 1) := by decide +kernel
theorem d_S_lookAtNets_126 : decode prog_6_method_3_code 126 = .ok (.getfield 73, 3) := by decide +kernel
theorem d_S_lookAtNets_129 : decode prog_6_method_3_code 129 = .ok (.iload 5, 2) := by decide +kernel
theorem d_S_lookAtNets_131 : decode prog_6_method_3_code 131 = .ok (.laload, 1) := by decide +kernel
theorem d_S_lookAtNets_132 : decode prog_6_method_3_code 132 = .ok (.lsub, 1) := by decide +kernel
theorem d_S_lookAtNets_133 : decode prog_6_method_3_code 133 = .ok (.lastore, 1) := by decide +kernel
theorem d_S_lookAtNets_134 : decode prog_6_method_3_code 134 = .ok (.iinc 4 1, 3) := by decide +kernel
theorem d_S_lookAtNets_137 : decode prog_6_method_3_code 137 = .ok (.goto (-68), 3) := by decide +kernel
theorem d_S_lookAtNets_140 : decode prog_6_method_3_code 140 = .ok (.aload_n 0, 1) := by decide +kernel
theorem d_S_lookAtNets_141 : decode prog_6_method_3_code 141 = .ok (.dup, 1) := by decide +kernel
theorem d_S_lookAtNets_142 : decode prog_6_method_3_code 142 = .ok (.getfield 54, 3) := by decide +kernel
theorem d_S_lookAtNets_145 : decode prog_6_method_3_code 145 = .ok (.iconst 1, 1) := by decide +kernel
theorem d_S_lookAtNets_146 : decode prog_6_method_3_code 146 = .ok (.iadd, 1) := by decide +kernel
theorem d_S_lookAtNets_147 : decode prog_6_method_3_code 147 = .ok (.putfield 54, 3) := by decide +kernel
theorem d_S_lookAtNets_150 : decode prog_6_method_3_code 150 = .ok (.iinc 3 1, 3) := by decide +kernel
theorem d_S_lookAtNets_153 : decode prog_6_method_3_code 153 = .ok (.goto (-146), 3) := by decide +kernel
theorem d_S_lookAtNets_156 : decode prog_6_method_3_code 156 = .ok (.return_, 1) := by decide +kernel
theorem d_S_markClashes_0 : decode prog_6_method_4_code 0 = .ok (.aload_n 0, 1) := by decide +kernel
theorem d_S_markClashes_1 : decode prog_6_method_4_code 1 = .ok (.getfield 25, 3) := by decide +kernel
theorem d_S_markClashes_4 : decode prog_6_method_4_code 4 = .ok (.iconst 0, 1) := by decide +kernel
theorem d_S_markClashes_5 : decode prog_6_method_4_code 5 = .ok (.invokestatic 76, 3) := by decide +kernel
theorem d_S_markClashes_8 : decode prog_6_method_4_code 8 = .ok (.iconst 0, 1) := by decide +kernel
theorem d_S_markClashes_9 : decode prog_6_method_4_code 9 = .ok (.istore_n 2, 1) := by decide +kernel
theorem d_S_markClashes_10 : decode prog_6_method_4_code 10 = .ok (.iload_n 2, 1) := by decide +kernel
theorem d_S_markClashes_11 : decode prog_6_method_4_code 11 = .ok (.aload_n 0, 1) := by decide +kernel
theorem d_S_markClashes_12 : decode prog_6_method_4_code 12 = .ok (.getfield 54, 3) := by decide +kernel
theorem d_S_markClashes_15 : decode prog_6_method_4_code 15 = .ok (.if_icmp .ge 56, 3) := by decide +kernel
theorem d_S_markClashes_18 : decode prog_6_method_4_code 18 = .ok (.iload_n 2, 1) := by decide +kernel
theorem d_S_markClashes_19 : decode prog_6_method_4_code 19 = .ok (.iconst 3, 1) := by decide +kernel
theorem d_S_markClashes_20 : decode prog_6_method_4_code 20 = .ok (.imul, 1) := by decide +kernel
theorem d_S_markClashes_21 : decode prog_6_method_4_code 21 = .ok (.istore_n 3, 1) := by decide +kernel
theorem d_S_markClashes_22 : decode prog_6_method_4_code 22 = .ok (.iload_n 3, 1) := by decide +kernel
theorem d_S_markClashes_23 : decode prog_6_method_4_code 23 = .ok (.aload_n 0, 1) := by decide +kernel
theorem d_S_markClashes_24 : decode prog_6_method_4_code 24 = .ok (.iload_n 2, 1) := by decide +kernel
theorem d_S_markClashes_25 : decode prog_6_method_4_code 25 = .ok (.invokevirtual 82, 3) := by decide +kernel
theorem d_S_markClashes_28 : decode prog_6_method_4_code 28 = .ok (.if_icmp .ge 37, 3) := by decide +kernel
theorem d_S_markClashes_31 : decode prog_6_method_4_code 31 = .ok (.iload_n 2, 1) := by decide +kernel
theorem d_S_markClashes_32 : decode prog_6_method_4_code 32 = .ok (.iconst 1, 1) := by decide +kernel
theorem d_S_markClashes_33 : decode prog_6_method_4_code 33 = .ok (.iadd, 1) := by decide +kernel
theorem d_S_markClashes_34 : decode prog_6_method_4_code 34 = .ok (.istore 4, 2) := by decide +kernel
theorem d_S_markClashes_36 : decode prog_6_method_4_code 36 = .ok (.iload 4, 2) := by decide +kernel
theorem d_S_markClashes_38 : decode prog_6_method_4_code 38 = .ok (.aload_n 0, 1) := by decide +kernel
theorem d_S_markClashes_39 : decode prog_6_method_4_code 39 = .ok (.getfield 54, 3) := by decide +kernel
theorem d_S_markClashes_42 : decode prog_6_method_4_code 42 = .ok (.if_icmp .ge 17, 3) := by decide +kernel
theorem d_S_markClashes_45 : decode prog_6_method_4_code 45 = .ok (.aload_n 0, 1) := by decide +kernel
theorem d_S_markClashes_46 : decode prog_6_method_4_code 46 = .ok (.aload_n 1, 1) := by decide +kernel
theorem d_S_markClashes_47 : decode prog_6_method_4_code 47 = .ok (.iload_n 3, 1) := by decide +kernel
theorem d_S_markClashes_48 : decode prog_6_method_4_code 48 = .ok (.iload 4, 2) := by decide +kernel
theorem d_S_markClashes_50 : decode prog_6_method_4_code 50 = .ok (.invokevirtual 86, 3) := by decide +kernel
theorem d_S_markClashes_53 : decode prog_6_method_4_code 53 = .ok (.iinc 4 1, 3) := by decide +kernel
theorem d_S_markClashes_56 : decode prog_6_method_4_code 56 = .ok (.goto (-20), 3) := by decide +kernel
theorem d_S_markClashes_59 : decode prog_6_method_4_code 59 = .ok (.iinc 3 1, 3) := by decide +kernel
theorem d_S_markClashes_62 : decode prog_6_method_4_code 62 = .ok (.goto (-40), 3) := by decide +kernel
theorem d_S_markClashes_65 : decode prog_6_method_4_code 65 = .ok (.iinc 2 1, 3) := by decide +kernel
theorem d_S_markClashes_68 : decode prog_6_method_4_code 68 = .ok (.goto (-58), 3) := by decide +kernel
theorem d_S_markClashes_71 : decode prog_6_method_4_code 71 = .ok (.return_, 1) := by decide +kernel
theorem d_S_endOf_0 : decode prog_6_method_6_code 0 = .ok (.iload_n 1, 1) := by decide +kernel
theorem d_S_endOf_1 : decode prog_6_method_6_code 1 = .ok (.iconst 3, 1) := by decide +kernel
theorem d_S_endOf_2 : decode prog_6_method_6_code 2 = .ok (.imul, 1) := by decide +kernel
theorem d_S_endOf_3 : decode prog_6_method_6_code 3 = .ok (.aload_n 0, 1) := by decide +kernel
theorem d_S_endOf_4 : decode prog_6_method_6_code 4 = .ok (.getfield 15, 3) := by decide +kernel
theorem d_S_endOf_7 : decode prog_6_method_6_code 7 = .ok (.iload_n 1, 1) := by decide +kernel
theorem d_S_endOf_8 : decode prog_6_method_6_code 8 = .ok (.iaload, 1) := by decide +kernel
theorem d_S_endOf_9 : decode prog_6_method_6_code 9 = .ok (.iadd, 1) := by decide +kernel
theorem d_S_endOf_10 : decode prog_6_method_6_code 10 = .ok (.ireturn, 1) := by decide +kernel
theorem d_S_markClashesWithNet_0 : decode prog_6_method_5_code 0 = .ok (.iload_n 3, 1) := by decide +kernel
theorem d_S_markClashesWithNet_1 : decode prog_6_method_5_code 1 = .ok (.iconst 3, 1) := by decide +kernel
theorem d_S_markClashesWithNet_2 : decode prog_6_method_5_code 2 = .ok (.imul, 1) := by decide +kernel
theorem d_S_markClashesWithNet_3 : decode prog_6_method_5_code 3 = .ok (.istore 4, 2) := by decide +kernel
theorem d_S_markClashesWithNet_5 : decode prog_6_method_5_code 5 = .ok (.iload 4, 2) := by decide +kernel
theorem d_S_markClashesWithNet_7 : decode prog_6_method_5_code 7 = .ok (.aload_n 0, 1) := by decide +kernel
theorem d_S_markClashesWithNet_8 : decode prog_6_method_5_code 8 = .ok (.iload_n 3, 1) := by decide +kernel
theorem d_S_markClashesWithNet_9 : decode prog_6_method_5_code 9 = .ok (.invokevirtual 82, 3) := by decide +kernel
theorem d_S_markClashesWithNet_12 : decode prog_6_method_5_code 12 = .ok (.if_icmp .ge 42, 3) := by decide +kernel
theorem d_S_markClashesWithNet_15 : decode prog_6_method_5_code 15 = .ok (.aload_n 1, 1) := by decide +kernel
theorem d_S_markClashesWithNet_16 : decode prog_6_method_5_code 16 = .ok (.aload_n 0, 1) := by decide +kernel
theorem d_S_markClashesWithNet_17 : decode prog_6_method_5_code 17 = .ok (.getfield 18, 3) := by decide +kernel
theorem d_S_markClashesWithNet_20 : decode prog_6_method_5_code 20 = .ok (.iload_n 2, 1) := by decide +kernel
theorem d_S_markClashesWithNet_21 : decode prog_6_method_5_code 21 = .ok (.iaload, 1) := by decide +kernel
theorem d_S_markClashesWithNet_22 : decode prog_6_method_5_code 22 = .ok (.aload_n 0, 1) := by decide +kernel
theorem d_S_markClashesWithNet_23 : decode prog_6_method_5_code 23 = .ok (.getfield 18, 3) := by decide +kernel
theorem d_S_markClashesWithNet_26 : decode prog_6_method_5_code 26 = .ok (.iload 4, 2) := by decide +kernel
theorem d_S_markClashesWithNet_28 : decode prog_6_method_5_code 28 = .ok (.iaload, 1) := by decide +kernel
theorem d_S_markClashesWithNet_29 : decode prog_6_method_5_code 29 = .ok (.invokevirtual 90, 3) := by decide +kernel
theorem d_S_markClashesWithNet_32 : decode prog_6_method_5_code 32 = .ok (.ifCond .ne 16, 3) := by decide +kernel
theorem d_S_markClashesWithNet_35 : decode prog_6_method_5_code 35 = .ok (.aload_n 0, 1) := by decide +kernel
theorem d_S_markClashesWithNet_36 : decode prog_6_method_5_code 36 = .ok (.getfield 25, 3) := by decide +kernel
theorem d_S_markClashesWithNet_39 : decode prog_6_method_5_code 39 = .ok (.iload_n 2, 1) := by decide +kernel
theorem d_S_markClashesWithNet_40 : decode prog_6_method_5_code 40 = .ok (.dup2, 1) := by decide +kernel
theorem d_S_markClashesWithNet_41 : decode prog_6_method_5_code 41 = .ok (.iaload, 1) := by decide +kernel
theorem d_S_markClashesWithNet_42 : decode prog_6_method_5_code 42 = .ok (.iconst 1, 1) := by decide +kernel
theorem d_S_markClashesWithNet_43 : decode prog_6_method_5_code 43 = .ok (.iload 4, 2) := by decide +kernel
theorem d_S_markClashesWithNet_45 : decode prog_6_method_5_code 45 = .ok (.ishl, 1) := by decide +kernel
theorem d_S_markClashesWithNet_46 : decode prog_6_method_5_code 46 = .ok (.ior, 1) := by decide +kernel
theorem d_S_markClashesWithNet_47 : decode prog_6_method_5_code 47 = .ok (.iastore, 1) := by decide +kernel
theorem d_S_markClashesWithNet_48 : decode prog_6_method_5_code 48 = .ok (.iinc 4 1, 3) := by decide +kernel
theorem d_S_markClashesWithNet_51 : decode prog_6_method_5_code 51 = .ok (.goto (-46), 3) := by decide +kernel
theorem d_S_markClashesWithNet_54 : decode prog_6_method_5_code 54 = .ok (.return_, 1) := by decide +kernel
theorem d_S_worthOfPlainChoice_0 : decode prog_6_method_7_code 0 = .ok (.lconst 0, 1) := by decide +kernel
theorem d_S_worthOfPlainChoice_1 : decode prog_6_method_7_code 1 = .ok (.lstore_n 1, 1) := by decide +kernel
theorem d_S_worthOfPlainChoice_2 : decode prog_6_method_7_code 2 = .ok (.iconst 0, 1) := by decide +kernel
theorem d_S_worthOfPlainChoice_3 : decode prog_6_method_7_code 3 = .ok (.istore_n 3, 1) := by decide +kernel
theorem d_S_worthOfPlainChoice_4 : decode prog_6_method_7_code 4 = .ok (.iconst 0, 1) := by decide +kernel
theorem d_S_worthOfPlainChoice_5 : decode prog_6_method_7_code 5 = .ok (.istore 4, 2) := by decide +kernel
theorem d_S_worthOfPlainChoice_7 : decode prog_6_method_7_code 7 = .ok (.iload 4, 2) := by decide +kernel
theorem d_S_worthOfPlainChoice_9 : decode prog_6_method_7_code 9 = .ok (.aload_n 0, 1) := by decide +kernel
theorem d_S_worthOfPlainChoice_10 : decode prog_6_method_7_code 10 = .ok (.getfield 54, 3) := by decide +kernel
theorem d_S_worthOfPlainChoice_13 : decode prog_6_method_7_code 13 = .ok (.if_icmp .ge 44, 3) := by decide +kernel
theorem d_S_worthOfPlainChoice_16 : decode prog_6_method_7_code 16 = .ok (.aload_n 0, 1) := by decide +kernel
theorem d_S_worthOfPlainChoice_17 : decode prog_6_method_7_code 17 = .ok (.iload 4, 2) := by decide +kernel
theorem d_S_worthOfPlainChoice_19 : decode prog_6_method_7_code 19 = .ok (.iload_n 3, 1) := by decide +kernel
theorem d_S_worthOfPlainChoice_20 : decode prog_6_method_7_code 20 = .ok (.invokevirtual 94, 3) := by decide +kernel
theorem d_S_worthOfPlainChoice_23 : decode prog_6_method_7_code 23 = .ok (.istore 5, 2) := by decide +kernel
theorem d_S_worthOfPlainChoice_25 : decode prog_6_method_7_code 25 = .ok (.iload 5, 2) := by decide +kernel
theorem d_S_worthOfPlainChoice_27 : decode prog_6_method_7_code 27 = .ok (.iconst (-1), 1) := by decide +kernel
theorem d_S_worthOfPlainChoice_28 : decode prog_6_method_7_code 28 = .ok (.if_icmp .eq 23, 3) := by decide +kernel
theorem d_S_worthOfPlainChoice_31 : decode prog_6_method_7_code 31 = .ok (.lload_n 1, 1) := by decide +kernel
theorem d_S_worthOfPlainChoice_32 : decode prog_6_method_7_code 32 = .ok (.aload_n 0, 1) := by decide +kernel
theorem d_S_worthOfPlainChoice_33 : decode prog_6_method_7_code 33 = .ok (.getfield 21, 3) := by decide +kernel
theorem d_S_worthOfPlainChoice_36 : decode prog_6_method_7_code 36 = .ok (.iload 5, 2) := by decide +kernel
theorem d_S_worthOfPlainChoice_38 : decode prog_6_method_7_code 38 = .ok (.laload, 1) := by decide +kernel
theorem d_S_worthOfPlainChoice_39 : decode prog_6_method_7_code 39 = .ok (.ladd, 1) := by decide +kernel
theorem d_S_worthOfPlainChoice_40 : decode prog_6_method_7_code 40 = .ok (.lstore_n 1, 1) := by decide +kernel
theorem d_S_worthOfPlainChoice_41 : decode prog_6_method_7_code 41 = .ok (.iload_n 3, 1) := by decide +kernel
theorem d_S_worthOfPlainChoice_42 : decode prog_6_method_7_code 42 = .ok (.aload_n 0, 1) := by decide +kernel
theorem d_S_worthOfPlainChoice_43 : decode prog_6_method_7_code 43 = .ok (.getfield 25, 3) := by decide +kernel
theorem d_S_worthOfPlainChoice_46 : decode prog_6_method_7_code 46 = .ok (.iload 5, 2) := by decide +kernel
theorem d_S_worthOfPlainChoice_48 : decode prog_6_method_7_code 48 = .ok (.iaload, 1) := by decide +kernel
theorem d_S_worthOfPlainChoice_49 : decode prog_6_method_7_code 49 = .ok (.ior, 1) := by decide +kernel
theorem d_S_worthOfPlainChoice_50 : decode prog_6_method_7_code 50 = .ok (.istore_n 3, 1) := by decide +kernel
theorem d_S_worthOfPlainChoice_51 : decode prog_6_method_7_code 51 = .ok (.iinc 4 1, 3) := by decide +kernel
theorem d_S_worthOfPlainChoice_54 : decode prog_6_method_7_code 54 = .ok (.goto (-47), 3) := by decide +kernel
theorem d_S_worthOfPlainChoice_57 : decode prog_6_method_7_code 57 = .ok (.lload_n 1, 1) := by decide +kernel
theorem d_S_worthOfPlainChoice_58 : decode prog_6_method_7_code 58 = .ok (.lreturn, 1) := by decide +kernel
theorem d_S_bestSlot_0 : decode prog_6_method_9_code 0 = .ok (.iconst (-1), 1) := by decide +kernel
theorem d_S_bestSlot_1 : decode prog_6_method_9_code 1 = .ok (.istore_n 3, 1) := by decide +kernel
theorem d_S_bestSlot_2 : decode prog_6_method_9_code 2 = .ok (.iload_n 1, 1) := by decide +kernel
theorem d_S_bestSlot_3 : decode prog_6_method_9_code 3 = .ok (.iconst 3, 1) := by decide +kernel
theorem d_S_bestSlot_4 : decode prog_6_method_9_code 4 = .ok (.imul, 1) := by decide +kernel
theorem d_S_bestSlot_5 : decode prog_6_method_9_code 5 = .ok (.istore 4, 2) := by decide +kernel
theorem d_S_bestSlot_7 : decode prog_6_method_9_code 7 = .ok (.iload 4, 2) := by decide +kernel
theorem d_S_bestSlot_9 : decode prog_6_method_9_code 9 = .ok (.aload_n 0, 1) := by decide +kernel
theorem d_S_bestSlot_10 : decode prog_6_method_9_code 10 = .ok (.iload_n 1, 1) := by decide +kernel
theorem d_S_bestSlot_11 : decode prog_6_method_9_code 11 = .ok (.invokevirtual 82, 3) := by decide +kernel
theorem d_S_bestSlot_14 : decode prog_6_method_9_code 14 = .ok (.if_icmp .ge 43, 3) := by decide +kernel
theorem d_S_bestSlot_17 : decode prog_6_method_9_code 17 = .ok (.iload_n 2, 1) := by decide +kernel
theorem d_S_bestSlot_18 : decode prog_6_method_9_code 18 = .ok (.iload 4, 2) := by decide +kernel
theorem d_S_bestSlot_20 : decode prog_6_method_9_code 20 = .ok (.invokestatic 98, 3) := by decide +kernel
theorem d_S_bestSlot_23 : decode prog_6_method_9_code 23 = .ok (.ifCond .ne 28, 3) := by decide +kernel
theorem d_S_bestSlot_26 : decode prog_6_method_9_code 26 = .ok (.iload_n 3, 1) := by decide +kernel
theorem d_S_bestSlot_27 : decode prog_6_method_9_code 27 = .ok (.iconst (-1), 1) := by decide +kernel
theorem d_S_bestSlot_28 : decode prog_6_method_9_code 28 = .ok (.if_icmp .eq 20, 3) := by decide +kernel
theorem d_S_bestSlot_31 : decode prog_6_method_9_code 31 = .ok (.aload_n 0, 1) := by decide +kernel
theorem d_S_bestSlot_32 : decode prog_6_method_9_code 32 = .ok (.getfield 21, 3) := by decide +kernel
theorem d_S_bestSlot_35 : decode prog_6_method_9_code 35 = .ok (.iload 4, 2) := by decide +kernel
theorem d_S_bestSlot_37 : decode prog_6_method_9_code 37 = .ok (.laload, 1) := by decide +kernel
theorem d_S_bestSlot_38 : decode prog_6_method_9_code 38 = .ok (.aload_n 0, 1) := by decide +kernel
theorem d_S_bestSlot_39 : decode prog_6_method_9_code 39 = .ok (.getfield 21, 3) := by decide +kernel
theorem d_S_bestSlot_42 : decode prog_6_method_9_code 42 = .ok (.iload_n 3, 1) := by decide +kernel
theorem d_S_bestSlot_43 : decode prog_6_method_9_code 43 = .ok (.laload, 1) := by decide +kernel
theorem d_S_bestSlot_44 : decode prog_6_method_9_code 44 = .ok (.lcmp, 1) := by decide +kernel
theorem d_S_bestSlot_45 : decode prog_6_method_9_code 45 = .ok (.ifCond .le 6, 3) := by decide +kernel
theorem d_S_bestSlot_48 : decode prog_6_method_9_code 48 = .ok (.iload 4, 2) := by decide +kernel
theorem d_S_bestSlot_50 : decode prog_6_method_9_code 50 = .ok (.istore_n 3, 1) := by decide +kernel
theorem d_S_bestSlot_51 : decode prog_6_method_9_code 51 = .ok (.iinc 4 1, 3) := by decide +kernel
theorem d_S_bestSlot_54 : decode prog_6_method_9_code 54 = .ok (.goto (-47), 3) := by decide +kernel
theorem d_S_bestSlot_57 : decode prog_6_method_9_code 57 = .ok (.iload_n 3, 1) := by decide +kernel
theorem d_S_bestSlot_58 : decode prog_6_method_9_code 58 = .ok (.ireturn, 1) := by decide +kernel
theorem d_S_descend_0 : decode prog_6_method_10_code 0 = .ok (.lload_n 2, 1) := by decide +kernel
theorem d_S_descend_1 : decode prog_6_method_10_code 1 = .ok (.aload_n 0, 1) := by decide +kernel
theorem d_S_descend_2 : decode prog_6_method_10_code 2 = .ok (.iload_n 1, 1) := by decide +kernel
theorem d_S_descend_3 : decode prog_6_method_10_code 3 = .ok (.iload 4, 2) := by decide +kernel
theorem d_S_descend_5 : decode prog_6_method_10_code 5 = .ok (.invokevirtual 101, 3) := by decide +kernel
theorem d_S_descend_8 : decode prog_6_method_10_code 8 = .ok (.ladd, 1) := by decide +kernel
theorem d_S_descend_9 : decode prog_6_method_10_code 9 = .ok (.aload_n 0, 1) := by decide +kernel
theorem d_S_descend_10 : decode prog_6_method_10_code 10 = .ok (.getfield 46, 3) := by decide +kernel
theorem d_S_descend_13 : decode prog_6_method_10_code 13 = .ok (.lcmp, 1) := by decide +kernel
theorem d_S_descend_14 : decode prog_6_method_10_code 14 = .ok (.ifCond .gt 4, 3) := by decide +kernel
theorem d_S_descend_17 : decode prog_6_method_10_code 17 = .ok (.return_, 1) := by decide +kernel
theorem d_S_descend_18 : decode prog_6_method_10_code 18 = .ok (.iload_n 1, 1) := by decide +kernel
theorem d_S_descend_19 : decode prog_6_method_10_code 19 = .ok (.aload_n 0, 1) := by decide +kernel
theorem d_S_descend_20 : decode prog_6_method_10_code 20 = .ok (.getfield 54, 3) := by decide +kernel
theorem d_S_descend_23 : decode prog_6_method_10_code 23 = .ok (.if_icmp .ge 9, 3) := by decide +kernel
theorem d_S_descend_26 : decode prog_6_method_10_code 26 = .ok (.iload_n 1, 1) := by decide +kernel
theorem d_S_descend_27 : decode prog_6_method_10_code 27 = .ok (.bipush 8, 2) := by decide +kernel
theorem d_S_descend_29 : decode prog_6_method_10_code 29 = .ok (.if_icmp .lt 9, 3) := by decide +kernel
theorem d_S_descend_32 : decode prog_6_method_10_code 32 = .ok (.aload_n 0, 1) := by decide +kernel
theorem d_S_descend_33 : decode prog_6_method_10_code 33 = .ok (.lload_n 2, 1) := by decide +kernel
theorem d_S_descend_34 : decode prog_6_method_10_code 34 = .ok (.invokevirtual 105, 3) := by decide +kernel
theorem d_S_descend_37 : decode prog_6_method_10_code 37 = .ok (.return_, 1) := by decide +kernel
theorem d_S_descend_38 : decode prog_6_method_10_code 38 = .ok (.iload_n 1, 1) := by decide +kernel
theorem d_S_descend_39 : decode prog_6_method_10_code 39 = .ok (.iconst 3, 1) := by decide +kernel
theorem d_S_descend_40 : decode prog_6_method_10_code 40 = .ok (.imul, 1) := by decide +kernel
theorem d_S_descend_41 : decode prog_6_method_10_code 41 = .ok (.istore 5, 2) := by decide +kernel
theorem d_S_descend_43 : decode prog_6_method_10_code 43 = .ok (.iload 5, 2) := by decide +kernel
theorem d_S_descend_45 : decode prog_6_method_10_code 45 = .ok (.aload_n 0, 1) := by decide +kernel
theorem d_S_descend_46 : decode prog_6_method_10_code 46 = .ok (.iload_n 1, 1) := by decide +kernel
theorem d_S_descend_47 : decode prog_6_method_10_code 47 = .ok (.invokevirtual 82, 3) := by decide +kernel
theorem d_S_descend_50 : decode prog_6_method_10_code 50 = .ok (.if_icmp .ge 58, 3) := by decide +kernel
theorem d_S_descend_53 : decode prog_6_method_10_code 53 = .ok (.iload 4, 2) := by decide +kernel
theorem d_S_descend_55 : decode prog_6_method_10_code 55 = .ok (.iload 5, 2) := by decide +kernel
theorem d_S_descend_57 : decode prog_6_method_10_code 57 = .ok (.invokestatic 98, 3) := by decide +kernel
theorem d_S_descend_60 : decode prog_6_method_10_code 60 = .ok (.ifCond .ne 42, 3) := by decide +kernel
theorem d_S_descend_63 : decode prog_6_method_10_code 63 = .ok (.aload_n 0, 1) := by decide +kernel
theorem d_S_descend_64 : decode prog_6_method_10_code 64 = .ok (.getfield 28, 3) := by decide +kernel
theorem d_S_descend_67 : decode prog_6_method_10_code 67 = .ok (.iload_n 1, 1) := by decide +kernel
theorem d_S_descend_68 : decode prog_6_method_10_code 68 = .ok (.aload_n 0, 1) := by decide +kernel
theorem d_S_descend_69 : decode prog_6_method_10_code 69 = .ok (.getfield 18, 3) := by decide +kernel
theorem d_S_descend_72 : decode prog_6_method_10_code 72 = .ok (.iload 5, 2) := by decide +kernel
theorem d_S_descend_74 : decode prog_6_method_10_code 74 = .ok (.iaload, 1) := by decide +kernel
theorem d_S_descend_75 : decode prog_6_method_10_code 75 = .ok (.iastore, 1) := by decide +kernel
theorem d_S_descend_76 : decode prog_6_method_10_code 76 = .ok (.aload_n 0, 1) := by decide +kernel
theorem d_S_descend_77 : decode prog_6_method_10_code 77 = .ok (.iload_n 1, 1) := by decide +kernel
theorem d_S_descend_78 : decode prog_6_method_10_code 78 = .ok (.iconst 1, 1) := by decide +kernel
theorem d_S_descend_79 : decode prog_6_method_10_code 79 = .ok (.iadd, 1) := by decide +kernel
theorem d_S_descend_80 : decode prog_6_method_10_code 80 = .ok (.lload_n 2, 1) := by decide +kernel
theorem d_S_descend_81 : decode prog_6_method_10_code 81 = .ok (.aload_n 0, 1) := by decide +kernel
theorem d_S_descend_82 : decode prog_6_method_10_code 82 = .ok (.getfield 21, 3) := by decide +kernel
theorem d_S_descend_85 : decode prog_6_method_10_code 85 = .ok (.iload 5, 2) := by decide +kernel
theorem d_S_descend_87 : decode prog_6_method_10_code 87 = .ok (.laload, 1) := by decide +kernel
theorem d_S_descend_88 : decode prog_6_method_10_code 88 = .ok (.ladd, 1) := by decide +kernel
theorem d_S_descend_89 : decode prog_6_method_10_code 89 = .ok (.iload 4, 2) := by decide +kernel
theorem d_S_descend_91 : decode prog_6_method_10_code 91 = .ok (.aload_n 0, 1) := by decide +kernel
theorem d_S_descend_92 : decode prog_6_method_10_code 92 = .ok (.getfield 25, 3) := by decide +kernel
theorem d_S_descend_95 : decode prog_6_method_10_code 95 = .ok (.iload 5, 2) := by decide +kernel
theorem d_S_descend_97 : decode prog_6_method_10_code 97 = .ok (.iaload, 1) := by decide +kernel
theorem d_S_descend_98 : decode prog_6_method_10_code 98 = .ok (.ior, 1) := by decide +kernel
theorem d_S_descend_99 : decode prog_6_method_10_code 99 = .ok (.invokestatic 50, 3) := by decide +kernel
theorem d_S_descend_102 : decode prog_6_method_10_code 102 = .ok (.iinc 5 1, 3) := by decide +kernel
theorem d_S_descend_105 : decode prog_6_method_10_code 105 = .ok (.goto (-62), 3) := by decide +kernel
theorem d_S_descend_108 : decode prog_6_method_10_code 108 = .ok (.aload_n 0, 1) := by decide +kernel
theorem d_S_descend_109 : decode prog_6_method_10_code 109 = .ok (.getfield 28, 3) := by decide +kernel
theorem d_S_descend_112 : decode prog_6_method_10_code 112 = .ok (.iload_n 1, 1) := by decide +kernel
theorem d_S_descend_113 : decode prog_6_method_10_code 113 = .ok (.iconst (-1), 1) := by decide +kernel
theorem d_S_descend_114 : decode prog_6_method_10_code 114 = .ok (.iastore, 1) := by decide +kernel
theorem d_S_descend_115 : decode prog_6_method_10_code 115 = .ok (.aload_n 0, 1) := by decide +kernel
theorem d_S_descend_116 : decode prog_6_method_10_code 116 = .ok (.iload_n 1, 1) := by decide +kernel
theorem d_S_descend_117 : decode prog_6_method_10_code 117 = .ok (.iconst 1, 1) := by decide +kernel
theorem d_S_descend_118 : decode prog_6_method_10_code 118 = .ok (.iadd, 1) := by decide +kernel
theorem d_S_descend_119 : decode prog_6_method_10_code 119 = .ok (.lload_n 2, 1) := by decide +kernel
theorem d_S_descend_120 : decode prog_6_method_10_code 120 = .ok (.iload 4, 2) := by decide +kernel
theorem d_S_descend_122 : decode prog_6_method_10_code 122 = .ok (.invokestatic 50, 3) := by decide +kernel
theorem d_S_descend_125 : decode prog_6_method_10_code 125 = .ok (.return_, 1) := by decide +kernel
theorem d_S_mostWorthFrom_0 : decode prog_6_method_8_code 0 = .ok (.lconst 0, 1) := by decide +kernel
theorem d_S_mostWorthFrom_1 : decode prog_6_method_8_code 1 = .ok (.lstore_n 3, 1) := by decide +kernel
theorem d_S_mostWorthFrom_2 : decode prog_6_method_8_code 2 = .ok (.iload_n 1, 1) := by decide +kernel
theorem d_S_mostWorthFrom_3 : decode prog_6_method_8_code 3 = .ok (.istore 5, 2) := by decide +kernel
theorem d_S_mostWorthFrom_5 : decode prog_6_method_8_code 5 = .ok (.iload 5, 2) := by decide +kernel
theorem d_S_mostWorthFrom_7 : decode prog_6_method_8_code 7 = .ok (.aload_n 0, 1) := by decide +kernel
theorem d_S_mostWorthFrom_8 : decode prog_6_method_8_code 8 = .ok (.getfield 54, 3) := by decide +kernel
theorem d_S_mostWorthFrom_11 : decode prog_6_method_8_code 11 = .ok (.if_icmp .ge 34, 3) := by decide +kernel
theorem d_S_mostWorthFrom_14 : decode prog_6_method_8_code 14 = .ok (.aload_n 0, 1) := by decide +kernel
theorem d_S_mostWorthFrom_15 : decode prog_6_method_8_code 15 = .ok (.iload 5, 2) := by decide +kernel
theorem d_S_mostWorthFrom_17 : decode prog_6_method_8_code 17 = .ok (.iload_n 2, 1) := by decide +kernel
theorem d_S_mostWorthFrom_18 : decode prog_6_method_8_code 18 = .ok (.invokevirtual 94, 3) := by decide +kernel
theorem d_S_mostWorthFrom_21 : decode prog_6_method_8_code 21 = .ok (.istore 6, 2) := by decide +kernel
theorem d_S_mostWorthFrom_23 : decode prog_6_method_8_code 23 = .ok (.iload 6, 2) := by decide +kernel
theorem d_S_mostWorthFrom_25 : decode prog_6_method_8_code 25 = .ok (.iconst (-1), 1) := by decide +kernel
theorem d_S_mostWorthFrom_26 : decode prog_6_method_8_code 26 = .ok (.if_icmp .eq 13, 3) := by decide +kernel
theorem d_S_mostWorthFrom_29 : decode prog_6_method_8_code 29 = .ok (.lload_n 3, 1) := by decide +kernel
theorem d_S_mostWorthFrom_30 : decode prog_6_method_8_code 30 = .ok (.aload_n 0, 1) := by decide +kernel
theorem d_S_mostWorthFrom_31 : decode prog_6_method_8_code 31 = .ok (.getfield 21, 3) := by decide +kernel
theorem d_S_mostWorthFrom_34 : decode prog_6_method_8_code 34 = .ok (.iload 6, 2) := by decide +kernel
theorem d_S_mostWorthFrom_36 : decode prog_6_method_8_code 36 = .ok (.laload, 1) := by decide +kernel
theorem d_S_mostWorthFrom_37 : decode prog_6_method_8_code 37 = .ok (.ladd, 1) := by decide +kernel
theorem d_S_mostWorthFrom_38 : decode prog_6_method_8_code 38 = .ok (.lstore_n 3, 1) := by decide +kernel
theorem d_S_mostWorthFrom_39 : decode prog_6_method_8_code 39 = .ok (.iinc 5 1, 3) := by decide +kernel
theorem d_S_mostWorthFrom_42 : decode prog_6_method_8_code 42 = .ok (.goto (-37), 3) := by decide +kernel
theorem d_S_mostWorthFrom_45 : decode prog_6_method_8_code 45 = .ok (.lload_n 3, 1) := by decide +kernel
theorem d_S_mostWorthFrom_46 : decode prog_6_method_8_code 46 = .ok (.lreturn, 1) := by decide +kernel
theorem d_S_keep_0 : decode prog_6_method_11_code 0 = .ok (.aload_n 0, 1) := by decide +kernel
theorem d_S_keep_1 : decode prog_6_method_11_code 1 = .ok (.lload_n 1, 1) := by decide +kernel
theorem d_S_keep_2 : decode prog_6_method_11_code 2 = .ok (.putfield 46, 3) := by decide +kernel
theorem d_S_keep_5 : decode prog_6_method_11_code 5 = .ok (.aload_n 0, 1) := by decide +kernel
theorem d_S_keep_6 : decode prog_6_method_11_code 6 = .ok (.getfield 28, 3) := by decide +kernel
theorem d_S_keep_9 : decode prog_6_method_11_code 9 = .ok (.iconst 0, 1) := by decide +kernel
theorem d_S_keep_10 : decode prog_6_method_11_code 10 = .ok (.aload_n 0, 1) := by decide +kernel
theorem d_S_keep_11 : decode prog_6_method_11_code 11 = .ok (.getfield 31, 3) := by decide +kernel
theorem d_S_keep_14 : decode prog_6_method_11_code 14 = .ok (.iconst 0, 1) := by decide +kernel
theorem d_S_keep_15 : decode prog_6_method_11_code 15 = .ok (.bipush 8, 2) := by decide +kernel
theorem d_S_keep_17 : decode prog_6_method_11_code 17 = .ok (.invokestatic 109, 3) := by decide +kernel
theorem d_S_keep_20 : decode prog_6_method_11_code 20 = .ok (.return_, 1) := by decide +kernel
theorem d_F_build_0 : decode prog_3_method_2_code 0 = .ok (.aload_n 0, 1) := by decide +kernel
theorem d_F_build_1 : decode prog_3_method_2_code 1 = .ok (.aload_n 2, 1) := by decide +kernel
theorem d_F_build_2 : decode prog_3_method_2_code 2 = .ok (.getfield 28, 3) := by decide +kernel
theorem d_F_build_5 : decode prog_3_method_2_code 5 = .ok (.aload_n 1, 1) := by decide +kernel
theorem d_F_build_6 : decode prog_3_method_2_code 6 = .ok (.invokevirtual 34, 3) := by decide +kernel
theorem d_F_build_9 : decode prog_3_method_2_code 9 = .ok (.if_icmp .ne 7, 3) := by decide +kernel
theorem d_F_build_12 : decode prog_3_method_2_code 12 = .ok (.iconst 1, 1) := by decide +kernel
theorem d_F_build_13 : decode prog_3_method_2_code 13 = .ok (.goto 4, 3) := by decide +kernel
theorem d_F_build_16 : decode prog_3_method_2_code 16 = .ok (.iconst 0, 1) := by decide +kernel
theorem d_F_build_17 : decode prog_3_method_2_code 17 = .ok (.putfield 40, 3) := by decide +kernel
theorem d_F_build_20 : decode prog_3_method_2_code 20 = .ok (.aload_n 0, 1) := by decide +kernel
theorem d_F_build_21 : decode prog_3_method_2_code 21 = .ok (.aload_n 2, 1) := by decide +kernel
theorem d_F_build_22 : decode prog_3_method_2_code 22 = .ok (.invokevirtual 44, 3) := by decide +kernel
theorem d_F_build_25 : decode prog_3_method_2_code 25 = .ok (.aload_n 0, 1) := by decide +kernel
theorem d_F_build_26 : decode prog_3_method_2_code 26 = .ok (.aload_n 1, 1) := by decide +kernel
theorem d_F_build_27 : decode prog_3_method_2_code 27 = .ok (.invokevirtual 48, 3) := by decide +kernel
theorem d_F_build_30 : decode prog_3_method_2_code 30 = .ok (.aload_n 0, 1) := by decide +kernel
theorem d_F_build_31 : decode prog_3_method_2_code 31 = .ok (.aload_n 1, 1) := by decide +kernel
theorem d_F_build_32 : decode prog_3_method_2_code 32 = .ok (.invokevirtual 52, 3) := by decide +kernel
theorem d_F_build_35 : decode prog_3_method_2_code 35 = .ok (.aload_n 0, 1) := by decide +kernel
theorem d_F_build_36 : decode prog_3_method_2_code 36 = .ok (.aload_n 1, 1) := by decide +kernel
theorem d_F_build_37 : decode prog_3_method_2_code 37 = .ok (.invokevirtual 55, 3) := by decide +kernel
theorem d_F_build_40 : decode prog_3_method_2_code 40 = .ok (.return_, 1) := by decide +kernel
theorem d_F_takeProbes_0 : decode prog_3_method_5_code 0 = .ok (.aload_n 0, 1) := by decide +kernel
theorem d_F_takeProbes_1 : decode prog_3_method_5_code 1 = .ok (.iconst 0, 1) := by decide +kernel
theorem d_F_takeProbes_2 : decode prog_3_method_5_code 2 = .ok (.putfield 58, 3) := by decide +kernel
theorem d_F_takeProbes_5 : decode prog_3_method_5_code 5 = .ok (.aload_n 0, 1) := by decide +kernel
theorem d_F_takeProbes_6 : decode prog_3_method_5_code 6 = .ok (.iconst 0, 1) := by decide +kernel
theorem d_F_takeProbes_7 : decode prog_3_method_5_code 7 = .ok (.putfield 68, 3) := by decide +kernel
theorem d_F_takeProbes_10 : decode prog_3_method_5_code 10 = .ok (.iconst 0, 1) := by decide +kernel
theorem d_F_takeProbes_11 : decode prog_3_method_5_code 11 = .ok (.istore_n 2, 1) := by decide +kernel
theorem d_F_takeProbes_12 : decode prog_3_method_5_code 12 = .ok (.iload_n 2, 1) := by decide +kernel
theorem d_F_takeProbes_13 : decode prog_3_method_5_code 13 = .ok (.aload_n 1, 1) := by decide +kernel
theorem d_F_takeProbes_14 : decode prog_3_method_5_code 14 = .ok (.getfield 28, 3) := by decide +kernel
theorem d_F_takeProbes_17 : decode prog_3_method_5_code 17 = .ok (.if_icmp .ge 72, 3) := by decide +kernel
theorem d_F_takeProbes_20 : decode prog_3_method_5_code 20 = .ok (.aload_n 1, 1) := by decide +kernel
theorem d_F_takeProbes_21 : decode prog_3_method_5_code 21 = .ok (.getfield 71, 3) := by decide +kernel
theorem d_F_takeProbes_24 : decode prog_3_method_5_code 24 = .ok (.iload_n 2, 1) := by decide +kernel
theorem d_F_takeProbes_25 : decode prog_3_method_5_code 25 = .ok (.iaload, 1) := by decide +kernel
theorem d_F_takeProbes_26 : decode prog_3_method_5_code 26 = .ok (.iconst (-1), 1) := by decide +kernel
theorem d_F_takeProbes_27 : decode prog_3_method_5_code 27 = .ok (.if_icmp .ne 31, 3) := by decide +kernel
theorem d_F_takeProbes_30 : decode prog_3_method_5_code 30 = .ok (.aload_n 0, 1) := by decide +kernel
theorem d_F_takeProbes_31 : decode prog_3_method_5_code 31 = .ok (.getfield 15, 3) := by decide +kernel
theorem d_F_takeProbes_34 : decode prog_3_method_5_code 34 = .ok (.aload_n 0, 1) := by decide +kernel
theorem d_F_takeProbes_35 : decode prog_3_method_5_code 35 = .ok (.getfield 68, 3) := by decide +kernel
theorem d_F_takeProbes_38 : decode prog_3_method_5_code 38 = .ok (.aload_n 1, 1) := by decide +kernel
theorem d_F_takeProbes_39 : decode prog_3_method_5_code 39 = .ok (.getfield 74, 3) := by decide +kernel
theorem d_F_takeProbes_42 : decode prog_3_method_5_code 42 = .ok (.iload_n 2, 1) := by decide +kernel
theorem d_F_takeProbes_43 : decode prog_3_method_5_code 43 = .ok (.iaload, 1) := by decide +kernel
theorem d_F_takeProbes_44 : decode prog_3_method_5_code 44 = .ok (.iastore, 1) := by decide +kernel
theorem d_F_takeProbes_45 : decode prog_3_method_5_code 45 = .ok (.aload_n 0, 1) := by decide +kernel
theorem d_F_takeProbes_46 : decode prog_3_method_5_code 46 = .ok (.dup, 1) := by decide +kernel
theorem d_F_takeProbes_47 : decode prog_3_method_5_code 47 = .ok (.getfield 68, 3) := by decide +kernel
theorem d_F_takeProbes_50 : decode prog_3_method_5_code 50 = .ok (.iconst 1, 1) := by decide +kernel
theorem d_F_takeProbes_51 : decode prog_3_method_5_code 51 = .ok (.iadd, 1) := by decide +kernel
theorem d_F_takeProbes_52 : decode prog_3_method_5_code 52 = .ok (.putfield 68, 3) := by decide +kernel
theorem d_F_takeProbes_55 : decode prog_3_method_5_code 55 = .ok (.goto 28, 3) := by decide +kernel
theorem d_F_takeProbes_58 : decode prog_3_method_5_code 58 = .ok (.aload_n 0, 1) := by decide +kernel
theorem d_F_takeProbes_59 : decode prog_3_method_5_code 59 = .ok (.getfield 9, 3) := by decide +kernel
theorem d_F_takeProbes_62 : decode prog_3_method_5_code 62 = .ok (.aload_n 0, 1) := by decide +kernel
theorem d_F_takeProbes_63 : decode prog_3_method_5_code 63 = .ok (.getfield 58, 3) := by decide +kernel
theorem d_F_takeProbes_66 : decode prog_3_method_5_code 66 = .ok (.aload_n 1, 1) := by decide +kernel
theorem d_F_takeProbes_67 : decode prog_3_method_5_code 67 = .ok (.getfield 71, 3) := by decide +kernel
theorem d_F_takeProbes_70 : decode prog_3_method_5_code 70 = .ok (.iload_n 2, 1) := by decide +kernel
theorem d_F_takeProbes_71 : decode prog_3_method_5_code 71 = .ok (.iaload, 1) := by decide +kernel
theorem d_F_takeProbes_72 : decode prog_3_method_5_code 72 = .ok (.iastore, 1) := by decide +kernel
theorem d_F_takeProbes_73 : decode prog_3_method_5_code 73 = .ok (.aload_n 0, 1) := by decide +kernel
theorem d_F_takeProbes_74 : decode prog_3_method_5_code 74 = .ok (.dup, 1) := by decide +kernel
theorem d_F_takeProbes_75 : decode prog_3_method_5_code 75 = .ok (.getfield 58, 3) := by decide +kernel
theorem d_F_takeProbes_78 : decode prog_3_method_5_code 78 = .ok (.iconst 1, 1) := by decide +kernel
theorem d_F_takeProbes_79 : decode prog_3_method_5_code 79 = .ok (.iadd, 1) := by decide +kernel
theorem d_F_takeProbes_80 : decode prog_3_method_5_code 80 = .ok (.putfield 58, 3) := by decide +kernel
theorem d_F_takeProbes_83 : decode prog_3_method_5_code 83 = .ok (.iinc 2 1, 3) := by decide +kernel
theorem d_F_takeProbes_86 : decode prog_3_method_5_code 86 = .ok (.goto (-74), 3) := by decide +kernel
theorem d_F_takeProbes_89 : decode prog_3_method_5_code 89 = .ok (.return_, 1) := by decide +kernel
theorem d_F_planFlight_0 : decode prog_3_method_6_code 0 = .ok (.aload_n 0, 1) := by decide +kernel
theorem d_F_planFlight_1 : decode prog_3_method_6_code 1 = .ok (.getfield 9, 3) := by decide +kernel
theorem d_F_planFlight_4 : decode prog_3_method_6_code 4 = .ok (.iconst 0, 1) := by decide +kernel
theorem d_F_planFlight_5 : decode prog_3_method_6_code 5 = .ok (.aload_n 0, 1) := by decide +kernel
theorem d_F_planFlight_6 : decode prog_3_method_6_code 6 = .ok (.getfield 18, 3) := by decide +kernel
theorem d_F_planFlight_9 : decode prog_3_method_6_code 9 = .ok (.iconst 0, 1) := by decide +kernel
theorem d_F_planFlight_10 : decode prog_3_method_6_code 10 = .ok (.aload_n 0, 1) := by decide +kernel
theorem d_F_planFlight_11 : decode prog_3_method_6_code 11 = .ok (.getfield 58, 3) := by decide +kernel
theorem d_F_planFlight_14 : decode prog_3_method_6_code 14 = .ok (.invokestatic 77, 3) := by decide +kernel
theorem d_F_planFlight_17 : decode prog_3_method_6_code 17 = .ok (.aload_n 0, 1) := by decide +kernel
theorem d_F_planFlight_18 : decode prog_3_method_6_code 18 = .ok (.lconst 0, 1) := by decide +kernel
theorem d_F_planFlight_19 : decode prog_3_method_6_code 19 = .ok (.putfield 83, 3) := by decide +kernel
theorem d_F_planFlight_22 : decode prog_3_method_6_code 22 = .ok (.lconst 0, 1) := by decide +kernel
theorem d_F_planFlight_23 : decode prog_3_method_6_code 23 = .ok (.lstore_n 2, 1) := by decide +kernel
theorem d_F_planFlight_24 : decode prog_3_method_6_code 24 = .ok (.lconst 0, 1) := by decide +kernel
theorem d_F_planFlight_25 : decode prog_3_method_6_code 25 = .ok (.lstore 4, 2) := by decide +kernel
theorem d_F_planFlight_27 : decode prog_3_method_6_code 27 = .ok (.iconst 0, 1) := by decide +kernel
theorem d_F_planFlight_28 : decode prog_3_method_6_code 28 = .ok (.istore 6, 2) := by decide +kernel
theorem d_F_planFlight_30 : decode prog_3_method_6_code 30 = .ok (.iload 6, 2) := by decide +kernel
theorem d_F_planFlight_32 : decode prog_3_method_6_code 32 = .ok (.aload_n 0, 1) := by decide +kernel
theorem d_F_planFlight_33 : decode prog_3_method_6_code 33 = .ok (.getfield 58, 3) := by decide +kernel
theorem d_F_planFlight_36 : decode prog_3_method_6_code 36 = .ok (.if_icmp .ge 107, 3) := by decide +kernel
theorem d_F_planFlight_39 : decode prog_3_method_6_code 39 = .ok (.aload_n 0, 1) := by decide +kernel
theorem d_F_planFlight_40 : decode prog_3_method_6_code 40 = .ok (.aload_n 1, 1) := by decide +kernel
theorem d_F_planFlight_41 : decode prog_3_method_6_code 41 = .ok (.iload 6, 2) := by decide +kernel
theorem d_F_planFlight_43 : decode prog_3_method_6_code 43 = .ok (.lload_n 2, 1) := by decide +kernel
theorem d_F_planFlight_44 : decode prog_3_method_6_code 44 = .ok (.lload 4, 2) := by decide +kernel
theorem d_F_planFlight_46 : decode prog_3_method_6_code 46 = .ok (.invokevirtual 87, 3) := by decide +kernel
theorem d_F_planFlight_49 : decode prog_3_method_6_code 49 = .ok (.istore 7, 2) := by decide +kernel
theorem d_F_planFlight_51 : decode prog_3_method_6_code 51 = .ok (.aload_n 0, 1) := by decide +kernel
theorem d_F_planFlight_52 : decode prog_3_method_6_code 52 = .ok (.getfield 18, 3) := by decide +kernel
theorem d_F_planFlight_55 : decode prog_3_method_6_code 55 = .ok (.iload 7, 2) := by decide +kernel
theorem d_F_planFlight_57 : decode prog_3_method_6_code 57 = .ok (.iaload, 1) := by decide +kernel
theorem d_F_planFlight_58 : decode prog_3_method_6_code 58 = .ok (.istore 8, 2) := by decide +kernel
theorem d_F_planFlight_60 : decode prog_3_method_6_code 60 = .ok (.aload_n 0, 1) := by decide +kernel
theorem d_F_planFlight_61 : decode prog_3_method_6_code 61 = .ok (.getfield 18, 3) := by decide +kernel
theorem d_F_planFlight_64 : decode prog_3_method_6_code 64 = .ok (.iload 7, 2) := by decide +kernel
theorem d_F_planFlight_66 : decode prog_3_method_6_code 66 = .ok (.aload_n 0, 1) := by decide +kernel
theorem d_F_planFlight_67 : decode prog_3_method_6_code 67 = .ok (.getfield 18, 3) := by decide +kernel
theorem d_F_planFlight_70 : decode prog_3_method_6_code 70 = .ok (.iload 6, 2) := by decide +kernel
theorem d_F_planFlight_72 : decode prog_3_method_6_code 72 = .ok (.iaload, 1) := by decide +kernel
theorem d_F_planFlight_73 : decode prog_3_method_6_code 73 = .ok (.iastore, 1) := by decide +kernel
theorem d_F_planFlight_74 : decode prog_3_method_6_code 74 = .ok (.aload_n 0, 1) := by decide +kernel
theorem d_F_planFlight_75 : decode prog_3_method_6_code 75 = .ok (.getfield 18, 3) := by decide +kernel
theorem d_F_planFlight_78 : decode prog_3_method_6_code 78 = .ok (.iload 6, 2) := by decide +kernel
theorem d_F_planFlight_80 : decode prog_3_method_6_code 80 = .ok (.iload 8, 2) := by decide +kernel
theorem d_F_planFlight_82 : decode prog_3_method_6_code 82 = .ok (.iastore, 1) := by decide +kernel
theorem d_F_planFlight_83 : decode prog_3_method_6_code 83 = .ok (.aload_n 0, 1) := by decide +kernel
theorem d_F_planFlight_84 : decode prog_3_method_6_code 84 = .ok (.dup, 1) := by decide +kernel
theorem d_F_planFlight_85 : decode prog_3_method_6_code 85 = .ok (.getfield 83, 3) := by decide +kernel
theorem d_F_planFlight_88 : decode prog_3_method_6_code 88 = .ok (.aload_n 1, 1) := by decide +kernel
theorem d_F_planFlight_89 : decode prog_3_method_6_code 89 = .ok (.getfield 91, 3) := by decide +kernel
theorem d_F_planFlight_92 : decode prog_3_method_6_code 92 = .ok (.iload 8, 2) := by decide +kernel
theorem d_F_planFlight_94 : decode prog_3_method_6_code 94 = .ok (.laload, 1) := by decide +kernel
theorem d_F_planFlight_95 : decode prog_3_method_6_code 95 = .ok (.lload_n 2, 1) := by decide +kernel
theorem d_F_planFlight_96 : decode prog_3_method_6_code 96 = .ok (.lsub, 1) := by decide +kernel
theorem d_F_planFlight_97 : decode prog_3_method_6_code 97 = .ok (.invokestatic 94, 3) := by decide +kernel
theorem d_F_planFlight_100 : decode prog_3_method_6_code 100 = .ok (.aload_n 1, 1) := by decide +kernel
theorem d_F_planFlight_101 : decode prog_3_method_6_code 101 = .ok (.getfield 100, 3) := by decide +kernel
theorem d_F_planFlight_104 : decode prog_3_method_6_code 104 = .ok (.iload 8, 2) := by decide +kernel
theorem d_F_planFlight_106 : decode prog_3_method_6_code 106 = .ok (.laload, 1) := by decide +kernel
theorem d_F_planFlight_107 : decode prog_3_method_6_code 107 = .ok (.lload 4, 2) := by decide +kernel
theorem d_F_planFlight_109 : decode prog_3_method_6_code 109 = .ok (.lsub, 1) := by decide +kernel
theorem d_F_planFlight_110 : decode prog_3_method_6_code 110 = .ok (.invokestatic 94, 3) := by decide +kernel
theorem d_F_planFlight_113 : decode prog_3_method_6_code 113 = .ok (.invokestatic 103, 3) := by decide +kernel
theorem d_F_planFlight_116 : decode prog_3_method_6_code 116 = .ok (.ladd, 1) := by decide +kernel
theorem d_F_planFlight_117 : decode prog_3_method_6_code 117 = .ok (.putfield 83, 3) := by decide +kernel
theorem d_F_planFlight_120 : decode prog_3_method_6_code 120 = .ok (.aload_n 1, 1) := by decide +kernel
theorem d_F_planFlight_121 : decode prog_3_method_6_code 121 = .ok (.getfield 91, 3) := by decide +kernel
theorem d_F_planFlight_124 : decode prog_3_method_6_code 124 = .ok (.iload 8, 2) := by decide +kernel
theorem d_F_planFlight_126 : decode prog_3_method_6_code 126 = .ok (.laload, 1) := by decide +kernel
theorem d_F_planFlight_127 : decode prog_3_method_6_code 127 = .ok (.lstore_n 2, 1) := by decide +kernel
theorem d_F_planFlight_128 : decode prog_3_method_6_code 128 = .ok (.aload_n 1, 1) := by decide +kernel
theorem d_F_planFlight_129 : decode prog_3_method_6_code 129 = .ok (.getfield 100, 3) := by decide +kernel
theorem d_F_planFlight_132 : decode prog_3_method_6_code 132 = .ok (.iload 8, 2) := by decide +kernel
theorem d_F_planFlight_134 : decode prog_3_method_6_code 134 = .ok (.laload, 1) := by decide +kernel
theorem d_F_planFlight_135 : decode prog_3_method_6_code 135 = .ok (.lstore 4, 2) := by decide +kernel
theorem d_F_planFlight_137 : decode prog_3_method_6_code 137 = .ok (.iinc 6 1, 3) := by decide +kernel
theorem d_F_planFlight_140 : decode prog_3_method_6_code 140 = .ok (.goto (-110), 3) := by decide +kernel
theorem d_F_planFlight_143 : decode prog_3_method_6_code 143 = .ok (.return_, 1) := by decide +kernel
theorem d_F_placeOfNearest_0 : decode prog_3_method_7_code 0 = .ok (.iload_n 2, 1) := by decide +kernel
theorem d_F_placeOfNearest_1 : decode prog_3_method_7_code 1 = .ok (.istore 7, 2) := by decide +kernel
theorem d_F_placeOfNearest_3 : decode prog_3_method_7_code 3 = .ok (.iload_n 2, 1) := by decide +kernel
theorem d_F_placeOfNearest_4 : decode prog_3_method_7_code 4 = .ok (.iconst 1, 1) := by decide +kernel
theorem d_F_placeOfNearest_5 : decode prog_3_method_7_code 5 = .ok (.iadd, 1) := by decide +kernel
theorem d_F_placeOfNearest_6 : decode prog_3_method_7_code 6 = .ok (.istore 8, 2) := by decide +kernel
theorem d_F_placeOfNearest_8 : decode prog_3_method_7_code 8 = .ok (.iload 8, 2) := by decide +kernel
theorem d_F_placeOfNearest_10 : decode prog_3_method_7_code 10 = .ok (.aload_n 0, 1) := by decide +kernel
theorem d_F_placeOfNearest_11 : decode prog_3_method_7_code 11 = .ok (.getfield 58, 3) := by decide +kernel
theorem d_F_placeOfNearest_14 : decode prog_3_method_7_code 14 = .ok (.if_icmp .ge 78, 3) := by decide +kernel
theorem d_F_placeOfNearest_17 : decode prog_3_method_7_code 17 = .ok (.aload_n 1, 1) := by decide +kernel
theorem d_F_placeOfNearest_18 : decode prog_3_method_7_code 18 = .ok (.aload_n 0, 1) := by decide +kernel
theorem d_F_placeOfNearest_19 : decode prog_3_method_7_code 19 = .ok (.getfield 18, 3) := by decide +kernel
theorem d_F_placeOfNearest_22 : decode prog_3_method_7_code 22 = .ok (.iload 8, 2) := by decide +kernel
theorem d_F_placeOfNearest_24 : decode prog_3_method_7_code 24 = .ok (.iaload, 1) := by decide +kernel
theorem d_F_placeOfNearest_25 : decode prog_3_method_7_code 25 = .ok (.lload_n 3, 1) := by decide +kernel
theorem d_F_placeOfNearest_26 : decode prog_3_method_7_code 26 = .ok (.lload 5, 2) := by decide +kernel
theorem d_F_placeOfNearest_28 : decode prog_3_method_7_code 28 = .ok (.invokevirtual 107, 3) := by decide +kernel
theorem d_F_placeOfNearest_31 : decode prog_3_method_7_code 31 = .ok (.lstore 9, 2) := by decide +kernel
theorem d_F_placeOfNearest_33 : decode prog_3_method_7_code 33 = .ok (.aload_n 1, 1) := by decide +kernel
theorem d_F_placeOfNearest_34 : decode prog_3_method_7_code 34 = .ok (.aload_n 0, 1) := by decide +kernel
theorem d_F_placeOfNearest_35 : decode prog_3_method_7_code 35 = .ok (.getfield 18, 3) := by decide +kernel
theorem d_F_placeOfNearest_38 : decode prog_3_method_7_code 38 = .ok (.iload 7, 2) := by decide +kernel
theorem d_F_placeOfNearest_40 : decode prog_3_method_7_code 40 = .ok (.iaload, 1) := by decide +kernel
theorem d_F_placeOfNearest_41 : decode prog_3_method_7_code 41 = .ok (.lload_n 3, 1) := by decide +kernel
theorem d_F_placeOfNearest_42 : decode prog_3_method_7_code 42 = .ok (.lload 5, 2) := by decide +kernel
theorem d_F_placeOfNearest_44 : decode prog_3_method_7_code 44 = .ok (.invokevirtual 107, 3) := by decide +kernel
theorem d_F_placeOfNearest_47 : decode prog_3_method_7_code 47 = .ok (.lstore 11, 2) := by decide +kernel
theorem d_F_placeOfNearest_49 : decode prog_3_method_7_code 49 = .ok (.lload 9, 2) := by decide +kernel
theorem d_F_placeOfNearest_51 : decode prog_3_method_7_code 51 = .ok (.lload 11, 2) := by decide +kernel
theorem d_F_placeOfNearest_53 : decode prog_3_method_7_code 53 = .ok (.lcmp, 1) := by decide +kernel
theorem d_F_placeOfNearest_54 : decode prog_3_method_7_code 54 = .ok (.ifCond .lt 28, 3) := by decide +kernel
theorem d_F_placeOfNearest_57 : decode prog_3_method_7_code 57 = .ok (.lload 9, 2) := by decide +kernel
theorem d_F_placeOfNearest_59 : decode prog_3_method_7_code 59 = .ok (.lload 11, 2) := by decide +kernel
theorem d_F_placeOfNearest_61 : decode prog_3_method_7_code 61 = .ok (.lcmp, 1) := by decide +kernel
theorem d_F_placeOfNearest_62 : decode prog_3_method_7_code 62 = .ok (.ifCond .ne 24, 3) := by decide +kernel
theorem d_F_placeOfNearest_65 : decode prog_3_method_7_code 65 = .ok (.aload_n 0, 1) := by decide +kernel
theorem d_F_placeOfNearest_66 : decode prog_3_method_7_code 66 = .ok (.getfield 18, 3) := by decide +kernel
theorem d_F_placeOfNearest_69 : decode prog_3_method_7_code 69 = .ok (.iload 8, 2) := by decide +kernel
theorem d_F_placeOfNearest_71 : decode prog_3_method_7_code 71 = .ok (.iaload, 1) := by decide +kernel
theorem d_F_placeOfNearest_72 : decode prog_3_method_7_code 72 = .ok (.aload_n 0, 1) := by decide +kernel
theorem d_F_placeOfNearest_73 : decode prog_3_method_7_code 73 = .ok (.getfield 18, 3) := by decide +kernel
theorem d_F_placeOfNearest_76 : decode prog_3_method_7_code 76 = .ok (.iload 7, 2) := by decide +kernel
theorem d_F_placeOfNearest_78 : decode prog_3_method_7_code 78 = .ok (.iaload, 1) := by decide +kernel
theorem d_F_placeOfNearest_79 : decode prog_3_method_7_code 79 = .ok (.if_icmp .ge 7, 3) := by decide +kernel
theorem d_F_placeOfNearest_82 : decode prog_3_method_7_code 82 = .ok (.iload 8, 2) := by decide +kernel
theorem d_F_placeOfNearest_84 : decode prog_3_method_7_code 84 = .ok (.istore 7, 2) := by decide +kernel
theorem d_F_placeOfNearest_86 : decode prog_3_method_7_code 86 = .ok (.iinc 8 1, 3) := by decide +kernel
theorem d_F_placeOfNearest_89 : decode prog_3_method_7_code 89 = .ok (.goto (-81), 3) := by decide +kernel
theorem d_F_placeOfNearest_92 : decode prog_3_method_7_code 92 = .ok (.iload 7, 2) := by decide +kernel
theorem d_F_placeOfNearest_94 : decode prog_3_method_7_code 94 = .ok (.ireturn, 1) := by decide +kernel
theorem d_F_sortByPlace_0 : decode prog_3_method_8_code 0 = .ok (.iconst 0, 1) := by decide +kernel
theorem d_F_sortByPlace_1 : decode prog_3_method_8_code 1 = .ok (.istore_n 2, 1) := by decide +kernel
theorem d_F_sortByPlace_2 : decode prog_3_method_8_code 2 = .ok (.iload_n 2, 1) := by decide +kernel
theorem d_F_sortByPlace_3 : decode prog_3_method_8_code 3 = .ok (.aload_n 0, 1) := by decide +kernel
theorem d_F_sortByPlace_4 : decode prog_3_method_8_code 4 = .ok (.getfield 58, 3) := by decide +kernel
theorem d_F_sortByPlace_7 : decode prog_3_method_8_code 7 = .ok (.if_icmp .ge 68, 3) := by decide +kernel
theorem d_F_sortByPlace_10 : decode prog_3_method_8_code 10 = .ok (.iload_n 2, 1) := by decide +kernel
theorem d_F_sortByPlace_11 : decode prog_3_method_8_code 11 = .ok (.istore_n 3, 1) := by decide +kernel
theorem d_F_sortByPlace_12 : decode prog_3_method_8_code 12 = .ok (.iload_n 3, 1) := by decide +kernel
theorem d_F_sortByPlace_13 : decode prog_3_method_8_code 13 = .ok (.ifCond .le 44, 3) := by decide +kernel
theorem d_F_sortByPlace_16 : decode prog_3_method_8_code 16 = .ok (.aload_n 1, 1) := by decide +kernel
theorem d_F_sortByPlace_17 : decode prog_3_method_8_code 17 = .ok (.aload_n 0, 1) := by decide +kernel
theorem d_F_sortByPlace_18 : decode prog_3_method_8_code 18 = .ok (.getfield 9, 3) := by decide +kernel
theorem d_F_sortByPlace_21 : decode prog_3_method_8_code 21 = .ok (.iload_n 2, 1) := by decide +kernel
theorem d_F_sortByPlace_22 : decode prog_3_method_8_code 22 = .ok (.iaload, 1) := by decide +kernel
theorem d_F_sortByPlace_23 : decode prog_3_method_8_code 23 = .ok (.aload_n 0, 1) := by decide +kernel
theorem d_F_sortByPlace_24 : decode prog_3_method_8_code 24 = .ok (.getfield 21, 3) := by decide +kernel
theorem d_F_sortByPlace_27 : decode prog_3_method_8_code 27 = .ok (.iload_n 3, 1) := by decide +kernel
theorem d_F_sortByPlace_28 : decode prog_3_method_8_code 28 = .ok (.iconst 1, 1) := by decide +kernel
theorem d_F_sortByPlace_29 : decode prog_3_method_8_code 29 = .ok (.isub, 1) := by decide +kernel
theorem d_F_sortByPlace_30 : decode prog_3_method_8_code 30 = .ok (.iaload, 1) := by decide +kernel
theorem d_F_sortByPlace_31 : decode prog_3_method_8_code 31 = .ok (.invokevirtual 111, 3) := by decide +kernel
theorem d_F_sortByPlace_34 : decode prog_3_method_8_code 34 = .ok (.ifCond .eq 23, 3) := by decide +kernel
theorem d_F_sortByPlace_37 : decode prog_3_method_8_code 37 = .ok (.aload_n 0, 1) := by decide +kernel
theorem d_F_sortByPlace_38 : decode prog_3_method_8_code 38 = .ok (.getfield 21, 3) := by decide +kernel
theorem d_F_sortByPlace_41 : decode prog_3_method_8_code 41 = .ok (.iload_n 3, 1) := by decide +kernel
theorem d_F_sortByPlace_42 : decode prog_3_method_8_code 42 = .ok (.aload_n 0, 1) := by decide +kernel
theorem d_F_sortByPlace_43 : decode prog_3_method_8_code 43 = .ok (.getfield 21, 3) := by decide +kernel
theorem d_F_sortByPlace_46 : decode prog_3_method_8_code 46 = .ok (.iload_n 3, 1) := by decide +kernel
theorem d_F_sortByPlace_47 : decode prog_3_method_8_code 47 = .ok (.iconst 1, 1) := by decide +kernel
theorem d_F_sortByPlace_48 : decode prog_3_method_8_code 48 = .ok (.isub, 1) := by decide +kernel
theorem d_F_sortByPlace_49 : decode prog_3_method_8_code 49 = .ok (.iaload, 1) := by decide +kernel
theorem d_F_sortByPlace_50 : decode prog_3_method_8_code 50 = .ok (.iastore, 1) := by decide +kernel
theorem d_F_sortByPlace_51 : decode prog_3_method_8_code 51 = .ok (.iinc 3 (-1), 3) := by decide +kernel
theorem d_F_sortByPlace_54 : decode prog_3_method_8_code 54 = .ok (.goto (-42), 3) := by decide +kernel
theorem d_F_sortByPlace_57 : decode prog_3_method_8_code 57 = .ok (.aload_n 0, 1) := by decide +kernel
theorem d_F_sortByPlace_58 : decode prog_3_method_8_code 58 = .ok (.getfield 21, 3) := by decide +kernel
theorem d_F_sortByPlace_61 : decode prog_3_method_8_code 61 = .ok (.iload_n 3, 1) := by decide +kernel
theorem d_F_sortByPlace_62 : decode prog_3_method_8_code 62 = .ok (.aload_n 0, 1) := by decide +kernel
theorem d_F_sortByPlace_63 : decode prog_3_method_8_code 63 = .ok (.getfield 9, 3) := by decide +kernel
theorem d_F_sortByPlace_66 : decode prog_3_method_8_code 66 = .ok (.iload_n 2, 1) := by decide +kernel
theorem d_F_sortByPlace_67 : decode prog_3_method_8_code 67 = .ok (.iaload, 1) := by decide +kernel
theorem d_F_sortByPlace_68 : decode prog_3_method_8_code 68 = .ok (.iastore, 1) := by decide +kernel
theorem d_F_sortByPlace_69 : decode prog_3_method_8_code 69 = .ok (.iinc 2 1, 3) := by decide +kernel
theorem d_F_sortByPlace_72 : decode prog_3_method_8_code 72 = .ok (.goto (-70), 3) := by decide +kernel
theorem d_F_sortByPlace_75 : decode prog_3_method_8_code 75 = .ok (.return_, 1) := by decide +kernel
theorem d_F_writeText_0 : decode prog_3_method_9_code 0 = .ok (.aload_n 0, 1) := by decide +kernel
theorem d_F_writeText_1 : decode prog_3_method_9_code 1 = .ok (.iconst 0, 1) := by decide +kernel
theorem d_F_writeText_2 : decode prog_3_method_9_code 2 = .ok (.putfield 65, 3) := by decide +kernel
theorem d_F_writeText_5 : decode prog_3_method_9_code 5 = .ok (.iconst 0, 1) := by decide +kernel
theorem d_F_writeText_6 : decode prog_3_method_9_code 6 = .ok (.istore_n 2, 1) := by decide +kernel
theorem d_F_writeText_7 : decode prog_3_method_9_code 7 = .ok (.iload_n 2, 1) := by decide +kernel
theorem d_F_writeText_8 : decode prog_3_method_9_code 8 = .ok (.aload_n 0, 1) := by decide +kernel
theorem d_F_writeText_9 : decode prog_3_method_9_code 9 = .ok (.getfield 58, 3) := by decide +kernel
theorem d_F_writeText_12 : decode prog_3_method_9_code 12 = .ok (.if_icmp .ge 66, 3) := by decide +kernel
theorem d_F_writeText_15 : decode prog_3_method_9_code 15 = .ok (.aload_n 0, 1) := by decide +kernel
theorem d_F_writeText_16 : decode prog_3_method_9_code 16 = .ok (.getfield 21, 3) := by decide +kernel
theorem d_F_writeText_19 : decode prog_3_method_9_code 19 = .ok (.iload_n 2, 1) := by decide +kernel
theorem d_F_writeText_20 : decode prog_3_method_9_code 20 = .ok (.iaload, 1) := by decide +kernel
theorem d_F_writeText_21 : decode prog_3_method_9_code 21 = .ok (.istore_n 3, 1) := by decide +kernel
theorem d_F_writeText_22 : decode prog_3_method_9_code 22 = .ok (.aload_n 0, 1) := by decide +kernel
theorem d_F_writeText_23 : decode prog_3_method_9_code 23 = .ok (.bipush 112, 2) := by decide +kernel
theorem d_F_writeText_25 : decode prog_3_method_9_code 25 = .ok (.invokevirtual 115, 3) := by decide +kernel
theorem d_F_writeText_28 : decode prog_3_method_9_code 28 = .ok (.aload_n 0, 1) := by decide +kernel
theorem d_F_writeText_29 : decode prog_3_method_9_code 29 = .ok (.iload_n 3, 1) := by decide +kernel
theorem d_F_writeText_30 : decode prog_3_method_9_code 30 = .ok (.i2l, 1) := by decide +kernel
theorem d_F_writeText_31 : decode prog_3_method_9_code 31 = .ok (.invokevirtual 119, 3) := by decide +kernel
theorem d_F_writeText_34 : decode prog_3_method_9_code 34 = .ok (.aload_n 0, 1) := by decide +kernel
theorem d_F_writeText_35 : decode prog_3_method_9_code 35 = .ok (.bipush 32, 2) := by decide +kernel
theorem d_F_writeText_37 : decode prog_3_method_9_code 37 = .ok (.invokevirtual 115, 3) := by decide +kernel
theorem d_F_writeText_40 : decode prog_3_method_9_code 40 = .ok (.aload_n 0, 1) := by decide +kernel
theorem d_F_writeText_41 : decode prog_3_method_9_code 41 = .ok (.aload_n 1, 1) := by decide +kernel
theorem d_F_writeText_42 : decode prog_3_method_9_code 42 = .ok (.getfield 91, 3) := by decide +kernel
theorem d_F_writeText_45 : decode prog_3_method_9_code 45 = .ok (.iload_n 3, 1) := by decide +kernel
theorem d_F_writeText_46 : decode prog_3_method_9_code 46 = .ok (.laload, 1) := by decide +kernel
theorem d_F_writeText_47 : decode prog_3_method_9_code 47 = .ok (.invokevirtual 119, 3) := by decide +kernel
theorem d_F_writeText_50 : decode prog_3_method_9_code 50 = .ok (.aload_n 0, 1) := by decide +kernel
theorem d_F_writeText_51 : decode prog_3_method_9_code 51 = .ok (.bipush 32, 2) := by decide +kernel
theorem d_F_writeText_53 : decode prog_3_method_9_code 53 = .ok (.invokevirtual 115, 3) := by decide +kernel
theorem d_F_writeText_56 : decode prog_3_method_9_code 56 = .ok (.aload_n 0, 1) := by decide +kernel
theorem d_F_writeText_57 : decode prog_3_method_9_code 57 = .ok (.aload_n 1, 1) := by decide +kernel
theorem d_F_writeText_58 : decode prog_3_method_9_code 58 = .ok (.getfield 100, 3) := by decide +kernel
theorem d_F_writeText_61 : decode prog_3_method_9_code 61 = .ok (.iload_n 3, 1) := by decide +kernel
theorem d_F_writeText_62 : decode prog_3_method_9_code 62 = .ok (.laload, 1) := by decide +kernel
theorem d_F_writeText_63 : decode prog_3_method_9_code 63 = .ok (.invokevirtual 119, 3) := by decide +kernel
theorem d_F_writeText_66 : decode prog_3_method_9_code 66 = .ok (.aload_n 0, 1) := by decide +kernel
theorem d_F_writeText_67 : decode prog_3_method_9_code 67 = .ok (.bipush 10, 2) := by decide +kernel
theorem d_F_writeText_69 : decode prog_3_method_9_code 69 = .ok (.invokevirtual 115, 3) := by decide +kernel
theorem d_F_writeText_72 : decode prog_3_method_9_code 72 = .ok (.iinc 2 1, 3) := by decide +kernel
theorem d_F_writeText_75 : decode prog_3_method_9_code 75 = .ok (.goto (-68), 3) := by decide +kernel
theorem d_F_writeText_78 : decode prog_3_method_9_code 78 = .ok (.return_, 1) := by decide +kernel
theorem d_F_writeLetter_0 : decode prog_3_method_11_code 0 = .ok (.aload_n 0, 1) := by decide +kernel
theorem d_F_writeLetter_1 : decode prog_3_method_11_code 1 = .ok (.getfield 65, 3) := by decide +kernel
theorem d_F_writeLetter_4 : decode prog_3_method_11_code 4 = .ok (.sipush 176, 3) := by decide +kernel
theorem d_F_writeLetter_7 : decode prog_3_method_11_code 7 = .ok (.if_icmp .ge 23, 3) := by decide +kernel
theorem d_F_writeLetter_10 : decode prog_3_method_11_code 10 = .ok (.aload_n 0, 1) := by decide +kernel
theorem d_F_writeLetter_11 : decode prog_3_method_11_code 11 = .ok (.getfield 24, 3) := by decide +kernel
theorem d_F_writeLetter_14 : decode prog_3_method_11_code 14 = .ok (.aload_n 0, 1) := by decide +kernel
theorem d_F_writeLetter_15 : decode prog_3_method_11_code 15 = .ok (.getfield 65, 3) := by decide +kernel
theorem d_F_writeLetter_18 : decode prog_3_method_11_code 18 = .ok (.iload_n 1, 1) := by decide +kernel
theorem d_F_writeLetter_19 : decode prog_3_method_11_code 19 = .ok (.castore, 1) := by decide +kernel
theorem d_F_writeLetter_20 : decode prog_3_method_11_code 20 = .ok (.aload_n 0, 1) := by decide +kernel
theorem d_F_writeLetter_21 : decode prog_3_method_11_code 21 = .ok (.dup, 1) := by decide +kernel
theorem d_F_writeLetter_22 : decode prog_3_method_11_code 22 = .ok (.getfield 65, 3) := by decide +kernel
theorem d_F_writeLetter_25 : decode prog_3_method_11_code 25 = .ok (.iconst 1, 1) := by decide +kernel
theorem d_F_writeLetter_26 : decode prog_3_method_11_code 26 = .ok (.iadd, 1) := by decide +kernel
theorem d_F_writeLetter_27 : decode prog_3_method_11_code 27 = .ok (.putfield 65, 3) := by decide +kernel
theorem d_F_writeLetter_30 : decode prog_3_method_11_code 30 = .ok (.return_, 1) := by decide +kernel
theorem d_F_writeNumber_0 : decode prog_3_method_10_code 0 = .ok (.lload_n 1, 1) := by decide +kernel
theorem d_F_writeNumber_1 : decode prog_3_method_10_code 1 = .ok (.lconst 0, 1) := by decide +kernel
theorem d_F_writeNumber_2 : decode prog_3_method_10_code 2 = .ok (.lcmp, 1) := by decide +kernel
theorem d_F_writeNumber_3 : decode prog_3_method_10_code 3 = .ok (.ifCond .ge 9, 3) := by decide +kernel
theorem d_F_writeNumber_6 : decode prog_3_method_10_code 6 = .ok (.aload_n 0, 1) := by decide +kernel
theorem d_F_writeNumber_7 : decode prog_3_method_10_code 7 = .ok (.bipush 45, 2) := by decide +kernel
theorem d_F_writeNumber_9 : decode prog_3_method_10_code 9 = .ok (.invokevirtual 115, 3) := by decide +kernel
theorem d_F_writeNumber_12 : decode prog_3_method_10_code 12 = .ok (.lload_n 1, 1) := by decide +kernel
theorem d_F_writeNumber_13 : decode prog_3_method_10_code 13 = .ok (.invokestatic 94, 3) := by decide +kernel
theorem d_F_writeNumber_16 : decode prog_3_method_10_code 16 = .ok (.lstore_n 3, 1) := by decide +kernel
theorem d_F_writeNumber_17 : decode prog_3_method_10_code 17 = .ok (.lconst 1, 1) := by decide +kernel
theorem d_F_writeNumber_18 : decode prog_3_method_10_code 18 = .ok (.lstore 5, 2) := by decide +kernel
theorem d_F_writeNumber_20 : decode prog_3_method_10_code 20 = .ok (.iconst 1, 1) := by decide +kernel
theorem d_F_writeNumber_21 : decode prog_3_method_10_code 21 = .ok (.istore 7, 2) := by decide +kernel
theorem d_F_writeNumber_23 : decode prog_3_method_10_code 23 = .ok (.iload 7, 2) := by decide +kernel
theorem d_F_writeNumber_25 : decode prog_3_method_10_code 25 = .ok (.bipush 7, 2) := by decide +kernel
theorem d_F_writeNumber_27 : decode prog_3_method_10_code 27 = .ok (.if_icmp .ge 28, 3) := by decide +kernel
theorem d_F_writeNumber_30 : decode prog_3_method_10_code 30 = .ok (.lload 5, 2) := by decide +kernel
theorem d_F_writeNumber_32 : decode prog_3_method_10_code 32 = .ok (.ldc2_w 123, 3) := by decide +kernel
theorem d_F_writeNumber_35 : decode prog_3_method_10_code 35 = .ok (.lmul, 1) := by decide +kernel
theorem d_F_writeNumber_36 : decode prog_3_method_10_code 36 = .ok (.lload_n 3, 1) := by decide +kernel
theorem d_F_writeNumber_37 : decode prog_3_method_10_code 37 = .ok (.lcmp, 1) := by decide +kernel
theorem d_F_writeNumber_38 : decode prog_3_method_10_code 38 = .ok (.ifCond .gt 17, 3) := by decide +kernel
theorem d_F_writeNumber_41 : decode prog_3_method_10_code 41 = .ok (.lload 5, 2) := by decide +kernel
theorem d_F_writeNumber_43 : decode prog_3_method_10_code 43 = .ok (.ldc2_w 123, 3) := by decide +kernel
theorem d_F_writeNumber_46 : decode prog_3_method_10_code 46 = .ok (.lmul, 1) := by decide +kernel
theorem d_F_writeNumber_47 : decode prog_3_method_10_code 47 = .ok (.lstore 5, 2) := by decide +kernel
theorem d_F_writeNumber_49 : decode prog_3_method_10_code 49 = .ok (.iinc 7 1, 3) := by decide +kernel
theorem d_F_writeNumber_52 : decode prog_3_method_10_code 52 = .ok (.goto (-29), 3) := by decide +kernel
theorem d_F_writeNumber_55 : decode prog_3_method_10_code 55 = .ok (.iconst 0, 1) := by decide +kernel
theorem d_F_writeNumber_56 : decode prog_3_method_10_code 56 = .ok (.istore 7, 2) := by decide +kernel
theorem d_F_writeNumber_58 : decode prog_3_method_10_code 58 = .ok (.iload 7, 2) := by decide +kernel
theorem d_F_writeNumber_60 : decode prog_3_method_10_code 60 = .ok (.bipush 7, 2) := by decide +kernel
theorem d_F_writeNumber_62 : decode prog_3_method_10_code 62 = .ok (.if_icmp .ge 42, 3) := by decide +kernel
theorem d_F_writeNumber_65 : decode prog_3_method_10_code 65 = .ok (.lload 5, 2) := by decide +kernel
theorem d_F_writeNumber_67 : decode prog_3_method_10_code 67 = .ok (.lconst 0, 1) := by decide +kernel
theorem d_F_writeNumber_68 : decode prog_3_method_10_code 68 = .ok (.lcmp, 1) := by decide +kernel
theorem d_F_writeNumber_69 : decode prog_3_method_10_code 69 = .ok (.ifCond .le 35, 3) := by decide +kernel
theorem d_F_writeNumber_72 : decode prog_3_method_10_code 72 = .ok (.aload_n 0, 1) := by decide +kernel
theorem d_F_writeNumber_73 : decode prog_3_method_10_code 73 = .ok (.ldc2_w 125, 3) := by decide +kernel
theorem d_F_writeNumber_76 : decode prog_3_method_10_code 76 = .ok (.lload_n 3, 1) := by decide +kernel
theorem d_F_writeNumber_77 : decode prog_3_method_10_code 77 = .ok (.lload 5, 2) := by decide +kernel
theorem d_F_writeNumber_79 : decode prog_3_method_10_code 79 = .ok (.ldiv, 1) := by decide +kernel
theorem d_F_writeNumber_80 : decode prog_3_method_10_code 80 = .ok (.ldc2_w 123, 3) := by decide +kernel
theorem d_F_writeNumber_83 : decode prog_3_method_10_code 83 = .ok (.lrem, 1) := by decide +kernel
theorem d_F_writeNumber_84 : decode prog_3_method_10_code 84 = .ok (.ladd, 1) := by decide +kernel
theorem d_F_writeNumber_85 : decode prog_3_method_10_code 85 = .ok (.l2i, 1) := by decide +kernel
theorem d_F_writeNumber_86 : decode prog_3_method_10_code 86 = .ok (.i2c, 1) := by decide +kernel
theorem d_F_writeNumber_87 : decode prog_3_method_10_code 87 = .ok (.invokevirtual 115, 3) := by decide +kernel
theorem d_F_writeNumber_90 : decode prog_3_method_10_code 90 = .ok (.lload 5, 2) := by decide +kernel
theorem d_F_writeNumber_92 : decode prog_3_method_10_code 92 = .ok (.ldc2_w 123, 3) := by decide +kernel
theorem d_F_writeNumber_95 : decode prog_3_method_10_code 95 = .ok (.ldiv, 1) := by decide +kernel
theorem d_F_writeNumber_96 : decode prog_3_method_10_code 96 = .ok (.lstore 5, 2) := by decide +kernel
theorem d_F_writeNumber_98 : decode prog_3_method_10_code 98 = .ok (.iinc 7 1, 3) := by decide +kernel
theorem d_F_writeNumber_101 : decode prog_3_method_10_code 101 = .ok (.goto (-43), 3) := by decide +kernel
theorem d_F_writeNumber_104 : decode prog_3_method_10_code 104 = .ok (.return_, 1) := by decide +kernel
theorem d_F_letterAt_0 : decode prog_3_method_4_code 0 = .ok (.iload_n 1, 1) := by decide +kernel
theorem d_F_letterAt_1 : decode prog_3_method_4_code 1 = .ok (.aload_n 0, 1) := by decide +kernel
theorem d_F_letterAt_2 : decode prog_3_method_4_code 2 = .ok (.getfield 65, 3) := by decide +kernel
theorem d_F_letterAt_5 : decode prog_3_method_4_code 5 = .ok (.if_icmp .ge 10, 3) := by decide +kernel
theorem d_F_letterAt_8 : decode prog_3_method_4_code 8 = .ok (.iload_n 1, 1) := by decide +kernel
theorem d_F_letterAt_9 : decode prog_3_method_4_code 9 = .ok (.sipush 176, 3) := by decide +kernel
theorem d_F_letterAt_12 : decode prog_3_method_4_code 12 = .ok (.if_icmp .lt 5, 3) := by decide +kernel
theorem d_F_letterAt_15 : decode prog_3_method_4_code 15 = .ok (.iconst (-1), 1) := by decide +kernel
theorem d_F_letterAt_16 : decode prog_3_method_4_code 16 = .ok (.ireturn, 1) := by decide +kernel
theorem d_F_letterAt_17 : decode prog_3_method_4_code 17 = .ok (.aload_n 0, 1) := by decide +kernel
theorem d_F_letterAt_18 : decode prog_3_method_4_code 18 = .ok (.getfield 24, 3) := by decide +kernel
theorem d_F_letterAt_21 : decode prog_3_method_4_code 21 = .ok (.iload_n 1, 1) := by decide +kernel
theorem d_F_letterAt_22 : decode prog_3_method_4_code 22 = .ok (.caload, 1) := by decide +kernel
theorem d_F_letterAt_23 : decode prog_3_method_4_code 23 = .ok (.ireturn, 1) := by decide +kernel
