theorem d_M_init_0 : decode prog_8_method_1_code 0 = .ok (.aload_n 0, 1) := by decide +kernel
theorem d_M_init_1 : decode prog_8_method_1_code 1 = .ok (.invokespecial 1, 3) := by decide +kernel
theorem d_M_init_4 : decode prog_8_method_1_code 4 = .ok (.aload_n 0, 1) := by decide +kernel
theorem d_M_init_5 : decode prog_8_method_1_code 5 = .ok (.bipush 12, 2) := by decide +kernel
theorem d_M_init_7 : decode prog_8_method_1_code 7 = .ok (.newarray .boolean, 2) := by decide +kernel
theorem d_M_init_9 : decode prog_8_method_1_code 9 = .ok (.putfield 7, 3) := by decide +kernel
theorem d_M_init_12 : decode prog_8_method_1_code 12 = .ok (.aload_n 0, 1) := by decide +kernel
theorem d_M_init_13 : decode prog_8_method_1_code 13 = .ok (.bipush 12, 2) := by decide +kernel
theorem d_M_init_15 : decode prog_8_method_1_code 15 = .ok (.newarray .int, 2) := by decide +kernel
theorem d_M_init_17 : decode prog_8_method_1_code 17 = .ok (.putfield 13, 3) := by decide +kernel
theorem d_M_init_20 : decode prog_8_method_1_code 20 = .ok (.aload_n 0, 1) := by decide +kernel
theorem d_M_init_21 : decode prog_8_method_1_code 21 = .ok (.bipush 36, 2) := by decide +kernel
theorem d_M_init_23 : decode prog_8_method_1_code 23 = .ok (.newarray .int, 2) := by decide +kernel
theorem d_M_init_25 : decode prog_8_method_1_code 25 = .ok (.putfield 17, 3) := by decide +kernel
theorem d_M_init_28 : decode prog_8_method_1_code 28 = .ok (.aload_n 0, 1) := by decide +kernel
theorem d_M_init_29 : decode prog_8_method_1_code 29 = .ok (.bipush 36, 2) := by decide +kernel
theorem d_M_init_31 : decode prog_8_method_1_code 31 = .ok (.newarray .long, 2) := by decide +kernel
theorem d_M_init_33 : decode prog_8_method_1_code 33 = .ok (.putfield 20, 3) := by decide +kernel
theorem d_M_init_36 : decode prog_8_method_1_code 36 = .ok (.aload_n 0, 1) := by decide +kernel
theorem d_M_init_37 : decode prog_8_method_1_code 37 = .ok (.bipush 36, 2) := by decide +kernel
theorem d_M_init_39 : decode prog_8_method_1_code 39 = .ok (.newarray .long, 2) := by decide +kernel
theorem d_M_init_41 : decode prog_8_method_1_code 41 = .ok (.putfield 24, 3) := by decide +kernel
theorem d_M_init_44 : decode prog_8_method_1_code 44 = .ok (.aload_n 0, 1) := by decide +kernel
theorem d_M_init_45 : decode prog_8_method_1_code 45 = .ok (.bipush 36, 2) := by decide +kernel
theorem d_M_init_47 : decode prog_8_method_1_code 47 = .ok (.newarray .long, 2) := by decide +kernel
theorem d_M_init_49 : decode prog_8_method_1_code 49 = .ok (.putfield 27, 3) := by decide +kernel
theorem d_M_init_52 : decode prog_8_method_1_code 52 = .ok (.aload_n 0, 1) := by decide +kernel
theorem d_M_init_53 : decode prog_8_method_1_code 53 = .ok (.bipush 36, 2) := by decide +kernel
theorem d_M_init_55 : decode prog_8_method_1_code 55 = .ok (.newarray .long, 2) := by decide +kernel
theorem d_M_init_57 : decode prog_8_method_1_code 57 = .ok (.putfield 30, 3) := by decide +kernel
theorem d_M_init_60 : decode prog_8_method_1_code 60 = .ok (.aload_n 0, 1) := by decide +kernel
theorem d_M_init_61 : decode prog_8_method_1_code 61 = .ok (.bipush 8, 2) := by decide +kernel
theorem d_M_init_63 : decode prog_8_method_1_code 63 = .ok (.newarray .int, 2) := by decide +kernel
theorem d_M_init_65 : decode prog_8_method_1_code 65 = .ok (.putfield 33, 3) := by decide +kernel
theorem d_M_init_68 : decode prog_8_method_1_code 68 = .ok (.aload_n 0, 1) := by decide +kernel
theorem d_M_init_69 : decode prog_8_method_1_code 69 = .ok (.bipush 8, 2) := by decide +kernel
theorem d_M_init_71 : decode prog_8_method_1_code 71 = .ok (.newarray .int, 2) := by decide +kernel
theorem d_M_init_73 : decode prog_8_method_1_code 73 = .ok (.putfield 36, 3) := by decide +kernel
theorem d_M_init_76 : decode prog_8_method_1_code 76 = .ok (.aload_n 0, 1) := by decide +kernel
theorem d_M_init_77 : decode prog_8_method_1_code 77 = .ok (.bipush 8, 2) := by decide +kernel
theorem d_M_init_79 : decode prog_8_method_1_code 79 = .ok (.newarray .int, 2) := by decide +kernel
theorem d_M_init_81 : decode prog_8_method_1_code 81 = .ok (.putfield 39, 3) := by decide +kernel
theorem d_M_init_84 : decode prog_8_method_1_code 84 = .ok (.aload_n 0, 1) := by decide +kernel
theorem d_M_init_85 : decode prog_8_method_1_code 85 = .ok (.bipush 8, 2) := by decide +kernel
theorem d_M_init_87 : decode prog_8_method_1_code 87 = .ok (.newarray .int, 2) := by decide +kernel
theorem d_M_init_89 : decode prog_8_method_1_code 89 = .ok (.putfield 42, 3) := by decide +kernel
theorem d_M_init_92 : decode prog_8_method_1_code 92 = .ok (.aload_n 0, 1) := by decide +kernel
theorem d_M_init_93 : decode prog_8_method_1_code 93 = .ok (.sipush 144, 3) := by decide +kernel
theorem d_M_init_96 : decode prog_8_method_1_code 96 = .ok (.newarray .int, 2) := by decide +kernel
theorem d_M_init_98 : decode prog_8_method_1_code 98 = .ok (.putfield 45, 3) := by decide +kernel
theorem d_M_init_101 : decode prog_8_method_1_code 101 = .ok (.aload_n 0, 1) := by decide +kernel
theorem d_M_init_102 : decode prog_8_method_1_code 102 = .ok (.sipush 1152, 3) := by decide +kernel
theorem d_M_init_105 : decode prog_8_method_1_code 105 = .ok (.newarray .long, 2) := by decide +kernel
theorem d_M_init_107 : decode prog_8_method_1_code 107 = .ok (.putfield 48, 3) := by decide +kernel
theorem d_M_init_110 : decode prog_8_method_1_code 110 = .ok (.aload_n 0, 1) := by decide +kernel
theorem d_M_init_111 : decode prog_8_method_1_code 111 = .ok (.bipush 12, 2) := by decide +kernel
theorem d_M_init_113 : decode prog_8_method_1_code 113 = .ok (.newarray .int, 2) := by decide +kernel
theorem d_M_init_115 : decode prog_8_method_1_code 115 = .ok (.putfield 51, 3) := by decide +kernel
theorem d_M_init_118 : decode prog_8_method_1_code 118 = .ok (.aload_n 0, 1) := by decide +kernel
theorem d_M_init_119 : decode prog_8_method_1_code 119 = .ok (.bipush 36, 2) := by decide +kernel
theorem d_M_init_121 : decode prog_8_method_1_code 121 = .ok (.newarray .boolean, 2) := by decide +kernel
theorem d_M_init_123 : decode prog_8_method_1_code 123 = .ok (.putfield 54, 3) := by decide +kernel
theorem d_M_init_126 : decode prog_8_method_1_code 126 = .ok (.aload_n 0, 1) := by decide +kernel
theorem d_M_init_127 : decode prog_8_method_1_code 127 = .ok (.sipush 400, 3) := by decide +kernel
theorem d_M_init_130 : decode prog_8_method_1_code 130 = .ok (.newarray .int, 2) := by decide +kernel
theorem d_M_init_132 : decode prog_8_method_1_code 132 = .ok (.putfield 57, 3) := by decide +kernel
theorem d_M_init_135 : decode prog_8_method_1_code 135 = .ok (.return_, 1) := by decide +kernel
theorem d_M_thrown_0 : decode prog_8_method_2_code 0 = .ok (.aload_n 0, 1) := by decide +kernel
theorem d_M_thrown_1 : decode prog_8_method_2_code 1 = .ok (.getfield 60, 3) := by decide +kernel
theorem d_M_thrown_4 : decode prog_8_method_2_code 4 = .ok (.ireturn, 1) := by decide +kernel
theorem d_M_net_0 : decode prog_8_method_5_code 0 = .ok (.aload_n 0, 1) := by decide +kernel
theorem d_M_net_1 : decode prog_8_method_5_code 1 = .ok (.iconst 0, 1) := by decide +kernel
theorem d_M_net_2 : decode prog_8_method_5_code 2 = .ok (.putfield 60, 3) := by decide +kernel
theorem d_M_net_5 : decode prog_8_method_5_code 5 = .ok (.aload_n 0, 1) := by decide +kernel
theorem d_M_net_6 : decode prog_8_method_5_code 6 = .ok (.getfield 64, 3) := by decide +kernel
theorem d_M_net_9 : decode prog_8_method_5_code 9 = .ok (.bipush 12, 2) := by decide +kernel
theorem d_M_net_11 : decode prog_8_method_5_code 11 = .ok (.if_icmp .ne 5, 3) := by decide +kernel
theorem d_M_net_14 : decode prog_8_method_5_code 14 = .ok (.iconst (-1), 1) := by decide +kernel
theorem d_M_net_15 : decode prog_8_method_5_code 15 = .ok (.ireturn, 1) := by decide +kernel
theorem d_M_net_16 : decode prog_8_method_5_code 16 = .ok (.aload_n 0, 1) := by decide +kernel
theorem d_M_net_17 : decode prog_8_method_5_code 17 = .ok (.getfield 7, 3) := by decide +kernel
theorem d_M_net_20 : decode prog_8_method_5_code 20 = .ok (.aload_n 0, 1) := by decide +kernel
theorem d_M_net_21 : decode prog_8_method_5_code 21 = .ok (.getfield 64, 3) := by decide +kernel
theorem d_M_net_24 : decode prog_8_method_5_code 24 = .ok (.iload_n 1, 1) := by decide +kernel
theorem d_M_net_25 : decode prog_8_method_5_code 25 = .ok (.bastore, 1) := by decide +kernel
theorem d_M_net_26 : decode prog_8_method_5_code 26 = .ok (.aload_n 0, 1) := by decide +kernel
theorem d_M_net_27 : decode prog_8_method_5_code 27 = .ok (.dup, 1) := by decide +kernel
theorem d_M_net_28 : decode prog_8_method_5_code 28 = .ok (.getfield 64, 3) := by decide +kernel
theorem d_M_net_31 : decode prog_8_method_5_code 31 = .ok (.iconst 1, 1) := by decide +kernel
theorem d_M_net_32 : decode prog_8_method_5_code 32 = .ok (.iadd, 1) := by decide +kernel
theorem d_M_net_33 : decode prog_8_method_5_code 33 = .ok (.putfield 64, 3) := by decide +kernel
theorem d_M_net_36 : decode prog_8_method_5_code 36 = .ok (.aload_n 0, 1) := by decide +kernel
theorem d_M_net_37 : decode prog_8_method_5_code 37 = .ok (.getfield 64, 3) := by decide +kernel
theorem d_M_net_40 : decode prog_8_method_5_code 40 = .ok (.iconst 1, 1) := by decide +kernel
theorem d_M_net_41 : decode prog_8_method_5_code 41 = .ok (.isub, 1) := by decide +kernel
theorem d_M_net_42 : decode prog_8_method_5_code 42 = .ok (.ireturn, 1) := by decide +kernel
theorem d_M_point_0 : decode prog_8_method_7_code 0 = .ok (.lload_n 2, 1) := by decide +kernel
theorem d_M_point_1 : decode prog_8_method_7_code 1 = .ok (.invokestatic 74, 3) := by decide +kernel
theorem d_M_point_4 : decode prog_8_method_7_code 4 = .ok (.ifCond .eq 31, 3) := by decide +kernel
theorem d_M_point_7 : decode prog_8_method_7_code 7 = .ok (.lload 4, 2) := by decide +kernel
theorem d_M_point_9 : decode prog_8_method_7_code 9 = .ok (.invokestatic 74, 3) := by decide +kernel
theorem d_M_point_12 : decode prog_8_method_7_code 12 = .ok (.ifCond .eq 23, 3) := by decide +kernel
theorem d_M_point_15 : decode prog_8_method_7_code 15 = .ok (.lload 6, 2) := by decide +kernel
theorem d_M_point_17 : decode prog_8_method_7_code 17 = .ok (.lconst 1, 1) := by decide +kernel
theorem d_M_point_18 : decode prog_8_method_7_code 18 = .ok (.lcmp, 1) := by decide +kernel
theorem d_M_point_19 : decode prog_8_method_7_code 19 = .ok (.ifCond .lt 16, 3) := by decide +kernel
theorem d_M_point_22 : decode prog_8_method_7_code 22 = .ok (.lload 6, 2) := by decide +kernel
theorem d_M_point_24 : decode prog_8_method_7_code 24 = .ok (.ldc2_w 78, 3) := by decide +kernel
theorem d_M_point_27 : decode prog_8_method_7_code 27 = .ok (.lcmp, 1) := by decide +kernel
theorem d_M_point_28 : decode prog_8_method_7_code 28 = .ok (.ifCond .gt 7, 3) := by decide +kernel
theorem d_M_point_31 : decode prog_8_method_7_code 31 = .ok (.iconst 1, 1) := by decide +kernel
theorem d_M_point_32 : decode prog_8_method_7_code 32 = .ok (.goto 4, 3) := by decide +kernel
theorem d_M_point_35 : decode prog_8_method_7_code 35 = .ok (.iconst 0, 1) := by decide +kernel
theorem d_M_point_36 : decode prog_8_method_7_code 36 = .ok (.istore 8, 2) := by decide +kernel
theorem d_M_point_38 : decode prog_8_method_7_code 38 = .ok (.aload_n 0, 1) := by decide +kernel
theorem d_M_point_39 : decode prog_8_method_7_code 39 = .ok (.aload_n 0, 1) := by decide +kernel
theorem d_M_point_40 : decode prog_8_method_7_code 40 = .ok (.iload_n 1, 1) := by decide +kernel
theorem d_M_point_41 : decode prog_8_method_7_code 41 = .ok (.invokevirtual 80, 3) := by decide +kernel
theorem d_M_point_44 : decode prog_8_method_7_code 44 = .ok (.ifCond .ne 7, 3) := by decide +kernel
theorem d_M_point_47 : decode prog_8_method_7_code 47 = .ok (.iconst 1, 1) := by decide +kernel
theorem d_M_point_48 : decode prog_8_method_7_code 48 = .ok (.goto 13, 3) := by decide +kernel
theorem d_M_point_51 : decode prog_8_method_7_code 51 = .ok (.iload 8, 2) := by decide +kernel
theorem d_M_point_53 : decode prog_8_method_7_code 53 = .ok (.ifCond .eq 7, 3) := by decide +kernel
theorem d_M_point_56 : decode prog_8_method_7_code 56 = .ok (.iconst 0, 1) := by decide +kernel
theorem d_M_point_57 : decode prog_8_method_7_code 57 = .ok (.goto 4, 3) := by decide +kernel
theorem d_M_point_60 : decode prog_8_method_7_code 60 = .ok (.iconst 2, 1) := by decide +kernel
theorem d_M_point_61 : decode prog_8_method_7_code 61 = .ok (.putfield 60, 3) := by decide +kernel
theorem d_M_point_64 : decode prog_8_method_7_code 64 = .ok (.aload_n 0, 1) := by decide +kernel
theorem d_M_point_65 : decode prog_8_method_7_code 65 = .ok (.getfield 60, 3) := by decide +kernel
theorem d_M_point_68 : decode prog_8_method_7_code 68 = .ok (.ifCond .eq 5, 3) := by decide +kernel
theorem d_M_point_71 : decode prog_8_method_7_code 71 = .ok (.iconst 0, 1) := by decide +kernel
theorem d_M_point_72 : decode prog_8_method_7_code 72 = .ok (.ireturn, 1) := by decide +kernel
theorem d_M_point_73 : decode prog_8_method_7_code 73 = .ok (.aload_n 0, 1) := by decide +kernel
theorem d_M_point_74 : decode prog_8_method_7_code 74 = .ok (.getfield 13, 3) := by decide +kernel
theorem d_M_point_77 : decode prog_8_method_7_code 77 = .ok (.iload_n 1, 1) := by decide +kernel
theorem d_M_point_78 : decode prog_8_method_7_code 78 = .ok (.iaload, 1) := by decide +kernel
theorem d_M_point_79 : decode prog_8_method_7_code 79 = .ok (.iconst 3, 1) := by decide +kernel
theorem d_M_point_80 : decode prog_8_method_7_code 80 = .ok (.if_icmp .ne 5, 3) := by decide +kernel
theorem d_M_point_83 : decode prog_8_method_7_code 83 = .ok (.iconst (-1), 1) := by decide +kernel
theorem d_M_point_84 : decode prog_8_method_7_code 84 = .ok (.ireturn, 1) := by decide +kernel
theorem d_M_point_85 : decode prog_8_method_7_code 85 = .ok (.aload_n 0, 1) := by decide +kernel
theorem d_M_point_86 : decode prog_8_method_7_code 86 = .ok (.getfield 20, 3) := by decide +kernel
theorem d_M_point_89 : decode prog_8_method_7_code 89 = .ok (.aload_n 0, 1) := by decide +kernel
theorem d_M_point_90 : decode prog_8_method_7_code 90 = .ok (.getfield 67, 3) := by decide +kernel
theorem d_M_point_93 : decode prog_8_method_7_code 93 = .ok (.lload_n 2, 1) := by decide +kernel
theorem d_M_point_94 : decode prog_8_method_7_code 94 = .ok (.lastore, 1) := by decide +kernel
theorem d_M_point_95 : decode prog_8_method_7_code 95 = .ok (.aload_n 0, 1) := by decide +kernel
theorem d_M_point_96 : decode prog_8_method_7_code 96 = .ok (.getfield 24, 3) := by decide +kernel
theorem d_M_point_99 : decode prog_8_method_7_code 99 = .ok (.aload_n 0, 1) := by decide +kernel
theorem d_M_point_100 : decode prog_8_method_7_code 100 = .ok (.getfield 67, 3) := by decide +kernel
theorem d_M_point_103 : decode prog_8_method_7_code 103 = .ok (.lload 4, 2) := by decide +kernel
theorem d_M_point_105 : decode prog_8_method_7_code 105 = .ok (.lastore, 1) := by decide +kernel
theorem d_M_point_106 : decode prog_8_method_7_code 106 = .ok (.aload_n 0, 1) := by decide +kernel
theorem d_M_point_107 : decode prog_8_method_7_code 107 = .ok (.getfield 27, 3) := by decide +kernel
theorem d_M_point_110 : decode prog_8_method_7_code 110 = .ok (.aload_n 0, 1) := by decide +kernel
theorem d_M_point_111 : decode prog_8_method_7_code 111 = .ok (.getfield 67, 3) := by decide +kernel
theorem d_M_point_114 : decode prog_8_method_7_code 114 = .ok (.lload 6, 2) := by decide +kernel
theorem d_M_point_116 : decode prog_8_method_7_code 116 = .ok (.lastore, 1) := by decide +kernel
theorem d_M_point_117 : decode prog_8_method_7_code 117 = .ok (.aload_n 0, 1) := by decide +kernel
theorem d_M_point_118 : decode prog_8_method_7_code 118 = .ok (.getfield 17, 3) := by decide +kernel
theorem d_M_point_121 : decode prog_8_method_7_code 121 = .ok (.iconst 3, 1) := by decide +kernel
theorem d_M_point_122 : decode prog_8_method_7_code 122 = .ok (.iload_n 1, 1) := by decide +kernel
theorem d_M_point_123 : decode prog_8_method_7_code 123 = .ok (.imul, 1) := by decide +kernel
theorem d_M_point_124 : decode prog_8_method_7_code 124 = .ok (.aload_n 0, 1) := by decide +kernel
theorem d_M_point_125 : decode prog_8_method_7_code 125 = .ok (.getfield 13, 3) := by decide +kernel
theorem d_M_point_128 : decode prog_8_method_7_code 128 = .ok (.iload_n 1, 1) := by decide +kernel
theorem d_M_point_129 : decode prog_8_method_7_code 129 = .ok (.iaload, 1) := by decide +kernel
theorem d_M_point_130 : decode prog_8_method_7_code 130 = .ok (.iadd, 1) := by decide +kernel
theorem d_M_point_131 : decode prog_8_method_7_code 131 = .ok (.aload_n 0, 1) := by decide +kernel
theorem d_M_point_132 : decode prog_8_method_7_code 132 = .ok (.getfield 67, 3) := by decide +kernel
theorem d_M_point_135 : decode prog_8_method_7_code 135 = .ok (.iastore, 1) := by decide +kernel
theorem d_M_point_136 : decode prog_8_method_7_code 136 = .ok (.aload_n 0, 1) := by decide +kernel
theorem d_M_point_137 : decode prog_8_method_7_code 137 = .ok (.getfield 13, 3) := by decide +kernel
theorem d_M_point_140 : decode prog_8_method_7_code 140 = .ok (.iload_n 1, 1) := by decide +kernel
theorem d_M_point_141 : decode prog_8_method_7_code 141 = .ok (.dup2, 1) := by decide +kernel
theorem d_M_point_142 : decode prog_8_method_7_code 142 = .ok (.iaload, 1) := by decide +kernel
theorem d_M_point_143 : decode prog_8_method_7_code 143 = .ok (.iconst 1, 1) := by decide +kernel
theorem d_M_point_144 : decode prog_8_method_7_code 144 = .ok (.iadd, 1) := by decide +kernel
theorem d_M_point_145 : decode prog_8_method_7_code 145 = .ok (.iastore, 1) := by decide +kernel
theorem d_M_point_146 : decode prog_8_method_7_code 146 = .ok (.aload_n 0, 1) := by decide +kernel
theorem d_M_point_147 : decode prog_8_method_7_code 147 = .ok (.dup, 1) := by decide +kernel
theorem d_M_point_148 : decode prog_8_method_7_code 148 = .ok (.getfield 67, 3) := by decide +kernel
theorem d_M_point_151 : decode prog_8_method_7_code 151 = .ok (.iconst 1, 1) := by decide +kernel
theorem d_M_point_152 : decode prog_8_method_7_code 152 = .ok (.iadd, 1) := by decide +kernel
theorem d_M_point_153 : decode prog_8_method_7_code 153 = .ok (.putfield 67, 3) := by decide +kernel
theorem d_M_point_156 : decode prog_8_method_7_code 156 = .ok (.aload_n 0, 1) := by decide +kernel
theorem d_M_point_157 : decode prog_8_method_7_code 157 = .ok (.getfield 67, 3) := by decide +kernel
theorem d_M_point_160 : decode prog_8_method_7_code 160 = .ok (.iconst 1, 1) := by decide +kernel
theorem d_M_point_161 : decode prog_8_method_7_code 161 = .ok (.isub, 1) := by decide +kernel
theorem d_M_point_162 : decode prog_8_method_7_code 162 = .ok (.ireturn, 1) := by decide +kernel
theorem d_M_isPlace_0 : decode prog_8_method_6_code 0 = .ok (.lload_n 0, 1) := by decide +kernel
theorem d_M_isPlace_1 : decode prog_8_method_6_code 1 = .ok (.ldc2_w 70, 3) := by decide +kernel
theorem d_M_isPlace_4 : decode prog_8_method_6_code 4 = .ok (.lcmp, 1) := by decide +kernel
theorem d_M_isPlace_5 : decode prog_8_method_6_code 5 = .ok (.ifCond .lt 15, 3) := by decide +kernel
theorem d_M_isPlace_8 : decode prog_8_method_6_code 8 = .ok (.lload_n 0, 1) := by decide +kernel
theorem d_M_isPlace_9 : decode prog_8_method_6_code 9 = .ok (.ldc2_w 72, 3) := by decide +kernel
theorem d_M_isPlace_12 : decode prog_8_method_6_code 12 = .ok (.lcmp, 1) := by decide +kernel
theorem d_M_isPlace_13 : decode prog_8_method_6_code 13 = .ok (.ifCond .gt 7, 3) := by decide +kernel
theorem d_M_isPlace_16 : decode prog_8_method_6_code 16 = .ok (.iconst 1, 1) := by decide +kernel
theorem d_M_isPlace_17 : decode prog_8_method_6_code 17 = .ok (.goto 4, 3) := by decide +kernel
theorem d_M_isPlace_20 : decode prog_8_method_6_code 20 = .ok (.iconst 0, 1) := by decide +kernel
theorem d_M_isPlace_21 : decode prog_8_method_6_code 21 = .ok (.ireturn, 1) := by decide +kernel
theorem d_M_isNet_0 : decode prog_8_method_3_code 0 = .ok (.iload_n 1, 1) := by decide +kernel
theorem d_M_isNet_1 : decode prog_8_method_3_code 1 = .ok (.ifCond .lt 15, 3) := by decide +kernel
theorem d_M_isNet_4 : decode prog_8_method_3_code 4 = .ok (.iload_n 1, 1) := by decide +kernel
theorem d_M_isNet_5 : decode prog_8_method_3_code 5 = .ok (.aload_n 0, 1) := by decide +kernel
theorem d_M_isNet_6 : decode prog_8_method_3_code 6 = .ok (.getfield 64, 3) := by decide +kernel
theorem d_M_isNet_9 : decode prog_8_method_3_code 9 = .ok (.if_icmp .ge 7, 3) := by decide +kernel
theorem d_M_isNet_12 : decode prog_8_method_3_code 12 = .ok (.iconst 1, 1) := by decide +kernel
theorem d_M_isNet_13 : decode prog_8_method_3_code 13 = .ok (.goto 4, 3) := by decide +kernel
theorem d_M_isNet_16 : decode prog_8_method_3_code 16 = .ok (.iconst 0, 1) := by decide +kernel
theorem d_M_isNet_17 : decode prog_8_method_3_code 17 = .ok (.ireturn, 1) := by decide +kernel
theorem d_M_gap_0 : decode prog_8_method_8_code 0 = .ok (.aload_n 0, 1) := by decide +kernel
theorem d_M_gap_1 : decode prog_8_method_8_code 1 = .ok (.lload_n 1, 1) := by decide +kernel
theorem d_M_gap_2 : decode prog_8_method_8_code 2 = .ok (.lconst 0, 1) := by decide +kernel
theorem d_M_gap_3 : decode prog_8_method_8_code 3 = .ok (.lcmp, 1) := by decide +kernel
theorem d_M_gap_4 : decode prog_8_method_8_code 4 = .ok (.ifCond .lt 11, 3) := by decide +kernel
theorem d_M_gap_7 : decode prog_8_method_8_code 7 = .ok (.lload_n 1, 1) := by decide +kernel
theorem d_M_gap_8 : decode prog_8_method_8_code 8 = .ok (.ldc2_w 72, 3) := by decide +kernel
theorem d_M_gap_11 : decode prog_8_method_8_code 11 = .ok (.lcmp, 1) := by decide +kernel
theorem d_M_gap_12 : decode prog_8_method_8_code 12 = .ok (.ifCond .le 7, 3) := by decide +kernel
theorem d_M_gap_15 : decode prog_8_method_8_code 15 = .ok (.iconst 1, 1) := by decide +kernel
theorem d_M_gap_16 : decode prog_8_method_8_code 16 = .ok (.goto 4, 3) := by decide +kernel
theorem d_M_gap_19 : decode prog_8_method_8_code 19 = .ok (.iconst 0, 1) := by decide +kernel
theorem d_M_gap_20 : decode prog_8_method_8_code 20 = .ok (.putfield 60, 3) := by decide +kernel
theorem d_M_gap_23 : decode prog_8_method_8_code 23 = .ok (.aload_n 0, 1) := by decide +kernel
theorem d_M_gap_24 : decode prog_8_method_8_code 24 = .ok (.getfield 60, 3) := by decide +kernel
theorem d_M_gap_27 : decode prog_8_method_8_code 27 = .ok (.ifCond .ne 12, 3) := by decide +kernel
theorem d_M_gap_30 : decode prog_8_method_8_code 30 = .ok (.aload_n 0, 1) := by decide +kernel
theorem d_M_gap_31 : decode prog_8_method_8_code 31 = .ok (.getfield 84, 3) := by decide +kernel
theorem d_M_gap_34 : decode prog_8_method_8_code 34 = .ok (.lload_n 1, 1) := by decide +kernel
theorem d_M_gap_35 : decode prog_8_method_8_code 35 = .ok (.lcmp, 1) := by decide +kernel
theorem d_M_gap_36 : decode prog_8_method_8_code 36 = .ok (.ifCond .ne 5, 3) := by decide +kernel
theorem d_M_gap_39 : decode prog_8_method_8_code 39 = .ok (.iconst 0, 1) := by decide +kernel
theorem d_M_gap_40 : decode prog_8_method_8_code 40 = .ok (.ireturn, 1) := by decide +kernel
theorem d_M_gap_41 : decode prog_8_method_8_code 41 = .ok (.aload_n 0, 1) := by decide +kernel
theorem d_M_gap_42 : decode prog_8_method_8_code 42 = .ok (.lload_n 1, 1) := by decide +kernel
theorem d_M_gap_43 : decode prog_8_method_8_code 43 = .ok (.putfield 84, 3) := by decide +kernel
theorem d_M_gap_46 : decode prog_8_method_8_code 46 = .ok (.iconst 1, 1) := by decide +kernel
theorem d_M_gap_47 : decode prog_8_method_8_code 47 = .ok (.ireturn, 1) := by decide +kernel
theorem d_M_force_0 : decode prog_8_method_9_code 0 = .ok (.aload_n 0, 1) := by decide +kernel
theorem d_M_force_1 : decode prog_8_method_9_code 1 = .ok (.aload_n 0, 1) := by decide +kernel
theorem d_M_force_2 : decode prog_8_method_9_code 2 = .ok (.iload_n 1, 1) := by decide +kernel
theorem d_M_force_3 : decode prog_8_method_9_code 3 = .ok (.invokevirtual 88, 3) := by decide +kernel
theorem d_M_force_6 : decode prog_8_method_9_code 6 = .ok (.ifCond .ne 7, 3) := by decide +kernel
theorem d_M_force_9 : decode prog_8_method_9_code 9 = .ok (.iconst 1, 1) := by decide +kernel
theorem d_M_force_10 : decode prog_8_method_9_code 10 = .ok (.goto 22, 3) := by decide +kernel
theorem d_M_force_13 : decode prog_8_method_9_code 13 = .ok (.lload_n 2, 1) := by decide +kernel
theorem d_M_force_14 : decode prog_8_method_9_code 14 = .ok (.lconst 0, 1) := by decide +kernel
theorem d_M_force_15 : decode prog_8_method_9_code 15 = .ok (.lcmp, 1) := by decide +kernel
theorem d_M_force_16 : decode prog_8_method_9_code 16 = .ok (.ifCond .lt 11, 3) := by decide +kernel
theorem d_M_force_19 : decode prog_8_method_9_code 19 = .ok (.lload_n 2, 1) := by decide +kernel
theorem d_M_force_20 : decode prog_8_method_9_code 20 = .ok (.ldc2_w 72, 3) := by decide +kernel
theorem d_M_force_23 : decode prog_8_method_9_code 23 = .ok (.lcmp, 1) := by decide +kernel
theorem d_M_force_24 : decode prog_8_method_9_code 24 = .ok (.ifCond .le 7, 3) := by decide +kernel
theorem d_M_force_27 : decode prog_8_method_9_code 27 = .ok (.iconst 2, 1) := by decide +kernel
theorem d_M_force_28 : decode prog_8_method_9_code 28 = .ok (.goto 4, 3) := by decide +kernel
theorem d_M_force_31 : decode prog_8_method_9_code 31 = .ok (.iconst 0, 1) := by decide +kernel
theorem d_M_force_32 : decode prog_8_method_9_code 32 = .ok (.putfield 60, 3) := by decide +kernel
theorem d_M_force_35 : decode prog_8_method_9_code 35 = .ok (.aload_n 0, 1) := by decide +kernel
theorem d_M_force_36 : decode prog_8_method_9_code 36 = .ok (.getfield 60, 3) := by decide +kernel
theorem d_M_force_39 : decode prog_8_method_9_code 39 = .ok (.ifCond .ne 14, 3) := by decide +kernel
theorem d_M_force_42 : decode prog_8_method_9_code 42 = .ok (.aload_n 0, 1) := by decide +kernel
theorem d_M_force_43 : decode prog_8_method_9_code 43 = .ok (.getfield 30, 3) := by decide +kernel
theorem d_M_force_46 : decode prog_8_method_9_code 46 = .ok (.iload_n 1, 1) := by decide +kernel
theorem d_M_force_47 : decode prog_8_method_9_code 47 = .ok (.laload, 1) := by decide +kernel
theorem d_M_force_48 : decode prog_8_method_9_code 48 = .ok (.lload_n 2, 1) := by decide +kernel
theorem d_M_force_49 : decode prog_8_method_9_code 49 = .ok (.lcmp, 1) := by decide +kernel
theorem d_M_force_50 : decode prog_8_method_9_code 50 = .ok (.ifCond .ne 5, 3) := by decide +kernel
theorem d_M_force_53 : decode prog_8_method_9_code 53 = .ok (.iconst 0, 1) := by decide +kernel
theorem d_M_force_54 : decode prog_8_method_9_code 54 = .ok (.ireturn, 1) := by decide +kernel
theorem d_M_force_55 : decode prog_8_method_9_code 55 = .ok (.aload_n 0, 1) := by decide +kernel
theorem d_M_force_56 : decode prog_8_method_9_code 56 = .ok (.getfield 30, 3) := by decide +kernel
theorem d_M_force_59 : decode prog_8_method_9_code 59 = .ok (.iload_n 1, 1) := by decide +kernel
theorem d_M_force_60 : decode prog_8_method_9_code 60 = .ok (.lload_n 2, 1) := by decide +kernel
theorem d_M_force_61 : decode prog_8_method_9_code 61 = .ok (.lastore, 1) := by decide +kernel
theorem d_M_force_62 : decode prog_8_method_9_code 62 = .ok (.iconst 1, 1) := by decide +kernel
theorem d_M_force_63 : decode prog_8_method_9_code 63 = .ok (.ireturn, 1) := by decide +kernel
theorem d_M_isPoint_0 : decode prog_8_method_4_code 0 = .ok (.iload_n 1, 1) := by decide +kernel
theorem d_M_isPoint_1 : decode prog_8_method_4_code 1 = .ok (.ifCond .lt 15, 3) := by decide +kernel
theorem d_M_isPoint_4 : decode prog_8_method_4_code 4 = .ok (.iload_n 1, 1) := by decide +kernel
theorem d_M_isPoint_5 : decode prog_8_method_4_code 5 = .ok (.aload_n 0, 1) := by decide +kernel
theorem d_M_isPoint_6 : decode prog_8_method_4_code 6 = .ok (.getfield 67, 3) := by decide +kernel
theorem d_M_isPoint_9 : decode prog_8_method_4_code 9 = .ok (.if_icmp .ge 7, 3) := by decide +kernel
theorem d_M_isPoint_12 : decode prog_8_method_4_code 12 = .ok (.iconst 1, 1) := by decide +kernel
theorem d_M_isPoint_13 : decode prog_8_method_4_code 13 = .ok (.goto 4, 3) := by decide +kernel
theorem d_M_isPoint_16 : decode prog_8_method_4_code 16 = .ok (.iconst 0, 1) := by decide +kernel
theorem d_M_isPoint_17 : decode prog_8_method_4_code 17 = .ok (.ireturn, 1) := by decide +kernel
theorem d_M_run_0 : decode prog_8_method_15_code 0 = .ok (.aload_n 0, 1) := by decide +kernel
theorem d_M_run_1 : decode prog_8_method_15_code 1 = .ok (.lload_n 1, 1) := by decide +kernel
theorem d_M_run_2 : decode prog_8_method_15_code 2 = .ok (.lconst 0, 1) := by decide +kernel
theorem d_M_run_3 : decode prog_8_method_15_code 3 = .ok (.lcmp, 1) := by decide +kernel
theorem d_M_run_4 : decode prog_8_method_15_code 4 = .ok (.ifCond .lt 15, 3) := by decide +kernel
theorem d_M_run_7 : decode prog_8_method_15_code 7 = .ok (.lload_n 1, 1) := by decide +kernel
theorem d_M_run_8 : decode prog_8_method_15_code 8 = .ok (.ldc2_w 109, 3) := by decide +kernel
theorem d_M_run_11 : decode prog_8_method_15_code 11 = .ok (.lcmp, 1) := by decide +kernel
theorem d_M_run_12 : decode prog_8_method_15_code 12 = .ok (.ifCond .gt 7, 3) := by decide +kernel
theorem d_M_run_15 : decode prog_8_method_15_code 15 = .ok (.iconst 0, 1) := by decide +kernel
theorem d_M_run_16 : decode prog_8_method_15_code 16 = .ok (.goto 4, 3) := by decide +kernel
theorem d_M_run_19 : decode prog_8_method_15_code 19 = .ok (.iconst 1, 1) := by decide +kernel
theorem d_M_run_20 : decode prog_8_method_15_code 20 = .ok (.putfield 60, 3) := by decide +kernel
theorem d_M_run_23 : decode prog_8_method_15_code 23 = .ok (.aload_n 0, 1) := by decide +kernel
theorem d_M_run_24 : decode prog_8_method_15_code 24 = .ok (.getfield 60, 3) := by decide +kernel
theorem d_M_run_27 : decode prog_8_method_15_code 27 = .ok (.ifCond .eq 5, 3) := by decide +kernel
theorem d_M_run_30 : decode prog_8_method_15_code 30 = .ok (.iconst 0, 1) := by decide +kernel
theorem d_M_run_31 : decode prog_8_method_15_code 31 = .ok (.ireturn, 1) := by decide +kernel
theorem d_M_run_32 : decode prog_8_method_15_code 32 = .ok (.aload_n 0, 1) := by decide +kernel
theorem d_M_run_33 : decode prog_8_method_15_code 33 = .ok (.iconst 1, 1) := by decide +kernel
theorem d_M_run_34 : decode prog_8_method_15_code 34 = .ok (.putfield 111, 3) := by decide +kernel
theorem d_M_run_37 : decode prog_8_method_15_code 37 = .ok (.aload_n 0, 1) := by decide +kernel
theorem d_M_run_38 : decode prog_8_method_15_code 38 = .ok (.iconst 0, 1) := by decide +kernel
theorem d_M_run_39 : decode prog_8_method_15_code 39 = .ok (.putfield 91, 3) := by decide +kernel
theorem d_M_run_42 : decode prog_8_method_15_code 42 = .ok (.iconst 0, 1) := by decide +kernel
theorem d_M_run_43 : decode prog_8_method_15_code 43 = .ok (.istore_n 3, 1) := by decide +kernel
theorem d_M_run_44 : decode prog_8_method_15_code 44 = .ok (.iconst 0, 1) := by decide +kernel
theorem d_M_run_45 : decode prog_8_method_15_code 45 = .ok (.istore 4, 2) := by decide +kernel
theorem d_M_run_47 : decode prog_8_method_15_code 47 = .ok (.iload 4, 2) := by decide +kernel
theorem d_M_run_49 : decode prog_8_method_15_code 49 = .ok (.aload_n 0, 1) := by decide +kernel
theorem d_M_run_50 : decode prog_8_method_15_code 50 = .ok (.getfield 64, 3) := by decide +kernel
theorem d_M_run_53 : decode prog_8_method_15_code 53 = .ok (.if_icmp .ge 56, 3) := by decide +kernel
theorem d_M_run_56 : decode prog_8_method_15_code 56 = .ok (.aload_n 0, 1) := by decide +kernel
theorem d_M_run_57 : decode prog_8_method_15_code 57 = .ok (.getfield 7, 3) := by decide +kernel
theorem d_M_run_60 : decode prog_8_method_15_code 60 = .ok (.iload 4, 2) := by decide +kernel
theorem d_M_run_62 : decode prog_8_method_15_code 62 = .ok (.baload, 1) := by decide +kernel
theorem d_M_run_63 : decode prog_8_method_15_code 63 = .ok (.ifCond .ne 6, 3) := by decide +kernel
theorem d_M_run_66 : decode prog_8_method_15_code 66 = .ok (.goto 37, 3) := by decide +kernel
theorem d_M_run_69 : decode prog_8_method_15_code 69 = .ok (.aload_n 0, 1) := by decide +kernel
theorem d_M_run_70 : decode prog_8_method_15_code 70 = .ok (.getfield 91, 3) := by decide +kernel
theorem d_M_run_73 : decode prog_8_method_15_code 73 = .ok (.i2l, 1) := by decide +kernel
theorem d_M_run_74 : decode prog_8_method_15_code 74 = .ok (.lload_n 1, 1) := by decide +kernel
theorem d_M_run_75 : decode prog_8_method_15_code 75 = .ok (.lcmp, 1) := by decide +kernel
theorem d_M_run_76 : decode prog_8_method_15_code 76 = .ok (.ifCond .ge 24, 3) := by decide +kernel
theorem d_M_run_79 : decode prog_8_method_15_code 79 = .ok (.aload_n 0, 1) := by decide +kernel
theorem d_M_run_80 : decode prog_8_method_15_code 80 = .ok (.getfield 33, 3) := by decide +kernel
theorem d_M_run_83 : decode prog_8_method_15_code 83 = .ok (.aload_n 0, 1) := by decide +kernel
theorem d_M_run_84 : decode prog_8_method_15_code 84 = .ok (.getfield 91, 3) := by decide +kernel
theorem d_M_run_87 : decode prog_8_method_15_code 87 = .ok (.iload 4, 2) := by decide +kernel
theorem d_M_run_89 : decode prog_8_method_15_code 89 = .ok (.iastore, 1) := by decide +kernel
theorem d_M_run_90 : decode prog_8_method_15_code 90 = .ok (.aload_n 0, 1) := by decide +kernel
theorem d_M_run_91 : decode prog_8_method_15_code 91 = .ok (.dup, 1) := by decide +kernel
theorem d_M_run_92 : decode prog_8_method_15_code 92 = .ok (.getfield 91, 3) := by decide +kernel
theorem d_M_run_95 : decode prog_8_method_15_code 95 = .ok (.iconst 1, 1) := by decide +kernel
theorem d_M_run_96 : decode prog_8_method_15_code 96 = .ok (.iadd, 1) := by decide +kernel
theorem d_M_run_97 : decode prog_8_method_15_code 97 = .ok (.putfield 91, 3) := by decide +kernel
theorem d_M_run_100 : decode prog_8_method_15_code 100 = .ok (.iinc 3 1, 3) := by decide +kernel
theorem d_M_run_103 : decode prog_8_method_15_code 103 = .ok (.iinc 4 1, 3) := by decide +kernel
theorem d_M_run_106 : decode prog_8_method_15_code 106 = .ok (.goto (-59), 3) := by decide +kernel
theorem d_M_run_109 : decode prog_8_method_15_code 109 = .ok (.aload_n 0, 1) := by decide +kernel
theorem d_M_run_110 : decode prog_8_method_15_code 110 = .ok (.aload_n 0, 1) := by decide +kernel
theorem d_M_run_111 : decode prog_8_method_15_code 111 = .ok (.getfield 91, 3) := by decide +kernel
theorem d_M_run_114 : decode prog_8_method_15_code 114 = .ok (.iload_n 3, 1) := by decide +kernel
theorem d_M_run_115 : decode prog_8_method_15_code 115 = .ok (.if_icmp .ne 7, 3) := by decide +kernel
theorem d_M_run_118 : decode prog_8_method_15_code 118 = .ok (.iconst 1, 1) := by decide +kernel
theorem d_M_run_119 : decode prog_8_method_15_code 119 = .ok (.goto 4, 3) := by decide +kernel
theorem d_M_run_122 : decode prog_8_method_15_code 122 = .ok (.iconst 0, 1) := by decide +kernel
theorem d_M_run_123 : decode prog_8_method_15_code 123 = .ok (.putfield 115, 3) := by decide +kernel
theorem d_M_run_126 : decode prog_8_method_15_code 126 = .ok (.aload_n 0, 1) := by decide +kernel
theorem d_M_run_127 : decode prog_8_method_15_code 127 = .ok (.invokevirtual 118, 3) := by decide +kernel
theorem d_M_run_130 : decode prog_8_method_15_code 130 = .ok (.aload_n 0, 1) := by decide +kernel
theorem d_M_run_131 : decode prog_8_method_15_code 131 = .ok (.iconst 0, 1) := by decide +kernel
theorem d_M_run_132 : decode prog_8_method_15_code 132 = .ok (.putfield 121, 3) := by decide +kernel
theorem d_M_run_135 : decode prog_8_method_15_code 135 = .ok (.iconst 0, 1) := by decide +kernel
theorem d_M_run_136 : decode prog_8_method_15_code 136 = .ok (.istore 4, 2) := by decide +kernel
theorem d_M_run_138 : decode prog_8_method_15_code 138 = .ok (.iload 4, 2) := by decide +kernel
theorem d_M_run_140 : decode prog_8_method_15_code 140 = .ok (.aload_n 0, 1) := by decide +kernel
theorem d_M_run_141 : decode prog_8_method_15_code 141 = .ok (.getfield 91, 3) := by decide +kernel
theorem d_M_run_144 : decode prog_8_method_15_code 144 = .ok (.if_icmp .ge 55, 3) := by decide +kernel
theorem d_M_run_147 : decode prog_8_method_15_code 147 = .ok (.aload_n 0, 1) := by decide +kernel
theorem d_M_run_148 : decode prog_8_method_15_code 148 = .ok (.getfield 39, 3) := by decide +kernel
theorem d_M_run_151 : decode prog_8_method_15_code 151 = .ok (.iload 4, 2) := by decide +kernel
theorem d_M_run_153 : decode prog_8_method_15_code 153 = .ok (.iaload, 1) := by decide +kernel
theorem d_M_run_154 : decode prog_8_method_15_code 154 = .ok (.iconst 3, 1) := by decide +kernel
theorem d_M_run_155 : decode prog_8_method_15_code 155 = .ok (.if_icmp .ne 6, 3) := by decide +kernel
theorem d_M_run_158 : decode prog_8_method_15_code 158 = .ok (.goto 35, 3) := by decide +kernel
theorem d_M_run_161 : decode prog_8_method_15_code 161 = .ok (.aload_n 0, 1) := by decide +kernel
theorem d_M_run_162 : decode prog_8_method_15_code 162 = .ok (.getfield 42, 3) := by decide +kernel
theorem d_M_run_165 : decode prog_8_method_15_code 165 = .ok (.aload_n 0, 1) := by decide +kernel
theorem d_M_run_166 : decode prog_8_method_15_code 166 = .ok (.getfield 121, 3) := by decide +kernel
theorem d_M_run_169 : decode prog_8_method_15_code 169 = .ok (.aload_n 0, 1) := by decide +kernel
theorem d_M_run_170 : decode prog_8_method_15_code 170 = .ok (.iload 4, 2) := by decide +kernel
theorem d_M_run_172 : decode prog_8_method_15_code 172 = .ok (.aload_n 0, 1) := by decide +kernel
theorem d_M_run_173 : decode prog_8_method_15_code 173 = .ok (.getfield 39, 3) := by decide +kernel
theorem d_M_run_176 : decode prog_8_method_15_code 176 = .ok (.iload 4, 2) := by decide +kernel
theorem d_M_run_178 : decode prog_8_method_15_code 178 = .ok (.iaload, 1) := by decide +kernel
theorem d_M_run_179 : decode prog_8_method_15_code 179 = .ok (.invokevirtual 94, 3) := by decide +kernel
theorem d_M_run_182 : decode prog_8_method_15_code 182 = .ok (.iastore, 1) := by decide +kernel
theorem d_M_run_183 : decode prog_8_method_15_code 183 = .ok (.aload_n 0, 1) := by decide +kernel
theorem d_M_run_184 : decode prog_8_method_15_code 184 = .ok (.dup, 1) := by decide +kernel
theorem d_M_run_185 : decode prog_8_method_15_code 185 = .ok (.getfield 121, 3) := by decide +kernel
theorem d_M_run_188 : decode prog_8_method_15_code 188 = .ok (.iconst 1, 1) := by decide +kernel
theorem d_M_run_189 : decode prog_8_method_15_code 189 = .ok (.iadd, 1) := by decide +kernel
theorem d_M_run_190 : decode prog_8_method_15_code 190 = .ok (.putfield 121, 3) := by decide +kernel
theorem d_M_run_193 : decode prog_8_method_15_code 193 = .ok (.iinc 4 1, 3) := by decide +kernel
theorem d_M_run_196 : decode prog_8_method_15_code 196 = .ok (.goto (-58), 3) := by decide +kernel
theorem d_M_run_199 : decode prog_8_method_15_code 199 = .ok (.aload_n 0, 1) := by decide +kernel
theorem d_M_run_200 : decode prog_8_method_15_code 200 = .ok (.getfield 121, 3) := by decide +kernel
theorem d_M_run_203 : decode prog_8_method_15_code 203 = .ok (.ireturn, 1) := by decide +kernel
theorem d_M_choose_0 : decode prog_8_method_14_code 0 = .ok (.iconst (-1), 1) := by decide +kernel
theorem d_M_choose_1 : decode prog_8_method_14_code 1 = .ok (.istore_n 1, 1) := by decide +kernel
theorem d_M_choose_2 : decode prog_8_method_14_code 2 = .ok (.lconst 0, 1) := by decide +kernel
theorem d_M_choose_3 : decode prog_8_method_14_code 3 = .ok (.lstore_n 2, 1) := by decide +kernel
theorem d_M_choose_4 : decode prog_8_method_14_code 4 = .ok (.iconst 0, 1) := by decide +kernel
theorem d_M_choose_5 : decode prog_8_method_14_code 5 = .ok (.istore 4, 2) := by decide +kernel
theorem d_M_choose_7 : decode prog_8_method_14_code 7 = .ok (.iload 4, 2) := by decide +kernel
theorem d_M_choose_9 : decode prog_8_method_14_code 9 = .ok (.aload_n 0, 1) := by decide +kernel
theorem d_M_choose_10 : decode prog_8_method_14_code 10 = .ok (.getfield 91, 3) := by decide +kernel
theorem d_M_choose_13 : decode prog_8_method_14_code 13 = .ok (.if_icmp .ge 17, 3) := by decide +kernel
theorem d_M_choose_16 : decode prog_8_method_14_code 16 = .ok (.aload_n 0, 1) := by decide +kernel
theorem d_M_choose_17 : decode prog_8_method_14_code 17 = .ok (.getfield 36, 3) := by decide +kernel
theorem d_M_choose_20 : decode prog_8_method_14_code 20 = .ok (.iload 4, 2) := by decide +kernel
theorem d_M_choose_22 : decode prog_8_method_14_code 22 = .ok (.iconst 0, 1) := by decide +kernel
theorem d_M_choose_23 : decode prog_8_method_14_code 23 = .ok (.iastore, 1) := by decide +kernel
theorem d_M_choose_24 : decode prog_8_method_14_code 24 = .ok (.iinc 4 1, 3) := by decide +kernel
theorem d_M_choose_27 : decode prog_8_method_14_code 27 = .ok (.goto (-20), 3) := by decide +kernel
theorem d_M_choose_30 : decode prog_8_method_14_code 30 = .ok (.iconst 1, 1) := by decide +kernel
theorem d_M_choose_31 : decode prog_8_method_14_code 31 = .ok (.istore 4, 2) := by decide +kernel
theorem d_M_choose_33 : decode prog_8_method_14_code 33 = .ok (.iload 4, 2) := by decide +kernel
theorem d_M_choose_35 : decode prog_8_method_14_code 35 = .ok (.ifCond .eq 159, 3) := by decide +kernel
theorem d_M_choose_38 : decode prog_8_method_14_code 38 = .ok (.aload_n 0, 1) := by decide +kernel
theorem d_M_choose_39 : decode prog_8_method_14_code 39 = .ok (.invokevirtual 102, 3) := by decide +kernel
theorem d_M_choose_42 : decode prog_8_method_14_code 42 = .ok (.ifCond .eq 143, 3) := by decide +kernel
theorem d_M_choose_45 : decode prog_8_method_14_code 45 = .ok (.iconst 0, 1) := by decide +kernel
theorem d_M_choose_46 : decode prog_8_method_14_code 46 = .ok (.istore 5, 2) := by decide +kernel
theorem d_M_choose_48 : decode prog_8_method_14_code 48 = .ok (.lconst 0, 1) := by decide +kernel
theorem d_M_choose_49 : decode prog_8_method_14_code 49 = .ok (.lstore 6, 2) := by decide +kernel
theorem d_M_choose_51 : decode prog_8_method_14_code 51 = .ok (.iconst 0, 1) := by decide +kernel
theorem d_M_choose_52 : decode prog_8_method_14_code 52 = .ok (.istore 8, 2) := by decide +kernel
theorem d_M_choose_54 : decode prog_8_method_14_code 54 = .ok (.iload 8, 2) := by decide +kernel
theorem d_M_choose_56 : decode prog_8_method_14_code 56 = .ok (.aload_n 0, 1) := by decide +kernel
theorem d_M_choose_57 : decode prog_8_method_14_code 57 = .ok (.getfield 91, 3) := by decide +kernel
theorem d_M_choose_60 : decode prog_8_method_14_code 60 = .ok (.if_icmp .ge 68, 3) := by decide +kernel
theorem d_M_choose_63 : decode prog_8_method_14_code 63 = .ok (.iload 5, 2) := by decide +kernel
theorem d_M_choose_65 : decode prog_8_method_14_code 65 = .ok (.aload_n 0, 1) := by decide +kernel
theorem d_M_choose_66 : decode prog_8_method_14_code 66 = .ok (.getfield 36, 3) := by decide +kernel
theorem d_M_choose_69 : decode prog_8_method_14_code 69 = .ok (.iload 8, 2) := by decide +kernel
theorem d_M_choose_71 : decode prog_8_method_14_code 71 = .ok (.iaload, 1) := by decide +kernel
theorem d_M_choose_72 : decode prog_8_method_14_code 72 = .ok (.iconst 3, 1) := by decide +kernel
theorem d_M_choose_73 : decode prog_8_method_14_code 73 = .ok (.if_icmp .ge 7, 3) := by decide +kernel
theorem d_M_choose_76 : decode prog_8_method_14_code 76 = .ok (.iconst 1, 1) := by decide +kernel
theorem d_M_choose_77 : decode prog_8_method_14_code 77 = .ok (.goto 4, 3) := by decide +kernel
theorem d_M_choose_80 : decode prog_8_method_14_code 80 = .ok (.iconst 0, 1) := by decide +kernel
theorem d_M_choose_81 : decode prog_8_method_14_code 81 = .ok (.iadd, 1) := by decide +kernel
theorem d_M_choose_82 : decode prog_8_method_14_code 82 = .ok (.istore 5, 2) := by decide +kernel
theorem d_M_choose_84 : decode prog_8_method_14_code 84 = .ok (.lload 6, 2) := by decide +kernel
theorem d_M_choose_86 : decode prog_8_method_14_code 86 = .ok (.aload_n 0, 1) := by decide +kernel
theorem d_M_choose_87 : decode prog_8_method_14_code 87 = .ok (.getfield 36, 3) := by decide +kernel
theorem d_M_choose_90 : decode prog_8_method_14_code 90 = .ok (.iload 8, 2) := by decide +kernel
theorem d_M_choose_92 : decode prog_8_method_14_code 92 = .ok (.iaload, 1) := by decide +kernel
theorem d_M_choose_93 : decode prog_8_method_14_code 93 = .ok (.iconst 3, 1) := by decide +kernel
theorem d_M_choose_94 : decode prog_8_method_14_code 94 = .ok (.if_icmp .ge 24, 3) := by decide +kernel
theorem d_M_choose_97 : decode prog_8_method_14_code 97 = .ok (.aload_n 0, 1) := by decide +kernel
theorem d_M_choose_98 : decode prog_8_method_14_code 98 = .ok (.getfield 30, 3) := by decide +kernel
theorem d_M_choose_101 : decode prog_8_method_14_code 101 = .ok (.aload_n 0, 1) := by decide +kernel
theorem d_M_choose_102 : decode prog_8_method_14_code 102 = .ok (.iload 8, 2) := by decide +kernel
theorem d_M_choose_104 : decode prog_8_method_14_code 104 = .ok (.aload_n 0, 1) := by decide +kernel
theorem d_M_choose_105 : decode prog_8_method_14_code 105 = .ok (.getfield 36, 3) := by decide +kernel
theorem d_M_choose_108 : decode prog_8_method_14_code 108 = .ok (.iload 8, 2) := by decide +kernel
theorem d_M_choose_110 : decode prog_8_method_14_code 110 = .ok (.iaload, 1) := by decide +kernel
theorem d_M_choose_111 : decode prog_8_method_14_code 111 = .ok (.invokevirtual 94, 3) := by decide +kernel
theorem d_M_choose_114 : decode prog_8_method_14_code 114 = .ok (.laload, 1) := by decide +kernel
theorem d_M_choose_115 : decode prog_8_method_14_code 115 = .ok (.goto 4, 3) := by decide +kernel
theorem d_M_choose_118 : decode prog_8_method_14_code 118 = .ok (.lconst 0, 1) := by decide +kernel
theorem d_M_choose_119 : decode prog_8_method_14_code 119 = .ok (.ladd, 1) := by decide +kernel
theorem d_M_choose_120 : decode prog_8_method_14_code 120 = .ok (.lstore 6, 2) := by decide +kernel
theorem d_M_choose_122 : decode prog_8_method_14_code 122 = .ok (.iinc 8 1, 3) := by decide +kernel
theorem d_M_choose_125 : decode prog_8_method_14_code 125 = .ok (.goto (-71), 3) := by decide +kernel
theorem d_M_choose_128 : decode prog_8_method_14_code 128 = .ok (.iload 5, 2) := by decide +kernel
theorem d_M_choose_130 : decode prog_8_method_14_code 130 = .ok (.iload_n 1, 1) := by decide +kernel
theorem d_M_choose_131 : decode prog_8_method_14_code 131 = .ok (.if_icmp .gt 16, 3) := by decide +kernel
theorem d_M_choose_134 : decode prog_8_method_14_code 134 = .ok (.iload 5, 2) := by decide +kernel
theorem d_M_choose_136 : decode prog_8_method_14_code 136 = .ok (.iload_n 1, 1) := by decide +kernel
theorem d_M_choose_137 : decode prog_8_method_14_code 137 = .ok (.if_icmp .ne 48, 3) := by decide +kernel
theorem d_M_choose_140 : decode prog_8_method_14_code 140 = .ok (.lload 6, 2) := by decide +kernel
theorem d_M_choose_142 : decode prog_8_method_14_code 142 = .ok (.lload_n 2, 1) := by decide +kernel
theorem d_M_choose_143 : decode prog_8_method_14_code 143 = .ok (.lcmp, 1) := by decide +kernel
theorem d_M_choose_144 : decode prog_8_method_14_code 144 = .ok (.ifCond .ge 41, 3) := by decide +kernel
theorem d_M_choose_147 : decode prog_8_method_14_code 147 = .ok (.iload 5, 2) := by decide +kernel
theorem d_M_choose_149 : decode prog_8_method_14_code 149 = .ok (.istore_n 1, 1) := by decide +kernel
theorem d_M_choose_150 : decode prog_8_method_14_code 150 = .ok (.lload 6, 2) := by decide +kernel
theorem d_M_choose_152 : decode prog_8_method_14_code 152 = .ok (.lstore_n 2, 1) := by decide +kernel
theorem d_M_choose_153 : decode prog_8_method_14_code 153 = .ok (.iconst 0, 1) := by decide +kernel
theorem d_M_choose_154 : decode prog_8_method_14_code 154 = .ok (.istore 8, 2) := by decide +kernel
theorem d_M_choose_156 : decode prog_8_method_14_code 156 = .ok (.iload 8, 2) := by decide +kernel
theorem d_M_choose_158 : decode prog_8_method_14_code 158 = .ok (.aload_n 0, 1) := by decide +kernel
theorem d_M_choose_159 : decode prog_8_method_14_code 159 = .ok (.getfield 91, 3) := by decide +kernel
theorem d_M_choose_162 : decode prog_8_method_14_code 162 = .ok (.if_icmp .ge 23, 3) := by decide +kernel
theorem d_M_choose_165 : decode prog_8_method_14_code 165 = .ok (.aload_n 0, 1) := by decide +kernel
theorem d_M_choose_166 : decode prog_8_method_14_code 166 = .ok (.getfield 39, 3) := by decide +kernel
theorem d_M_choose_169 : decode prog_8_method_14_code 169 = .ok (.iload 8, 2) := by decide +kernel
theorem d_M_choose_171 : decode prog_8_method_14_code 171 = .ok (.aload_n 0, 1) := by decide +kernel
theorem d_M_choose_172 : decode prog_8_method_14_code 172 = .ok (.getfield 36, 3) := by decide +kernel
theorem d_M_choose_175 : decode prog_8_method_14_code 175 = .ok (.iload 8, 2) := by decide +kernel
theorem d_M_choose_177 : decode prog_8_method_14_code 177 = .ok (.iaload, 1) := by decide +kernel
theorem d_M_choose_178 : decode prog_8_method_14_code 178 = .ok (.iastore, 1) := by decide +kernel
theorem d_M_choose_179 : decode prog_8_method_14_code 179 = .ok (.iinc 8 1, 3) := by decide +kernel
theorem d_M_choose_182 : decode prog_8_method_14_code 182 = .ok (.goto (-26), 3) := by decide +kernel
theorem d_M_choose_185 : decode prog_8_method_14_code 185 = .ok (.aload_n 0, 1) := by decide +kernel
theorem d_M_choose_186 : decode prog_8_method_14_code 186 = .ok (.invokevirtual 106, 3) := by decide +kernel
theorem d_M_choose_189 : decode prog_8_method_14_code 189 = .ok (.istore 4, 2) := by decide +kernel
theorem d_M_choose_191 : decode prog_8_method_14_code 191 = .ok (.goto (-158), 3) := by decide +kernel
theorem d_M_choose_194 : decode prog_8_method_14_code 194 = .ok (.return_, 1) := by decide +kernel
theorem d_M_isChoice_0 : decode prog_8_method_12_code 0 = .ok (.iconst 0, 1) := by decide +kernel
theorem d_M_isChoice_1 : decode prog_8_method_12_code 1 = .ok (.istore_n 1, 1) := by decide +kernel
theorem d_M_isChoice_2 : decode prog_8_method_12_code 2 = .ok (.iload_n 1, 1) := by decide +kernel
theorem d_M_isChoice_3 : decode prog_8_method_12_code 3 = .ok (.aload_n 0, 1) := by decide +kernel
theorem d_M_isChoice_4 : decode prog_8_method_12_code 4 = .ok (.getfield 91, 3) := by decide +kernel
theorem d_M_isChoice_7 : decode prog_8_method_12_code 7 = .ok (.if_icmp .ge 41, 3) := by decide +kernel
theorem d_M_isChoice_10 : decode prog_8_method_12_code 10 = .ok (.aload_n 0, 1) := by decide +kernel
theorem d_M_isChoice_11 : decode prog_8_method_12_code 11 = .ok (.getfield 36, 3) := by decide +kernel
theorem d_M_isChoice_14 : decode prog_8_method_12_code 14 = .ok (.iload_n 1, 1) := by decide +kernel
theorem d_M_isChoice_15 : decode prog_8_method_12_code 15 = .ok (.iaload, 1) := by decide +kernel
theorem d_M_isChoice_16 : decode prog_8_method_12_code 16 = .ok (.iconst 3, 1) := by decide +kernel
theorem d_M_isChoice_17 : decode prog_8_method_12_code 17 = .ok (.if_icmp .ge 25, 3) := by decide +kernel
theorem d_M_isChoice_20 : decode prog_8_method_12_code 20 = .ok (.aload_n 0, 1) := by decide +kernel
theorem d_M_isChoice_21 : decode prog_8_method_12_code 21 = .ok (.getfield 36, 3) := by decide +kernel
theorem d_M_isChoice_24 : decode prog_8_method_12_code 24 = .ok (.iload_n 1, 1) := by decide +kernel
theorem d_M_isChoice_25 : decode prog_8_method_12_code 25 = .ok (.iaload, 1) := by decide +kernel
theorem d_M_isChoice_26 : decode prog_8_method_12_code 26 = .ok (.aload_n 0, 1) := by decide +kernel
theorem d_M_isChoice_27 : decode prog_8_method_12_code 27 = .ok (.getfield 13, 3) := by decide +kernel
theorem d_M_isChoice_30 : decode prog_8_method_12_code 30 = .ok (.aload_n 0, 1) := by decide +kernel
theorem d_M_isChoice_31 : decode prog_8_method_12_code 31 = .ok (.getfield 33, 3) := by decide +kernel
theorem d_M_isChoice_34 : decode prog_8_method_12_code 34 = .ok (.iload_n 1, 1) := by decide +kernel
theorem d_M_isChoice_35 : decode prog_8_method_12_code 35 = .ok (.iaload, 1) := by decide +kernel
theorem d_M_isChoice_36 : decode prog_8_method_12_code 36 = .ok (.iaload, 1) := by decide +kernel
theorem d_M_isChoice_37 : decode prog_8_method_12_code 37 = .ok (.if_icmp .lt 5, 3) := by decide +kernel
theorem d_M_isChoice_40 : decode prog_8_method_12_code 40 = .ok (.iconst 0, 1) := by decide +kernel
theorem d_M_isChoice_41 : decode prog_8_method_12_code 41 = .ok (.ireturn, 1) := by decide +kernel
theorem d_M_isChoice_42 : decode prog_8_method_12_code 42 = .ok (.iinc 1 1, 3) := by decide +kernel
theorem d_M_isChoice_45 : decode prog_8_method_12_code 45 = .ok (.goto (-43), 3) := by decide +kernel
theorem d_M_isChoice_48 : decode prog_8_method_12_code 48 = .ok (.iconst 0, 1) := by decide +kernel
theorem d_M_isChoice_49 : decode prog_8_method_12_code 49 = .ok (.istore_n 1, 1) := by decide +kernel
theorem d_M_isChoice_50 : decode prog_8_method_12_code 50 = .ok (.iload_n 1, 1) := by decide +kernel
theorem d_M_isChoice_51 : decode prog_8_method_12_code 51 = .ok (.aload_n 0, 1) := by decide +kernel
theorem d_M_isChoice_52 : decode prog_8_method_12_code 52 = .ok (.getfield 91, 3) := by decide +kernel
theorem d_M_isChoice_55 : decode prog_8_method_12_code 55 = .ok (.if_icmp .ge 73, 3) := by decide +kernel
theorem d_M_isChoice_58 : decode prog_8_method_12_code 58 = .ok (.iconst 0, 1) := by decide +kernel
theorem d_M_isChoice_59 : decode prog_8_method_12_code 59 = .ok (.istore_n 2, 1) := by decide +kernel
theorem d_M_isChoice_60 : decode prog_8_method_12_code 60 = .ok (.iload_n 2, 1) := by decide +kernel
theorem d_M_isChoice_61 : decode prog_8_method_12_code 61 = .ok (.iload_n 1, 1) := by decide +kernel
theorem d_M_isChoice_62 : decode prog_8_method_12_code 62 = .ok (.if_icmp .ge 60, 3) := by decide +kernel
theorem d_M_isChoice_65 : decode prog_8_method_12_code 65 = .ok (.aload_n 0, 1) := by decide +kernel
theorem d_M_isChoice_66 : decode prog_8_method_12_code 66 = .ok (.getfield 36, 3) := by decide +kernel
theorem d_M_isChoice_69 : decode prog_8_method_12_code 69 = .ok (.iload_n 1, 1) := by decide +kernel
theorem d_M_isChoice_70 : decode prog_8_method_12_code 70 = .ok (.iaload, 1) := by decide +kernel
theorem d_M_isChoice_71 : decode prog_8_method_12_code 71 = .ok (.iconst 3, 1) := by decide +kernel
theorem d_M_isChoice_72 : decode prog_8_method_12_code 72 = .ok (.if_icmp .ge 44, 3) := by decide +kernel
theorem d_M_isChoice_75 : decode prog_8_method_12_code 75 = .ok (.aload_n 0, 1) := by decide +kernel
theorem d_M_isChoice_76 : decode prog_8_method_12_code 76 = .ok (.getfield 36, 3) := by decide +kernel
theorem d_M_isChoice_79 : decode prog_8_method_12_code 79 = .ok (.iload_n 2, 1) := by decide +kernel
theorem d_M_isChoice_80 : decode prog_8_method_12_code 80 = .ok (.iaload, 1) := by decide +kernel
theorem d_M_isChoice_81 : decode prog_8_method_12_code 81 = .ok (.iconst 3, 1) := by decide +kernel
theorem d_M_isChoice_82 : decode prog_8_method_12_code 82 = .ok (.if_icmp .ge 34, 3) := by decide +kernel
theorem d_M_isChoice_85 : decode prog_8_method_12_code 85 = .ok (.aload_n 0, 1) := by decide +kernel
theorem d_M_isChoice_86 : decode prog_8_method_12_code 86 = .ok (.aload_n 0, 1) := by decide +kernel
theorem d_M_isChoice_87 : decode prog_8_method_12_code 87 = .ok (.iload_n 1, 1) := by decide +kernel
theorem d_M_isChoice_88 : decode prog_8_method_12_code 88 = .ok (.aload_n 0, 1) := by decide +kernel
theorem d_M_isChoice_89 : decode prog_8_method_12_code 89 = .ok (.getfield 36, 3) := by decide +kernel
theorem d_M_isChoice_92 : decode prog_8_method_12_code 92 = .ok (.iload_n 1, 1) := by decide +kernel
theorem d_M_isChoice_93 : decode prog_8_method_12_code 93 = .ok (.iaload, 1) := by decide +kernel
theorem d_M_isChoice_94 : decode prog_8_method_12_code 94 = .ok (.invokevirtual 94, 3) := by decide +kernel
theorem d_M_isChoice_97 : decode prog_8_method_12_code 97 = .ok (.aload_n 0, 1) := by decide +kernel
theorem d_M_isChoice_98 : decode prog_8_method_12_code 98 = .ok (.iload_n 2, 1) := by decide +kernel
theorem d_M_isChoice_99 : decode prog_8_method_12_code 99 = .ok (.aload_n 0, 1) := by decide +kernel
theorem d_M_isChoice_100 : decode prog_8_method_12_code 100 = .ok (.getfield 36, 3) := by decide +kernel
theorem d_M_isChoice_103 : decode prog_8_method_12_code 103 = .ok (.iload_n 2, 1) := by decide +kernel
theorem d_M_isChoice_104 : decode prog_8_method_12_code 104 = .ok (.iaload, 1) := by decide +kernel
theorem d_M_isChoice_105 : decode prog_8_method_12_code 105 = .ok (.invokevirtual 94, 3) := by decide +kernel
theorem d_M_isChoice_108 : decode prog_8_method_12_code 108 = .ok (.invokevirtual 98, 3) := by decide +kernel
theorem d_M_isChoice_111 : decode prog_8_method_12_code 111 = .ok (.ifCond .ne 5, 3) := by decide +kernel
theorem d_M_isChoice_114 : decode prog_8_method_12_code 114 = .ok (.iconst 0, 1) := by decide +kernel
theorem d_M_isChoice_115 : decode prog_8_method_12_code 115 = .ok (.ireturn, 1) := by decide +kernel
theorem d_M_isChoice_116 : decode prog_8_method_12_code 116 = .ok (.iinc 2 1, 3) := by decide +kernel
theorem d_M_isChoice_119 : decode prog_8_method_12_code 119 = .ok (.goto (-59), 3) := by decide +kernel
theorem d_M_isChoice_122 : decode prog_8_method_12_code 122 = .ok (.iinc 1 1, 3) := by decide +kernel
theorem d_M_isChoice_125 : decode prog_8_method_12_code 125 = .ok (.goto (-75), 3) := by decide +kernel
theorem d_M_isChoice_128 : decode prog_8_method_12_code 128 = .ok (.iconst 1, 1) := by decide +kernel
theorem d_M_isChoice_129 : decode prog_8_method_12_code 129 = .ok (.ireturn, 1) := by decide +kernel
theorem d_M_pointAt_0 : decode prog_8_method_11_code 0 = .ok (.iload_n 2, 1) := by decide +kernel
theorem d_M_pointAt_1 : decode prog_8_method_11_code 1 = .ok (.iconst 3, 1) := by decide +kernel
theorem d_M_pointAt_2 : decode prog_8_method_11_code 2 = .ok (.if_icmp .ne 7, 3) := by decide +kernel
theorem d_M_pointAt_5 : decode prog_8_method_11_code 5 = .ok (.iconst (-1), 1) := by decide +kernel
theorem d_M_pointAt_6 : decode prog_8_method_11_code 6 = .ok (.goto 18, 3) := by decide +kernel
theorem d_M_pointAt_9 : decode prog_8_method_11_code 9 = .ok (.aload_n 0, 1) := by decide +kernel
theorem d_M_pointAt_10 : decode prog_8_method_11_code 10 = .ok (.getfield 17, 3) := by decide +kernel
theorem d_M_pointAt_13 : decode prog_8_method_11_code 13 = .ok (.iconst 3, 1) := by decide +kernel
theorem d_M_pointAt_14 : decode prog_8_method_11_code 14 = .ok (.aload_n 0, 1) := by decide +kernel
theorem d_M_pointAt_15 : decode prog_8_method_11_code 15 = .ok (.getfield 33, 3) := by decide +kernel
theorem d_M_pointAt_18 : decode prog_8_method_11_code 18 = .ok (.iload_n 1, 1) := by decide +kernel
theorem d_M_pointAt_19 : decode prog_8_method_11_code 19 = .ok (.iaload, 1) := by decide +kernel
theorem d_M_pointAt_20 : decode prog_8_method_11_code 20 = .ok (.imul, 1) := by decide +kernel
theorem d_M_pointAt_21 : decode prog_8_method_11_code 21 = .ok (.iload_n 2, 1) := by decide +kernel
theorem d_M_pointAt_22 : decode prog_8_method_11_code 22 = .ok (.iadd, 1) := by decide +kernel
theorem d_M_pointAt_23 : decode prog_8_method_11_code 23 = .ok (.iaload, 1) := by decide +kernel
theorem d_M_pointAt_24 : decode prog_8_method_11_code 24 = .ok (.ireturn, 1) := by decide +kernel
theorem d_M_areApart_0 : decode prog_8_method_10_code 0 = .ok (.aload_n 0, 1) := by decide +kernel
theorem d_M_areApart_1 : decode prog_8_method_10_code 1 = .ok (.getfield 20, 3) := by decide +kernel
theorem d_M_areApart_4 : decode prog_8_method_10_code 4 = .ok (.iload_n 1, 1) := by decide +kernel
theorem d_M_areApart_5 : decode prog_8_method_10_code 5 = .ok (.laload, 1) := by decide +kernel
theorem d_M_areApart_6 : decode prog_8_method_10_code 6 = .ok (.aload_n 0, 1) := by decide +kernel
theorem d_M_areApart_7 : decode prog_8_method_10_code 7 = .ok (.getfield 20, 3) := by decide +kernel
theorem d_M_areApart_10 : decode prog_8_method_10_code 10 = .ok (.iload_n 2, 1) := by decide +kernel
theorem d_M_areApart_11 : decode prog_8_method_10_code 11 = .ok (.laload, 1) := by decide +kernel
theorem d_M_areApart_12 : decode prog_8_method_10_code 12 = .ok (.lsub, 1) := by decide +kernel
theorem d_M_areApart_13 : decode prog_8_method_10_code 13 = .ok (.lstore_n 3, 1) := by decide +kernel
theorem d_M_areApart_14 : decode prog_8_method_10_code 14 = .ok (.aload_n 0, 1) := by decide +kernel
theorem d_M_areApart_15 : decode prog_8_method_10_code 15 = .ok (.getfield 24, 3) := by decide +kernel
theorem d_M_areApart_18 : decode prog_8_method_10_code 18 = .ok (.iload_n 1, 1) := by decide +kernel
theorem d_M_areApart_19 : decode prog_8_method_10_code 19 = .ok (.laload, 1) := by decide +kernel
theorem d_M_areApart_20 : decode prog_8_method_10_code 20 = .ok (.aload_n 0, 1) := by decide +kernel
theorem d_M_areApart_21 : decode prog_8_method_10_code 21 = .ok (.getfield 24, 3) := by decide +kernel
theorem d_M_areApart_24 : decode prog_8_method_10_code 24 = .ok (.iload_n 2, 1) := by decide +kernel
theorem d_M_areApart_25 : decode prog_8_method_10_code 25 = .ok (.laload, 1) := by decide +kernel
theorem d_M_areApart_26 : decode prog_8_method_10_code 26 = .ok (.lsub, 1) := by decide +kernel
theorem d_M_areApart_27 : decode prog_8_method_10_code 27 = .ok (.lstore 5, 2) := by decide +kernel
theorem d_M_areApart_29 : decode prog_8_method_10_code 29 = .ok (.aload_n 0, 1) := by decide +kernel
theorem d_M_areApart_30 : decode prog_8_method_10_code 30 = .ok (.getfield 84, 3) := by decide +kernel
theorem d_M_areApart_33 : decode prog_8_method_10_code 33 = .ok (.aload_n 0, 1) := by decide +kernel
theorem d_M_areApart_34 : decode prog_8_method_10_code 34 = .ok (.getfield 27, 3) := by decide +kernel
theorem d_M_areApart_37 : decode prog_8_method_10_code 37 = .ok (.iload_n 1, 1) := by decide +kernel
theorem d_M_areApart_38 : decode prog_8_method_10_code 38 = .ok (.laload, 1) := by decide +kernel
theorem d_M_areApart_39 : decode prog_8_method_10_code 39 = .ok (.ladd, 1) := by decide +kernel
theorem d_M_areApart_40 : decode prog_8_method_10_code 40 = .ok (.aload_n 0, 1) := by decide +kernel
theorem d_M_areApart_41 : decode prog_8_method_10_code 41 = .ok (.getfield 27, 3) := by decide +kernel
theorem d_M_areApart_44 : decode prog_8_method_10_code 44 = .ok (.iload_n 2, 1) := by decide +kernel
theorem d_M_areApart_45 : decode prog_8_method_10_code 45 = .ok (.laload, 1) := by decide +kernel
theorem d_M_areApart_46 : decode prog_8_method_10_code 46 = .ok (.ladd, 1) := by decide +kernel
theorem d_M_areApart_47 : decode prog_8_method_10_code 47 = .ok (.lstore 7, 2) := by decide +kernel
theorem d_M_areApart_49 : decode prog_8_method_10_code 49 = .ok (.lload_n 3, 1) := by decide +kernel
theorem d_M_areApart_50 : decode prog_8_method_10_code 50 = .ok (.lload_n 3, 1) := by decide +kernel
theorem d_M_areApart_51 : decode prog_8_method_10_code 51 = .ok (.lmul, 1) := by decide +kernel
theorem d_M_areApart_52 : decode prog_8_method_10_code 52 = .ok (.lload 5, 2) := by decide +kernel
theorem d_M_areApart_54 : decode prog_8_method_10_code 54 = .ok (.lload 5, 2) := by decide +kernel
theorem d_M_areApart_56 : decode prog_8_method_10_code 56 = .ok (.lmul, 1) := by decide +kernel
theorem d_M_areApart_57 : decode prog_8_method_10_code 57 = .ok (.ladd, 1) := by decide +kernel
theorem d_M_areApart_58 : decode prog_8_method_10_code 58 = .ok (.lload 7, 2) := by decide +kernel
theorem d_M_areApart_60 : decode prog_8_method_10_code 60 = .ok (.lload 7, 2) := by decide +kernel
theorem d_M_areApart_62 : decode prog_8_method_10_code 62 = .ok (.lmul, 1) := by decide +kernel
theorem d_M_areApart_63 : decode prog_8_method_10_code 63 = .ok (.lcmp, 1) := by decide +kernel
theorem d_M_areApart_64 : decode prog_8_method_10_code 64 = .ok (.ifCond .lt 7, 3) := by decide +kernel
theorem d_M_areApart_67 : decode prog_8_method_10_code 67 = .ok (.iconst 1, 1) := by decide +kernel
theorem d_M_areApart_68 : decode prog_8_method_10_code 68 = .ok (.goto 4, 3) := by decide +kernel
theorem d_M_areApart_71 : decode prog_8_method_10_code 71 = .ok (.iconst 0, 1) := by decide +kernel
theorem d_M_areApart_72 : decode prog_8_method_10_code 72 = .ok (.ireturn, 1) := by decide +kernel
theorem d_M_goOn_0 : decode prog_8_method_13_code 0 = .ok (.aload_n 0, 1) := by decide +kernel
theorem d_M_goOn_1 : decode prog_8_method_13_code 1 = .ok (.getfield 91, 3) := by decide +kernel
theorem d_M_goOn_4 : decode prog_8_method_13_code 4 = .ok (.iconst 1, 1) := by decide +kernel
theorem d_M_goOn_5 : decode prog_8_method_13_code 5 = .ok (.isub, 1) := by decide +kernel
theorem d_M_goOn_6 : decode prog_8_method_13_code 6 = .ok (.istore_n 1, 1) := by decide +kernel
theorem d_M_goOn_7 : decode prog_8_method_13_code 7 = .ok (.iload_n 1, 1) := by decide +kernel
theorem d_M_goOn_8 : decode prog_8_method_13_code 8 = .ok (.ifCond .lt 38, 3) := by decide +kernel
theorem d_M_goOn_11 : decode prog_8_method_13_code 11 = .ok (.aload_n 0, 1) := by decide +kernel
theorem d_M_goOn_12 : decode prog_8_method_13_code 12 = .ok (.getfield 36, 3) := by decide +kernel
theorem d_M_goOn_15 : decode prog_8_method_13_code 15 = .ok (.iload_n 1, 1) := by decide +kernel
theorem d_M_goOn_16 : decode prog_8_method_13_code 16 = .ok (.dup2, 1) := by decide +kernel
theorem d_M_goOn_17 : decode prog_8_method_13_code 17 = .ok (.iaload, 1) := by decide +kernel
theorem d_M_goOn_18 : decode prog_8_method_13_code 18 = .ok (.iconst 1, 1) := by decide +kernel
theorem d_M_goOn_19 : decode prog_8_method_13_code 19 = .ok (.iadd, 1) := by decide +kernel
theorem d_M_goOn_20 : decode prog_8_method_13_code 20 = .ok (.iastore, 1) := by decide +kernel
theorem d_M_goOn_21 : decode prog_8_method_13_code 21 = .ok (.aload_n 0, 1) := by decide +kernel
theorem d_M_goOn_22 : decode prog_8_method_13_code 22 = .ok (.getfield 36, 3) := by decide +kernel
theorem d_M_goOn_25 : decode prog_8_method_13_code 25 = .ok (.iload_n 1, 1) := by decide +kernel
theorem d_M_goOn_26 : decode prog_8_method_13_code 26 = .ok (.iaload, 1) := by decide +kernel
theorem d_M_goOn_27 : decode prog_8_method_13_code 27 = .ok (.iconst 4, 1) := by decide +kernel
theorem d_M_goOn_28 : decode prog_8_method_13_code 28 = .ok (.if_icmp .ge 5, 3) := by decide +kernel
theorem d_M_goOn_31 : decode prog_8_method_13_code 31 = .ok (.iconst 1, 1) := by decide +kernel
theorem d_M_goOn_32 : decode prog_8_method_13_code 32 = .ok (.ireturn, 1) := by decide +kernel
theorem d_M_goOn_33 : decode prog_8_method_13_code 33 = .ok (.aload_n 0, 1) := by decide +kernel
theorem d_M_goOn_34 : decode prog_8_method_13_code 34 = .ok (.getfield 36, 3) := by decide +kernel
theorem d_M_goOn_37 : decode prog_8_method_13_code 37 = .ok (.iload_n 1, 1) := by decide +kernel
theorem d_M_goOn_38 : decode prog_8_method_13_code 38 = .ok (.iconst 0, 1) := by decide +kernel
theorem d_M_goOn_39 : decode prog_8_method_13_code 39 = .ok (.iastore, 1) := by decide +kernel
theorem d_M_goOn_40 : decode prog_8_method_13_code 40 = .ok (.iinc 1 (-1), 3) := by decide +kernel
theorem d_M_goOn_43 : decode prog_8_method_13_code 43 = .ok (.goto (-36), 3) := by decide +kernel
theorem d_M_goOn_46 : decode prog_8_method_13_code 46 = .ok (.iconst 0, 1) := by decide +kernel
theorem d_M_goOn_47 : decode prog_8_method_13_code 47 = .ok (.ireturn, 1) := by decide +kernel
theorem d_M_probe_0 : decode prog_8_method_16_code 0 = .ok (.aload_n 0, 1) := by decide +kernel
theorem d_M_probe_1 : decode prog_8_method_16_code 1 = .ok (.iconst 0, 1) := by decide +kernel
theorem d_M_probe_2 : decode prog_8_method_16_code 2 = .ok (.putfield 60, 3) := by decide +kernel
theorem d_M_probe_5 : decode prog_8_method_16_code 5 = .ok (.iload_n 1, 1) := by decide +kernel
theorem d_M_probe_6 : decode prog_8_method_16_code 6 = .ok (.ifCond .lt 20, 3) := by decide +kernel
theorem d_M_probe_9 : decode prog_8_method_16_code 9 = .ok (.iload_n 1, 1) := by decide +kernel
theorem d_M_probe_10 : decode prog_8_method_16_code 10 = .ok (.aload_n 0, 1) := by decide +kernel
theorem d_M_probe_11 : decode prog_8_method_16_code 11 = .ok (.getfield 121, 3) := by decide +kernel
theorem d_M_probe_14 : decode prog_8_method_16_code 14 = .ok (.if_icmp .ge 12, 3) := by decide +kernel
theorem d_M_probe_17 : decode prog_8_method_16_code 17 = .ok (.aload_n 0, 1) := by decide +kernel
theorem d_M_probe_18 : decode prog_8_method_16_code 18 = .ok (.getfield 42, 3) := by decide +kernel
theorem d_M_probe_21 : decode prog_8_method_16_code 21 = .ok (.iload_n 1, 1) := by decide +kernel
theorem d_M_probe_22 : decode prog_8_method_16_code 22 = .ok (.iaload, 1) := by decide +kernel
theorem d_M_probe_23 : decode prog_8_method_16_code 23 = .ok (.goto 4, 3) := by decide +kernel
theorem d_M_probe_26 : decode prog_8_method_16_code 26 = .ok (.iconst (-1), 1) := by decide +kernel
theorem d_M_probe_27 : decode prog_8_method_16_code 27 = .ok (.ireturn, 1) := by decide +kernel
theorem d_M_proved_0 : decode prog_8_method_17_code 0 = .ok (.aload_n 0, 1) := by decide +kernel
theorem d_M_proved_1 : decode prog_8_method_17_code 1 = .ok (.iconst 0, 1) := by decide +kernel
theorem d_M_proved_2 : decode prog_8_method_17_code 2 = .ok (.putfield 60, 3) := by decide +kernel
theorem d_M_proved_5 : decode prog_8_method_17_code 5 = .ok (.aload_n 0, 1) := by decide +kernel
theorem d_M_proved_6 : decode prog_8_method_17_code 6 = .ok (.getfield 111, 3) := by decide +kernel
theorem d_M_proved_9 : decode prog_8_method_17_code 9 = .ok (.ifCond .eq 14, 3) := by decide +kernel
theorem d_M_proved_12 : decode prog_8_method_17_code 12 = .ok (.aload_n 0, 1) := by decide +kernel
theorem d_M_proved_13 : decode prog_8_method_17_code 13 = .ok (.getfield 115, 3) := by decide +kernel
theorem d_M_proved_16 : decode prog_8_method_17_code 16 = .ok (.ifCond .eq 7, 3) := by decide +kernel
theorem d_M_proved_19 : decode prog_8_method_17_code 19 = .ok (.iconst 1, 1) := by decide +kernel
theorem d_M_proved_20 : decode prog_8_method_17_code 20 = .ok (.goto 4, 3) := by decide +kernel
theorem d_M_proved_23 : decode prog_8_method_17_code 23 = .ok (.iconst 0, 1) := by decide +kernel
theorem d_M_proved_24 : decode prog_8_method_17_code 24 = .ok (.ireturn, 1) := by decide +kernel
theorem d_M_out_0 : decode prog_8_method_18_code 0 = .ok (.aload_n 0, 1) := by decide +kernel
theorem d_M_out_1 : decode prog_8_method_18_code 1 = .ok (.iconst 0, 1) := by decide +kernel
theorem d_M_out_2 : decode prog_8_method_18_code 2 = .ok (.putfield 60, 3) := by decide +kernel
theorem d_M_out_5 : decode prog_8_method_18_code 5 = .ok (.iload_n 1, 1) := by decide +kernel
theorem d_M_out_6 : decode prog_8_method_18_code 6 = .ok (.istore_n 2, 1) := by decide +kernel
theorem d_M_out_7 : decode prog_8_method_18_code 7 = .ok (.iconst 0, 1) := by decide +kernel
theorem d_M_out_8 : decode prog_8_method_18_code 8 = .ok (.istore_n 3, 1) := by decide +kernel
theorem d_M_out_9 : decode prog_8_method_18_code 9 = .ok (.iload_n 3, 1) := by decide +kernel
theorem d_M_out_10 : decode prog_8_method_18_code 10 = .ok (.aload_n 0, 1) := by decide +kernel
theorem d_M_out_11 : decode prog_8_method_18_code 11 = .ok (.getfield 91, 3) := by decide +kernel
theorem d_M_out_14 : decode prog_8_method_18_code 14 = .ok (.if_icmp .ge 40, 3) := by decide +kernel
theorem d_M_out_17 : decode prog_8_method_18_code 17 = .ok (.iload_n 1, 1) := by decide +kernel
theorem d_M_out_18 : decode prog_8_method_18_code 18 = .ok (.ifCond .lt 36, 3) := by decide +kernel
theorem d_M_out_21 : decode prog_8_method_18_code 21 = .ok (.aload_n 0, 1) := by decide +kernel
theorem d_M_out_22 : decode prog_8_method_18_code 22 = .ok (.getfield 39, 3) := by decide +kernel
theorem d_M_out_25 : decode prog_8_method_18_code 25 = .ok (.iload_n 3, 1) := by decide +kernel
theorem d_M_out_26 : decode prog_8_method_18_code 26 = .ok (.iaload, 1) := by decide +kernel
theorem d_M_out_27 : decode prog_8_method_18_code 27 = .ok (.iconst 3, 1) := by decide +kernel
theorem d_M_out_28 : decode prog_8_method_18_code 28 = .ok (.if_icmp .ge 6, 3) := by decide +kernel
theorem d_M_out_31 : decode prog_8_method_18_code 31 = .ok (.goto 17, 3) := by decide +kernel
theorem d_M_out_34 : decode prog_8_method_18_code 34 = .ok (.iload_n 2, 1) := by decide +kernel
theorem d_M_out_35 : decode prog_8_method_18_code 35 = .ok (.ifCond .ne 10, 3) := by decide +kernel
theorem d_M_out_38 : decode prog_8_method_18_code 38 = .ok (.aload_n 0, 1) := by decide +kernel
theorem d_M_out_39 : decode prog_8_method_18_code 39 = .ok (.getfield 33, 3) := by decide +kernel
theorem d_M_out_42 : decode prog_8_method_18_code 42 = .ok (.iload_n 3, 1) := by decide +kernel
theorem d_M_out_43 : decode prog_8_method_18_code 43 = .ok (.iaload, 1) := by decide +kernel
theorem d_M_out_44 : decode prog_8_method_18_code 44 = .ok (.ireturn, 1) := by decide +kernel
theorem d_M_out_45 : decode prog_8_method_18_code 45 = .ok (.iinc 2 (-1), 3) := by decide +kernel
theorem d_M_out_48 : decode prog_8_method_18_code 48 = .ok (.iinc 3 1, 3) := by decide +kernel
theorem d_M_out_51 : decode prog_8_method_18_code 51 = .ok (.goto (-42), 3) := by decide +kernel
theorem d_M_out_54 : decode prog_8_method_18_code 54 = .ok (.iconst (-1), 1) := by decide +kernel
theorem d_M_out_55 : decode prog_8_method_18_code 55 = .ok (.ireturn, 1) := by decide +kernel
theorem d_M_forces_0 : decode prog_8_method_19_code 0 = .ok (.aload_n 0, 1) := by decide +kernel
theorem d_M_forces_1 : decode prog_8_method_19_code 1 = .ok (.iconst 0, 1) := by decide +kernel
theorem d_M_forces_2 : decode prog_8_method_19_code 2 = .ok (.putfield 60, 3) := by decide +kernel
theorem d_M_forces_5 : decode prog_8_method_19_code 5 = .ok (.lconst 0, 1) := by decide +kernel
theorem d_M_forces_6 : decode prog_8_method_19_code 6 = .ok (.lstore_n 1, 1) := by decide +kernel
theorem d_M_forces_7 : decode prog_8_method_19_code 7 = .ok (.iconst 0, 1) := by decide +kernel
theorem d_M_forces_8 : decode prog_8_method_19_code 8 = .ok (.istore_n 3, 1) := by decide +kernel
theorem d_M_forces_9 : decode prog_8_method_19_code 9 = .ok (.iload_n 3, 1) := by decide +kernel
theorem d_M_forces_10 : decode prog_8_method_19_code 10 = .ok (.aload_n 0, 1) := by decide +kernel
theorem d_M_forces_11 : decode prog_8_method_19_code 11 = .ok (.getfield 121, 3) := by decide +kernel
theorem d_M_forces_14 : decode prog_8_method_19_code 14 = .ok (.if_icmp .ge 23, 3) := by decide +kernel
theorem d_M_forces_17 : decode prog_8_method_19_code 17 = .ok (.lload_n 1, 1) := by decide +kernel
theorem d_M_forces_18 : decode prog_8_method_19_code 18 = .ok (.aload_n 0, 1) := by decide +kernel
theorem d_M_forces_19 : decode prog_8_method_19_code 19 = .ok (.getfield 30, 3) := by decide +kernel
theorem d_M_forces_22 : decode prog_8_method_19_code 22 = .ok (.aload_n 0, 1) := by decide +kernel
theorem d_M_forces_23 : decode prog_8_method_19_code 23 = .ok (.getfield 42, 3) := by decide +kernel
theorem d_M_forces_26 : decode prog_8_method_19_code 26 = .ok (.iload_n 3, 1) := by decide +kernel
theorem d_M_forces_27 : decode prog_8_method_19_code 27 = .ok (.iaload, 1) := by decide +kernel
theorem d_M_forces_28 : decode prog_8_method_19_code 28 = .ok (.laload, 1) := by decide +kernel
theorem d_M_forces_29 : decode prog_8_method_19_code 29 = .ok (.ladd, 1) := by decide +kernel
theorem d_M_forces_30 : decode prog_8_method_19_code 30 = .ok (.lstore_n 1, 1) := by decide +kernel
theorem d_M_forces_31 : decode prog_8_method_19_code 31 = .ok (.iinc 3 1, 3) := by decide +kernel
theorem d_M_forces_34 : decode prog_8_method_19_code 34 = .ok (.goto (-25), 3) := by decide +kernel
theorem d_M_forces_37 : decode prog_8_method_19_code 37 = .ok (.lload_n 1, 1) := by decide +kernel
theorem d_M_forces_38 : decode prog_8_method_19_code 38 = .ok (.lreturn, 1) := by decide +kernel
theorem d_M_part_0 : decode prog_8_method_20_code 0 = .ok (.lload_n 3, 1) := by decide +kernel
theorem d_M_part_1 : decode prog_8_method_20_code 1 = .ok (.lconst 1, 1) := by decide +kernel
theorem d_M_part_2 : decode prog_8_method_20_code 2 = .ok (.lcmp, 1) := by decide +kernel
theorem d_M_part_3 : decode prog_8_method_20_code 3 = .ok (.ifCond .lt 23, 3) := by decide +kernel
theorem d_M_part_6 : decode prog_8_method_20_code 6 = .ok (.lload_n 3, 1) := by decide +kernel
theorem d_M_part_7 : decode prog_8_method_20_code 7 = .ok (.lload 5, 2) := by decide +kernel
theorem d_M_part_9 : decode prog_8_method_20_code 9 = .ok (.lcmp, 1) := by decide +kernel
theorem d_M_part_10 : decode prog_8_method_20_code 10 = .ok (.ifCond .gt 16, 3) := by decide +kernel
theorem d_M_part_13 : decode prog_8_method_20_code 13 = .ok (.lload 5, 2) := by decide +kernel
theorem d_M_part_15 : decode prog_8_method_20_code 15 = .ok (.ldc2_w 124, 3) := by decide +kernel
theorem d_M_part_18 : decode prog_8_method_20_code 18 = .ok (.lcmp, 1) := by decide +kernel
theorem d_M_part_19 : decode prog_8_method_20_code 19 = .ok (.ifCond .gt 7, 3) := by decide +kernel
theorem d_M_part_22 : decode prog_8_method_20_code 22 = .ok (.iconst 1, 1) := by decide +kernel
theorem d_M_part_23 : decode prog_8_method_20_code 23 = .ok (.goto 4, 3) := by decide +kernel
theorem d_M_part_26 : decode prog_8_method_20_code 26 = .ok (.iconst 0, 1) := by decide +kernel
theorem d_M_part_27 : decode prog_8_method_20_code 27 = .ok (.istore 7, 2) := by decide +kernel
theorem d_M_part_29 : decode prog_8_method_20_code 29 = .ok (.aload_n 0, 1) := by decide +kernel
theorem d_M_part_30 : decode prog_8_method_20_code 30 = .ok (.aload_n 0, 1) := by decide +kernel
theorem d_M_part_31 : decode prog_8_method_20_code 31 = .ok (.iload_n 1, 1) := by decide +kernel
theorem d_M_part_32 : decode prog_8_method_20_code 32 = .ok (.invokevirtual 80, 3) := by decide +kernel
theorem d_M_part_35 : decode prog_8_method_20_code 35 = .ok (.ifCond .eq 11, 3) := by decide +kernel
theorem d_M_part_38 : decode prog_8_method_20_code 38 = .ok (.aload_n 0, 1) := by decide +kernel
theorem d_M_part_39 : decode prog_8_method_20_code 39 = .ok (.iload_n 2, 1) := by decide +kernel
theorem d_M_part_40 : decode prog_8_method_20_code 40 = .ok (.invokevirtual 80, 3) := by decide +kernel
theorem d_M_part_43 : decode prog_8_method_20_code 43 = .ok (.ifCond .ne 7, 3) := by decide +kernel
theorem d_M_part_46 : decode prog_8_method_20_code 46 = .ok (.iconst 1, 1) := by decide +kernel
theorem d_M_part_47 : decode prog_8_method_20_code 47 = .ok (.goto 13, 3) := by decide +kernel
theorem d_M_part_50 : decode prog_8_method_20_code 50 = .ok (.iload 7, 2) := by decide +kernel
theorem d_M_part_52 : decode prog_8_method_20_code 52 = .ok (.ifCond .eq 7, 3) := by decide +kernel
theorem d_M_part_55 : decode prog_8_method_20_code 55 = .ok (.iconst 0, 1) := by decide +kernel
theorem d_M_part_56 : decode prog_8_method_20_code 56 = .ok (.goto 4, 3) := by decide +kernel
theorem d_M_part_59 : decode prog_8_method_20_code 59 = .ok (.iconst 2, 1) := by decide +kernel
theorem d_M_part_60 : decode prog_8_method_20_code 60 = .ok (.putfield 60, 3) := by decide +kernel
theorem d_M_part_63 : decode prog_8_method_20_code 63 = .ok (.aload_n 0, 1) := by decide +kernel
theorem d_M_part_64 : decode prog_8_method_20_code 64 = .ok (.getfield 60, 3) := by decide +kernel
theorem d_M_part_67 : decode prog_8_method_20_code 67 = .ok (.ifCond .ne 8, 3) := by decide +kernel
theorem d_M_part_70 : decode prog_8_method_20_code 70 = .ok (.iload_n 1, 1) := by decide +kernel
theorem d_M_part_71 : decode prog_8_method_20_code 71 = .ok (.iload_n 2, 1) := by decide +kernel
theorem d_M_part_72 : decode prog_8_method_20_code 72 = .ok (.if_icmp .ne 5, 3) := by decide +kernel
theorem d_M_part_75 : decode prog_8_method_20_code 75 = .ok (.iconst 0, 1) := by decide +kernel
theorem d_M_part_76 : decode prog_8_method_20_code 76 = .ok (.ireturn, 1) := by decide +kernel
theorem d_M_part_77 : decode prog_8_method_20_code 77 = .ok (.iload_n 1, 1) := by decide +kernel
theorem d_M_part_78 : decode prog_8_method_20_code 78 = .ok (.iload_n 2, 1) := by decide +kernel
theorem d_M_part_79 : decode prog_8_method_20_code 79 = .ok (.invokestatic 126, 3) := by decide +kernel
theorem d_M_part_82 : decode prog_8_method_20_code 82 = .ok (.istore 8, 2) := by decide +kernel
theorem d_M_part_84 : decode prog_8_method_20_code 84 = .ok (.aload_n 0, 1) := by decide +kernel
theorem d_M_part_85 : decode prog_8_method_20_code 85 = .ok (.getfield 45, 3) := by decide +kernel
theorem d_M_part_88 : decode prog_8_method_20_code 88 = .ok (.iload 8, 2) := by decide +kernel
theorem d_M_part_90 : decode prog_8_method_20_code 90 = .ok (.iaload, 1) := by decide +kernel
theorem d_M_part_91 : decode prog_8_method_20_code 91 = .ok (.iconst 4, 1) := by decide +kernel
theorem d_M_part_92 : decode prog_8_method_20_code 92 = .ok (.if_icmp .ne 5, 3) := by decide +kernel
theorem d_M_part_95 : decode prog_8_method_20_code 95 = .ok (.iconst 0, 1) := by decide +kernel
theorem d_M_part_96 : decode prog_8_method_20_code 96 = .ok (.ireturn, 1) := by decide +kernel
theorem d_M_part_97 : decode prog_8_method_20_code 97 = .ok (.aload_n 0, 1) := by decide +kernel
theorem d_M_part_98 : decode prog_8_method_20_code 98 = .ok (.getfield 48, 3) := by decide +kernel
theorem d_M_part_101 : decode prog_8_method_20_code 101 = .ok (.bipush 8, 2) := by decide +kernel
theorem d_M_part_103 : decode prog_8_method_20_code 103 = .ok (.iload 8, 2) := by decide +kernel
theorem d_M_part_105 : decode prog_8_method_20_code 105 = .ok (.imul, 1) := by decide +kernel
theorem d_M_part_106 : decode prog_8_method_20_code 106 = .ok (.iconst 2, 1) := by decide +kernel
theorem d_M_part_107 : decode prog_8_method_20_code 107 = .ok (.aload_n 0, 1) := by decide +kernel
theorem d_M_part_108 : decode prog_8_method_20_code 108 = .ok (.getfield 45, 3) := by decide +kernel
theorem d_M_part_111 : decode prog_8_method_20_code 111 = .ok (.iload 8, 2) := by decide +kernel
theorem d_M_part_113 : decode prog_8_method_20_code 113 = .ok (.iaload, 1) := by decide +kernel
theorem d_M_part_114 : decode prog_8_method_20_code 114 = .ok (.imul, 1) := by decide +kernel
theorem d_M_part_115 : decode prog_8_method_20_code 115 = .ok (.iadd, 1) := by decide +kernel
theorem d_M_part_116 : decode prog_8_method_20_code 116 = .ok (.lload_n 3, 1) := by decide +kernel
theorem d_M_part_117 : decode prog_8_method_20_code 117 = .ok (.lastore, 1) := by decide +kernel
theorem d_M_part_118 : decode prog_8_method_20_code 118 = .ok (.aload_n 0, 1) := by decide +kernel
theorem d_M_part_119 : decode prog_8_method_20_code 119 = .ok (.getfield 48, 3) := by decide +kernel
theorem d_M_part_122 : decode prog_8_method_20_code 122 = .ok (.bipush 8, 2) := by decide +kernel
theorem d_M_part_124 : decode prog_8_method_20_code 124 = .ok (.iload 8, 2) := by decide +kernel
theorem d_M_part_126 : decode prog_8_method_20_code 126 = .ok (.imul, 1) := by decide +kernel
theorem d_M_part_127 : decode prog_8_method_20_code 127 = .ok (.iconst 2, 1) := by decide +kernel
theorem d_M_part_128 : decode prog_8_method_20_code 128 = .ok (.aload_n 0, 1) := by decide +kernel
theorem d_M_part_129 : decode prog_8_method_20_code 129 = .ok (.getfield 45, 3) := by decide +kernel
theorem d_M_part_132 : decode prog_8_method_20_code 132 = .ok (.iload 8, 2) := by decide +kernel
theorem d_M_part_134 : decode prog_8_method_20_code 134 = .ok (.iaload, 1) := by decide +kernel
theorem d_M_part_135 : decode prog_8_method_20_code 135 = .ok (.imul, 1) := by decide +kernel
theorem d_M_part_136 : decode prog_8_method_20_code 136 = .ok (.iadd, 1) := by decide +kernel
theorem d_M_part_137 : decode prog_8_method_20_code 137 = .ok (.iconst 1, 1) := by decide +kernel
theorem d_M_part_138 : decode prog_8_method_20_code 138 = .ok (.iadd, 1) := by decide +kernel
theorem d_M_part_139 : decode prog_8_method_20_code 139 = .ok (.lload 5, 2) := by decide +kernel
theorem d_M_part_141 : decode prog_8_method_20_code 141 = .ok (.lastore, 1) := by decide +kernel
theorem d_M_part_142 : decode prog_8_method_20_code 142 = .ok (.aload_n 0, 1) := by decide +kernel
theorem d_M_part_143 : decode prog_8_method_20_code 143 = .ok (.getfield 45, 3) := by decide +kernel
theorem d_M_part_146 : decode prog_8_method_20_code 146 = .ok (.iload 8, 2) := by decide +kernel
theorem d_M_part_148 : decode prog_8_method_20_code 148 = .ok (.dup2, 1) := by decide +kernel
theorem d_M_part_149 : decode prog_8_method_20_code 149 = .ok (.iaload, 1) := by decide +kernel
theorem d_M_part_150 : decode prog_8_method_20_code 150 = .ok (.iconst 1, 1) := by decide +kernel
theorem d_M_part_151 : decode prog_8_method_20_code 151 = .ok (.iadd, 1) := by decide +kernel
theorem d_M_part_152 : decode prog_8_method_20_code 152 = .ok (.iastore, 1) := by decide +kernel
theorem d_M_part_153 : decode prog_8_method_20_code 153 = .ok (.iconst 1, 1) := by decide +kernel
theorem d_M_part_154 : decode prog_8_method_20_code 154 = .ok (.ireturn, 1) := by decide +kernel
theorem d_M_pairOf_0 : decode prog_8_method_21_code 0 = .ok (.iload_n 0, 1) := by decide +kernel
theorem d_M_pairOf_1 : decode prog_8_method_21_code 1 = .ok (.iload_n 1, 1) := by decide +kernel
theorem d_M_pairOf_2 : decode prog_8_method_21_code 2 = .ok (.if_icmp .ge 12, 3) := by decide +kernel
theorem d_M_pairOf_5 : decode prog_8_method_21_code 5 = .ok (.bipush 12, 2) := by decide +kernel
theorem d_M_pairOf_7 : decode prog_8_method_21_code 7 = .ok (.iload_n 0, 1) := by decide +kernel
theorem d_M_pairOf_8 : decode prog_8_method_21_code 8 = .ok (.imul, 1) := by decide +kernel
theorem d_M_pairOf_9 : decode prog_8_method_21_code 9 = .ok (.iload_n 1, 1) := by decide +kernel
theorem d_M_pairOf_10 : decode prog_8_method_21_code 10 = .ok (.iadd, 1) := by decide +kernel
theorem d_M_pairOf_11 : decode prog_8_method_21_code 11 = .ok (.goto 9, 3) := by decide +kernel
theorem d_M_pairOf_14 : decode prog_8_method_21_code 14 = .ok (.bipush 12, 2) := by decide +kernel
theorem d_M_pairOf_16 : decode prog_8_method_21_code 16 = .ok (.iload_n 1, 1) := by decide +kernel
theorem d_M_pairOf_17 : decode prog_8_method_21_code 17 = .ok (.imul, 1) := by decide +kernel
theorem d_M_pairOf_18 : decode prog_8_method_21_code 18 = .ok (.iload_n 0, 1) := by decide +kernel
theorem d_M_pairOf_19 : decode prog_8_method_21_code 19 = .ok (.iadd, 1) := by decide +kernel
theorem d_M_pairOf_20 : decode prog_8_method_21_code 20 = .ok (.ireturn, 1) := by decide +kernel
theorem d_M_span_0 : decode prog_8_method_22_code 0 = .ok (.aload_n 0, 1) := by decide +kernel
theorem d_M_span_1 : decode prog_8_method_22_code 1 = .ok (.iload_n 1, 1) := by decide +kernel
theorem d_M_span_2 : decode prog_8_method_22_code 2 = .ok (.invokevirtual 80, 3) := by decide +kernel
theorem d_M_span_5 : decode prog_8_method_22_code 5 = .ok (.ifCond .eq 35, 3) := by decide +kernel
theorem d_M_span_8 : decode prog_8_method_22_code 8 = .ok (.aload_n 0, 1) := by decide +kernel
theorem d_M_span_9 : decode prog_8_method_22_code 9 = .ok (.iload_n 2, 1) := by decide +kernel
theorem d_M_span_10 : decode prog_8_method_22_code 10 = .ok (.invokevirtual 80, 3) := by decide +kernel
theorem d_M_span_13 : decode prog_8_method_22_code 13 = .ok (.ifCond .eq 27, 3) := by decide +kernel
theorem d_M_span_16 : decode prog_8_method_22_code 16 = .ok (.iload_n 3, 1) := by decide +kernel
theorem d_M_span_17 : decode prog_8_method_22_code 17 = .ok (.ifCond .lt 23, 3) := by decide +kernel
theorem d_M_span_20 : decode prog_8_method_22_code 20 = .ok (.iload_n 3, 1) := by decide +kernel
theorem d_M_span_21 : decode prog_8_method_22_code 21 = .ok (.iconst 2, 1) := by decide +kernel
theorem d_M_span_22 : decode prog_8_method_22_code 22 = .ok (.if_icmp .ge 18, 3) := by decide +kernel
theorem d_M_span_25 : decode prog_8_method_22_code 25 = .ok (.iload 4, 2) := by decide +kernel
theorem d_M_span_27 : decode prog_8_method_22_code 27 = .ok (.ifCond .lt 13, 3) := by decide +kernel
theorem d_M_span_30 : decode prog_8_method_22_code 30 = .ok (.iload 4, 2) := by decide +kernel
theorem d_M_span_32 : decode prog_8_method_22_code 32 = .ok (.iconst 2, 1) := by decide +kernel
theorem d_M_span_33 : decode prog_8_method_22_code 33 = .ok (.if_icmp .ge 7, 3) := by decide +kernel
theorem d_M_span_36 : decode prog_8_method_22_code 36 = .ok (.iconst 1, 1) := by decide +kernel
theorem d_M_span_37 : decode prog_8_method_22_code 37 = .ok (.goto 4, 3) := by decide +kernel
theorem d_M_span_40 : decode prog_8_method_22_code 40 = .ok (.iconst 0, 1) := by decide +kernel
theorem d_M_span_41 : decode prog_8_method_22_code 41 = .ok (.istore 5, 2) := by decide +kernel
theorem d_M_span_43 : decode prog_8_method_22_code 43 = .ok (.aload_n 0, 1) := by decide +kernel
theorem d_M_span_44 : decode prog_8_method_22_code 44 = .ok (.iload 5, 2) := by decide +kernel
theorem d_M_span_46 : decode prog_8_method_22_code 46 = .ok (.ifCond .ne 7, 3) := by decide +kernel
theorem d_M_span_49 : decode prog_8_method_22_code 49 = .ok (.iconst 1, 1) := by decide +kernel
theorem d_M_span_50 : decode prog_8_method_22_code 50 = .ok (.goto 26, 3) := by decide +kernel
theorem d_M_span_53 : decode prog_8_method_22_code 53 = .ok (.iload_n 1, 1) := by decide +kernel
theorem d_M_span_54 : decode prog_8_method_22_code 54 = .ok (.iload_n 2, 1) := by decide +kernel
theorem d_M_span_55 : decode prog_8_method_22_code 55 = .ok (.if_icmp .eq 16, 3) := by decide +kernel
theorem d_M_span_58 : decode prog_8_method_22_code 58 = .ok (.aload_n 0, 1) := by decide +kernel
theorem d_M_span_59 : decode prog_8_method_22_code 59 = .ok (.getfield 45, 3) := by decide +kernel
theorem d_M_span_62 : decode prog_8_method_22_code 62 = .ok (.iload_n 1, 1) := by decide +kernel
theorem d_M_span_63 : decode prog_8_method_22_code 63 = .ok (.iload_n 2, 1) := by decide +kernel
theorem d_M_span_64 : decode prog_8_method_22_code 64 = .ok (.invokestatic 126, 3) := by decide +kernel
theorem d_M_span_67 : decode prog_8_method_22_code 67 = .ok (.iaload, 1) := by decide +kernel
theorem d_M_span_68 : decode prog_8_method_22_code 68 = .ok (.ifCond .ne 7, 3) := by decide +kernel
theorem d_M_span_71 : decode prog_8_method_22_code 71 = .ok (.iconst 2, 1) := by decide +kernel
theorem d_M_span_72 : decode prog_8_method_22_code 72 = .ok (.goto 4, 3) := by decide +kernel
theorem d_M_span_75 : decode prog_8_method_22_code 75 = .ok (.iconst 0, 1) := by decide +kernel
theorem d_M_span_76 : decode prog_8_method_22_code 76 = .ok (.putfield 60, 3) := by decide +kernel
theorem d_M_span_79 : decode prog_8_method_22_code 79 = .ok (.aload_n 0, 1) := by decide +kernel
theorem d_M_span_80 : decode prog_8_method_22_code 80 = .ok (.getfield 60, 3) := by decide +kernel
theorem d_M_span_83 : decode prog_8_method_22_code 83 = .ok (.ifCond .eq 5, 3) := by decide +kernel
theorem d_M_span_86 : decode prog_8_method_22_code 86 = .ok (.lconst 0, 1) := by decide +kernel
theorem d_M_span_87 : decode prog_8_method_22_code 87 = .ok (.lreturn, 1) := by decide +kernel
theorem d_M_span_88 : decode prog_8_method_22_code 88 = .ok (.iload_n 1, 1) := by decide +kernel
theorem d_M_span_89 : decode prog_8_method_22_code 89 = .ok (.iload_n 2, 1) := by decide +kernel
theorem d_M_span_90 : decode prog_8_method_22_code 90 = .ok (.invokestatic 126, 3) := by decide +kernel
theorem d_M_span_93 : decode prog_8_method_22_code 93 = .ok (.istore 6, 2) := by decide +kernel
theorem d_M_span_95 : decode prog_8_method_22_code 95 = .ok (.lconst 0, 1) := by decide +kernel
theorem d_M_span_96 : decode prog_8_method_22_code 96 = .ok (.lstore 7, 2) := by decide +kernel
theorem d_M_span_98 : decode prog_8_method_22_code 98 = .ok (.lconst 1, 1) := by decide +kernel
theorem d_M_span_99 : decode prog_8_method_22_code 99 = .ok (.lstore 9, 2) := by decide +kernel
theorem d_M_span_101 : decode prog_8_method_22_code 101 = .ok (.iconst 0, 1) := by decide +kernel
theorem d_M_span_102 : decode prog_8_method_22_code 102 = .ok (.istore 11, 2) := by decide +kernel
theorem d_M_span_104 : decode prog_8_method_22_code 104 = .ok (.iload 11, 2) := by decide +kernel
theorem d_M_span_106 : decode prog_8_method_22_code 106 = .ok (.aload_n 0, 1) := by decide +kernel
theorem d_M_span_107 : decode prog_8_method_22_code 107 = .ok (.getfield 45, 3) := by decide +kernel
theorem d_M_span_110 : decode prog_8_method_22_code 110 = .ok (.iload 6, 2) := by decide +kernel
theorem d_M_span_112 : decode prog_8_method_22_code 112 = .ok (.iaload, 1) := by decide +kernel
theorem d_M_span_113 : decode prog_8_method_22_code 113 = .ok (.if_icmp .ge 45, 3) := by decide +kernel
theorem d_M_span_116 : decode prog_8_method_22_code 116 = .ok (.aload_n 0, 1) := by decide +kernel
theorem d_M_span_117 : decode prog_8_method_22_code 117 = .ok (.getfield 48, 3) := by decide +kernel
theorem d_M_span_120 : decode prog_8_method_22_code 120 = .ok (.bipush 8, 2) := by decide +kernel
theorem d_M_span_122 : decode prog_8_method_22_code 122 = .ok (.iload 6, 2) := by decide +kernel
theorem d_M_span_124 : decode prog_8_method_22_code 124 = .ok (.imul, 1) := by decide +kernel
theorem d_M_span_125 : decode prog_8_method_22_code 125 = .ok (.iconst 2, 1) := by decide +kernel
theorem d_M_span_126 : decode prog_8_method_22_code 126 = .ok (.iload 11, 2) := by decide +kernel
theorem d_M_span_128 : decode prog_8_method_22_code 128 = .ok (.imul, 1) := by decide +kernel
theorem d_M_span_129 : decode prog_8_method_22_code 129 = .ok (.iadd, 1) := by decide +kernel
theorem d_M_span_130 : decode prog_8_method_22_code 130 = .ok (.iload_n 3, 1) := by decide +kernel
theorem d_M_span_131 : decode prog_8_method_22_code 131 = .ok (.iadd, 1) := by decide +kernel
theorem d_M_span_132 : decode prog_8_method_22_code 132 = .ok (.laload, 1) := by decide +kernel
theorem d_M_span_133 : decode prog_8_method_22_code 133 = .ok (.lstore 12, 2) := by decide +kernel
theorem d_M_span_135 : decode prog_8_method_22_code 135 = .ok (.lload 7, 2) := by decide +kernel
theorem d_M_span_137 : decode prog_8_method_22_code 137 = .ok (.lload 12, 2) := by decide +kernel
theorem d_M_span_139 : decode prog_8_method_22_code 139 = .ok (.lmul, 1) := by decide +kernel
theorem d_M_span_140 : decode prog_8_method_22_code 140 = .ok (.lload 9, 2) := by decide +kernel
theorem d_M_span_142 : decode prog_8_method_22_code 142 = .ok (.ladd, 1) := by decide +kernel
theorem d_M_span_143 : decode prog_8_method_22_code 143 = .ok (.lstore 7, 2) := by decide +kernel
theorem d_M_span_145 : decode prog_8_method_22_code 145 = .ok (.lload 9, 2) := by decide +kernel
theorem d_M_span_147 : decode prog_8_method_22_code 147 = .ok (.lload 12, 2) := by decide +kernel
theorem d_M_span_149 : decode prog_8_method_22_code 149 = .ok (.lmul, 1) := by decide +kernel
theorem d_M_span_150 : decode prog_8_method_22_code 150 = .ok (.lstore 9, 2) := by decide +kernel
theorem d_M_span_152 : decode prog_8_method_22_code 152 = .ok (.iinc 11 1, 3) := by decide +kernel
theorem d_M_span_155 : decode prog_8_method_22_code 155 = .ok (.goto (-51), 3) := by decide +kernel
theorem d_M_span_158 : decode prog_8_method_22_code 158 = .ok (.lload 7, 2) := by decide +kernel
theorem d_M_span_160 : decode prog_8_method_22_code 160 = .ok (.lstore 11, 2) := by decide +kernel
theorem d_M_span_162 : decode prog_8_method_22_code 162 = .ok (.lload 9, 2) := by decide +kernel
theorem d_M_span_164 : decode prog_8_method_22_code 164 = .ok (.lstore 13, 2) := by decide +kernel
theorem d_M_span_166 : decode prog_8_method_22_code 166 = .ok (.lload 13, 2) := by decide +kernel
theorem d_M_span_168 : decode prog_8_method_22_code 168 = .ok (.lconst 0, 1) := by decide +kernel
theorem d_M_span_169 : decode prog_8_method_22_code 169 = .ok (.lcmp, 1) := by decide +kernel
theorem d_M_span_170 : decode prog_8_method_22_code 170 = .ok (.ifCond .eq 21, 3) := by decide +kernel
theorem d_M_span_173 : decode prog_8_method_22_code 173 = .ok (.lload 11, 2) := by decide +kernel
theorem d_M_span_175 : decode prog_8_method_22_code 175 = .ok (.lload 13, 2) := by decide +kernel
theorem d_M_span_177 : decode prog_8_method_22_code 177 = .ok (.lrem, 1) := by decide +kernel
theorem d_M_span_178 : decode prog_8_method_22_code 178 = .ok (.lstore 15, 2) := by decide +kernel
theorem d_M_span_180 : decode prog_8_method_22_code 180 = .ok (.lload 13, 2) := by decide +kernel
theorem d_M_span_182 : decode prog_8_method_22_code 182 = .ok (.lstore 11, 2) := by decide +kernel
theorem d_M_span_184 : decode prog_8_method_22_code 184 = .ok (.lload 15, 2) := by decide +kernel
theorem d_M_span_186 : decode prog_8_method_22_code 186 = .ok (.lstore 13, 2) := by decide +kernel
theorem d_M_span_188 : decode prog_8_method_22_code 188 = .ok (.goto (-22), 3) := by decide +kernel
theorem d_M_span_191 : decode prog_8_method_22_code 191 = .ok (.iload 4, 2) := by decide +kernel
theorem d_M_span_193 : decode prog_8_method_22_code 193 = .ok (.ifCond .ne 11, 3) := by decide +kernel
theorem d_M_span_196 : decode prog_8_method_22_code 196 = .ok (.lload 9, 2) := by decide +kernel
theorem d_M_span_198 : decode prog_8_method_22_code 198 = .ok (.lload 11, 2) := by decide +kernel
theorem d_M_span_200 : decode prog_8_method_22_code 200 = .ok (.ldiv, 1) := by decide +kernel
theorem d_M_span_201 : decode prog_8_method_22_code 201 = .ok (.goto 8, 3) := by decide +kernel
theorem d_M_span_204 : decode prog_8_method_22_code 204 = .ok (.lload 7, 2) := by decide +kernel
theorem d_M_span_206 : decode prog_8_method_22_code 206 = .ok (.lload 11, 2) := by decide +kernel
theorem d_M_span_208 : decode prog_8_method_22_code 208 = .ok (.ldiv, 1) := by decide +kernel
theorem d_M_span_209 : decode prog_8_method_22_code 209 = .ok (.lreturn, 1) := by decide +kernel
theorem d_M_guard_0 : decode prog_8_method_24_code 0 = .ok (.aload_n 0, 1) := by decide +kernel
theorem d_M_guard_1 : decode prog_8_method_24_code 1 = .ok (.aload_n 0, 1) := by decide +kernel
theorem d_M_guard_2 : decode prog_8_method_24_code 2 = .ok (.iload_n 1, 1) := by decide +kernel
theorem d_M_guard_3 : decode prog_8_method_24_code 3 = .ok (.invokevirtual 80, 3) := by decide +kernel
theorem d_M_guard_6 : decode prog_8_method_24_code 6 = .ok (.ifCond .eq 15, 3) := by decide +kernel
theorem d_M_guard_9 : decode prog_8_method_24_code 9 = .ok (.aload_n 0, 1) := by decide +kernel
theorem d_M_guard_10 : decode prog_8_method_24_code 10 = .ok (.iload_n 2, 1) := by decide +kernel
theorem d_M_guard_11 : decode prog_8_method_24_code 11 = .ok (.invokevirtual 80, 3) := by decide +kernel
theorem d_M_guard_14 : decode prog_8_method_24_code 14 = .ok (.ifCond .eq 7, 3) := by decide +kernel
theorem d_M_guard_17 : decode prog_8_method_24_code 17 = .ok (.iconst 0, 1) := by decide +kernel
theorem d_M_guard_18 : decode prog_8_method_24_code 18 = .ok (.goto 4, 3) := by decide +kernel
theorem d_M_guard_21 : decode prog_8_method_24_code 21 = .ok (.iconst 1, 1) := by decide +kernel
theorem d_M_guard_22 : decode prog_8_method_24_code 22 = .ok (.putfield 60, 3) := by decide +kernel
theorem d_M_guard_25 : decode prog_8_method_24_code 25 = .ok (.aload_n 0, 1) := by decide +kernel
theorem d_M_guard_26 : decode prog_8_method_24_code 26 = .ok (.getfield 60, 3) := by decide +kernel
theorem d_M_guard_29 : decode prog_8_method_24_code 29 = .ok (.ifCond .eq 5, 3) := by decide +kernel
theorem d_M_guard_32 : decode prog_8_method_24_code 32 = .ok (.iconst 0, 1) := by decide +kernel
theorem d_M_guard_33 : decode prog_8_method_24_code 33 = .ok (.ireturn, 1) := by decide +kernel
theorem d_M_guard_34 : decode prog_8_method_24_code 34 = .ok (.iload_n 3, 1) := by decide +kernel
theorem d_M_guard_35 : decode prog_8_method_24_code 35 = .ok (.istore 4, 2) := by decide +kernel
theorem d_M_guard_37 : decode prog_8_method_24_code 37 = .ok (.iconst 0, 1) := by decide +kernel
theorem d_M_guard_38 : decode prog_8_method_24_code 38 = .ok (.istore 5, 2) := by decide +kernel
theorem d_M_guard_40 : decode prog_8_method_24_code 40 = .ok (.iload 5, 2) := by decide +kernel
theorem d_M_guard_42 : decode prog_8_method_24_code 42 = .ok (.aload_n 0, 1) := by decide +kernel
theorem d_M_guard_43 : decode prog_8_method_24_code 43 = .ok (.getfield 64, 3) := by decide +kernel
theorem d_M_guard_46 : decode prog_8_method_24_code 46 = .ok (.if_icmp .ge 59, 3) := by decide +kernel
theorem d_M_guard_49 : decode prog_8_method_24_code 49 = .ok (.iload_n 3, 1) := by decide +kernel
theorem d_M_guard_50 : decode prog_8_method_24_code 50 = .ok (.ifCond .lt 55, 3) := by decide +kernel
theorem d_M_guard_53 : decode prog_8_method_24_code 53 = .ok (.iload 5, 2) := by decide +kernel
theorem d_M_guard_55 : decode prog_8_method_24_code 55 = .ok (.iload_n 1, 1) := by decide +kernel
theorem d_M_guard_56 : decode prog_8_method_24_code 56 = .ok (.if_icmp .eq 43, 3) := by decide +kernel
theorem d_M_guard_59 : decode prog_8_method_24_code 59 = .ok (.iload 5, 2) := by decide +kernel
theorem d_M_guard_61 : decode prog_8_method_24_code 61 = .ok (.iload_n 2, 1) := by decide +kernel
theorem d_M_guard_62 : decode prog_8_method_24_code 62 = .ok (.if_icmp .eq 37, 3) := by decide +kernel
theorem d_M_guard_65 : decode prog_8_method_24_code 65 = .ok (.aload_n 0, 1) := by decide +kernel
theorem d_M_guard_66 : decode prog_8_method_24_code 66 = .ok (.iload 5, 2) := by decide +kernel
theorem d_M_guard_68 : decode prog_8_method_24_code 68 = .ok (.iload_n 1, 1) := by decide +kernel
theorem d_M_guard_69 : decode prog_8_method_24_code 69 = .ok (.invokevirtual 129, 3) := by decide +kernel
theorem d_M_guard_72 : decode prog_8_method_24_code 72 = .ok (.ifCond .eq 27, 3) := by decide +kernel
theorem d_M_guard_75 : decode prog_8_method_24_code 75 = .ok (.aload_n 0, 1) := by decide +kernel
theorem d_M_guard_76 : decode prog_8_method_24_code 76 = .ok (.iload 5, 2) := by decide +kernel
theorem d_M_guard_78 : decode prog_8_method_24_code 78 = .ok (.iload_n 2, 1) := by decide +kernel
theorem d_M_guard_79 : decode prog_8_method_24_code 79 = .ok (.invokevirtual 129, 3) := by decide +kernel
theorem d_M_guard_82 : decode prog_8_method_24_code 82 = .ok (.ifCond .ne 6, 3) := by decide +kernel
theorem d_M_guard_85 : decode prog_8_method_24_code 85 = .ok (.goto 14, 3) := by decide +kernel
theorem d_M_guard_88 : decode prog_8_method_24_code 88 = .ok (.iload 4, 2) := by decide +kernel
theorem d_M_guard_90 : decode prog_8_method_24_code 90 = .ok (.ifCond .ne 6, 3) := by decide +kernel
theorem d_M_guard_93 : decode prog_8_method_24_code 93 = .ok (.iload 5, 2) := by decide +kernel
theorem d_M_guard_95 : decode prog_8_method_24_code 95 = .ok (.ireturn, 1) := by decide +kernel
theorem d_M_guard_96 : decode prog_8_method_24_code 96 = .ok (.iinc 4 (-1), 3) := by decide +kernel
theorem d_M_guard_99 : decode prog_8_method_24_code 99 = .ok (.iinc 5 1, 3) := by decide +kernel
theorem d_M_guard_102 : decode prog_8_method_24_code 102 = .ok (.goto (-62), 3) := by decide +kernel
theorem d_M_guard_105 : decode prog_8_method_24_code 105 = .ok (.iconst (-1), 1) := by decide +kernel
theorem d_M_guard_106 : decode prog_8_method_24_code 106 = .ok (.ireturn, 1) := by decide +kernel
theorem d_M_haveParts_0 : decode prog_8_method_23_code 0 = .ok (.iload_n 1, 1) := by decide +kernel
theorem d_M_haveParts_1 : decode prog_8_method_23_code 1 = .ok (.iload_n 2, 1) := by decide +kernel
theorem d_M_haveParts_2 : decode prog_8_method_23_code 2 = .ok (.if_icmp .eq 20, 3) := by decide +kernel
theorem d_M_haveParts_5 : decode prog_8_method_23_code 5 = .ok (.aload_n 0, 1) := by decide +kernel
theorem d_M_haveParts_6 : decode prog_8_method_23_code 6 = .ok (.getfield 45, 3) := by decide +kernel
theorem d_M_haveParts_9 : decode prog_8_method_23_code 9 = .ok (.iload_n 1, 1) := by decide +kernel
theorem d_M_haveParts_10 : decode prog_8_method_23_code 10 = .ok (.iload_n 2, 1) := by decide +kernel
theorem d_M_haveParts_11 : decode prog_8_method_23_code 11 = .ok (.invokestatic 126, 3) := by decide +kernel
theorem d_M_haveParts_14 : decode prog_8_method_23_code 14 = .ok (.iaload, 1) := by decide +kernel
theorem d_M_haveParts_15 : decode prog_8_method_23_code 15 = .ok (.ifCond .le 7, 3) := by decide +kernel
theorem d_M_haveParts_18 : decode prog_8_method_23_code 18 = .ok (.iconst 1, 1) := by decide +kernel
theorem d_M_haveParts_19 : decode prog_8_method_23_code 19 = .ok (.goto 4, 3) := by decide +kernel
theorem d_M_haveParts_22 : decode prog_8_method_23_code 22 = .ok (.iconst 0, 1) := by decide +kernel
theorem d_M_haveParts_23 : decode prog_8_method_23_code 23 = .ok (.ireturn, 1) := by decide +kernel
theorem d_M_fail_0 : decode prog_8_method_25_code 0 = .ok (.aload_n 0, 1) := by decide +kernel
theorem d_M_fail_1 : decode prog_8_method_25_code 1 = .ok (.iload_n 1, 1) := by decide +kernel
theorem d_M_fail_2 : decode prog_8_method_25_code 2 = .ok (.ifCond .lt 29, 3) := by decide +kernel
theorem d_M_fail_5 : decode prog_8_method_25_code 5 = .ok (.aload_n 0, 1) := by decide +kernel
theorem d_M_fail_6 : decode prog_8_method_25_code 6 = .ok (.iload_n 1, 1) := by decide +kernel
theorem d_M_fail_7 : decode prog_8_method_25_code 7 = .ok (.bipush 16, 2) := by decide +kernel
theorem d_M_fail_9 : decode prog_8_method_25_code 9 = .ok (.idiv, 1) := by decide +kernel
theorem d_M_fail_10 : decode prog_8_method_25_code 10 = .ok (.invokevirtual 80, 3) := by decide +kernel
theorem d_M_fail_13 : decode prog_8_method_25_code 13 = .ok (.ifCond .eq 18, 3) := by decide +kernel
theorem d_M_fail_16 : decode prog_8_method_25_code 16 = .ok (.aload_n 0, 1) := by decide +kernel
theorem d_M_fail_17 : decode prog_8_method_25_code 17 = .ok (.iload_n 1, 1) := by decide +kernel
theorem d_M_fail_18 : decode prog_8_method_25_code 18 = .ok (.bipush 16, 2) := by decide +kernel
theorem d_M_fail_20 : decode prog_8_method_25_code 20 = .ok (.irem, 1) := by decide +kernel
theorem d_M_fail_21 : decode prog_8_method_25_code 21 = .ok (.invokevirtual 80, 3) := by decide +kernel
theorem d_M_fail_24 : decode prog_8_method_25_code 24 = .ok (.ifCond .eq 7, 3) := by decide +kernel
theorem d_M_fail_27 : decode prog_8_method_25_code 27 = .ok (.iconst 0, 1) := by decide +kernel
theorem d_M_fail_28 : decode prog_8_method_25_code 28 = .ok (.goto 4, 3) := by decide +kernel
theorem d_M_fail_31 : decode prog_8_method_25_code 31 = .ok (.iconst 1, 1) := by decide +kernel
theorem d_M_fail_32 : decode prog_8_method_25_code 32 = .ok (.putfield 60, 3) := by decide +kernel
theorem d_M_fail_35 : decode prog_8_method_25_code 35 = .ok (.aload_n 0, 1) := by decide +kernel
theorem d_M_fail_36 : decode prog_8_method_25_code 36 = .ok (.getfield 60, 3) := by decide +kernel
theorem d_M_fail_39 : decode prog_8_method_25_code 39 = .ok (.ifCond .eq 5, 3) := by decide +kernel
theorem d_M_fail_42 : decode prog_8_method_25_code 42 = .ok (.iconst 0, 1) := by decide +kernel
theorem d_M_fail_43 : decode prog_8_method_25_code 43 = .ok (.ireturn, 1) := by decide +kernel
theorem d_M_fail_44 : decode prog_8_method_25_code 44 = .ok (.iload_n 1, 1) := by decide +kernel
theorem d_M_fail_45 : decode prog_8_method_25_code 45 = .ok (.bipush 16, 2) := by decide +kernel
theorem d_M_fail_47 : decode prog_8_method_25_code 47 = .ok (.idiv, 1) := by decide +kernel
theorem d_M_fail_48 : decode prog_8_method_25_code 48 = .ok (.istore_n 2, 1) := by decide +kernel
theorem d_M_fail_49 : decode prog_8_method_25_code 49 = .ok (.iload_n 1, 1) := by decide +kernel
theorem d_M_fail_50 : decode prog_8_method_25_code 50 = .ok (.bipush 16, 2) := by decide +kernel
theorem d_M_fail_52 : decode prog_8_method_25_code 52 = .ok (.irem, 1) := by decide +kernel
theorem d_M_fail_53 : decode prog_8_method_25_code 53 = .ok (.istore_n 3, 1) := by decide +kernel
theorem d_M_fail_54 : decode prog_8_method_25_code 54 = .ok (.iload_n 2, 1) := by decide +kernel
theorem d_M_fail_55 : decode prog_8_method_25_code 55 = .ok (.iload_n 3, 1) := by decide +kernel
theorem d_M_fail_56 : decode prog_8_method_25_code 56 = .ok (.if_icmp .eq 17, 3) := by decide +kernel
theorem d_M_fail_59 : decode prog_8_method_25_code 59 = .ok (.aload_n 0, 1) := by decide +kernel
theorem d_M_fail_60 : decode prog_8_method_25_code 60 = .ok (.getfield 51, 3) := by decide +kernel
theorem d_M_fail_63 : decode prog_8_method_25_code 63 = .ok (.iload_n 2, 1) := by decide +kernel
theorem d_M_fail_64 : decode prog_8_method_25_code 64 = .ok (.iaload, 1) := by decide +kernel
theorem d_M_fail_65 : decode prog_8_method_25_code 65 = .ok (.iload_n 3, 1) := by decide +kernel
theorem d_M_fail_66 : decode prog_8_method_25_code 66 = .ok (.ishr, 1) := by decide +kernel
theorem d_M_fail_67 : decode prog_8_method_25_code 67 = .ok (.iconst 1, 1) := by decide +kernel
theorem d_M_fail_68 : decode prog_8_method_25_code 68 = .ok (.iand, 1) := by decide +kernel
theorem d_M_fail_69 : decode prog_8_method_25_code 69 = .ok (.iconst 1, 1) := by decide +kernel
theorem d_M_fail_70 : decode prog_8_method_25_code 70 = .ok (.if_icmp .ne 5, 3) := by decide +kernel
theorem d_M_fail_73 : decode prog_8_method_25_code 73 = .ok (.iconst 0, 1) := by decide +kernel
theorem d_M_fail_74 : decode prog_8_method_25_code 74 = .ok (.ireturn, 1) := by decide +kernel
theorem d_M_fail_75 : decode prog_8_method_25_code 75 = .ok (.aload_n 0, 1) := by decide +kernel
theorem d_M_fail_76 : decode prog_8_method_25_code 76 = .ok (.getfield 51, 3) := by decide +kernel
theorem d_M_fail_79 : decode prog_8_method_25_code 79 = .ok (.iload_n 2, 1) := by decide +kernel
theorem d_M_fail_80 : decode prog_8_method_25_code 80 = .ok (.aload_n 0, 1) := by decide +kernel
theorem d_M_fail_81 : decode prog_8_method_25_code 81 = .ok (.getfield 51, 3) := by decide +kernel
theorem d_M_fail_84 : decode prog_8_method_25_code 84 = .ok (.iload_n 2, 1) := by decide +kernel
theorem d_M_fail_85 : decode prog_8_method_25_code 85 = .ok (.iaload, 1) := by decide +kernel
theorem d_M_fail_86 : decode prog_8_method_25_code 86 = .ok (.iconst 1, 1) := by decide +kernel
theorem d_M_fail_87 : decode prog_8_method_25_code 87 = .ok (.iload_n 3, 1) := by decide +kernel
theorem d_M_fail_88 : decode prog_8_method_25_code 88 = .ok (.ishl, 1) := by decide +kernel
theorem d_M_fail_89 : decode prog_8_method_25_code 89 = .ok (.ior, 1) := by decide +kernel
theorem d_M_fail_90 : decode prog_8_method_25_code 90 = .ok (.iastore, 1) := by decide +kernel
theorem d_M_fail_91 : decode prog_8_method_25_code 91 = .ok (.aload_n 0, 1) := by decide +kernel
theorem d_M_fail_92 : decode prog_8_method_25_code 92 = .ok (.getfield 51, 3) := by decide +kernel
theorem d_M_fail_95 : decode prog_8_method_25_code 95 = .ok (.iload_n 3, 1) := by decide +kernel
theorem d_M_fail_96 : decode prog_8_method_25_code 96 = .ok (.aload_n 0, 1) := by decide +kernel
theorem d_M_fail_97 : decode prog_8_method_25_code 97 = .ok (.getfield 51, 3) := by decide +kernel
theorem d_M_fail_100 : decode prog_8_method_25_code 100 = .ok (.iload_n 3, 1) := by decide +kernel
theorem d_M_fail_101 : decode prog_8_method_25_code 101 = .ok (.iaload, 1) := by decide +kernel
theorem d_M_fail_102 : decode prog_8_method_25_code 102 = .ok (.iconst 1, 1) := by decide +kernel
theorem d_M_fail_103 : decode prog_8_method_25_code 103 = .ok (.iload_n 2, 1) := by decide +kernel
theorem d_M_fail_104 : decode prog_8_method_25_code 104 = .ok (.ishl, 1) := by decide +kernel
theorem d_M_fail_105 : decode prog_8_method_25_code 105 = .ok (.ior, 1) := by decide +kernel
theorem d_M_fail_106 : decode prog_8_method_25_code 106 = .ok (.iastore, 1) := by decide +kernel
theorem d_M_fail_107 : decode prog_8_method_25_code 107 = .ok (.iconst 1, 1) := by decide +kernel
theorem d_M_fail_108 : decode prog_8_method_25_code 108 = .ok (.ireturn, 1) := by decide +kernel
theorem d_M_suspects_0 : decode prog_8_method_30_code 0 = .ok (.aload_n 0, 1) := by decide +kernel
theorem d_M_suspects_1 : decode prog_8_method_30_code 1 = .ok (.iconst 0, 1) := by decide +kernel
theorem d_M_suspects_2 : decode prog_8_method_30_code 2 = .ok (.putfield 60, 3) := by decide +kernel
theorem d_M_suspects_5 : decode prog_8_method_30_code 5 = .ok (.aload_n 0, 1) := by decide +kernel
theorem d_M_suspects_6 : decode prog_8_method_30_code 6 = .ok (.invokevirtual 142, 3) := by decide +kernel
theorem d_M_suspects_9 : decode prog_8_method_30_code 9 = .ok (.invokestatic 135, 3) := by decide +kernel
theorem d_M_suspects_12 : decode prog_8_method_30_code 12 = .ok (.ireturn, 1) := by decide +kernel
theorem d_M_suspectSet_0 : decode prog_8_method_29_code 0 = .ok (.sipush 4095, 3) := by decide +kernel
theorem d_M_suspectSet_3 : decode prog_8_method_29_code 3 = .ok (.istore_n 1, 1) := by decide +kernel
theorem d_M_suspectSet_4 : decode prog_8_method_29_code 4 = .ok (.iconst 0, 1) := by decide +kernel
theorem d_M_suspectSet_5 : decode prog_8_method_29_code 5 = .ok (.istore_n 2, 1) := by decide +kernel
theorem d_M_suspectSet_6 : decode prog_8_method_29_code 6 = .ok (.iload_n 2, 1) := by decide +kernel
theorem d_M_suspectSet_7 : decode prog_8_method_29_code 7 = .ok (.iconst 1, 1) := by decide +kernel
theorem d_M_suspectSet_8 : decode prog_8_method_29_code 8 = .ok (.aload_n 0, 1) := by decide +kernel
theorem d_M_suspectSet_9 : decode prog_8_method_29_code 9 = .ok (.getfield 64, 3) := by decide +kernel
theorem d_M_suspectSet_12 : decode prog_8_method_29_code 12 = .ok (.ishl, 1) := by decide +kernel
theorem d_M_suspectSet_13 : decode prog_8_method_29_code 13 = .ok (.if_icmp .ge 58, 3) := by decide +kernel
theorem d_M_suspectSet_16 : decode prog_8_method_29_code 16 = .ok (.aload_n 0, 1) := by decide +kernel
theorem d_M_suspectSet_17 : decode prog_8_method_29_code 17 = .ok (.iload_n 2, 1) := by decide +kernel
theorem d_M_suspectSet_18 : decode prog_8_method_29_code 18 = .ok (.invokevirtual 132, 3) := by decide +kernel
theorem d_M_suspectSet_21 : decode prog_8_method_29_code 21 = .ok (.ifCond .ne 6, 3) := by decide +kernel
theorem d_M_suspectSet_24 : decode prog_8_method_29_code 24 = .ok (.goto 41, 3) := by decide +kernel
theorem d_M_suspectSet_27 : decode prog_8_method_29_code 27 = .ok (.iload_n 2, 1) := by decide +kernel
theorem d_M_suspectSet_28 : decode prog_8_method_29_code 28 = .ok (.invokestatic 135, 3) := by decide +kernel
theorem d_M_suspectSet_31 : decode prog_8_method_29_code 31 = .ok (.istore_n 3, 1) := by decide +kernel
theorem d_M_suspectSet_32 : decode prog_8_method_29_code 32 = .ok (.iload_n 1, 1) := by decide +kernel
theorem d_M_suspectSet_33 : decode prog_8_method_29_code 33 = .ok (.invokestatic 135, 3) := by decide +kernel
theorem d_M_suspectSet_36 : decode prog_8_method_29_code 36 = .ok (.istore 4, 2) := by decide +kernel
theorem d_M_suspectSet_38 : decode prog_8_method_29_code 38 = .ok (.iload_n 3, 1) := by decide +kernel
theorem d_M_suspectSet_39 : decode prog_8_method_29_code 39 = .ok (.iload 4, 2) := by decide +kernel
theorem d_M_suspectSet_41 : decode prog_8_method_29_code 41 = .ok (.if_icmp .lt 22, 3) := by decide +kernel
theorem d_M_suspectSet_44 : decode prog_8_method_29_code 44 = .ok (.iload_n 3, 1) := by decide +kernel
theorem d_M_suspectSet_45 : decode prog_8_method_29_code 45 = .ok (.iload 4, 2) := by decide +kernel
theorem d_M_suspectSet_47 : decode prog_8_method_29_code 47 = .ok (.if_icmp .ne 18, 3) := by decide +kernel
theorem d_M_suspectSet_50 : decode prog_8_method_29_code 50 = .ok (.iload_n 2, 1) := by decide +kernel
theorem d_M_suspectSet_51 : decode prog_8_method_29_code 51 = .ok (.iload_n 1, 1) := by decide +kernel
theorem d_M_suspectSet_52 : decode prog_8_method_29_code 52 = .ok (.if_icmp .eq 13, 3) := by decide +kernel
theorem d_M_suspectSet_55 : decode prog_8_method_29_code 55 = .ok (.iload_n 2, 1) := by decide +kernel
theorem d_M_suspectSet_56 : decode prog_8_method_29_code 56 = .ok (.iload_n 1, 1) := by decide +kernel
theorem d_M_suspectSet_57 : decode prog_8_method_29_code 57 = .ok (.invokestatic 139, 3) := by decide +kernel
theorem d_M_suspectSet_60 : decode prog_8_method_29_code 60 = .ok (.ifCond .eq 5, 3) := by decide +kernel
theorem d_M_suspectSet_63 : decode prog_8_method_29_code 63 = .ok (.iload_n 2, 1) := by decide +kernel
theorem d_M_suspectSet_64 : decode prog_8_method_29_code 64 = .ok (.istore_n 1, 1) := by decide +kernel
theorem d_M_suspectSet_65 : decode prog_8_method_29_code 65 = .ok (.iinc 2 1, 3) := by decide +kernel
theorem d_M_suspectSet_68 : decode prog_8_method_29_code 68 = .ok (.goto (-62), 3) := by decide +kernel
theorem d_M_suspectSet_71 : decode prog_8_method_29_code 71 = .ok (.iload_n 1, 1) := by decide +kernel
theorem d_M_suspectSet_72 : decode prog_8_method_29_code 72 = .ok (.ireturn, 1) := by decide +kernel
theorem d_M_explains_0 : decode prog_8_method_27_code 0 = .ok (.iconst 0, 1) := by decide +kernel
theorem d_M_explains_1 : decode prog_8_method_27_code 1 = .ok (.istore_n 2, 1) := by decide +kernel
theorem d_M_explains_2 : decode prog_8_method_27_code 2 = .ok (.iload_n 2, 1) := by decide +kernel
theorem d_M_explains_3 : decode prog_8_method_27_code 3 = .ok (.aload_n 0, 1) := by decide +kernel
theorem d_M_explains_4 : decode prog_8_method_27_code 4 = .ok (.getfield 64, 3) := by decide +kernel
theorem d_M_explains_7 : decode prog_8_method_27_code 7 = .ok (.if_icmp .ge 32, 3) := by decide +kernel
theorem d_M_explains_10 : decode prog_8_method_27_code 10 = .ok (.iload_n 1, 1) := by decide +kernel
theorem d_M_explains_11 : decode prog_8_method_27_code 11 = .ok (.iload_n 2, 1) := by decide +kernel
theorem d_M_explains_12 : decode prog_8_method_27_code 12 = .ok (.ishr, 1) := by decide +kernel
theorem d_M_explains_13 : decode prog_8_method_27_code 13 = .ok (.iconst 1, 1) := by decide +kernel
theorem d_M_explains_14 : decode prog_8_method_27_code 14 = .ok (.iand, 1) := by decide +kernel
theorem d_M_explains_15 : decode prog_8_method_27_code 15 = .ok (.ifCond .ne 18, 3) := by decide +kernel
theorem d_M_explains_18 : decode prog_8_method_27_code 18 = .ok (.aload_n 0, 1) := by decide +kernel
theorem d_M_explains_19 : decode prog_8_method_27_code 19 = .ok (.getfield 51, 3) := by decide +kernel
theorem d_M_explains_22 : decode prog_8_method_27_code 22 = .ok (.iload_n 2, 1) := by decide +kernel
theorem d_M_explains_23 : decode prog_8_method_27_code 23 = .ok (.iaload, 1) := by decide +kernel
theorem d_M_explains_24 : decode prog_8_method_27_code 24 = .ok (.iload_n 1, 1) := by decide +kernel
theorem d_M_explains_25 : decode prog_8_method_27_code 25 = .ok (.iconst (-1), 1) := by decide +kernel
theorem d_M_explains_26 : decode prog_8_method_27_code 26 = .ok (.ixor, 1) := by decide +kernel
theorem d_M_explains_27 : decode prog_8_method_27_code 27 = .ok (.iand, 1) := by decide +kernel
theorem d_M_explains_28 : decode prog_8_method_27_code 28 = .ok (.ifCond .eq 5, 3) := by decide +kernel
theorem d_M_explains_31 : decode prog_8_method_27_code 31 = .ok (.iconst 0, 1) := by decide +kernel
theorem d_M_explains_32 : decode prog_8_method_27_code 32 = .ok (.ireturn, 1) := by decide +kernel
theorem d_M_explains_33 : decode prog_8_method_27_code 33 = .ok (.iinc 2 1, 3) := by decide +kernel
theorem d_M_explains_36 : decode prog_8_method_27_code 36 = .ok (.goto (-34), 3) := by decide +kernel
theorem d_M_explains_39 : decode prog_8_method_27_code 39 = .ok (.iconst 1, 1) := by decide +kernel
theorem d_M_explains_40 : decode prog_8_method_27_code 40 = .ok (.ireturn, 1) := by decide +kernel
theorem d_M_bits_0 : decode prog_8_method_26_code 0 = .ok (.iconst 0, 1) := by decide +kernel
theorem d_M_bits_1 : decode prog_8_method_26_code 1 = .ok (.istore_n 1, 1) := by decide +kernel
theorem d_M_bits_2 : decode prog_8_method_26_code 2 = .ok (.iload_n 0, 1) := by decide +kernel
theorem d_M_bits_3 : decode prog_8_method_26_code 3 = .ok (.istore_n 2, 1) := by decide +kernel
theorem d_M_bits_4 : decode prog_8_method_26_code 4 = .ok (.iload_n 2, 1) := by decide +kernel
theorem d_M_bits_5 : decode prog_8_method_26_code 5 = .ok (.ifCond .eq 16, 3) := by decide +kernel
theorem d_M_bits_8 : decode prog_8_method_26_code 8 = .ok (.iload_n 1, 1) := by decide +kernel
theorem d_M_bits_9 : decode prog_8_method_26_code 9 = .ok (.iload_n 2, 1) := by decide +kernel
theorem d_M_bits_10 : decode prog_8_method_26_code 10 = .ok (.iconst 1, 1) := by decide +kernel
theorem d_M_bits_11 : decode prog_8_method_26_code 11 = .ok (.iand, 1) := by decide +kernel
theorem d_M_bits_12 : decode prog_8_method_26_code 12 = .ok (.iadd, 1) := by decide +kernel
theorem d_M_bits_13 : decode prog_8_method_26_code 13 = .ok (.istore_n 1, 1) := by decide +kernel
theorem d_M_bits_14 : decode prog_8_method_26_code 14 = .ok (.iload_n 2, 1) := by decide +kernel
theorem d_M_bits_15 : decode prog_8_method_26_code 15 = .ok (.iconst 1, 1) := by decide +kernel
theorem d_M_bits_16 : decode prog_8_method_26_code 16 = .ok (.ishr, 1) := by decide +kernel
theorem d_M_bits_17 : decode prog_8_method_26_code 17 = .ok (.istore_n 2, 1) := by decide +kernel
theorem d_M_bits_18 : decode prog_8_method_26_code 18 = .ok (.goto (-14), 3) := by decide +kernel
theorem d_M_bits_21 : decode prog_8_method_26_code 21 = .ok (.iload_n 1, 1) := by decide +kernel
theorem d_M_bits_22 : decode prog_8_method_26_code 22 = .ok (.ireturn, 1) := by decide +kernel
theorem d_M_comesFirst_0 : decode prog_8_method_28_code 0 = .ok (.iload_n 0, 1) := by decide +kernel
theorem d_M_comesFirst_1 : decode prog_8_method_28_code 1 = .ok (.iload_n 1, 1) := by decide +kernel
theorem d_M_comesFirst_2 : decode prog_8_method_28_code 2 = .ok (.ixor, 1) := by decide +kernel
theorem d_M_comesFirst_3 : decode prog_8_method_28_code 3 = .ok (.istore_n 2, 1) := by decide +kernel
theorem d_M_comesFirst_4 : decode prog_8_method_28_code 4 = .ok (.iconst 0, 1) := by decide +kernel
theorem d_M_comesFirst_5 : decode prog_8_method_28_code 5 = .ok (.istore_n 3, 1) := by decide +kernel
theorem d_M_comesFirst_6 : decode prog_8_method_28_code 6 = .ok (.iload_n 2, 1) := by decide +kernel
theorem d_M_comesFirst_7 : decode prog_8_method_28_code 7 = .ok (.iload_n 3, 1) := by decide +kernel
theorem d_M_comesFirst_8 : decode prog_8_method_28_code 8 = .ok (.ishr, 1) := by decide +kernel
theorem d_M_comesFirst_9 : decode prog_8_method_28_code 9 = .ok (.iconst 1, 1) := by decide +kernel
theorem d_M_comesFirst_10 : decode prog_8_method_28_code 10 = .ok (.iand, 1) := by decide +kernel
theorem d_M_comesFirst_11 : decode prog_8_method_28_code 11 = .ok (.ifCond .ne 9, 3) := by decide +kernel
theorem d_M_comesFirst_14 : decode prog_8_method_28_code 14 = .ok (.iinc 3 1, 3) := by decide +kernel
theorem d_M_comesFirst_17 : decode prog_8_method_28_code 17 = .ok (.goto (-11), 3) := by decide +kernel
theorem d_M_comesFirst_20 : decode prog_8_method_28_code 20 = .ok (.iload_n 0, 1) := by decide +kernel
theorem d_M_comesFirst_21 : decode prog_8_method_28_code 21 = .ok (.iload_n 3, 1) := by decide +kernel
theorem d_M_comesFirst_22 : decode prog_8_method_28_code 22 = .ok (.ishr, 1) := by decide +kernel
theorem d_M_comesFirst_23 : decode prog_8_method_28_code 23 = .ok (.iconst 1, 1) := by decide +kernel
theorem d_M_comesFirst_24 : decode prog_8_method_28_code 24 = .ok (.iand, 1) := by decide +kernel
theorem d_M_comesFirst_25 : decode prog_8_method_28_code 25 = .ok (.iconst 1, 1) := by decide +kernel
theorem d_M_comesFirst_26 : decode prog_8_method_28_code 26 = .ok (.if_icmp .ne 7, 3) := by decide +kernel
theorem d_M_comesFirst_29 : decode prog_8_method_28_code 29 = .ok (.iconst 1, 1) := by decide +kernel
theorem d_M_comesFirst_30 : decode prog_8_method_28_code 30 = .ok (.goto 4, 3) := by decide +kernel
theorem d_M_comesFirst_33 : decode prog_8_method_28_code 33 = .ok (.iconst 0, 1) := by decide +kernel
theorem d_M_comesFirst_34 : decode prog_8_method_28_code 34 = .ok (.ireturn, 1) := by decide +kernel
theorem d_M_suspect_0 : decode prog_8_method_31_code 0 = .ok (.aload_n 0, 1) := by decide +kernel
theorem d_M_suspect_1 : decode prog_8_method_31_code 1 = .ok (.invokevirtual 142, 3) := by decide +kernel
theorem d_M_suspect_4 : decode prog_8_method_31_code 4 = .ok (.istore_n 3, 1) := by decide +kernel
theorem d_M_suspect_5 : decode prog_8_method_31_code 5 = .ok (.aload_n 0, 1) := by decide +kernel
theorem d_M_suspect_6 : decode prog_8_method_31_code 6 = .ok (.iload_n 1, 1) := by decide +kernel
theorem d_M_suspect_7 : decode prog_8_method_31_code 7 = .ok (.ifCond .lt 24, 3) := by decide +kernel
theorem d_M_suspect_10 : decode prog_8_method_31_code 10 = .ok (.iload_n 1, 1) := by decide +kernel
theorem d_M_suspect_11 : decode prog_8_method_31_code 11 = .ok (.iload_n 3, 1) := by decide +kernel
theorem d_M_suspect_12 : decode prog_8_method_31_code 12 = .ok (.invokestatic 135, 3) := by decide +kernel
theorem d_M_suspect_15 : decode prog_8_method_31_code 15 = .ok (.if_icmp .ge 16, 3) := by decide +kernel
theorem d_M_suspect_18 : decode prog_8_method_31_code 18 = .ok (.iload_n 2, 1) := by decide +kernel
theorem d_M_suspect_19 : decode prog_8_method_31_code 19 = .ok (.ifCond .lt 12, 3) := by decide +kernel
theorem d_M_suspect_22 : decode prog_8_method_31_code 22 = .ok (.iload_n 2, 1) := by decide +kernel
theorem d_M_suspect_23 : decode prog_8_method_31_code 23 = .ok (.iconst 2, 1) := by decide +kernel
theorem d_M_suspect_24 : decode prog_8_method_31_code 24 = .ok (.if_icmp .ge 7, 3) := by decide +kernel
theorem d_M_suspect_27 : decode prog_8_method_31_code 27 = .ok (.iconst 0, 1) := by decide +kernel
theorem d_M_suspect_28 : decode prog_8_method_31_code 28 = .ok (.goto 4, 3) := by decide +kernel
theorem d_M_suspect_31 : decode prog_8_method_31_code 31 = .ok (.iconst 1, 1) := by decide +kernel
theorem d_M_suspect_32 : decode prog_8_method_31_code 32 = .ok (.putfield 60, 3) := by decide +kernel
theorem d_M_suspect_35 : decode prog_8_method_31_code 35 = .ok (.aload_n 0, 1) := by decide +kernel
theorem d_M_suspect_36 : decode prog_8_method_31_code 36 = .ok (.getfield 60, 3) := by decide +kernel
theorem d_M_suspect_39 : decode prog_8_method_31_code 39 = .ok (.ifCond .eq 5, 3) := by decide +kernel
theorem d_M_suspect_42 : decode prog_8_method_31_code 42 = .ok (.iconst 0, 1) := by decide +kernel
theorem d_M_suspect_43 : decode prog_8_method_31_code 43 = .ok (.ireturn, 1) := by decide +kernel
theorem d_M_suspect_44 : decode prog_8_method_31_code 44 = .ok (.iload_n 1, 1) := by decide +kernel
theorem d_M_suspect_45 : decode prog_8_method_31_code 45 = .ok (.istore 4, 2) := by decide +kernel
theorem d_M_suspect_47 : decode prog_8_method_31_code 47 = .ok (.iconst 0, 1) := by decide +kernel
theorem d_M_suspect_48 : decode prog_8_method_31_code 48 = .ok (.istore 5, 2) := by decide +kernel
theorem d_M_suspect_50 : decode prog_8_method_31_code 50 = .ok (.iload_n 3, 1) := by decide +kernel
theorem d_M_suspect_51 : decode prog_8_method_31_code 51 = .ok (.iload 5, 2) := by decide +kernel
theorem d_M_suspect_53 : decode prog_8_method_31_code 53 = .ok (.ishr, 1) := by decide +kernel
theorem d_M_suspect_54 : decode prog_8_method_31_code 54 = .ok (.iconst 1, 1) := by decide +kernel
theorem d_M_suspect_55 : decode prog_8_method_31_code 55 = .ok (.iand, 1) := by decide +kernel
theorem d_M_suspect_56 : decode prog_8_method_31_code 56 = .ok (.ifCond .eq 8, 3) := by decide +kernel
theorem d_M_suspect_59 : decode prog_8_method_31_code 59 = .ok (.iload 4, 2) := by decide +kernel
theorem d_M_suspect_61 : decode prog_8_method_31_code 61 = .ok (.ifCond .le 20, 3) := by decide +kernel
theorem d_M_suspect_64 : decode prog_8_method_31_code 64 = .ok (.iload 4, 2) := by decide +kernel
theorem d_M_suspect_66 : decode prog_8_method_31_code 66 = .ok (.iload_n 3, 1) := by decide +kernel
theorem d_M_suspect_67 : decode prog_8_method_31_code 67 = .ok (.iload 5, 2) := by decide +kernel
theorem d_M_suspect_69 : decode prog_8_method_31_code 69 = .ok (.ishr, 1) := by decide +kernel
theorem d_M_suspect_70 : decode prog_8_method_31_code 70 = .ok (.iconst 1, 1) := by decide +kernel
theorem d_M_suspect_71 : decode prog_8_method_31_code 71 = .ok (.iand, 1) := by decide +kernel
theorem d_M_suspect_72 : decode prog_8_method_31_code 72 = .ok (.isub, 1) := by decide +kernel
theorem d_M_suspect_73 : decode prog_8_method_31_code 73 = .ok (.istore 4, 2) := by decide +kernel
theorem d_M_suspect_75 : decode prog_8_method_31_code 75 = .ok (.iinc 5 1, 3) := by decide +kernel
theorem d_M_suspect_78 : decode prog_8_method_31_code 78 = .ok (.goto (-28), 3) := by decide +kernel
theorem d_M_suspect_81 : decode prog_8_method_31_code 81 = .ok (.iload_n 2, 1) := by decide +kernel
theorem d_M_suspect_82 : decode prog_8_method_31_code 82 = .ok (.ifCond .ne 8, 3) := by decide +kernel
theorem d_M_suspect_85 : decode prog_8_method_31_code 85 = .ok (.iload 5, 2) := by decide +kernel
theorem d_M_suspect_87 : decode prog_8_method_31_code 87 = .ok (.goto 13, 3) := by decide +kernel
theorem d_M_suspect_90 : decode prog_8_method_31_code 90 = .ok (.aload_n 0, 1) := by decide +kernel
theorem d_M_suspect_91 : decode prog_8_method_31_code 91 = .ok (.getfield 51, 3) := by decide +kernel
theorem d_M_suspect_94 : decode prog_8_method_31_code 94 = .ok (.iload 5, 2) := by decide +kernel
theorem d_M_suspect_96 : decode prog_8_method_31_code 96 = .ok (.iaload, 1) := by decide +kernel
theorem d_M_suspect_97 : decode prog_8_method_31_code 97 = .ok (.invokestatic 135, 3) := by decide +kernel
theorem d_M_suspect_100 : decode prog_8_method_31_code 100 = .ok (.ireturn, 1) := by decide +kernel
theorem d_M_faults_0 : decode prog_8_method_32_code 0 = .ok (.aload_n 0, 1) := by decide +kernel
theorem d_M_faults_1 : decode prog_8_method_32_code 1 = .ok (.aload_n 0, 1) := by decide +kernel
theorem d_M_faults_2 : decode prog_8_method_32_code 2 = .ok (.iload_n 1, 1) := by decide +kernel
theorem d_M_faults_3 : decode prog_8_method_32_code 3 = .ok (.invokevirtual 80, 3) := by decide +kernel
theorem d_M_faults_6 : decode prog_8_method_32_code 6 = .ok (.ifCond .eq 7, 3) := by decide +kernel
theorem d_M_faults_9 : decode prog_8_method_32_code 9 = .ok (.iconst 0, 1) := by decide +kernel
theorem d_M_faults_10 : decode prog_8_method_32_code 10 = .ok (.goto 4, 3) := by decide +kernel
theorem d_M_faults_13 : decode prog_8_method_32_code 13 = .ok (.iconst 1, 1) := by decide +kernel
theorem d_M_faults_14 : decode prog_8_method_32_code 14 = .ok (.putfield 60, 3) := by decide +kernel
theorem d_M_faults_17 : decode prog_8_method_32_code 17 = .ok (.aload_n 0, 1) := by decide +kernel
theorem d_M_faults_18 : decode prog_8_method_32_code 18 = .ok (.getfield 60, 3) := by decide +kernel
theorem d_M_faults_21 : decode prog_8_method_32_code 21 = .ok (.ifCond .ne 15, 3) := by decide +kernel
theorem d_M_faults_24 : decode prog_8_method_32_code 24 = .ok (.aload_n 0, 1) := by decide +kernel
theorem d_M_faults_25 : decode prog_8_method_32_code 25 = .ok (.getfield 51, 3) := by decide +kernel
theorem d_M_faults_28 : decode prog_8_method_32_code 28 = .ok (.iload_n 1, 1) := by decide +kernel
theorem d_M_faults_29 : decode prog_8_method_32_code 29 = .ok (.iaload, 1) := by decide +kernel
theorem d_M_faults_30 : decode prog_8_method_32_code 30 = .ok (.invokestatic 135, 3) := by decide +kernel
theorem d_M_faults_33 : decode prog_8_method_32_code 33 = .ok (.goto 4, 3) := by decide +kernel
theorem d_M_faults_36 : decode prog_8_method_32_code 36 = .ok (.iconst 0, 1) := by decide +kernel
theorem d_M_faults_37 : decode prog_8_method_32_code 37 = .ok (.ireturn, 1) := by decide +kernel
theorem d_M_fly_0 : decode prog_8_method_36_code 0 = .ok (.aload_n 0, 1) := by decide +kernel
theorem d_M_fly_1 : decode prog_8_method_36_code 1 = .ok (.iconst 0, 1) := by decide +kernel
theorem d_M_fly_2 : decode prog_8_method_36_code 2 = .ok (.putfield 60, 3) := by decide +kernel
theorem d_M_fly_5 : decode prog_8_method_36_code 5 = .ok (.iload_n 1, 1) := by decide +kernel
theorem d_M_fly_6 : decode prog_8_method_36_code 6 = .ok (.ifCond .lt 19, 3) := by decide +kernel
theorem d_M_fly_9 : decode prog_8_method_36_code 9 = .ok (.iload_n 1, 1) := by decide +kernel
theorem d_M_fly_10 : decode prog_8_method_36_code 10 = .ok (.aload_n 0, 1) := by decide +kernel
theorem d_M_fly_11 : decode prog_8_method_36_code 11 = .ok (.getfield 121, 3) := by decide +kernel
theorem d_M_fly_14 : decode prog_8_method_36_code 14 = .ok (.if_icmp .ge 11, 3) := by decide +kernel
theorem d_M_fly_17 : decode prog_8_method_36_code 17 = .ok (.aload_n 0, 1) := by decide +kernel
theorem d_M_fly_18 : decode prog_8_method_36_code 18 = .ok (.iload_n 1, 1) := by decide +kernel
theorem d_M_fly_19 : decode prog_8_method_36_code 19 = .ok (.invokevirtual 157, 3) := by decide +kernel
theorem d_M_fly_22 : decode prog_8_method_36_code 22 = .ok (.goto 4, 3) := by decide +kernel
theorem d_M_fly_25 : decode prog_8_method_36_code 25 = .ok (.iconst (-1), 1) := by decide +kernel
theorem d_M_fly_26 : decode prog_8_method_36_code 26 = .ok (.ireturn, 1) := by decide +kernel
theorem d_M_flyTo_0 : decode prog_8_method_35_code 0 = .ok (.iconst 0, 1) := by decide +kernel
theorem d_M_flyTo_1 : decode prog_8_method_35_code 1 = .ok (.istore_n 2, 1) := by decide +kernel
theorem d_M_flyTo_2 : decode prog_8_method_35_code 2 = .ok (.iload_n 2, 1) := by decide +kernel
theorem d_M_flyTo_3 : decode prog_8_method_35_code 3 = .ok (.bipush 36, 2) := by decide +kernel
theorem d_M_flyTo_5 : decode prog_8_method_35_code 5 = .ok (.if_icmp .ge 16, 3) := by decide +kernel
theorem d_M_flyTo_8 : decode prog_8_method_35_code 8 = .ok (.aload_n 0, 1) := by decide +kernel
theorem d_M_flyTo_9 : decode prog_8_method_35_code 9 = .ok (.getfield 54, 3) := by decide +kernel
theorem d_M_flyTo_12 : decode prog_8_method_35_code 12 = .ok (.iload_n 2, 1) := by decide +kernel
theorem d_M_flyTo_13 : decode prog_8_method_35_code 13 = .ok (.iconst 0, 1) := by decide +kernel
theorem d_M_flyTo_14 : decode prog_8_method_35_code 14 = .ok (.bastore, 1) := by decide +kernel
theorem d_M_flyTo_15 : decode prog_8_method_35_code 15 = .ok (.iinc 2 1, 3) := by decide +kernel
theorem d_M_flyTo_18 : decode prog_8_method_35_code 18 = .ok (.goto (-16), 3) := by decide +kernel
theorem d_M_flyTo_21 : decode prog_8_method_35_code 21 = .ok (.aload_n 0, 1) := by decide +kernel
theorem d_M_flyTo_22 : decode prog_8_method_35_code 22 = .ok (.lconst 0, 1) := by decide +kernel
theorem d_M_flyTo_23 : decode prog_8_method_35_code 23 = .ok (.putfield 146, 3) := by decide +kernel
theorem d_M_flyTo_26 : decode prog_8_method_35_code 26 = .ok (.lconst 0, 1) := by decide +kernel
theorem d_M_flyTo_27 : decode prog_8_method_35_code 27 = .ok (.lstore_n 2, 1) := by decide +kernel
theorem d_M_flyTo_28 : decode prog_8_method_35_code 28 = .ok (.lconst 0, 1) := by decide +kernel
theorem d_M_flyTo_29 : decode prog_8_method_35_code 29 = .ok (.lstore 4, 2) := by decide +kernel
theorem d_M_flyTo_31 : decode prog_8_method_35_code 31 = .ok (.iconst (-1), 1) := by decide +kernel
theorem d_M_flyTo_32 : decode prog_8_method_35_code 32 = .ok (.istore 6, 2) := by decide +kernel
theorem d_M_flyTo_34 : decode prog_8_method_35_code 34 = .ok (.iconst 0, 1) := by decide +kernel
theorem d_M_flyTo_35 : decode prog_8_method_35_code 35 = .ok (.istore 7, 2) := by decide +kernel
theorem d_M_flyTo_37 : decode prog_8_method_35_code 37 = .ok (.iload 7, 2) := by decide +kernel
theorem d_M_flyTo_39 : decode prog_8_method_35_code 39 = .ok (.iload_n 1, 1) := by decide +kernel
theorem d_M_flyTo_40 : decode prog_8_method_35_code 40 = .ok (.if_icmp .gt 104, 3) := by decide +kernel
theorem d_M_flyTo_43 : decode prog_8_method_35_code 43 = .ok (.aload_n 0, 1) := by decide +kernel
theorem d_M_flyTo_44 : decode prog_8_method_35_code 44 = .ok (.lload_n 2, 1) := by decide +kernel
theorem d_M_flyTo_45 : decode prog_8_method_35_code 45 = .ok (.lload 4, 2) := by decide +kernel
theorem d_M_flyTo_47 : decode prog_8_method_35_code 47 = .ok (.invokevirtual 149, 3) := by decide +kernel
theorem d_M_flyTo_50 : decode prog_8_method_35_code 50 = .ok (.istore 6, 2) := by decide +kernel
theorem d_M_flyTo_52 : decode prog_8_method_35_code 52 = .ok (.iload 6, 2) := by decide +kernel
theorem d_M_flyTo_54 : decode prog_8_method_35_code 54 = .ok (.iconst (-1), 1) := by decide +kernel
theorem d_M_flyTo_55 : decode prog_8_method_35_code 55 = .ok (.if_icmp .ne 5, 3) := by decide +kernel
theorem d_M_flyTo_58 : decode prog_8_method_35_code 58 = .ok (.iconst (-1), 1) := by decide +kernel
theorem d_M_flyTo_59 : decode prog_8_method_35_code 59 = .ok (.ireturn, 1) := by decide +kernel
theorem d_M_flyTo_60 : decode prog_8_method_35_code 60 = .ok (.aload_n 0, 1) := by decide +kernel
theorem d_M_flyTo_61 : decode prog_8_method_35_code 61 = .ok (.getfield 20, 3) := by decide +kernel
theorem d_M_flyTo_64 : decode prog_8_method_35_code 64 = .ok (.iload 6, 2) := by decide +kernel
theorem d_M_flyTo_66 : decode prog_8_method_35_code 66 = .ok (.laload, 1) := by decide +kernel
theorem d_M_flyTo_67 : decode prog_8_method_35_code 67 = .ok (.lload_n 2, 1) := by decide +kernel
theorem d_M_flyTo_68 : decode prog_8_method_35_code 68 = .ok (.lsub, 1) := by decide +kernel
theorem d_M_flyTo_69 : decode prog_8_method_35_code 69 = .ok (.invokestatic 153, 3) := by decide +kernel
theorem d_M_flyTo_72 : decode prog_8_method_35_code 72 = .ok (.lstore 8, 2) := by decide +kernel
theorem d_M_flyTo_74 : decode prog_8_method_35_code 74 = .ok (.aload_n 0, 1) := by decide +kernel
theorem d_M_flyTo_75 : decode prog_8_method_35_code 75 = .ok (.getfield 24, 3) := by decide +kernel
theorem d_M_flyTo_78 : decode prog_8_method_35_code 78 = .ok (.iload 6, 2) := by decide +kernel
theorem d_M_flyTo_80 : decode prog_8_method_35_code 80 = .ok (.laload, 1) := by decide +kernel
theorem d_M_flyTo_81 : decode prog_8_method_35_code 81 = .ok (.lload 4, 2) := by decide +kernel
theorem d_M_flyTo_83 : decode prog_8_method_35_code 83 = .ok (.lsub, 1) := by decide +kernel
theorem d_M_flyTo_84 : decode prog_8_method_35_code 84 = .ok (.invokestatic 153, 3) := by decide +kernel
theorem d_M_flyTo_87 : decode prog_8_method_35_code 87 = .ok (.lstore 10, 2) := by decide +kernel
theorem d_M_flyTo_89 : decode prog_8_method_35_code 89 = .ok (.aload_n 0, 1) := by decide +kernel
theorem d_M_flyTo_90 : decode prog_8_method_35_code 90 = .ok (.dup, 1) := by decide +kernel
theorem d_M_flyTo_91 : decode prog_8_method_35_code 91 = .ok (.getfield 146, 3) := by decide +kernel
theorem d_M_flyTo_94 : decode prog_8_method_35_code 94 = .ok (.lload 8, 2) := by decide +kernel
theorem d_M_flyTo_96 : decode prog_8_method_35_code 96 = .ok (.lload 10, 2) := by decide +kernel
theorem d_M_flyTo_98 : decode prog_8_method_35_code 98 = .ok (.lcmp, 1) := by decide +kernel
theorem d_M_flyTo_99 : decode prog_8_method_35_code 99 = .ok (.ifCond .le 8, 3) := by decide +kernel
theorem d_M_flyTo_102 : decode prog_8_method_35_code 102 = .ok (.lload 8, 2) := by decide +kernel
theorem d_M_flyTo_104 : decode prog_8_method_35_code 104 = .ok (.goto 5, 3) := by decide +kernel
theorem d_M_flyTo_107 : decode prog_8_method_35_code 107 = .ok (.lload 10, 2) := by decide +kernel
theorem d_M_flyTo_109 : decode prog_8_method_35_code 109 = .ok (.ladd, 1) := by decide +kernel
theorem d_M_flyTo_110 : decode prog_8_method_35_code 110 = .ok (.putfield 146, 3) := by decide +kernel
theorem d_M_flyTo_113 : decode prog_8_method_35_code 113 = .ok (.aload_n 0, 1) := by decide +kernel
theorem d_M_flyTo_114 : decode prog_8_method_35_code 114 = .ok (.getfield 54, 3) := by decide +kernel
theorem d_M_flyTo_117 : decode prog_8_method_35_code 117 = .ok (.iload 6, 2) := by decide +kernel
theorem d_M_flyTo_119 : decode prog_8_method_35_code 119 = .ok (.iconst 1, 1) := by decide +kernel
theorem d_M_flyTo_120 : decode prog_8_method_35_code 120 = .ok (.bastore, 1) := by decide +kernel
theorem d_M_flyTo_121 : decode prog_8_method_35_code 121 = .ok (.aload_n 0, 1) := by decide +kernel
theorem d_M_flyTo_122 : decode prog_8_method_35_code 122 = .ok (.getfield 20, 3) := by decide +kernel
theorem d_M_flyTo_125 : decode prog_8_method_35_code 125 = .ok (.iload 6, 2) := by decide +kernel
theorem d_M_flyTo_127 : decode prog_8_method_35_code 127 = .ok (.laload, 1) := by decide +kernel
theorem d_M_flyTo_128 : decode prog_8_method_35_code 128 = .ok (.lstore_n 2, 1) := by decide +kernel
theorem d_M_flyTo_129 : decode prog_8_method_35_code 129 = .ok (.aload_n 0, 1) := by decide +kernel
theorem d_M_flyTo_130 : decode prog_8_method_35_code 130 = .ok (.getfield 24, 3) := by decide +kernel
theorem d_M_flyTo_133 : decode prog_8_method_35_code 133 = .ok (.iload 6, 2) := by decide +kernel
theorem d_M_flyTo_135 : decode prog_8_method_35_code 135 = .ok (.laload, 1) := by decide +kernel
theorem d_M_flyTo_136 : decode prog_8_method_35_code 136 = .ok (.lstore 4, 2) := by decide +kernel
theorem d_M_flyTo_138 : decode prog_8_method_35_code 138 = .ok (.iinc 7 1, 3) := by decide +kernel
theorem d_M_flyTo_141 : decode prog_8_method_35_code 141 = .ok (.goto (-104), 3) := by decide +kernel
theorem d_M_flyTo_144 : decode prog_8_method_35_code 144 = .ok (.iload 6, 2) := by decide +kernel
theorem d_M_flyTo_146 : decode prog_8_method_35_code 146 = .ok (.ireturn, 1) := by decide +kernel
theorem d_M_nearest_0 : decode prog_8_method_34_code 0 = .ok (.iconst (-1), 1) := by decide +kernel
theorem d_M_nearest_1 : decode prog_8_method_34_code 1 = .ok (.istore 5, 2) := by decide +kernel
theorem d_M_nearest_3 : decode prog_8_method_34_code 3 = .ok (.lconst 0, 1) := by decide +kernel
theorem d_M_nearest_4 : decode prog_8_method_34_code 4 = .ok (.lstore 6, 2) := by decide +kernel
theorem d_M_nearest_6 : decode prog_8_method_34_code 6 = .ok (.iconst 0, 1) := by decide +kernel
theorem d_M_nearest_7 : decode prog_8_method_34_code 7 = .ok (.istore 8, 2) := by decide +kernel
theorem d_M_nearest_9 : decode prog_8_method_34_code 9 = .ok (.iload 8, 2) := by decide +kernel
theorem d_M_nearest_11 : decode prog_8_method_34_code 11 = .ok (.aload_n 0, 1) := by decide +kernel
theorem d_M_nearest_12 : decode prog_8_method_34_code 12 = .ok (.getfield 67, 3) := by decide +kernel
theorem d_M_nearest_15 : decode prog_8_method_34_code 15 = .ok (.if_icmp .ge 135, 3) := by decide +kernel
theorem d_M_nearest_18 : decode prog_8_method_34_code 18 = .ok (.iconst 0, 1) := by decide +kernel
theorem d_M_nearest_19 : decode prog_8_method_34_code 19 = .ok (.istore 9, 2) := by decide +kernel
theorem d_M_nearest_21 : decode prog_8_method_34_code 21 = .ok (.iconst 0, 1) := by decide +kernel
theorem d_M_nearest_22 : decode prog_8_method_34_code 22 = .ok (.istore 10, 2) := by decide +kernel
theorem d_M_nearest_24 : decode prog_8_method_34_code 24 = .ok (.iload 10, 2) := by decide +kernel
theorem d_M_nearest_26 : decode prog_8_method_34_code 26 = .ok (.aload_n 0, 1) := by decide +kernel
theorem d_M_nearest_27 : decode prog_8_method_34_code 27 = .ok (.getfield 121, 3) := by decide +kernel
theorem d_M_nearest_30 : decode prog_8_method_34_code 30 = .ok (.if_icmp .ge 33, 3) := by decide +kernel
theorem d_M_nearest_33 : decode prog_8_method_34_code 33 = .ok (.iload 9, 2) := by decide +kernel
theorem d_M_nearest_35 : decode prog_8_method_34_code 35 = .ok (.ifCond .ne 15, 3) := by decide +kernel
theorem d_M_nearest_38 : decode prog_8_method_34_code 38 = .ok (.aload_n 0, 1) := by decide +kernel
theorem d_M_nearest_39 : decode prog_8_method_34_code 39 = .ok (.getfield 42, 3) := by decide +kernel
theorem d_M_nearest_42 : decode prog_8_method_34_code 42 = .ok (.iload 10, 2) := by decide +kernel
theorem d_M_nearest_44 : decode prog_8_method_34_code 44 = .ok (.iaload, 1) := by decide +kernel
theorem d_M_nearest_45 : decode prog_8_method_34_code 45 = .ok (.iload 8, 2) := by decide +kernel
theorem d_M_nearest_47 : decode prog_8_method_34_code 47 = .ok (.if_icmp .ne 7, 3) := by decide +kernel
theorem d_M_nearest_50 : decode prog_8_method_34_code 50 = .ok (.iconst 1, 1) := by decide +kernel
theorem d_M_nearest_51 : decode prog_8_method_34_code 51 = .ok (.goto 4, 3) := by decide +kernel
theorem d_M_nearest_54 : decode prog_8_method_34_code 54 = .ok (.iconst 0, 1) := by decide +kernel
theorem d_M_nearest_55 : decode prog_8_method_34_code 55 = .ok (.istore 9, 2) := by decide +kernel
theorem d_M_nearest_57 : decode prog_8_method_34_code 57 = .ok (.iinc 10 1, 3) := by decide +kernel
theorem d_M_nearest_60 : decode prog_8_method_34_code 60 = .ok (.goto (-36), 3) := by decide +kernel
theorem d_M_nearest_63 : decode prog_8_method_34_code 63 = .ok (.aload_n 0, 1) := by decide +kernel
theorem d_M_nearest_64 : decode prog_8_method_34_code 64 = .ok (.getfield 20, 3) := by decide +kernel
theorem d_M_nearest_67 : decode prog_8_method_34_code 67 = .ok (.iload 8, 2) := by decide +kernel
theorem d_M_nearest_69 : decode prog_8_method_34_code 69 = .ok (.laload, 1) := by decide +kernel
theorem d_M_nearest_70 : decode prog_8_method_34_code 70 = .ok (.lload_n 1, 1) := by decide +kernel
theorem d_M_nearest_71 : decode prog_8_method_34_code 71 = .ok (.lsub, 1) := by decide +kernel
theorem d_M_nearest_72 : decode prog_8_method_34_code 72 = .ok (.aload_n 0, 1) := by decide +kernel
theorem d_M_nearest_73 : decode prog_8_method_34_code 73 = .ok (.getfield 20, 3) := by decide +kernel
theorem d_M_nearest_76 : decode prog_8_method_34_code 76 = .ok (.iload 8, 2) := by decide +kernel
theorem d_M_nearest_78 : decode prog_8_method_34_code 78 = .ok (.laload, 1) := by decide +kernel
theorem d_M_nearest_79 : decode prog_8_method_34_code 79 = .ok (.lload_n 1, 1) := by decide +kernel
theorem d_M_nearest_80 : decode prog_8_method_34_code 80 = .ok (.lsub, 1) := by decide +kernel
theorem d_M_nearest_81 : decode prog_8_method_34_code 81 = .ok (.lmul, 1) := by decide +kernel
theorem d_M_nearest_82 : decode prog_8_method_34_code 82 = .ok (.aload_n 0, 1) := by decide +kernel
theorem d_M_nearest_83 : decode prog_8_method_34_code 83 = .ok (.getfield 24, 3) := by decide +kernel
theorem d_M_nearest_86 : decode prog_8_method_34_code 86 = .ok (.iload 8, 2) := by decide +kernel
theorem d_M_nearest_88 : decode prog_8_method_34_code 88 = .ok (.laload, 1) := by decide +kernel
theorem d_M_nearest_89 : decode prog_8_method_34_code 89 = .ok (.lload_n 3, 1) := by decide +kernel
theorem d_M_nearest_90 : decode prog_8_method_34_code 90 = .ok (.lsub, 1) := by decide +kernel
theorem d_M_nearest_91 : decode prog_8_method_34_code 91 = .ok (.aload_n 0, 1) := by decide +kernel
theorem d_M_nearest_92 : decode prog_8_method_34_code 92 = .ok (.getfield 24, 3) := by decide +kernel
theorem d_M_nearest_95 : decode prog_8_method_34_code 95 = .ok (.iload 8, 2) := by decide +kernel
theorem d_M_nearest_97 : decode prog_8_method_34_code 97 = .ok (.laload, 1) := by decide +kernel
theorem d_M_nearest_98 : decode prog_8_method_34_code 98 = .ok (.lload_n 3, 1) := by decide +kernel
theorem d_M_nearest_99 : decode prog_8_method_34_code 99 = .ok (.lsub, 1) := by decide +kernel
theorem d_M_nearest_100 : decode prog_8_method_34_code 100 = .ok (.lmul, 1) := by decide +kernel
theorem d_M_nearest_101 : decode prog_8_method_34_code 101 = .ok (.ladd, 1) := by decide +kernel
theorem d_M_nearest_102 : decode prog_8_method_34_code 102 = .ok (.lstore 10, 2) := by decide +kernel
theorem d_M_nearest_104 : decode prog_8_method_34_code 104 = .ok (.iload 9, 2) := by decide +kernel
theorem d_M_nearest_106 : decode prog_8_method_34_code 106 = .ok (.ifCond .eq 38, 3) := by decide +kernel
theorem d_M_nearest_109 : decode prog_8_method_34_code 109 = .ok (.aload_n 0, 1) := by decide +kernel
theorem d_M_nearest_110 : decode prog_8_method_34_code 110 = .ok (.getfield 54, 3) := by decide +kernel
theorem d_M_nearest_113 : decode prog_8_method_34_code 113 = .ok (.iload 8, 2) := by decide +kernel
theorem d_M_nearest_115 : decode prog_8_method_34_code 115 = .ok (.baload, 1) := by decide +kernel
theorem d_M_nearest_116 : decode prog_8_method_34_code 116 = .ok (.ifCond .ne 28, 3) := by decide +kernel
theorem d_M_nearest_119 : decode prog_8_method_34_code 119 = .ok (.iload 5, 2) := by decide +kernel
theorem d_M_nearest_121 : decode prog_8_method_34_code 121 = .ok (.iconst (-1), 1) := by decide +kernel
theorem d_M_nearest_122 : decode prog_8_method_34_code 122 = .ok (.if_icmp .eq 14, 3) := by decide +kernel
theorem d_M_nearest_125 : decode prog_8_method_34_code 125 = .ok (.lload 10, 2) := by decide +kernel
theorem d_M_nearest_127 : decode prog_8_method_34_code 127 = .ok (.lload 6, 2) := by decide +kernel
theorem d_M_nearest_129 : decode prog_8_method_34_code 129 = .ok (.lcmp, 1) := by decide +kernel
theorem d_M_nearest_130 : decode prog_8_method_34_code 130 = .ok (.ifCond .lt 6, 3) := by decide +kernel
theorem d_M_nearest_133 : decode prog_8_method_34_code 133 = .ok (.goto 11, 3) := by decide +kernel
theorem d_M_nearest_136 : decode prog_8_method_34_code 136 = .ok (.iload 8, 2) := by decide +kernel
theorem d_M_nearest_138 : decode prog_8_method_34_code 138 = .ok (.istore 5, 2) := by decide +kernel
theorem d_M_nearest_140 : decode prog_8_method_34_code 140 = .ok (.lload 10, 2) := by decide +kernel
theorem d_M_nearest_142 : decode prog_8_method_34_code 142 = .ok (.lstore 6, 2) := by decide +kernel
theorem d_M_nearest_144 : decode prog_8_method_34_code 144 = .ok (.iinc 8 1, 3) := by decide +kernel
theorem d_M_nearest_147 : decode prog_8_method_34_code 147 = .ok (.goto (-138), 3) := by decide +kernel
theorem d_M_nearest_150 : decode prog_8_method_34_code 150 = .ok (.iload 5, 2) := by decide +kernel
theorem d_M_nearest_152 : decode prog_8_method_34_code 152 = .ok (.ireturn, 1) := by decide +kernel
theorem d_M_size_0 : decode prog_8_method_33_code 0 = .ok (.lload_n 0, 1) := by decide +kernel
theorem d_M_size_1 : decode prog_8_method_33_code 1 = .ok (.lconst 0, 1) := by decide +kernel
theorem d_M_size_2 : decode prog_8_method_33_code 2 = .ok (.lcmp, 1) := by decide +kernel
theorem d_M_size_3 : decode prog_8_method_33_code 3 = .ok (.ifCond .ge 9, 3) := by decide +kernel
theorem d_M_size_6 : decode prog_8_method_33_code 6 = .ok (.lconst 0, 1) := by decide +kernel
theorem d_M_size_7 : decode prog_8_method_33_code 7 = .ok (.lload_n 0, 1) := by decide +kernel
theorem d_M_size_8 : decode prog_8_method_33_code 8 = .ok (.lsub, 1) := by decide +kernel
theorem d_M_size_9 : decode prog_8_method_33_code 9 = .ok (.goto 4, 3) := by decide +kernel
theorem d_M_size_12 : decode prog_8_method_33_code 12 = .ok (.lload_n 0, 1) := by decide +kernel
theorem d_M_size_13 : decode prog_8_method_33_code 13 = .ok (.lreturn, 1) := by decide +kernel
theorem d_M_seconds_0 : decode prog_8_method_37_code 0 = .ok (.aload_n 0, 1) := by decide +kernel
theorem d_M_seconds_1 : decode prog_8_method_37_code 1 = .ok (.iconst 0, 1) := by decide +kernel
theorem d_M_seconds_2 : decode prog_8_method_37_code 2 = .ok (.putfield 60, 3) := by decide +kernel
theorem d_M_seconds_5 : decode prog_8_method_37_code 5 = .ok (.aload_n 0, 1) := by decide +kernel
theorem d_M_seconds_6 : decode prog_8_method_37_code 6 = .ok (.aload_n 0, 1) := by decide +kernel
theorem d_M_seconds_7 : decode prog_8_method_37_code 7 = .ok (.getfield 121, 3) := by decide +kernel
theorem d_M_seconds_10 : decode prog_8_method_37_code 10 = .ok (.iconst 1, 1) := by decide +kernel
theorem d_M_seconds_11 : decode prog_8_method_37_code 11 = .ok (.isub, 1) := by decide +kernel
theorem d_M_seconds_12 : decode prog_8_method_37_code 12 = .ok (.invokevirtual 157, 3) := by decide +kernel
theorem d_M_seconds_15 : decode prog_8_method_37_code 15 = .ok (.pop, 1) := by decide +kernel
theorem d_M_seconds_16 : decode prog_8_method_37_code 16 = .ok (.aload_n 0, 1) := by decide +kernel
theorem d_M_seconds_17 : decode prog_8_method_37_code 17 = .ok (.getfield 146, 3) := by decide +kernel
theorem d_M_seconds_20 : decode prog_8_method_37_code 20 = .ok (.lreturn, 1) := by decide +kernel
theorem d_M_order_0 : decode prog_8_method_40_code 0 = .ok (.aload_n 0, 1) := by decide +kernel
theorem d_M_order_1 : decode prog_8_method_40_code 1 = .ok (.iconst 0, 1) := by decide +kernel
theorem d_M_order_2 : decode prog_8_method_40_code 2 = .ok (.putfield 60, 3) := by decide +kernel
theorem d_M_order_5 : decode prog_8_method_40_code 5 = .ok (.aload_n 0, 1) := by decide +kernel
theorem d_M_order_6 : decode prog_8_method_40_code 6 = .ok (.iload_n 1, 1) := by decide +kernel
theorem d_M_order_7 : decode prog_8_method_40_code 7 = .ok (.invokevirtual 163, 3) := by decide +kernel
theorem d_M_order_10 : decode prog_8_method_40_code 10 = .ok (.ireturn, 1) := by decide +kernel
theorem d_M_placed_0 : decode prog_8_method_39_code 0 = .ok (.iconst 0, 1) := by decide +kernel
theorem d_M_placed_1 : decode prog_8_method_39_code 1 = .ok (.istore_n 2, 1) := by decide +kernel
theorem d_M_placed_2 : decode prog_8_method_39_code 2 = .ok (.iload_n 2, 1) := by decide +kernel
theorem d_M_placed_3 : decode prog_8_method_39_code 3 = .ok (.aload_n 0, 1) := by decide +kernel
theorem d_M_placed_4 : decode prog_8_method_39_code 4 = .ok (.getfield 121, 3) := by decide +kernel
theorem d_M_placed_7 : decode prog_8_method_39_code 7 = .ok (.if_icmp .ge 75, 3) := by decide +kernel
theorem d_M_placed_10 : decode prog_8_method_39_code 10 = .ok (.iconst 0, 1) := by decide +kernel
theorem d_M_placed_11 : decode prog_8_method_39_code 11 = .ok (.istore_n 3, 1) := by decide +kernel
theorem d_M_placed_12 : decode prog_8_method_39_code 12 = .ok (.iconst 0, 1) := by decide +kernel
theorem d_M_placed_13 : decode prog_8_method_39_code 13 = .ok (.istore 4, 2) := by decide +kernel
theorem d_M_placed_15 : decode prog_8_method_39_code 15 = .ok (.iload 4, 2) := by decide +kernel
theorem d_M_placed_17 : decode prog_8_method_39_code 17 = .ok (.aload_n 0, 1) := by decide +kernel
theorem d_M_placed_18 : decode prog_8_method_39_code 18 = .ok (.getfield 121, 3) := by decide +kernel
theorem d_M_placed_21 : decode prog_8_method_39_code 21 = .ok (.if_icmp .ge 43, 3) := by decide +kernel
theorem d_M_placed_24 : decode prog_8_method_39_code 24 = .ok (.iload_n 3, 1) := by decide +kernel
theorem d_M_placed_25 : decode prog_8_method_39_code 25 = .ok (.iload_n 2, 1) := by decide +kernel
theorem d_M_placed_26 : decode prog_8_method_39_code 26 = .ok (.iload 4, 2) := by decide +kernel
theorem d_M_placed_28 : decode prog_8_method_39_code 28 = .ok (.if_icmp .eq 27, 3) := by decide +kernel
theorem d_M_placed_31 : decode prog_8_method_39_code 31 = .ok (.aload_n 0, 1) := by decide +kernel
theorem d_M_placed_32 : decode prog_8_method_39_code 32 = .ok (.aload_n 0, 1) := by decide +kernel
theorem d_M_placed_33 : decode prog_8_method_39_code 33 = .ok (.getfield 42, 3) := by decide +kernel
theorem d_M_placed_36 : decode prog_8_method_39_code 36 = .ok (.iload 4, 2) := by decide +kernel
theorem d_M_placed_38 : decode prog_8_method_39_code 38 = .ok (.iaload, 1) := by decide +kernel
theorem d_M_placed_39 : decode prog_8_method_39_code 39 = .ok (.aload_n 0, 1) := by decide +kernel
theorem d_M_placed_40 : decode prog_8_method_39_code 40 = .ok (.getfield 42, 3) := by decide +kernel
theorem d_M_placed_43 : decode prog_8_method_39_code 43 = .ok (.iload_n 2, 1) := by decide +kernel
theorem d_M_placed_44 : decode prog_8_method_39_code 44 = .ok (.iaload, 1) := by decide +kernel
theorem d_M_placed_45 : decode prog_8_method_39_code 45 = .ok (.invokevirtual 160, 3) := by decide +kernel
theorem d_M_placed_48 : decode prog_8_method_39_code 48 = .ok (.ifCond .eq 7, 3) := by decide +kernel
theorem d_M_placed_51 : decode prog_8_method_39_code 51 = .ok (.iconst 1, 1) := by decide +kernel
theorem d_M_placed_52 : decode prog_8_method_39_code 52 = .ok (.goto 4, 3) := by decide +kernel
theorem d_M_placed_55 : decode prog_8_method_39_code 55 = .ok (.iconst 0, 1) := by decide +kernel
theorem d_M_placed_56 : decode prog_8_method_39_code 56 = .ok (.iadd, 1) := by decide +kernel
theorem d_M_placed_57 : decode prog_8_method_39_code 57 = .ok (.istore_n 3, 1) := by decide +kernel
theorem d_M_placed_58 : decode prog_8_method_39_code 58 = .ok (.iinc 4 1, 3) := by decide +kernel
theorem d_M_placed_61 : decode prog_8_method_39_code 61 = .ok (.goto (-46), 3) := by decide +kernel
theorem d_M_placed_64 : decode prog_8_method_39_code 64 = .ok (.iload_n 3, 1) := by decide +kernel
theorem d_M_placed_65 : decode prog_8_method_39_code 65 = .ok (.iload_n 1, 1) := by decide +kernel
theorem d_M_placed_66 : decode prog_8_method_39_code 66 = .ok (.if_icmp .ne 10, 3) := by decide +kernel
theorem d_M_placed_69 : decode prog_8_method_39_code 69 = .ok (.aload_n 0, 1) := by decide +kernel
theorem d_M_placed_70 : decode prog_8_method_39_code 70 = .ok (.getfield 42, 3) := by decide +kernel
theorem d_M_placed_73 : decode prog_8_method_39_code 73 = .ok (.iload_n 2, 1) := by decide +kernel
theorem d_M_placed_74 : decode prog_8_method_39_code 74 = .ok (.iaload, 1) := by decide +kernel
theorem d_M_placed_75 : decode prog_8_method_39_code 75 = .ok (.ireturn, 1) := by decide +kernel
theorem d_M_placed_76 : decode prog_8_method_39_code 76 = .ok (.iinc 2 1, 3) := by decide +kernel
theorem d_M_placed_79 : decode prog_8_method_39_code 79 = .ok (.goto (-77), 3) := by decide +kernel
theorem d_M_placed_82 : decode prog_8_method_39_code 82 = .ok (.iconst (-1), 1) := by decide +kernel
theorem d_M_placed_83 : decode prog_8_method_39_code 83 = .ok (.ireturn, 1) := by decide +kernel
theorem d_M_isAhead_0 : decode prog_8_method_38_code 0 = .ok (.aload_n 0, 1) := by decide +kernel
theorem d_M_isAhead_1 : decode prog_8_method_38_code 1 = .ok (.getfield 20, 3) := by decide +kernel
theorem d_M_isAhead_4 : decode prog_8_method_38_code 4 = .ok (.iload_n 1, 1) := by decide +kernel
theorem d_M_isAhead_5 : decode prog_8_method_38_code 5 = .ok (.laload, 1) := by decide +kernel
theorem d_M_isAhead_6 : decode prog_8_method_38_code 6 = .ok (.aload_n 0, 1) := by decide +kernel
theorem d_M_isAhead_7 : decode prog_8_method_38_code 7 = .ok (.getfield 20, 3) := by decide +kernel
theorem d_M_isAhead_10 : decode prog_8_method_38_code 10 = .ok (.iload_n 2, 1) := by decide +kernel
theorem d_M_isAhead_11 : decode prog_8_method_38_code 11 = .ok (.laload, 1) := by decide +kernel
theorem d_M_isAhead_12 : decode prog_8_method_38_code 12 = .ok (.lcmp, 1) := by decide +kernel
theorem d_M_isAhead_13 : decode prog_8_method_38_code 13 = .ok (.ifCond .eq 25, 3) := by decide +kernel
theorem d_M_isAhead_16 : decode prog_8_method_38_code 16 = .ok (.aload_n 0, 1) := by decide +kernel
theorem d_M_isAhead_17 : decode prog_8_method_38_code 17 = .ok (.getfield 20, 3) := by decide +kernel
theorem d_M_isAhead_20 : decode prog_8_method_38_code 20 = .ok (.iload_n 1, 1) := by decide +kernel
theorem d_M_isAhead_21 : decode prog_8_method_38_code 21 = .ok (.laload, 1) := by decide +kernel
theorem d_M_isAhead_22 : decode prog_8_method_38_code 22 = .ok (.aload_n 0, 1) := by decide +kernel
theorem d_M_isAhead_23 : decode prog_8_method_38_code 23 = .ok (.getfield 20, 3) := by decide +kernel
theorem d_M_isAhead_26 : decode prog_8_method_38_code 26 = .ok (.iload_n 2, 1) := by decide +kernel
theorem d_M_isAhead_27 : decode prog_8_method_38_code 27 = .ok (.laload, 1) := by decide +kernel
theorem d_M_isAhead_28 : decode prog_8_method_38_code 28 = .ok (.lcmp, 1) := by decide +kernel
theorem d_M_isAhead_29 : decode prog_8_method_38_code 29 = .ok (.ifCond .ge 7, 3) := by decide +kernel
theorem d_M_isAhead_32 : decode prog_8_method_38_code 32 = .ok (.iconst 1, 1) := by decide +kernel
theorem d_M_isAhead_33 : decode prog_8_method_38_code 33 = .ok (.goto 4, 3) := by decide +kernel
theorem d_M_isAhead_36 : decode prog_8_method_38_code 36 = .ok (.iconst 0, 1) := by decide +kernel
theorem d_M_isAhead_37 : decode prog_8_method_38_code 37 = .ok (.ireturn, 1) := by decide +kernel
theorem d_M_isAhead_38 : decode prog_8_method_38_code 38 = .ok (.aload_n 0, 1) := by decide +kernel
theorem d_M_isAhead_39 : decode prog_8_method_38_code 39 = .ok (.getfield 24, 3) := by decide +kernel
theorem d_M_isAhead_42 : decode prog_8_method_38_code 42 = .ok (.iload_n 1, 1) := by decide +kernel
theorem d_M_isAhead_43 : decode prog_8_method_38_code 43 = .ok (.laload, 1) := by decide +kernel
theorem d_M_isAhead_44 : decode prog_8_method_38_code 44 = .ok (.aload_n 0, 1) := by decide +kernel
theorem d_M_isAhead_45 : decode prog_8_method_38_code 45 = .ok (.getfield 24, 3) := by decide +kernel
theorem d_M_isAhead_48 : decode prog_8_method_38_code 48 = .ok (.iload_n 2, 1) := by decide +kernel
theorem d_M_isAhead_49 : decode prog_8_method_38_code 49 = .ok (.laload, 1) := by decide +kernel
theorem d_M_isAhead_50 : decode prog_8_method_38_code 50 = .ok (.lcmp, 1) := by decide +kernel
theorem d_M_isAhead_51 : decode prog_8_method_38_code 51 = .ok (.ifCond .eq 27, 3) := by decide +kernel
theorem d_M_isAhead_54 : decode prog_8_method_38_code 54 = .ok (.aload_n 0, 1) := by decide +kernel
theorem d_M_isAhead_55 : decode prog_8_method_38_code 55 = .ok (.getfield 24, 3) := by decide +kernel
theorem d_M_isAhead_58 : decode prog_8_method_38_code 58 = .ok (.iload_n 1, 1) := by decide +kernel
theorem d_M_isAhead_59 : decode prog_8_method_38_code 59 = .ok (.laload, 1) := by decide +kernel
theorem d_M_isAhead_60 : decode prog_8_method_38_code 60 = .ok (.aload_n 0, 1) := by decide +kernel
theorem d_M_isAhead_61 : decode prog_8_method_38_code 61 = .ok (.getfield 24, 3) := by decide +kernel
theorem d_M_isAhead_64 : decode prog_8_method_38_code 64 = .ok (.iload_n 2, 1) := by decide +kernel
theorem d_M_isAhead_65 : decode prog_8_method_38_code 65 = .ok (.laload, 1) := by decide +kernel
theorem d_M_isAhead_66 : decode prog_8_method_38_code 66 = .ok (.lcmp, 1) := by decide +kernel
theorem d_M_isAhead_67 : decode prog_8_method_38_code 67 = .ok (.ifCond .ge 7, 3) := by decide +kernel
theorem d_M_isAhead_70 : decode prog_8_method_38_code 70 = .ok (.iconst 1, 1) := by decide +kernel
theorem d_M_isAhead_71 : decode prog_8_method_38_code 71 = .ok (.goto 17, 3) := by decide +kernel
theorem d_M_isAhead_74 : decode prog_8_method_38_code 74 = .ok (.iconst 0, 1) := by decide +kernel
theorem d_M_isAhead_75 : decode prog_8_method_38_code 75 = .ok (.goto 13, 3) := by decide +kernel
theorem d_M_isAhead_78 : decode prog_8_method_38_code 78 = .ok (.iload_n 1, 1) := by decide +kernel
theorem d_M_isAhead_79 : decode prog_8_method_38_code 79 = .ok (.iload_n 2, 1) := by decide +kernel
theorem d_M_isAhead_80 : decode prog_8_method_38_code 80 = .ok (.if_icmp .ge 7, 3) := by decide +kernel
theorem d_M_isAhead_83 : decode prog_8_method_38_code 83 = .ok (.iconst 1, 1) := by decide +kernel
theorem d_M_isAhead_84 : decode prog_8_method_38_code 84 = .ok (.goto 4, 3) := by decide +kernel
theorem d_M_isAhead_87 : decode prog_8_method_38_code 87 = .ok (.iconst 0, 1) := by decide +kernel
theorem d_M_isAhead_88 : decode prog_8_method_38_code 88 = .ok (.ireturn, 1) := by decide +kernel
theorem d_M_text_0 : decode prog_8_method_43_code 0 = .ok (.aload_n 0, 1) := by decide +kernel
theorem d_M_text_1 : decode prog_8_method_43_code 1 = .ok (.iload_n 1, 1) := by decide +kernel
theorem d_M_text_2 : decode prog_8_method_43_code 2 = .ok (.ifCond .ge 7, 3) := by decide +kernel
theorem d_M_text_5 : decode prog_8_method_43_code 5 = .ok (.iconst 1, 1) := by decide +kernel
theorem d_M_text_6 : decode prog_8_method_43_code 6 = .ok (.goto 4, 3) := by decide +kernel
theorem d_M_text_9 : decode prog_8_method_43_code 9 = .ok (.iconst 0, 1) := by decide +kernel
theorem d_M_text_10 : decode prog_8_method_43_code 10 = .ok (.putfield 60, 3) := by decide +kernel
theorem d_M_text_13 : decode prog_8_method_43_code 13 = .ok (.aload_n 0, 1) := by decide +kernel
theorem d_M_text_14 : decode prog_8_method_43_code 14 = .ok (.getfield 60, 3) := by decide +kernel
theorem d_M_text_17 : decode prog_8_method_43_code 17 = .ok (.ifCond .eq 5, 3) := by decide +kernel
theorem d_M_text_20 : decode prog_8_method_43_code 20 = .ok (.iconst 0, 1) := by decide +kernel
theorem d_M_text_21 : decode prog_8_method_43_code 21 = .ok (.ireturn, 1) := by decide +kernel
theorem d_M_text_22 : decode prog_8_method_43_code 22 = .ok (.aload_n 0, 1) := by decide +kernel
theorem d_M_text_23 : decode prog_8_method_43_code 23 = .ok (.iconst 0, 1) := by decide +kernel
theorem d_M_text_24 : decode prog_8_method_43_code 24 = .ok (.putfield 166, 3) := by decide +kernel
theorem d_M_text_27 : decode prog_8_method_43_code 27 = .ok (.iconst 0, 1) := by decide +kernel
theorem d_M_text_28 : decode prog_8_method_43_code 28 = .ok (.istore_n 2, 1) := by decide +kernel
theorem d_M_text_29 : decode prog_8_method_43_code 29 = .ok (.iload_n 2, 1) := by decide +kernel
theorem d_M_text_30 : decode prog_8_method_43_code 30 = .ok (.aload_n 0, 1) := by decide +kernel
theorem d_M_text_31 : decode prog_8_method_43_code 31 = .ok (.getfield 121, 3) := by decide +kernel
theorem d_M_text_34 : decode prog_8_method_43_code 34 = .ok (.if_icmp .ge 65, 3) := by decide +kernel
theorem d_M_text_37 : decode prog_8_method_43_code 37 = .ok (.aload_n 0, 1) := by decide +kernel
theorem d_M_text_38 : decode prog_8_method_43_code 38 = .ok (.iload_n 2, 1) := by decide +kernel
theorem d_M_text_39 : decode prog_8_method_43_code 39 = .ok (.invokevirtual 163, 3) := by decide +kernel
theorem d_M_text_42 : decode prog_8_method_43_code 42 = .ok (.istore_n 3, 1) := by decide +kernel
theorem d_M_text_43 : decode prog_8_method_43_code 43 = .ok (.aload_n 0, 1) := by decide +kernel
theorem d_M_text_44 : decode prog_8_method_43_code 44 = .ok (.bipush 112, 2) := by decide +kernel
theorem d_M_text_46 : decode prog_8_method_43_code 46 = .ok (.invokevirtual 169, 3) := by decide +kernel
theorem d_M_text_49 : decode prog_8_method_43_code 49 = .ok (.aload_n 0, 1) := by decide +kernel
theorem d_M_text_50 : decode prog_8_method_43_code 50 = .ok (.iload_n 3, 1) := by decide +kernel
theorem d_M_text_51 : decode prog_8_method_43_code 51 = .ok (.i2l, 1) := by decide +kernel
theorem d_M_text_52 : decode prog_8_method_43_code 52 = .ok (.invokevirtual 175, 3) := by decide +kernel
theorem d_M_text_55 : decode prog_8_method_43_code 55 = .ok (.aload_n 0, 1) := by decide +kernel
theorem d_M_text_56 : decode prog_8_method_43_code 56 = .ok (.bipush 32, 2) := by decide +kernel
theorem d_M_text_58 : decode prog_8_method_43_code 58 = .ok (.invokevirtual 169, 3) := by decide +kernel
theorem d_M_text_61 : decode prog_8_method_43_code 61 = .ok (.aload_n 0, 1) := by decide +kernel
theorem d_M_text_62 : decode prog_8_method_43_code 62 = .ok (.aload_n 0, 1) := by decide +kernel
theorem d_M_text_63 : decode prog_8_method_43_code 63 = .ok (.getfield 20, 3) := by decide +kernel
theorem d_M_text_66 : decode prog_8_method_43_code 66 = .ok (.iload_n 3, 1) := by decide +kernel
theorem d_M_text_67 : decode prog_8_method_43_code 67 = .ok (.laload, 1) := by decide +kernel
theorem d_M_text_68 : decode prog_8_method_43_code 68 = .ok (.invokevirtual 175, 3) := by decide +kernel
theorem d_M_text_71 : decode prog_8_method_43_code 71 = .ok (.aload_n 0, 1) := by decide +kernel
theorem d_M_text_72 : decode prog_8_method_43_code 72 = .ok (.bipush 32, 2) := by decide +kernel
theorem d_M_text_74 : decode prog_8_method_43_code 74 = .ok (.invokevirtual 169, 3) := by decide +kernel
theorem d_M_text_77 : decode prog_8_method_43_code 77 = .ok (.aload_n 0, 1) := by decide +kernel
theorem d_M_text_78 : decode prog_8_method_43_code 78 = .ok (.aload_n 0, 1) := by decide +kernel
theorem d_M_text_79 : decode prog_8_method_43_code 79 = .ok (.getfield 24, 3) := by decide +kernel
theorem d_M_text_82 : decode prog_8_method_43_code 82 = .ok (.iload_n 3, 1) := by decide +kernel
theorem d_M_text_83 : decode prog_8_method_43_code 83 = .ok (.laload, 1) := by decide +kernel
theorem d_M_text_84 : decode prog_8_method_43_code 84 = .ok (.invokevirtual 175, 3) := by decide +kernel
theorem d_M_text_87 : decode prog_8_method_43_code 87 = .ok (.aload_n 0, 1) := by decide +kernel
theorem d_M_text_88 : decode prog_8_method_43_code 88 = .ok (.bipush 10, 2) := by decide +kernel
theorem d_M_text_90 : decode prog_8_method_43_code 90 = .ok (.invokevirtual 169, 3) := by decide +kernel
theorem d_M_text_93 : decode prog_8_method_43_code 93 = .ok (.iinc 2 1, 3) := by decide +kernel
theorem d_M_text_96 : decode prog_8_method_43_code 96 = .ok (.goto (-67), 3) := by decide +kernel
theorem d_M_text_99 : decode prog_8_method_43_code 99 = .ok (.iload_n 1, 1) := by decide +kernel
theorem d_M_text_100 : decode prog_8_method_43_code 100 = .ok (.aload_n 0, 1) := by decide +kernel
theorem d_M_text_101 : decode prog_8_method_43_code 101 = .ok (.getfield 166, 3) := by decide +kernel
theorem d_M_text_104 : decode prog_8_method_43_code 104 = .ok (.if_icmp .ge 12, 3) := by decide +kernel
theorem d_M_text_107 : decode prog_8_method_43_code 107 = .ok (.aload_n 0, 1) := by decide +kernel
theorem d_M_text_108 : decode prog_8_method_43_code 108 = .ok (.getfield 57, 3) := by decide +kernel
theorem d_M_text_111 : decode prog_8_method_43_code 111 = .ok (.iload_n 1, 1) := by decide +kernel
theorem d_M_text_112 : decode prog_8_method_43_code 112 = .ok (.iaload, 1) := by decide +kernel
theorem d_M_text_113 : decode prog_8_method_43_code 113 = .ok (.goto 4, 3) := by decide +kernel
theorem d_M_text_116 : decode prog_8_method_43_code 116 = .ok (.iconst (-1), 1) := by decide +kernel
theorem d_M_text_117 : decode prog_8_method_43_code 117 = .ok (.ireturn, 1) := by decide +kernel
theorem d_M_say_0 : decode prog_8_method_41_code 0 = .ok (.aload_n 0, 1) := by decide +kernel
theorem d_M_say_1 : decode prog_8_method_41_code 1 = .ok (.getfield 57, 3) := by decide +kernel
theorem d_M_say_4 : decode prog_8_method_41_code 4 = .ok (.aload_n 0, 1) := by decide +kernel
theorem d_M_say_5 : decode prog_8_method_41_code 5 = .ok (.getfield 166, 3) := by decide +kernel
theorem d_M_say_8 : decode prog_8_method_41_code 8 = .ok (.iload_n 1, 1) := by decide +kernel
theorem d_M_say_9 : decode prog_8_method_41_code 9 = .ok (.iastore, 1) := by decide +kernel
theorem d_M_say_10 : decode prog_8_method_41_code 10 = .ok (.aload_n 0, 1) := by decide +kernel
theorem d_M_say_11 : decode prog_8_method_41_code 11 = .ok (.dup, 1) := by decide +kernel
theorem d_M_say_12 : decode prog_8_method_41_code 12 = .ok (.getfield 166, 3) := by decide +kernel
theorem d_M_say_15 : decode prog_8_method_41_code 15 = .ok (.iconst 1, 1) := by decide +kernel
theorem d_M_say_16 : decode prog_8_method_41_code 16 = .ok (.iadd, 1) := by decide +kernel
theorem d_M_say_17 : decode prog_8_method_41_code 17 = .ok (.putfield 166, 3) := by decide +kernel
theorem d_M_say_20 : decode prog_8_method_41_code 20 = .ok (.return_, 1) := by decide +kernel
theorem d_M_sayNumber_0 : decode prog_8_method_42_code 0 = .ok (.lload_n 1, 1) := by decide +kernel
theorem d_M_sayNumber_1 : decode prog_8_method_42_code 1 = .ok (.lconst 0, 1) := by decide +kernel
theorem d_M_sayNumber_2 : decode prog_8_method_42_code 2 = .ok (.lcmp, 1) := by decide +kernel
theorem d_M_sayNumber_3 : decode prog_8_method_42_code 3 = .ok (.ifCond .ge 9, 3) := by decide +kernel
theorem d_M_sayNumber_6 : decode prog_8_method_42_code 6 = .ok (.aload_n 0, 1) := by decide +kernel
theorem d_M_sayNumber_7 : decode prog_8_method_42_code 7 = .ok (.bipush 45, 2) := by decide +kernel
theorem d_M_sayNumber_9 : decode prog_8_method_42_code 9 = .ok (.invokevirtual 169, 3) := by decide +kernel
theorem d_M_sayNumber_12 : decode prog_8_method_42_code 12 = .ok (.lload_n 1, 1) := by decide +kernel
theorem d_M_sayNumber_13 : decode prog_8_method_42_code 13 = .ok (.invokestatic 153, 3) := by decide +kernel
theorem d_M_sayNumber_16 : decode prog_8_method_42_code 16 = .ok (.lstore_n 3, 1) := by decide +kernel
theorem d_M_sayNumber_17 : decode prog_8_method_42_code 17 = .ok (.lconst 1, 1) := by decide +kernel
theorem d_M_sayNumber_18 : decode prog_8_method_42_code 18 = .ok (.lstore 5, 2) := by decide +kernel
theorem d_M_sayNumber_20 : decode prog_8_method_42_code 20 = .ok (.lload_n 3, 1) := by decide +kernel
theorem d_M_sayNumber_21 : decode prog_8_method_42_code 21 = .ok (.lload 5, 2) := by decide +kernel
theorem d_M_sayNumber_23 : decode prog_8_method_42_code 23 = .ok (.ldiv, 1) := by decide +kernel
theorem d_M_sayNumber_24 : decode prog_8_method_42_code 24 = .ok (.ldc2_w 173, 3) := by decide +kernel
theorem d_M_sayNumber_27 : decode prog_8_method_42_code 27 = .ok (.lcmp, 1) := by decide +kernel
theorem d_M_sayNumber_28 : decode prog_8_method_42_code 28 = .ok (.ifCond .lt 14, 3) := by decide +kernel
theorem d_M_sayNumber_31 : decode prog_8_method_42_code 31 = .ok (.ldc2_w 173, 3) := by decide +kernel
theorem d_M_sayNumber_34 : decode prog_8_method_42_code 34 = .ok (.lload 5, 2) := by decide +kernel
theorem d_M_sayNumber_36 : decode prog_8_method_42_code 36 = .ok (.lmul, 1) := by decide +kernel
theorem d_M_sayNumber_37 : decode prog_8_method_42_code 37 = .ok (.lstore 5, 2) := by decide +kernel
theorem d_M_sayNumber_39 : decode prog_8_method_42_code 39 = .ok (.goto (-19), 3) := by decide +kernel
theorem d_M_sayNumber_42 : decode prog_8_method_42_code 42 = .ok (.lload 5, 2) := by decide +kernel
theorem d_M_sayNumber_44 : decode prog_8_method_42_code 44 = .ok (.lconst 0, 1) := by decide +kernel
theorem d_M_sayNumber_45 : decode prog_8_method_42_code 45 = .ok (.lcmp, 1) := by decide +kernel
theorem d_M_sayNumber_46 : decode prog_8_method_42_code 46 = .ok (.ifCond .le 30, 3) := by decide +kernel
theorem d_M_sayNumber_49 : decode prog_8_method_42_code 49 = .ok (.aload_n 0, 1) := by decide +kernel
theorem d_M_sayNumber_50 : decode prog_8_method_42_code 50 = .ok (.lload_n 3, 1) := by decide +kernel
theorem d_M_sayNumber_51 : decode prog_8_method_42_code 51 = .ok (.lload 5, 2) := by decide +kernel
theorem d_M_sayNumber_53 : decode prog_8_method_42_code 53 = .ok (.ldiv, 1) := by decide +kernel
theorem d_M_sayNumber_54 : decode prog_8_method_42_code 54 = .ok (.ldc2_w 173, 3) := by decide +kernel
theorem d_M_sayNumber_57 : decode prog_8_method_42_code 57 = .ok (.lrem, 1) := by decide +kernel
theorem d_M_sayNumber_58 : decode prog_8_method_42_code 58 = .ok (.l2i, 1) := by decide +kernel
theorem d_M_sayNumber_59 : decode prog_8_method_42_code 59 = .ok (.bipush 48, 2) := by decide +kernel
theorem d_M_sayNumber_61 : decode prog_8_method_42_code 61 = .ok (.iadd, 1) := by decide +kernel
theorem d_M_sayNumber_62 : decode prog_8_method_42_code 62 = .ok (.invokevirtual 169, 3) := by decide +kernel
theorem d_M_sayNumber_65 : decode prog_8_method_42_code 65 = .ok (.lload 5, 2) := by decide +kernel
theorem d_M_sayNumber_67 : decode prog_8_method_42_code 67 = .ok (.ldc2_w 173, 3) := by decide +kernel
theorem d_M_sayNumber_70 : decode prog_8_method_42_code 70 = .ok (.ldiv, 1) := by decide +kernel
theorem d_M_sayNumber_71 : decode prog_8_method_42_code 71 = .ok (.lstore 5, 2) := by decide +kernel
theorem d_M_sayNumber_73 : decode prog_8_method_42_code 73 = .ok (.goto (-31), 3) := by decide +kernel
theorem d_M_sayNumber_76 : decode prog_8_method_42_code 76 = .ok (.return_, 1) := by decide +kernel
