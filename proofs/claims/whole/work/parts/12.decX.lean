theorem d_X_init_0 : decode prog_1_method_1_code 0 = .ok (.aload_n 0, 1) := by decide +kernel
theorem d_X_init_1 : decode prog_1_method_1_code 1 = .ok (.invokespecial 3, 3) := by decide +kernel
theorem d_X_init_4 : decode prog_1_method_1_code 4 = .ok (.aload_n 0, 1) := by decide +kernel
theorem d_X_init_5 : decode prog_1_method_1_code 5 = .ok (.new 9, 3) := by decide +kernel
theorem d_X_init_8 : decode prog_1_method_1_code 8 = .ok (.dup, 1) := by decide +kernel
theorem d_X_init_9 : decode prog_1_method_1_code 9 = .ok (.invokespecial 11, 3) := by decide +kernel
theorem d_X_init_12 : decode prog_1_method_1_code 12 = .ok (.putfield 12, 3) := by decide +kernel
theorem d_X_init_15 : decode prog_1_method_1_code 15 = .ok (.aload_n 0, 1) := by decide +kernel
theorem d_X_init_16 : decode prog_1_method_1_code 16 = .ok (.new 16, 3) := by decide +kernel
theorem d_X_init_19 : decode prog_1_method_1_code 19 = .ok (.dup, 1) := by decide +kernel
theorem d_X_init_20 : decode prog_1_method_1_code 20 = .ok (.invokespecial 18, 3) := by decide +kernel
theorem d_X_init_23 : decode prog_1_method_1_code 23 = .ok (.putfield 19, 3) := by decide +kernel
theorem d_X_init_26 : decode prog_1_method_1_code 26 = .ok (.aload_n 0, 1) := by decide +kernel
theorem d_X_init_27 : decode prog_1_method_1_code 27 = .ok (.new 23, 3) := by decide +kernel
theorem d_X_init_30 : decode prog_1_method_1_code 30 = .ok (.dup, 1) := by decide +kernel
theorem d_X_init_31 : decode prog_1_method_1_code 31 = .ok (.invokespecial 25, 3) := by decide +kernel
theorem d_X_init_34 : decode prog_1_method_1_code 34 = .ok (.putfield 26, 3) := by decide +kernel
theorem d_X_init_37 : decode prog_1_method_1_code 37 = .ok (.aload_n 0, 1) := by decide +kernel
theorem d_X_init_38 : decode prog_1_method_1_code 38 = .ok (.new 30, 3) := by decide +kernel
theorem d_X_init_41 : decode prog_1_method_1_code 41 = .ok (.dup, 1) := by decide +kernel
theorem d_X_init_42 : decode prog_1_method_1_code 42 = .ok (.invokespecial 32, 3) := by decide +kernel
theorem d_X_init_45 : decode prog_1_method_1_code 45 = .ok (.putfield 33, 3) := by decide +kernel
theorem d_X_init_48 : decode prog_1_method_1_code 48 = .ok (.aload_n 0, 1) := by decide +kernel
theorem d_X_init_49 : decode prog_1_method_1_code 49 = .ok (.new 37, 3) := by decide +kernel
theorem d_X_init_52 : decode prog_1_method_1_code 52 = .ok (.dup, 1) := by decide +kernel
theorem d_X_init_53 : decode prog_1_method_1_code 53 = .ok (.invokespecial 39, 3) := by decide +kernel
theorem d_X_init_56 : decode prog_1_method_1_code 56 = .ok (.putfield 40, 3) := by decide +kernel
theorem d_X_init_59 : decode prog_1_method_1_code 59 = .ok (.return_, 1) := by decide +kernel
theorem d_B_init_0 : decode prog_2_method_1_code 0 = .ok (.aload_n 0, 1) := by decide +kernel
theorem d_B_init_1 : decode prog_2_method_1_code 1 = .ok (.invokespecial 3, 3) := by decide +kernel
theorem d_B_init_4 : decode prog_2_method_1_code 4 = .ok (.aload_n 0, 1) := by decide +kernel
theorem d_B_init_5 : decode prog_2_method_1_code 5 = .ok (.bipush 12, 2) := by decide +kernel
theorem d_B_init_7 : decode prog_2_method_1_code 7 = .ok (.newarray .boolean, 2) := by decide +kernel
theorem d_B_init_9 : decode prog_2_method_1_code 9 = .ok (.putfield 9, 3) := by decide +kernel
theorem d_B_init_12 : decode prog_2_method_1_code 12 = .ok (.aload_n 0, 1) := by decide +kernel
theorem d_B_init_13 : decode prog_2_method_1_code 13 = .ok (.bipush 12, 2) := by decide +kernel
theorem d_B_init_15 : decode prog_2_method_1_code 15 = .ok (.newarray .int, 2) := by decide +kernel
theorem d_B_init_17 : decode prog_2_method_1_code 17 = .ok (.putfield 15, 3) := by decide +kernel
theorem d_B_init_20 : decode prog_2_method_1_code 20 = .ok (.aload_n 0, 1) := by decide +kernel
theorem d_B_init_21 : decode prog_2_method_1_code 21 = .ok (.bipush 36, 2) := by decide +kernel
theorem d_B_init_23 : decode prog_2_method_1_code 23 = .ok (.newarray .int, 2) := by decide +kernel
theorem d_B_init_25 : decode prog_2_method_1_code 25 = .ok (.putfield 19, 3) := by decide +kernel
theorem d_B_init_28 : decode prog_2_method_1_code 28 = .ok (.aload_n 0, 1) := by decide +kernel
theorem d_B_init_29 : decode prog_2_method_1_code 29 = .ok (.bipush 36, 2) := by decide +kernel
theorem d_B_init_31 : decode prog_2_method_1_code 31 = .ok (.newarray .long, 2) := by decide +kernel
theorem d_B_init_33 : decode prog_2_method_1_code 33 = .ok (.putfield 22, 3) := by decide +kernel
theorem d_B_init_36 : decode prog_2_method_1_code 36 = .ok (.aload_n 0, 1) := by decide +kernel
theorem d_B_init_37 : decode prog_2_method_1_code 37 = .ok (.bipush 36, 2) := by decide +kernel
theorem d_B_init_39 : decode prog_2_method_1_code 39 = .ok (.newarray .long, 2) := by decide +kernel
theorem d_B_init_41 : decode prog_2_method_1_code 41 = .ok (.putfield 26, 3) := by decide +kernel
theorem d_B_init_44 : decode prog_2_method_1_code 44 = .ok (.aload_n 0, 1) := by decide +kernel
theorem d_B_init_45 : decode prog_2_method_1_code 45 = .ok (.bipush 36, 2) := by decide +kernel
theorem d_B_init_47 : decode prog_2_method_1_code 47 = .ok (.newarray .long, 2) := by decide +kernel
theorem d_B_init_49 : decode prog_2_method_1_code 49 = .ok (.putfield 29, 3) := by decide +kernel
theorem d_B_init_52 : decode prog_2_method_1_code 52 = .ok (.aload_n 0, 1) := by decide +kernel
theorem d_B_init_53 : decode prog_2_method_1_code 53 = .ok (.bipush 36, 2) := by decide +kernel
theorem d_B_init_55 : decode prog_2_method_1_code 55 = .ok (.newarray .long, 2) := by decide +kernel
theorem d_B_init_57 : decode prog_2_method_1_code 57 = .ok (.putfield 32, 3) := by decide +kernel
theorem d_B_init_60 : decode prog_2_method_1_code 60 = .ok (.return_, 1) := by decide +kernel
theorem d_P_init_0 : decode prog_4_method_1_code 0 = .ok (.aload_n 0, 1) := by decide +kernel
theorem d_P_init_1 : decode prog_4_method_1_code 1 = .ok (.invokespecial 3, 3) := by decide +kernel
theorem d_P_init_4 : decode prog_4_method_1_code 4 = .ok (.aload_n 0, 1) := by decide +kernel
theorem d_P_init_5 : decode prog_4_method_1_code 5 = .ok (.sipush 144, 3) := by decide +kernel
theorem d_P_init_8 : decode prog_4_method_1_code 8 = .ok (.newarray .int, 2) := by decide +kernel
theorem d_P_init_10 : decode prog_4_method_1_code 10 = .ok (.putfield 11, 3) := by decide +kernel
theorem d_P_init_13 : decode prog_4_method_1_code 13 = .ok (.aload_n 0, 1) := by decide +kernel
theorem d_P_init_14 : decode prog_4_method_1_code 14 = .ok (.bipush 12, 2) := by decide +kernel
theorem d_P_init_16 : decode prog_4_method_1_code 16 = .ok (.newarray .int, 2) := by decide +kernel
theorem d_P_init_18 : decode prog_4_method_1_code 18 = .ok (.putfield 15, 3) := by decide +kernel
theorem d_P_init_21 : decode prog_4_method_1_code 21 = .ok (.aload_n 0, 1) := by decide +kernel
theorem d_P_init_22 : decode prog_4_method_1_code 22 = .ok (.iconst 2, 1) := by decide +kernel
theorem d_P_init_23 : decode prog_4_method_1_code 23 = .ok (.sipush 144, 3) := by decide +kernel
theorem d_P_init_26 : decode prog_4_method_1_code 26 = .ok (.multianewarray 18 2, 4) := by decide +kernel
theorem d_P_init_30 : decode prog_4_method_1_code 30 = .ok (.putfield 20, 3) := by decide +kernel
theorem d_P_init_33 : decode prog_4_method_1_code 33 = .ok (.aload_n 0, 1) := by decide +kernel
theorem d_P_init_34 : decode prog_4_method_1_code 34 = .ok (.iconst 2, 1) := by decide +kernel
theorem d_P_init_35 : decode prog_4_method_1_code 35 = .ok (.sipush 144, 3) := by decide +kernel
theorem d_P_init_38 : decode prog_4_method_1_code 38 = .ok (.multianewarray 18 2, 4) := by decide +kernel
theorem d_P_init_42 : decode prog_4_method_1_code 42 = .ok (.putfield 23, 3) := by decide +kernel
theorem d_P_init_45 : decode prog_4_method_1_code 45 = .ok (.return_, 1) := by decide +kernel
theorem d_R_init_0 : decode prog_5_method_1_code 0 = .ok (.aload_n 0, 1) := by decide +kernel
theorem d_R_init_1 : decode prog_5_method_1_code 1 = .ok (.invokespecial 3, 3) := by decide +kernel
theorem d_R_init_4 : decode prog_5_method_1_code 4 = .ok (.aload_n 0, 1) := by decide +kernel
theorem d_R_init_5 : decode prog_5_method_1_code 5 = .ok (.bipush 12, 2) := by decide +kernel
theorem d_R_init_7 : decode prog_5_method_1_code 7 = .ok (.newarray .int, 2) := by decide +kernel
theorem d_R_init_9 : decode prog_5_method_1_code 9 = .ok (.putfield 9, 3) := by decide +kernel
theorem d_R_init_12 : decode prog_5_method_1_code 12 = .ok (.return_, 1) := by decide +kernel
theorem d_X_net_0 : decode prog_1_method_2_code 0 = .ok (.aload_n 0, 1) := by decide +kernel
theorem d_X_net_1 : decode prog_1_method_2_code 1 = .ok (.getfield 12, 3) := by decide +kernel
theorem d_X_net_4 : decode prog_1_method_2_code 4 = .ok (.iload_n 1, 1) := by decide +kernel
theorem d_X_net_5 : decode prog_1_method_2_code 5 = .ok (.invokevirtual 44, 3) := by decide +kernel
theorem d_X_net_8 : decode prog_1_method_2_code 8 = .ok (.ireturn, 1) := by decide +kernel
theorem d_B_addNet_0 : decode prog_2_method_4_code 0 = .ok (.aload_n 0, 1) := by decide +kernel
theorem d_B_addNet_1 : decode prog_2_method_4_code 1 = .ok (.getfield 35, 3) := by decide +kernel
theorem d_B_addNet_4 : decode prog_2_method_4_code 4 = .ok (.bipush 12, 2) := by decide +kernel
theorem d_B_addNet_6 : decode prog_2_method_4_code 6 = .ok (.if_icmp .lt 5, 3) := by decide +kernel
theorem d_B_addNet_9 : decode prog_2_method_4_code 9 = .ok (.iconst (-1), 1) := by decide +kernel
theorem d_B_addNet_10 : decode prog_2_method_4_code 10 = .ok (.ireturn, 1) := by decide +kernel
theorem d_B_addNet_11 : decode prog_2_method_4_code 11 = .ok (.aload_n 0, 1) := by decide +kernel
theorem d_B_addNet_12 : decode prog_2_method_4_code 12 = .ok (.getfield 9, 3) := by decide +kernel
theorem d_B_addNet_15 : decode prog_2_method_4_code 15 = .ok (.aload_n 0, 1) := by decide +kernel
theorem d_B_addNet_16 : decode prog_2_method_4_code 16 = .ok (.getfield 35, 3) := by decide +kernel
theorem d_B_addNet_19 : decode prog_2_method_4_code 19 = .ok (.iload_n 1, 1) := by decide +kernel
theorem d_B_addNet_20 : decode prog_2_method_4_code 20 = .ok (.bastore, 1) := by decide +kernel
theorem d_B_addNet_21 : decode prog_2_method_4_code 21 = .ok (.aload_n 0, 1) := by decide +kernel
theorem d_B_addNet_22 : decode prog_2_method_4_code 22 = .ok (.dup, 1) := by decide +kernel
theorem d_B_addNet_23 : decode prog_2_method_4_code 23 = .ok (.getfield 35, 3) := by decide +kernel
theorem d_B_addNet_26 : decode prog_2_method_4_code 26 = .ok (.iconst 1, 1) := by decide +kernel
theorem d_B_addNet_27 : decode prog_2_method_4_code 27 = .ok (.iadd, 1) := by decide +kernel
theorem d_B_addNet_28 : decode prog_2_method_4_code 28 = .ok (.putfield 35, 3) := by decide +kernel
theorem d_B_addNet_31 : decode prog_2_method_4_code 31 = .ok (.aload_n 0, 1) := by decide +kernel
theorem d_B_addNet_32 : decode prog_2_method_4_code 32 = .ok (.getfield 35, 3) := by decide +kernel
theorem d_B_addNet_35 : decode prog_2_method_4_code 35 = .ok (.iconst 1, 1) := by decide +kernel
theorem d_B_addNet_36 : decode prog_2_method_4_code 36 = .ok (.isub, 1) := by decide +kernel
theorem d_B_addNet_37 : decode prog_2_method_4_code 37 = .ok (.ireturn, 1) := by decide +kernel
theorem d_X_probe_0 : decode prog_1_method_6_code 0 = .ok (.aload_n 0, 1) := by decide +kernel
theorem d_X_probe_1 : decode prog_1_method_6_code 1 = .ok (.getfield 26, 3) := by decide +kernel
theorem d_X_probe_4 : decode prog_1_method_6_code 4 = .ok (.getfield 97, 3) := by decide +kernel
theorem d_X_probe_7 : decode prog_1_method_6_code 7 = .ok (.aload_n 0, 1) := by decide +kernel
theorem d_X_probe_8 : decode prog_1_method_6_code 8 = .ok (.getfield 26, 3) := by decide +kernel
theorem d_X_probe_11 : decode prog_1_method_6_code 11 = .ok (.getfield 93, 3) := by decide +kernel
theorem d_X_probe_14 : decode prog_1_method_6_code 14 = .ok (.iload_n 1, 1) := by decide +kernel
theorem d_X_probe_15 : decode prog_1_method_6_code 15 = .ok (.invokestatic 101, 3) := by decide +kernel
theorem d_X_probe_18 : decode prog_1_method_6_code 18 = .ok (.ireturn, 1) := by decide +kernel
theorem d_X_nth_0 : decode prog_1_method_24_code 0 = .ok (.iload_n 2, 1) := by decide +kernel
theorem d_X_nth_1 : decode prog_1_method_24_code 1 = .ok (.ifCond .lt 20, 3) := by decide +kernel
theorem d_X_nth_4 : decode prog_1_method_24_code 4 = .ok (.iload_n 2, 1) := by decide +kernel
theorem d_X_nth_5 : decode prog_1_method_24_code 5 = .ok (.iload_n 1, 1) := by decide +kernel
theorem d_X_nth_6 : decode prog_1_method_24_code 6 = .ok (.if_icmp .ge 15, 3) := by decide +kernel
theorem d_X_nth_9 : decode prog_1_method_24_code 9 = .ok (.iload_n 2, 1) := by decide +kernel
theorem d_X_nth_10 : decode prog_1_method_24_code 10 = .ok (.aload_n 0, 1) := by decide +kernel
theorem d_X_nth_11 : decode prog_1_method_24_code 11 = .ok (.arraylength, 1) := by decide +kernel
theorem d_X_nth_12 : decode prog_1_method_24_code 12 = .ok (.if_icmp .ge 9, 3) := by decide +kernel
theorem d_X_nth_15 : decode prog_1_method_24_code 15 = .ok (.aload_n 0, 1) := by decide +kernel
theorem d_X_nth_16 : decode prog_1_method_24_code 16 = .ok (.iload_n 2, 1) := by decide +kernel
theorem d_X_nth_17 : decode prog_1_method_24_code 17 = .ok (.iaload, 1) := by decide +kernel
theorem d_X_nth_18 : decode prog_1_method_24_code 18 = .ok (.goto 4, 3) := by decide +kernel
theorem d_X_nth_21 : decode prog_1_method_24_code 21 = .ok (.iconst (-1), 1) := by decide +kernel
theorem d_X_nth_22 : decode prog_1_method_24_code 22 = .ok (.ireturn, 1) := by decide +kernel
theorem d_X_proved_0 : decode prog_1_method_7_code 0 = .ok (.aload_n 0, 1) := by decide +kernel
theorem d_X_proved_1 : decode prog_1_method_7_code 1 = .ok (.getfield 26, 3) := by decide +kernel
theorem d_X_proved_4 : decode prog_1_method_7_code 4 = .ok (.getfield 105, 3) := by decide +kernel
theorem d_X_proved_7 : decode prog_1_method_7_code 7 = .ok (.ireturn, 1) := by decide +kernel
theorem d_X_out_0 : decode prog_1_method_8_code 0 = .ok (.aload_n 0, 1) := by decide +kernel
theorem d_X_out_1 : decode prog_1_method_8_code 1 = .ok (.getfield 26, 3) := by decide +kernel
theorem d_X_out_4 : decode prog_1_method_8_code 4 = .ok (.getfield 109, 3) := by decide +kernel
theorem d_X_out_7 : decode prog_1_method_8_code 7 = .ok (.aload_n 0, 1) := by decide +kernel
theorem d_X_out_8 : decode prog_1_method_8_code 8 = .ok (.getfield 26, 3) := by decide +kernel
theorem d_X_out_11 : decode prog_1_method_8_code 11 = .ok (.getfield 112, 3) := by decide +kernel
theorem d_X_out_14 : decode prog_1_method_8_code 14 = .ok (.iload_n 1, 1) := by decide +kernel
theorem d_X_out_15 : decode prog_1_method_8_code 15 = .ok (.invokestatic 101, 3) := by decide +kernel
theorem d_X_out_18 : decode prog_1_method_8_code 18 = .ok (.ireturn, 1) := by decide +kernel
theorem d_X_suspects_0 : decode prog_1_method_13_code 0 = .ok (.aload_n 0, 1) := by decide +kernel
theorem d_X_suspects_1 : decode prog_1_method_13_code 1 = .ok (.getfield 40, 3) := by decide +kernel
theorem d_X_suspects_4 : decode prog_1_method_13_code 4 = .ok (.invokevirtual 152, 3) := by decide +kernel
theorem d_X_suspects_7 : decode prog_1_method_13_code 7 = .ok (.invokestatic 156, 3) := by decide +kernel
theorem d_X_suspects_10 : decode prog_1_method_13_code 10 = .ok (.ireturn, 1) := by decide +kernel
theorem d_R_smallestCover_0 : decode prog_5_method_4_code 0 = .ok (.aload_n 0, 1) := by decide +kernel
theorem d_R_smallestCover_1 : decode prog_5_method_4_code 1 = .ok (.getfield 19, 3) := by decide +kernel
theorem d_R_smallestCover_4 : decode prog_5_method_4_code 4 = .ok (.ifCond .eq 20, 3) := by decide +kernel
theorem d_R_smallestCover_7 : decode prog_5_method_4_code 7 = .ok (.aload_n 0, 1) := by decide +kernel
theorem d_R_smallestCover_8 : decode prog_5_method_4_code 8 = .ok (.bipush 13, 2) := by decide +kernel
theorem d_R_smallestCover_10 : decode prog_5_method_4_code 10 = .ok (.putfield 29, 3) := by decide +kernel
theorem d_R_smallestCover_13 : decode prog_5_method_4_code 13 = .ok (.aload_n 0, 1) := by decide +kernel
theorem d_R_smallestCover_14 : decode prog_5_method_4_code 14 = .ok (.iconst 0, 1) := by decide +kernel
theorem d_R_smallestCover_15 : decode prog_5_method_4_code 15 = .ok (.iconst 0, 1) := by decide +kernel
theorem d_R_smallestCover_16 : decode prog_5_method_4_code 16 = .ok (.invokestatic 33, 3) := by decide +kernel
theorem d_R_smallestCover_19 : decode prog_5_method_4_code 19 = .ok (.aload_n 0, 1) := by decide +kernel
theorem d_R_smallestCover_20 : decode prog_5_method_4_code 20 = .ok (.iconst 0, 1) := by decide +kernel
theorem d_R_smallestCover_21 : decode prog_5_method_4_code 21 = .ok (.putfield 19, 3) := by decide +kernel
theorem d_R_smallestCover_24 : decode prog_5_method_4_code 24 = .ok (.aload_n 0, 1) := by decide +kernel
theorem d_R_smallestCover_25 : decode prog_5_method_4_code 25 = .ok (.getfield 37, 3) := by decide +kernel
theorem d_R_smallestCover_28 : decode prog_5_method_4_code 28 = .ok (.ireturn, 1) := by decide +kernel
theorem d_R_explain_0 : decode prog_5_method_5_code 0 = .ok (.iload_n 2, 1) := by decide +kernel
theorem d_R_explain_1 : decode prog_5_method_5_code 1 = .ok (.invokestatic 23, 3) := by decide +kernel
theorem d_R_explain_4 : decode prog_5_method_5_code 4 = .ok (.aload_n 0, 1) := by decide +kernel
theorem d_R_explain_5 : decode prog_5_method_5_code 5 = .ok (.getfield 29, 3) := by decide +kernel
theorem d_R_explain_8 : decode prog_5_method_5_code 8 = .ok (.if_icmp .lt 4, 3) := by decide +kernel
theorem d_R_explain_11 : decode prog_5_method_5_code 11 = .ok (.return_, 1) := by decide +kernel
theorem d_R_explain_12 : decode prog_5_method_5_code 12 = .ok (.iload_n 1, 1) := by decide +kernel
theorem d_R_explain_13 : decode prog_5_method_5_code 13 = .ok (.bipush 12, 2) := by decide +kernel
theorem d_R_explain_15 : decode prog_5_method_5_code 15 = .ok (.if_icmp .lt 17, 3) := by decide +kernel
theorem d_R_explain_18 : decode prog_5_method_5_code 18 = .ok (.aload_n 0, 1) := by decide +kernel
theorem d_R_explain_19 : decode prog_5_method_5_code 19 = .ok (.iload_n 2, 1) := by decide +kernel
theorem d_R_explain_20 : decode prog_5_method_5_code 20 = .ok (.putfield 37, 3) := by decide +kernel
theorem d_R_explain_23 : decode prog_5_method_5_code 23 = .ok (.aload_n 0, 1) := by decide +kernel
theorem d_R_explain_24 : decode prog_5_method_5_code 24 = .ok (.iload_n 2, 1) := by decide +kernel
theorem d_R_explain_25 : decode prog_5_method_5_code 25 = .ok (.invokestatic 23, 3) := by decide +kernel
theorem d_R_explain_28 : decode prog_5_method_5_code 28 = .ok (.putfield 29, 3) := by decide +kernel
theorem d_R_explain_31 : decode prog_5_method_5_code 31 = .ok (.return_, 1) := by decide +kernel
theorem d_R_explain_32 : decode prog_5_method_5_code 32 = .ok (.iload_n 2, 1) := by decide +kernel
theorem d_R_explain_33 : decode prog_5_method_5_code 33 = .ok (.iload_n 1, 1) := by decide +kernel
theorem d_R_explain_34 : decode prog_5_method_5_code 34 = .ok (.invokestatic 15, 3) := by decide +kernel
theorem d_R_explain_37 : decode prog_5_method_5_code 37 = .ok (.ifCond .ne 16, 3) := by decide +kernel
theorem d_R_explain_40 : decode prog_5_method_5_code 40 = .ok (.aload_n 0, 1) := by decide +kernel
theorem d_R_explain_41 : decode prog_5_method_5_code 41 = .ok (.getfield 9, 3) := by decide +kernel
theorem d_R_explain_44 : decode prog_5_method_5_code 44 = .ok (.iload_n 1, 1) := by decide +kernel
theorem d_R_explain_45 : decode prog_5_method_5_code 45 = .ok (.iaload, 1) := by decide +kernel
theorem d_R_explain_46 : decode prog_5_method_5_code 46 = .ok (.iload_n 2, 1) := by decide +kernel
theorem d_R_explain_47 : decode prog_5_method_5_code 47 = .ok (.iconst (-1), 1) := by decide +kernel
theorem d_R_explain_48 : decode prog_5_method_5_code 48 = .ok (.ixor, 1) := by decide +kernel
theorem d_R_explain_49 : decode prog_5_method_5_code 49 = .ok (.iand, 1) := by decide +kernel
theorem d_R_explain_50 : decode prog_5_method_5_code 50 = .ok (.ifCond .ne 7, 3) := by decide +kernel
theorem d_R_explain_53 : decode prog_5_method_5_code 53 = .ok (.iconst 1, 1) := by decide +kernel
theorem d_R_explain_54 : decode prog_5_method_5_code 54 = .ok (.goto 4, 3) := by decide +kernel
theorem d_R_explain_57 : decode prog_5_method_5_code 57 = .ok (.iconst 0, 1) := by decide +kernel
theorem d_R_explain_58 : decode prog_5_method_5_code 58 = .ok (.istore_n 3, 1) := by decide +kernel
theorem d_R_explain_59 : decode prog_5_method_5_code 59 = .ok (.iload_n 3, 1) := by decide +kernel
theorem d_R_explain_60 : decode prog_5_method_5_code 60 = .ok (.ifCond .ne 15, 3) := by decide +kernel
theorem d_R_explain_63 : decode prog_5_method_5_code 63 = .ok (.aload_n 0, 1) := by decide +kernel
theorem d_R_explain_64 : decode prog_5_method_5_code 64 = .ok (.iload_n 1, 1) := by decide +kernel
theorem d_R_explain_65 : decode prog_5_method_5_code 65 = .ok (.iconst 1, 1) := by decide +kernel
theorem d_R_explain_66 : decode prog_5_method_5_code 66 = .ok (.iadd, 1) := by decide +kernel
theorem d_R_explain_67 : decode prog_5_method_5_code 67 = .ok (.iload_n 2, 1) := by decide +kernel
theorem d_R_explain_68 : decode prog_5_method_5_code 68 = .ok (.iconst 1, 1) := by decide +kernel
theorem d_R_explain_69 : decode prog_5_method_5_code 69 = .ok (.iload_n 1, 1) := by decide +kernel
theorem d_R_explain_70 : decode prog_5_method_5_code 70 = .ok (.ishl, 1) := by decide +kernel
theorem d_R_explain_71 : decode prog_5_method_5_code 71 = .ok (.ior, 1) := by decide +kernel
theorem d_R_explain_72 : decode prog_5_method_5_code 72 = .ok (.invokestatic 33, 3) := by decide +kernel
theorem d_R_explain_75 : decode prog_5_method_5_code 75 = .ok (.aload_n 0, 1) := by decide +kernel
theorem d_R_explain_76 : decode prog_5_method_5_code 76 = .ok (.iload_n 1, 1) := by decide +kernel
theorem d_R_explain_77 : decode prog_5_method_5_code 77 = .ok (.iconst 1, 1) := by decide +kernel
theorem d_R_explain_78 : decode prog_5_method_5_code 78 = .ok (.iadd, 1) := by decide +kernel
theorem d_R_explain_79 : decode prog_5_method_5_code 79 = .ok (.iload_n 3, 1) := by decide +kernel
theorem d_R_explain_80 : decode prog_5_method_5_code 80 = .ok (.ifCond .eq 7, 3) := by decide +kernel
theorem d_R_explain_83 : decode prog_5_method_5_code 83 = .ok (.iload_n 2, 1) := by decide +kernel
theorem d_R_explain_84 : decode prog_5_method_5_code 84 = .ok (.goto 11, 3) := by decide +kernel
theorem d_R_explain_87 : decode prog_5_method_5_code 87 = .ok (.iload_n 2, 1) := by decide +kernel
theorem d_R_explain_88 : decode prog_5_method_5_code 88 = .ok (.aload_n 0, 1) := by decide +kernel
theorem d_R_explain_89 : decode prog_5_method_5_code 89 = .ok (.getfield 9, 3) := by decide +kernel
theorem d_R_explain_92 : decode prog_5_method_5_code 92 = .ok (.iload_n 1, 1) := by decide +kernel
theorem d_R_explain_93 : decode prog_5_method_5_code 93 = .ok (.iaload, 1) := by decide +kernel
theorem d_R_explain_94 : decode prog_5_method_5_code 94 = .ok (.ior, 1) := by decide +kernel
theorem d_R_explain_95 : decode prog_5_method_5_code 95 = .ok (.invokestatic 33, 3) := by decide +kernel
theorem d_R_explain_98 : decode prog_5_method_5_code 98 = .ok (.return_, 1) := by decide +kernel
theorem d_JI_bitCount_0 : decode prog_13_method_49_code 0 = .ok (.iload_n 0, 1) := by decide +kernel
theorem d_JI_bitCount_1 : decode prog_13_method_49_code 1 = .ok (.iload_n 0, 1) := by decide +kernel
theorem d_JI_bitCount_2 : decode prog_13_method_49_code 2 = .ok (.iconst 1, 1) := by decide +kernel
theorem d_JI_bitCount_3 : decode prog_13_method_49_code 3 = .ok (.iushr, 1) := by decide +kernel
theorem d_JI_bitCount_4 : decode prog_13_method_49_code 4 = .ok (.ldc_w 265, 3) := by decide +kernel
theorem d_JI_bitCount_7 : decode prog_13_method_49_code 7 = .ok (.iand, 1) := by decide +kernel
theorem d_JI_bitCount_8 : decode prog_13_method_49_code 8 = .ok (.isub, 1) := by decide +kernel
theorem d_JI_bitCount_9 : decode prog_13_method_49_code 9 = .ok (.istore_n 0, 1) := by decide +kernel
theorem d_JI_bitCount_10 : decode prog_13_method_49_code 10 = .ok (.iload_n 0, 1) := by decide +kernel
theorem d_JI_bitCount_11 : decode prog_13_method_49_code 11 = .ok (.ldc_w 266, 3) := by decide +kernel
theorem d_JI_bitCount_14 : decode prog_13_method_49_code 14 = .ok (.iand, 1) := by decide +kernel
theorem d_JI_bitCount_15 : decode prog_13_method_49_code 15 = .ok (.iload_n 0, 1) := by decide +kernel
theorem d_JI_bitCount_16 : decode prog_13_method_49_code 16 = .ok (.iconst 2, 1) := by decide +kernel
theorem d_JI_bitCount_17 : decode prog_13_method_49_code 17 = .ok (.iushr, 1) := by decide +kernel
theorem d_JI_bitCount_18 : decode prog_13_method_49_code 18 = .ok (.ldc_w 266, 3) := by decide +kernel
theorem d_JI_bitCount_21 : decode prog_13_method_49_code 21 = .ok (.iand, 1) := by decide +kernel
theorem d_JI_bitCount_22 : decode prog_13_method_49_code 22 = .ok (.iadd, 1) := by decide +kernel
theorem d_JI_bitCount_23 : decode prog_13_method_49_code 23 = .ok (.istore_n 0, 1) := by decide +kernel
theorem d_JI_bitCount_24 : decode prog_13_method_49_code 24 = .ok (.iload_n 0, 1) := by decide +kernel
theorem d_JI_bitCount_25 : decode prog_13_method_49_code 25 = .ok (.iload_n 0, 1) := by decide +kernel
theorem d_JI_bitCount_26 : decode prog_13_method_49_code 26 = .ok (.iconst 4, 1) := by decide +kernel
theorem d_JI_bitCount_27 : decode prog_13_method_49_code 27 = .ok (.iushr, 1) := by decide +kernel
theorem d_JI_bitCount_28 : decode prog_13_method_49_code 28 = .ok (.iadd, 1) := by decide +kernel
theorem d_JI_bitCount_29 : decode prog_13_method_49_code 29 = .ok (.ldc_w 267, 3) := by decide +kernel
theorem d_JI_bitCount_32 : decode prog_13_method_49_code 32 = .ok (.iand, 1) := by decide +kernel
theorem d_JI_bitCount_33 : decode prog_13_method_49_code 33 = .ok (.istore_n 0, 1) := by decide +kernel
theorem d_JI_bitCount_34 : decode prog_13_method_49_code 34 = .ok (.iload_n 0, 1) := by decide +kernel
theorem d_JI_bitCount_35 : decode prog_13_method_49_code 35 = .ok (.iload_n 0, 1) := by decide +kernel
theorem d_JI_bitCount_36 : decode prog_13_method_49_code 36 = .ok (.bipush 8, 2) := by decide +kernel
theorem d_JI_bitCount_38 : decode prog_13_method_49_code 38 = .ok (.iushr, 1) := by decide +kernel
theorem d_JI_bitCount_39 : decode prog_13_method_49_code 39 = .ok (.iadd, 1) := by decide +kernel
theorem d_JI_bitCount_40 : decode prog_13_method_49_code 40 = .ok (.istore_n 0, 1) := by decide +kernel
theorem d_JI_bitCount_41 : decode prog_13_method_49_code 41 = .ok (.iload_n 0, 1) := by decide +kernel
theorem d_JI_bitCount_42 : decode prog_13_method_49_code 42 = .ok (.iload_n 0, 1) := by decide +kernel
theorem d_JI_bitCount_43 : decode prog_13_method_49_code 43 = .ok (.bipush 16, 2) := by decide +kernel
theorem d_JI_bitCount_45 : decode prog_13_method_49_code 45 = .ok (.iushr, 1) := by decide +kernel
theorem d_JI_bitCount_46 : decode prog_13_method_49_code 46 = .ok (.iadd, 1) := by decide +kernel
theorem d_JI_bitCount_47 : decode prog_13_method_49_code 47 = .ok (.istore_n 0, 1) := by decide +kernel
theorem d_JI_bitCount_48 : decode prog_13_method_49_code 48 = .ok (.iload_n 0, 1) := by decide +kernel
theorem d_JI_bitCount_49 : decode prog_13_method_49_code 49 = .ok (.bipush 63, 2) := by decide +kernel
theorem d_JI_bitCount_51 : decode prog_13_method_49_code 51 = .ok (.iand, 1) := by decide +kernel
theorem d_JI_bitCount_52 : decode prog_13_method_49_code 52 = .ok (.ireturn, 1) := by decide +kernel
theorem d_X_hasBit_0 : decode prog_1_method_26_code 0 = .ok (.iload_n 0, 1) := by decide +kernel
theorem d_X_hasBit_1 : decode prog_1_method_26_code 1 = .ok (.iload_n 1, 1) := by decide +kernel
theorem d_X_hasBit_2 : decode prog_1_method_26_code 2 = .ok (.ishr, 1) := by decide +kernel
theorem d_X_hasBit_3 : decode prog_1_method_26_code 3 = .ok (.iconst 1, 1) := by decide +kernel
theorem d_X_hasBit_4 : decode prog_1_method_26_code 4 = .ok (.iand, 1) := by decide +kernel
theorem d_X_hasBit_5 : decode prog_1_method_26_code 5 = .ok (.ifCond .eq 7, 3) := by decide +kernel
theorem d_X_hasBit_8 : decode prog_1_method_26_code 8 = .ok (.iconst 1, 1) := by decide +kernel
theorem d_X_hasBit_9 : decode prog_1_method_26_code 9 = .ok (.goto 4, 3) := by decide +kernel
theorem d_X_hasBit_12 : decode prog_1_method_26_code 12 = .ok (.iconst 0, 1) := by decide +kernel
theorem d_X_hasBit_13 : decode prog_1_method_26_code 13 = .ok (.ireturn, 1) := by decide +kernel
theorem d_X_fly_0 : decode prog_1_method_16_code 0 = .ok (.aload_n 0, 1) := by decide +kernel
theorem d_X_fly_1 : decode prog_1_method_16_code 1 = .ok (.getfield 26, 3) := by decide +kernel
theorem d_X_fly_4 : decode prog_1_method_16_code 4 = .ok (.getfield 167, 3) := by decide +kernel
theorem d_X_fly_7 : decode prog_1_method_16_code 7 = .ok (.aload_n 0, 1) := by decide +kernel
theorem d_X_fly_8 : decode prog_1_method_16_code 8 = .ok (.getfield 26, 3) := by decide +kernel
theorem d_X_fly_11 : decode prog_1_method_16_code 11 = .ok (.getfield 93, 3) := by decide +kernel
theorem d_X_fly_14 : decode prog_1_method_16_code 14 = .ok (.iload_n 1, 1) := by decide +kernel
theorem d_X_fly_15 : decode prog_1_method_16_code 15 = .ok (.invokestatic 101, 3) := by decide +kernel
theorem d_X_fly_18 : decode prog_1_method_16_code 18 = .ok (.ireturn, 1) := by decide +kernel
theorem d_X_seconds_0 : decode prog_1_method_17_code 0 = .ok (.aload_n 0, 1) := by decide +kernel
theorem d_X_seconds_1 : decode prog_1_method_17_code 1 = .ok (.getfield 26, 3) := by decide +kernel
theorem d_X_seconds_4 : decode prog_1_method_17_code 4 = .ok (.getfield 170, 3) := by decide +kernel
theorem d_X_seconds_7 : decode prog_1_method_17_code 7 = .ok (.lreturn, 1) := by decide +kernel
theorem d_X_forces_0 : decode prog_1_method_19_code 0 = .ok (.aload_n 0, 1) := by decide +kernel
theorem d_X_forces_1 : decode prog_1_method_19_code 1 = .ok (.getfield 26, 3) := by decide +kernel
theorem d_X_forces_4 : decode prog_1_method_19_code 4 = .ok (.aload_n 0, 1) := by decide +kernel
theorem d_X_forces_5 : decode prog_1_method_19_code 5 = .ok (.getfield 12, 3) := by decide +kernel
theorem d_X_forces_8 : decode prog_1_method_19_code 8 = .ok (.invokevirtual 186, 3) := by decide +kernel
theorem d_X_forces_11 : decode prog_1_method_19_code 11 = .ok (.lreturn, 1) := by decide +kernel
theorem d_X_order_0 : decode prog_1_method_21_code 0 = .ok (.aload_n 0, 1) := by decide +kernel
theorem d_X_order_1 : decode prog_1_method_21_code 1 = .ok (.getfield 26, 3) := by decide +kernel
theorem d_X_order_4 : decode prog_1_method_21_code 4 = .ok (.getfield 195, 3) := by decide +kernel
theorem d_X_order_7 : decode prog_1_method_21_code 7 = .ok (.aload_n 0, 1) := by decide +kernel
theorem d_X_order_8 : decode prog_1_method_21_code 8 = .ok (.getfield 26, 3) := by decide +kernel
theorem d_X_order_11 : decode prog_1_method_21_code 11 = .ok (.getfield 93, 3) := by decide +kernel
theorem d_X_order_14 : decode prog_1_method_21_code 14 = .ok (.iload_n 1, 1) := by decide +kernel
theorem d_X_order_15 : decode prog_1_method_21_code 15 = .ok (.invokestatic 101, 3) := by decide +kernel
theorem d_X_order_18 : decode prog_1_method_21_code 18 = .ok (.ireturn, 1) := by decide +kernel
theorem d_X_point_0 : decode prog_1_method_3_code 0 = .ok (.aload_n 0, 1) := by decide +kernel
theorem d_X_point_1 : decode prog_1_method_3_code 1 = .ok (.iload_n 1, 1) := by decide +kernel
theorem d_X_point_2 : decode prog_1_method_3_code 2 = .ok (.invokevirtual 48, 3) := by decide +kernel
theorem d_X_point_5 : decode prog_1_method_3_code 5 = .ok (.lload_n 2, 1) := by decide +kernel
theorem d_X_point_6 : decode prog_1_method_3_code 6 = .ok (.ldc2_w 52, 3) := by decide +kernel
theorem d_X_point_9 : decode prog_1_method_3_code 9 = .ok (.ldc2_w 54, 3) := by decide +kernel
theorem d_X_point_12 : decode prog_1_method_3_code 12 = .ok (.invokestatic 56, 3) := by decide +kernel
theorem d_X_point_15 : decode prog_1_method_3_code 15 = .ok (.ifCond .eq 17, 3) := by decide +kernel
theorem d_X_point_18 : decode prog_1_method_3_code 18 = .ok (.lload 4, 2) := by decide +kernel
theorem d_X_point_20 : decode prog_1_method_3_code 20 = .ok (.ldc2_w 52, 3) := by decide +kernel
theorem d_X_point_23 : decode prog_1_method_3_code 23 = .ok (.ldc2_w 54, 3) := by decide +kernel
theorem d_X_point_26 : decode prog_1_method_3_code 26 = .ok (.invokestatic 56, 3) := by decide +kernel
theorem d_X_point_29 : decode prog_1_method_3_code 29 = .ok (.ifCond .ne 13, 3) := by decide +kernel
theorem d_X_point_32 : decode prog_1_method_3_code 32 = .ok (.new 60, 3) := by decide +kernel
theorem d_X_point_35 : decode prog_1_method_3_code 35 = .ok (.dup, 1) := by decide +kernel
theorem d_X_point_36 : decode prog_1_method_3_code 36 = .ok (.ldc 62, 2) := by decide +kernel
theorem d_X_point_38 : decode prog_1_method_3_code 38 = .ok (.invokespecial 64, 3) := by decide +kernel
theorem d_X_point_41 : decode prog_1_method_3_code 41 = .ok (.athrow, 1) := by decide +kernel
theorem d_X_point_42 : decode prog_1_method_3_code 42 = .ok (.lload 6, 2) := by decide +kernel
theorem d_X_point_44 : decode prog_1_method_3_code 44 = .ok (.lconst 1, 1) := by decide +kernel
theorem d_X_point_45 : decode prog_1_method_3_code 45 = .ok (.ldc2_w 67, 3) := by decide +kernel
theorem d_X_point_48 : decode prog_1_method_3_code 48 = .ok (.invokestatic 56, 3) := by decide +kernel
theorem d_X_point_51 : decode prog_1_method_3_code 51 = .ok (.ifCond .ne 13, 3) := by decide +kernel
theorem d_X_point_54 : decode prog_1_method_3_code 54 = .ok (.new 60, 3) := by decide +kernel
theorem d_X_point_57 : decode prog_1_method_3_code 57 = .ok (.dup, 1) := by decide +kernel
theorem d_X_point_58 : decode prog_1_method_3_code 58 = .ok (.ldc 69, 2) := by decide +kernel
theorem d_X_point_60 : decode prog_1_method_3_code 60 = .ok (.invokespecial 64, 3) := by decide +kernel
theorem d_X_point_63 : decode prog_1_method_3_code 63 = .ok (.athrow, 1) := by decide +kernel
theorem d_X_point_64 : decode prog_1_method_3_code 64 = .ok (.aload_n 0, 1) := by decide +kernel
theorem d_X_point_65 : decode prog_1_method_3_code 65 = .ok (.getfield 12, 3) := by decide +kernel
theorem d_X_point_68 : decode prog_1_method_3_code 68 = .ok (.iload_n 1, 1) := by decide +kernel
theorem d_X_point_69 : decode prog_1_method_3_code 69 = .ok (.lload_n 2, 1) := by decide +kernel
theorem d_X_point_70 : decode prog_1_method_3_code 70 = .ok (.lload 4, 2) := by decide +kernel
theorem d_X_point_72 : decode prog_1_method_3_code 72 = .ok (.lload 6, 2) := by decide +kernel
theorem d_X_point_74 : decode prog_1_method_3_code 74 = .ok (.invokevirtual 71, 3) := by decide +kernel
theorem d_X_point_77 : decode prog_1_method_3_code 77 = .ok (.ireturn, 1) := by decide +kernel
theorem d_X_needNet_0 : decode prog_1_method_22_code 0 = .ok (.aload_n 0, 1) := by decide +kernel
theorem d_X_needNet_1 : decode prog_1_method_22_code 1 = .ok (.getfield 12, 3) := by decide +kernel
theorem d_X_needNet_4 : decode prog_1_method_22_code 4 = .ok (.iload_n 1, 1) := by decide +kernel
theorem d_X_needNet_5 : decode prog_1_method_22_code 5 = .ok (.invokevirtual 198, 3) := by decide +kernel
theorem d_X_needNet_8 : decode prog_1_method_22_code 8 = .ok (.ifCond .ne 13, 3) := by decide +kernel
theorem d_X_needNet_11 : decode prog_1_method_22_code 11 = .ok (.new 123, 3) := by decide +kernel
theorem d_X_needNet_14 : decode prog_1_method_22_code 14 = .ok (.dup, 1) := by decide +kernel
theorem d_X_needNet_15 : decode prog_1_method_22_code 15 = .ok (.ldc 201, 2) := by decide +kernel
theorem d_X_needNet_17 : decode prog_1_method_22_code 17 = .ok (.invokespecial 127, 3) := by decide +kernel
theorem d_X_needNet_20 : decode prog_1_method_22_code 20 = .ok (.athrow, 1) := by decide +kernel
theorem d_X_needNet_21 : decode prog_1_method_22_code 21 = .ok (.return_, 1) := by decide +kernel
theorem d_B_hasNet_0 : decode prog_2_method_2_code 0 = .ok (.iload_n 1, 1) := by decide +kernel
theorem d_B_hasNet_1 : decode prog_2_method_2_code 1 = .ok (.ifCond .lt 15, 3) := by decide +kernel
theorem d_B_hasNet_4 : decode prog_2_method_2_code 4 = .ok (.iload_n 1, 1) := by decide +kernel
theorem d_B_hasNet_5 : decode prog_2_method_2_code 5 = .ok (.aload_n 0, 1) := by decide +kernel
theorem d_B_hasNet_6 : decode prog_2_method_2_code 6 = .ok (.getfield 35, 3) := by decide +kernel
theorem d_B_hasNet_9 : decode prog_2_method_2_code 9 = .ok (.if_icmp .ge 7, 3) := by decide +kernel
theorem d_B_hasNet_12 : decode prog_2_method_2_code 12 = .ok (.iconst 1, 1) := by decide +kernel
theorem d_B_hasNet_13 : decode prog_2_method_2_code 13 = .ok (.goto 4, 3) := by decide +kernel
theorem d_B_hasNet_16 : decode prog_2_method_2_code 16 = .ok (.iconst 0, 1) := by decide +kernel
theorem d_B_hasNet_17 : decode prog_2_method_2_code 17 = .ok (.ireturn, 1) := by decide +kernel
theorem d_X_isWithin_0 : decode prog_1_method_23_code 0 = .ok (.lload_n 0, 1) := by decide +kernel
theorem d_X_isWithin_1 : decode prog_1_method_23_code 1 = .ok (.lload_n 2, 1) := by decide +kernel
theorem d_X_isWithin_2 : decode prog_1_method_23_code 2 = .ok (.lcmp, 1) := by decide +kernel
theorem d_X_isWithin_3 : decode prog_1_method_23_code 3 = .ok (.ifCond .lt 14, 3) := by decide +kernel
theorem d_X_isWithin_6 : decode prog_1_method_23_code 6 = .ok (.lload_n 0, 1) := by decide +kernel
theorem d_X_isWithin_7 : decode prog_1_method_23_code 7 = .ok (.lload 4, 2) := by decide +kernel
theorem d_X_isWithin_9 : decode prog_1_method_23_code 9 = .ok (.lcmp, 1) := by decide +kernel
theorem d_X_isWithin_10 : decode prog_1_method_23_code 10 = .ok (.ifCond .gt 7, 3) := by decide +kernel
theorem d_X_isWithin_13 : decode prog_1_method_23_code 13 = .ok (.iconst 1, 1) := by decide +kernel
theorem d_X_isWithin_14 : decode prog_1_method_23_code 14 = .ok (.goto 4, 3) := by decide +kernel
theorem d_X_isWithin_17 : decode prog_1_method_23_code 17 = .ok (.iconst 0, 1) := by decide +kernel
theorem d_X_isWithin_18 : decode prog_1_method_23_code 18 = .ok (.ireturn, 1) := by decide +kernel
theorem d_B_addPoint_0 : decode prog_2_method_5_code 0 = .ok (.aload_n 0, 1) := by decide +kernel
theorem d_B_addPoint_1 : decode prog_2_method_5_code 1 = .ok (.getfield 15, 3) := by decide +kernel
theorem d_B_addPoint_4 : decode prog_2_method_5_code 4 = .ok (.iload_n 1, 1) := by decide +kernel
theorem d_B_addPoint_5 : decode prog_2_method_5_code 5 = .ok (.iaload, 1) := by decide +kernel
theorem d_B_addPoint_6 : decode prog_2_method_5_code 6 = .ok (.iconst 3, 1) := by decide +kernel
theorem d_B_addPoint_7 : decode prog_2_method_5_code 7 = .ok (.if_icmp .ge 12, 3) := by decide +kernel
theorem d_B_addPoint_10 : decode prog_2_method_5_code 10 = .ok (.aload_n 0, 1) := by decide +kernel
theorem d_B_addPoint_11 : decode prog_2_method_5_code 11 = .ok (.getfield 39, 3) := by decide +kernel
theorem d_B_addPoint_14 : decode prog_2_method_5_code 14 = .ok (.bipush 36, 2) := by decide +kernel
theorem d_B_addPoint_16 : decode prog_2_method_5_code 16 = .ok (.if_icmp .lt 5, 3) := by decide +kernel
theorem d_B_addPoint_19 : decode prog_2_method_5_code 19 = .ok (.iconst (-1), 1) := by decide +kernel
theorem d_B_addPoint_20 : decode prog_2_method_5_code 20 = .ok (.ireturn, 1) := by decide +kernel
theorem d_B_addPoint_21 : decode prog_2_method_5_code 21 = .ok (.aload_n 0, 1) := by decide +kernel
theorem d_B_addPoint_22 : decode prog_2_method_5_code 22 = .ok (.getfield 39, 3) := by decide +kernel
theorem d_B_addPoint_25 : decode prog_2_method_5_code 25 = .ok (.istore 8, 2) := by decide +kernel
theorem d_B_addPoint_27 : decode prog_2_method_5_code 27 = .ok (.aload_n 0, 1) := by decide +kernel
theorem d_B_addPoint_28 : decode prog_2_method_5_code 28 = .ok (.getfield 22, 3) := by decide +kernel
theorem d_B_addPoint_31 : decode prog_2_method_5_code 31 = .ok (.iload 8, 2) := by decide +kernel
theorem d_B_addPoint_33 : decode prog_2_method_5_code 33 = .ok (.lload_n 2, 1) := by decide +kernel
theorem d_B_addPoint_34 : decode prog_2_method_5_code 34 = .ok (.lastore, 1) := by decide +kernel
theorem d_B_addPoint_35 : decode prog_2_method_5_code 35 = .ok (.aload_n 0, 1) := by decide +kernel
theorem d_B_addPoint_36 : decode prog_2_method_5_code 36 = .ok (.getfield 26, 3) := by decide +kernel
theorem d_B_addPoint_39 : decode prog_2_method_5_code 39 = .ok (.iload 8, 2) := by decide +kernel
theorem d_B_addPoint_41 : decode prog_2_method_5_code 41 = .ok (.lload 4, 2) := by decide +kernel
theorem d_B_addPoint_43 : decode prog_2_method_5_code 43 = .ok (.lastore, 1) := by decide +kernel
theorem d_B_addPoint_44 : decode prog_2_method_5_code 44 = .ok (.aload_n 0, 1) := by decide +kernel
theorem d_B_addPoint_45 : decode prog_2_method_5_code 45 = .ok (.getfield 29, 3) := by decide +kernel
theorem d_B_addPoint_48 : decode prog_2_method_5_code 48 = .ok (.iload 8, 2) := by decide +kernel
theorem d_B_addPoint_50 : decode prog_2_method_5_code 50 = .ok (.lload 6, 2) := by decide +kernel
theorem d_B_addPoint_52 : decode prog_2_method_5_code 52 = .ok (.lastore, 1) := by decide +kernel
theorem d_B_addPoint_53 : decode prog_2_method_5_code 53 = .ok (.aload_n 0, 1) := by decide +kernel
theorem d_B_addPoint_54 : decode prog_2_method_5_code 54 = .ok (.getfield 19, 3) := by decide +kernel
theorem d_B_addPoint_57 : decode prog_2_method_5_code 57 = .ok (.iload_n 1, 1) := by decide +kernel
theorem d_B_addPoint_58 : decode prog_2_method_5_code 58 = .ok (.iconst 3, 1) := by decide +kernel
theorem d_B_addPoint_59 : decode prog_2_method_5_code 59 = .ok (.imul, 1) := by decide +kernel
theorem d_B_addPoint_60 : decode prog_2_method_5_code 60 = .ok (.aload_n 0, 1) := by decide +kernel
theorem d_B_addPoint_61 : decode prog_2_method_5_code 61 = .ok (.getfield 15, 3) := by decide +kernel
theorem d_B_addPoint_64 : decode prog_2_method_5_code 64 = .ok (.iload_n 1, 1) := by decide +kernel
theorem d_B_addPoint_65 : decode prog_2_method_5_code 65 = .ok (.iaload, 1) := by decide +kernel
theorem d_B_addPoint_66 : decode prog_2_method_5_code 66 = .ok (.iadd, 1) := by decide +kernel
theorem d_B_addPoint_67 : decode prog_2_method_5_code 67 = .ok (.iload 8, 2) := by decide +kernel
theorem d_B_addPoint_69 : decode prog_2_method_5_code 69 = .ok (.iastore, 1) := by decide +kernel
theorem d_B_addPoint_70 : decode prog_2_method_5_code 70 = .ok (.aload_n 0, 1) := by decide +kernel
theorem d_B_addPoint_71 : decode prog_2_method_5_code 71 = .ok (.getfield 15, 3) := by decide +kernel
theorem d_B_addPoint_74 : decode prog_2_method_5_code 74 = .ok (.iload_n 1, 1) := by decide +kernel
theorem d_B_addPoint_75 : decode prog_2_method_5_code 75 = .ok (.dup2, 1) := by decide +kernel
theorem d_B_addPoint_76 : decode prog_2_method_5_code 76 = .ok (.iaload, 1) := by decide +kernel
theorem d_B_addPoint_77 : decode prog_2_method_5_code 77 = .ok (.iconst 1, 1) := by decide +kernel
theorem d_B_addPoint_78 : decode prog_2_method_5_code 78 = .ok (.iadd, 1) := by decide +kernel
theorem d_B_addPoint_79 : decode prog_2_method_5_code 79 = .ok (.iastore, 1) := by decide +kernel
theorem d_B_addPoint_80 : decode prog_2_method_5_code 80 = .ok (.aload_n 0, 1) := by decide +kernel
theorem d_B_addPoint_81 : decode prog_2_method_5_code 81 = .ok (.dup, 1) := by decide +kernel
theorem d_B_addPoint_82 : decode prog_2_method_5_code 82 = .ok (.getfield 39, 3) := by decide +kernel
theorem d_B_addPoint_85 : decode prog_2_method_5_code 85 = .ok (.iconst 1, 1) := by decide +kernel
theorem d_B_addPoint_86 : decode prog_2_method_5_code 86 = .ok (.iadd, 1) := by decide +kernel
theorem d_B_addPoint_87 : decode prog_2_method_5_code 87 = .ok (.putfield 39, 3) := by decide +kernel
theorem d_B_addPoint_90 : decode prog_2_method_5_code 90 = .ok (.iload 8, 2) := by decide +kernel
theorem d_B_addPoint_92 : decode prog_2_method_5_code 92 = .ok (.ireturn, 1) := by decide +kernel
theorem d_X_gap_0 : decode prog_1_method_4_code 0 = .ok (.lload_n 1, 1) := by decide +kernel
theorem d_X_gap_1 : decode prog_1_method_4_code 1 = .ok (.lconst 0, 1) := by decide +kernel
theorem d_X_gap_2 : decode prog_1_method_4_code 2 = .ok (.ldc2_w 54, 3) := by decide +kernel
theorem d_X_gap_5 : decode prog_1_method_4_code 5 = .ok (.invokestatic 56, 3) := by decide +kernel
theorem d_X_gap_8 : decode prog_1_method_4_code 8 = .ok (.ifCond .ne 13, 3) := by decide +kernel
theorem d_X_gap_11 : decode prog_1_method_4_code 11 = .ok (.new 60, 3) := by decide +kernel
theorem d_X_gap_14 : decode prog_1_method_4_code 14 = .ok (.dup, 1) := by decide +kernel
theorem d_X_gap_15 : decode prog_1_method_4_code 15 = .ok (.ldc 75, 2) := by decide +kernel
theorem d_X_gap_17 : decode prog_1_method_4_code 17 = .ok (.invokespecial 64, 3) := by decide +kernel
theorem d_X_gap_20 : decode prog_1_method_4_code 20 = .ok (.athrow, 1) := by decide +kernel
theorem d_X_gap_21 : decode prog_1_method_4_code 21 = .ok (.aload_n 0, 1) := by decide +kernel
theorem d_X_gap_22 : decode prog_1_method_4_code 22 = .ok (.getfield 12, 3) := by decide +kernel
theorem d_X_gap_25 : decode prog_1_method_4_code 25 = .ok (.lload_n 1, 1) := by decide +kernel
theorem d_X_gap_26 : decode prog_1_method_4_code 26 = .ok (.invokevirtual 77, 3) := by decide +kernel
theorem d_X_gap_29 : decode prog_1_method_4_code 29 = .ok (.ireturn, 1) := by decide +kernel
theorem d_B_setGap_0 : decode prog_2_method_6_code 0 = .ok (.lload_n 1, 1) := by decide +kernel
theorem d_B_setGap_1 : decode prog_2_method_6_code 1 = .ok (.aload_n 0, 1) := by decide +kernel
theorem d_B_setGap_2 : decode prog_2_method_6_code 2 = .ok (.getfield 42, 3) := by decide +kernel
theorem d_B_setGap_5 : decode prog_2_method_6_code 5 = .ok (.lcmp, 1) := by decide +kernel
theorem d_B_setGap_6 : decode prog_2_method_6_code 6 = .ok (.ifCond .eq 7, 3) := by decide +kernel
theorem d_B_setGap_9 : decode prog_2_method_6_code 9 = .ok (.iconst 1, 1) := by decide +kernel
theorem d_B_setGap_10 : decode prog_2_method_6_code 10 = .ok (.goto 4, 3) := by decide +kernel
theorem d_B_setGap_13 : decode prog_2_method_6_code 13 = .ok (.iconst 0, 1) := by decide +kernel
theorem d_B_setGap_14 : decode prog_2_method_6_code 14 = .ok (.istore_n 3, 1) := by decide +kernel
theorem d_B_setGap_15 : decode prog_2_method_6_code 15 = .ok (.aload_n 0, 1) := by decide +kernel
theorem d_B_setGap_16 : decode prog_2_method_6_code 16 = .ok (.lload_n 1, 1) := by decide +kernel
theorem d_B_setGap_17 : decode prog_2_method_6_code 17 = .ok (.putfield 42, 3) := by decide +kernel
theorem d_B_setGap_20 : decode prog_2_method_6_code 20 = .ok (.iload_n 3, 1) := by decide +kernel
theorem d_B_setGap_21 : decode prog_2_method_6_code 21 = .ok (.ireturn, 1) := by decide +kernel
theorem d_X_run_0 : decode prog_1_method_5_code 0 = .ok (.lload_n 1, 1) := by decide +kernel
theorem d_X_run_1 : decode prog_1_method_5_code 1 = .ok (.lconst 0, 1) := by decide +kernel
theorem d_X_run_2 : decode prog_1_method_5_code 2 = .ok (.ldc2_w 81, 3) := by decide +kernel
theorem d_X_run_5 : decode prog_1_method_5_code 5 = .ok (.invokestatic 56, 3) := by decide +kernel
theorem d_X_run_8 : decode prog_1_method_5_code 8 = .ok (.ifCond .ne 13, 3) := by decide +kernel
theorem d_X_run_11 : decode prog_1_method_5_code 11 = .ok (.new 60, 3) := by decide +kernel
theorem d_X_run_14 : decode prog_1_method_5_code 14 = .ok (.dup, 1) := by decide +kernel
theorem d_X_run_15 : decode prog_1_method_5_code 15 = .ok (.ldc 83, 2) := by decide +kernel
theorem d_X_run_17 : decode prog_1_method_5_code 17 = .ok (.invokespecial 64, 3) := by decide +kernel
theorem d_X_run_20 : decode prog_1_method_5_code 20 = .ok (.athrow, 1) := by decide +kernel
theorem d_X_run_21 : decode prog_1_method_5_code 21 = .ok (.aload_n 0, 1) := by decide +kernel
theorem d_X_run_22 : decode prog_1_method_5_code 22 = .ok (.getfield 19, 3) := by decide +kernel
theorem d_X_run_25 : decode prog_1_method_5_code 25 = .ok (.aload_n 0, 1) := by decide +kernel
theorem d_X_run_26 : decode prog_1_method_5_code 26 = .ok (.getfield 12, 3) := by decide +kernel
theorem d_X_run_29 : decode prog_1_method_5_code 29 = .ok (.lload_n 1, 1) := by decide +kernel
theorem d_X_run_30 : decode prog_1_method_5_code 30 = .ok (.l2i, 1) := by decide +kernel
theorem d_X_run_31 : decode prog_1_method_5_code 31 = .ok (.invokevirtual 85, 3) := by decide +kernel
theorem d_X_run_34 : decode prog_1_method_5_code 34 = .ok (.aload_n 0, 1) := by decide +kernel
theorem d_X_run_35 : decode prog_1_method_5_code 35 = .ok (.getfield 26, 3) := by decide +kernel
theorem d_X_run_38 : decode prog_1_method_5_code 38 = .ok (.aload_n 0, 1) := by decide +kernel
theorem d_X_run_39 : decode prog_1_method_5_code 39 = .ok (.getfield 12, 3) := by decide +kernel
theorem d_X_run_42 : decode prog_1_method_5_code 42 = .ok (.aload_n 0, 1) := by decide +kernel
theorem d_X_run_43 : decode prog_1_method_5_code 43 = .ok (.getfield 19, 3) := by decide +kernel
theorem d_X_run_46 : decode prog_1_method_5_code 46 = .ok (.invokevirtual 89, 3) := by decide +kernel
theorem d_X_run_49 : decode prog_1_method_5_code 49 = .ok (.aload_n 0, 1) := by decide +kernel
theorem d_X_run_50 : decode prog_1_method_5_code 50 = .ok (.getfield 26, 3) := by decide +kernel
theorem d_X_run_53 : decode prog_1_method_5_code 53 = .ok (.getfield 93, 3) := by decide +kernel
theorem d_X_run_56 : decode prog_1_method_5_code 56 = .ok (.ireturn, 1) := by decide +kernel
theorem d_JA_fill_0 : decode prog_19_method_103_code 0 = .ok (.iconst 0, 1) := by decide +kernel
theorem d_JA_fill_1 : decode prog_19_method_103_code 1 = .ok (.istore_n 2, 1) := by decide +kernel
theorem d_JA_fill_2 : decode prog_19_method_103_code 2 = .ok (.aload_n 0, 1) := by decide +kernel
theorem d_JA_fill_3 : decode prog_19_method_103_code 3 = .ok (.arraylength, 1) := by decide +kernel
theorem d_JA_fill_4 : decode prog_19_method_103_code 4 = .ok (.istore_n 3, 1) := by decide +kernel
theorem d_JA_fill_5 : decode prog_19_method_103_code 5 = .ok (.iload_n 2, 1) := by decide +kernel
theorem d_JA_fill_6 : decode prog_19_method_103_code 6 = .ok (.iload_n 3, 1) := by decide +kernel
theorem d_JA_fill_7 : decode prog_19_method_103_code 7 = .ok (.if_icmp .ge 13, 3) := by decide +kernel
theorem d_JA_fill_10 : decode prog_19_method_103_code 10 = .ok (.aload_n 0, 1) := by decide +kernel
theorem d_JA_fill_11 : decode prog_19_method_103_code 11 = .ok (.iload_n 2, 1) := by decide +kernel
theorem d_JA_fill_12 : decode prog_19_method_103_code 12 = .ok (.iload_n 1, 1) := by decide +kernel
theorem d_JA_fill_13 : decode prog_19_method_103_code 13 = .ok (.iastore, 1) := by decide +kernel
theorem d_JA_fill_14 : decode prog_19_method_103_code 14 = .ok (.iinc 2 1, 3) := by decide +kernel
theorem d_JA_fill_17 : decode prog_19_method_103_code 17 = .ok (.goto (-12), 3) := by decide +kernel
theorem d_JA_fill_20 : decode prog_19_method_103_code 20 = .ok (.return_, 1) := by decide +kernel
theorem d_B_canBothBeProbes_0 : decode prog_2_method_9_code 0 = .ok (.aload_n 0, 1) := by decide +kernel
theorem d_B_canBothBeProbes_1 : decode prog_2_method_9_code 1 = .ok (.getfield 42, 3) := by decide +kernel
theorem d_B_canBothBeProbes_4 : decode prog_2_method_9_code 4 = .ok (.aload_n 0, 1) := by decide +kernel
theorem d_B_canBothBeProbes_5 : decode prog_2_method_9_code 5 = .ok (.getfield 29, 3) := by decide +kernel
theorem d_B_canBothBeProbes_8 : decode prog_2_method_9_code 8 = .ok (.iload_n 1, 1) := by decide +kernel
theorem d_B_canBothBeProbes_9 : decode prog_2_method_9_code 9 = .ok (.laload, 1) := by decide +kernel
theorem d_B_canBothBeProbes_10 : decode prog_2_method_9_code 10 = .ok (.ladd, 1) := by decide +kernel
theorem d_B_canBothBeProbes_11 : decode prog_2_method_9_code 11 = .ok (.aload_n 0, 1) := by decide +kernel
theorem d_B_canBothBeProbes_12 : decode prog_2_method_9_code 12 = .ok (.getfield 29, 3) := by decide +kernel
theorem d_B_canBothBeProbes_15 : decode prog_2_method_9_code 15 = .ok (.iload_n 2, 1) := by decide +kernel
theorem d_B_canBothBeProbes_16 : decode prog_2_method_9_code 16 = .ok (.laload, 1) := by decide +kernel
theorem d_B_canBothBeProbes_17 : decode prog_2_method_9_code 17 = .ok (.ladd, 1) := by decide +kernel
theorem d_B_canBothBeProbes_18 : decode prog_2_method_9_code 18 = .ok (.lstore_n 3, 1) := by decide +kernel
theorem d_B_canBothBeProbes_19 : decode prog_2_method_9_code 19 = .ok (.aload_n 0, 1) := by decide +kernel
theorem d_B_canBothBeProbes_20 : decode prog_2_method_9_code 20 = .ok (.iload_n 1, 1) := by decide +kernel
theorem d_B_canBothBeProbes_21 : decode prog_2_method_9_code 21 = .ok (.aload_n 0, 1) := by decide +kernel
theorem d_B_canBothBeProbes_22 : decode prog_2_method_9_code 22 = .ok (.getfield 22, 3) := by decide +kernel
theorem d_B_canBothBeProbes_25 : decode prog_2_method_9_code 25 = .ok (.iload_n 2, 1) := by decide +kernel
theorem d_B_canBothBeProbes_26 : decode prog_2_method_9_code 26 = .ok (.laload, 1) := by decide +kernel
theorem d_B_canBothBeProbes_27 : decode prog_2_method_9_code 27 = .ok (.aload_n 0, 1) := by decide +kernel
theorem d_B_canBothBeProbes_28 : decode prog_2_method_9_code 28 = .ok (.getfield 26, 3) := by decide +kernel
theorem d_B_canBothBeProbes_31 : decode prog_2_method_9_code 31 = .ok (.iload_n 2, 1) := by decide +kernel
theorem d_B_canBothBeProbes_32 : decode prog_2_method_9_code 32 = .ok (.laload, 1) := by decide +kernel
theorem d_B_canBothBeProbes_33 : decode prog_2_method_9_code 33 = .ok (.invokevirtual 46, 3) := by decide +kernel
theorem d_B_canBothBeProbes_36 : decode prog_2_method_9_code 36 = .ok (.lload_n 3, 1) := by decide +kernel
theorem d_B_canBothBeProbes_37 : decode prog_2_method_9_code 37 = .ok (.lload_n 3, 1) := by decide +kernel
theorem d_B_canBothBeProbes_38 : decode prog_2_method_9_code 38 = .ok (.lmul, 1) := by decide +kernel
theorem d_B_canBothBeProbes_39 : decode prog_2_method_9_code 39 = .ok (.lcmp, 1) := by decide +kernel
theorem d_B_canBothBeProbes_40 : decode prog_2_method_9_code 40 = .ok (.ifCond .lt 7, 3) := by decide +kernel
theorem d_B_canBothBeProbes_43 : decode prog_2_method_9_code 43 = .ok (.iconst 1, 1) := by decide +kernel
theorem d_B_canBothBeProbes_44 : decode prog_2_method_9_code 44 = .ok (.goto 4, 3) := by decide +kernel
theorem d_B_canBothBeProbes_47 : decode prog_2_method_9_code 47 = .ok (.iconst 0, 1) := by decide +kernel
theorem d_B_canBothBeProbes_48 : decode prog_2_method_9_code 48 = .ok (.ireturn, 1) := by decide +kernel
theorem d_B_squareOfWay_0 : decode prog_2_method_10_code 0 = .ok (.aload_n 0, 1) := by decide +kernel
theorem d_B_squareOfWay_1 : decode prog_2_method_10_code 1 = .ok (.getfield 22, 3) := by decide +kernel
theorem d_B_squareOfWay_4 : decode prog_2_method_10_code 4 = .ok (.iload_n 1, 1) := by decide +kernel
theorem d_B_squareOfWay_5 : decode prog_2_method_10_code 5 = .ok (.laload, 1) := by decide +kernel
theorem d_B_squareOfWay_6 : decode prog_2_method_10_code 6 = .ok (.lload_n 2, 1) := by decide +kernel
theorem d_B_squareOfWay_7 : decode prog_2_method_10_code 7 = .ok (.lsub, 1) := by decide +kernel
theorem d_B_squareOfWay_8 : decode prog_2_method_10_code 8 = .ok (.lstore 6, 2) := by decide +kernel
theorem d_B_squareOfWay_10 : decode prog_2_method_10_code 10 = .ok (.aload_n 0, 1) := by decide +kernel
theorem d_B_squareOfWay_11 : decode prog_2_method_10_code 11 = .ok (.getfield 26, 3) := by decide +kernel
theorem d_B_squareOfWay_14 : decode prog_2_method_10_code 14 = .ok (.iload_n 1, 1) := by decide +kernel
theorem d_B_squareOfWay_15 : decode prog_2_method_10_code 15 = .ok (.laload, 1) := by decide +kernel
theorem d_B_squareOfWay_16 : decode prog_2_method_10_code 16 = .ok (.lload 4, 2) := by decide +kernel
theorem d_B_squareOfWay_18 : decode prog_2_method_10_code 18 = .ok (.lsub, 1) := by decide +kernel
theorem d_B_squareOfWay_19 : decode prog_2_method_10_code 19 = .ok (.lstore 8, 2) := by decide +kernel
theorem d_B_squareOfWay_21 : decode prog_2_method_10_code 21 = .ok (.lload 6, 2) := by decide +kernel
theorem d_B_squareOfWay_23 : decode prog_2_method_10_code 23 = .ok (.lload 6, 2) := by decide +kernel
theorem d_B_squareOfWay_25 : decode prog_2_method_10_code 25 = .ok (.lmul, 1) := by decide +kernel
theorem d_B_squareOfWay_26 : decode prog_2_method_10_code 26 = .ok (.lload 8, 2) := by decide +kernel
theorem d_B_squareOfWay_28 : decode prog_2_method_10_code 28 = .ok (.lload 8, 2) := by decide +kernel
theorem d_B_squareOfWay_30 : decode prog_2_method_10_code 30 = .ok (.lmul, 1) := by decide +kernel
theorem d_B_squareOfWay_31 : decode prog_2_method_10_code 31 = .ok (.ladd, 1) := by decide +kernel
theorem d_B_squareOfWay_32 : decode prog_2_method_10_code 32 = .ok (.lreturn, 1) := by decide +kernel
theorem d_B_countOfMust_0 : decode prog_2_method_8_code 0 = .ok (.iconst 0, 1) := by decide +kernel
theorem d_B_countOfMust_1 : decode prog_2_method_8_code 1 = .ok (.istore_n 1, 1) := by decide +kernel
theorem d_B_countOfMust_2 : decode prog_2_method_8_code 2 = .ok (.iconst 0, 1) := by decide +kernel
theorem d_B_countOfMust_3 : decode prog_2_method_8_code 3 = .ok (.istore_n 2, 1) := by decide +kernel
theorem d_B_countOfMust_4 : decode prog_2_method_8_code 4 = .ok (.iload_n 2, 1) := by decide +kernel
theorem d_B_countOfMust_5 : decode prog_2_method_8_code 5 = .ok (.aload_n 0, 1) := by decide +kernel
theorem d_B_countOfMust_6 : decode prog_2_method_8_code 6 = .ok (.getfield 35, 3) := by decide +kernel
theorem d_B_countOfMust_9 : decode prog_2_method_8_code 9 = .ok (.if_icmp .ge 21, 3) := by decide +kernel
theorem d_B_countOfMust_12 : decode prog_2_method_8_code 12 = .ok (.aload_n 0, 1) := by decide +kernel
theorem d_B_countOfMust_13 : decode prog_2_method_8_code 13 = .ok (.getfield 9, 3) := by decide +kernel
theorem d_B_countOfMust_16 : decode prog_2_method_8_code 16 = .ok (.iload_n 2, 1) := by decide +kernel
theorem d_B_countOfMust_17 : decode prog_2_method_8_code 17 = .ok (.baload, 1) := by decide +kernel
theorem d_B_countOfMust_18 : decode prog_2_method_8_code 18 = .ok (.ifCond .eq 6, 3) := by decide +kernel
theorem d_B_countOfMust_21 : decode prog_2_method_8_code 21 = .ok (.iinc 1 1, 3) := by decide +kernel
theorem d_B_countOfMust_24 : decode prog_2_method_8_code 24 = .ok (.iinc 2 1, 3) := by decide +kernel
theorem d_B_countOfMust_27 : decode prog_2_method_8_code 27 = .ok (.goto (-23), 3) := by decide +kernel
theorem d_B_countOfMust_30 : decode prog_2_method_8_code 30 = .ok (.iload_n 1, 1) := by decide +kernel
theorem d_B_countOfMust_31 : decode prog_2_method_8_code 31 = .ok (.ireturn, 1) := by decide +kernel
theorem d_JM_absL_0 : decode prog_14_method_61_code 0 = .ok (.lload_n 0, 1) := by decide +kernel
theorem d_JM_absL_1 : decode prog_14_method_61_code 1 = .ok (.lconst 0, 1) := by decide +kernel
theorem d_JM_absL_2 : decode prog_14_method_61_code 2 = .ok (.lcmp, 1) := by decide +kernel
theorem d_JM_absL_3 : decode prog_14_method_61_code 3 = .ok (.ifCond .ge 8, 3) := by decide +kernel
theorem d_JM_absL_6 : decode prog_14_method_61_code 6 = .ok (.lload_n 0, 1) := by decide +kernel
theorem d_JM_absL_7 : decode prog_14_method_61_code 7 = .ok (.lneg, 1) := by decide +kernel
theorem d_JM_absL_8 : decode prog_14_method_61_code 8 = .ok (.goto 4, 3) := by decide +kernel
theorem d_JM_absL_11 : decode prog_14_method_61_code 11 = .ok (.lload_n 0, 1) := by decide +kernel
theorem d_JM_absL_12 : decode prog_14_method_61_code 12 = .ok (.lreturn, 1) := by decide +kernel
theorem d_JM_maxL_0 : decode prog_14_method_66_code 0 = .ok (.lload_n 0, 1) := by decide +kernel
theorem d_JM_maxL_1 : decode prog_14_method_66_code 1 = .ok (.lload_n 2, 1) := by decide +kernel
theorem d_JM_maxL_2 : decode prog_14_method_66_code 2 = .ok (.lcmp, 1) := by decide +kernel
theorem d_JM_maxL_3 : decode prog_14_method_66_code 3 = .ok (.ifCond .lt 7, 3) := by decide +kernel
theorem d_JM_maxL_6 : decode prog_14_method_66_code 6 = .ok (.lload_n 0, 1) := by decide +kernel
theorem d_JM_maxL_7 : decode prog_14_method_66_code 7 = .ok (.goto 4, 3) := by decide +kernel
theorem d_JM_maxL_10 : decode prog_14_method_66_code 10 = .ok (.lload_n 2, 1) := by decide +kernel
theorem d_JM_maxL_11 : decode prog_14_method_66_code 11 = .ok (.lreturn, 1) := by decide +kernel
theorem d_B_isBeforeByPlace_0 : decode prog_2_method_11_code 0 = .ok (.aload_n 0, 1) := by decide +kernel
theorem d_B_isBeforeByPlace_1 : decode prog_2_method_11_code 1 = .ok (.getfield 22, 3) := by decide +kernel
theorem d_B_isBeforeByPlace_4 : decode prog_2_method_11_code 4 = .ok (.iload_n 1, 1) := by decide +kernel
theorem d_B_isBeforeByPlace_5 : decode prog_2_method_11_code 5 = .ok (.laload, 1) := by decide +kernel
theorem d_B_isBeforeByPlace_6 : decode prog_2_method_11_code 6 = .ok (.aload_n 0, 1) := by decide +kernel
theorem d_B_isBeforeByPlace_7 : decode prog_2_method_11_code 7 = .ok (.getfield 22, 3) := by decide +kernel
theorem d_B_isBeforeByPlace_10 : decode prog_2_method_11_code 10 = .ok (.iload_n 2, 1) := by decide +kernel
theorem d_B_isBeforeByPlace_11 : decode prog_2_method_11_code 11 = .ok (.laload, 1) := by decide +kernel
theorem d_B_isBeforeByPlace_12 : decode prog_2_method_11_code 12 = .ok (.lcmp, 1) := by decide +kernel
theorem d_B_isBeforeByPlace_13 : decode prog_2_method_11_code 13 = .ok (.ifCond .eq 25, 3) := by decide +kernel
theorem d_B_isBeforeByPlace_16 : decode prog_2_method_11_code 16 = .ok (.aload_n 0, 1) := by decide +kernel
theorem d_B_isBeforeByPlace_17 : decode prog_2_method_11_code 17 = .ok (.getfield 22, 3) := by decide +kernel
theorem d_B_isBeforeByPlace_20 : decode prog_2_method_11_code 20 = .ok (.iload_n 1, 1) := by decide +kernel
theorem d_B_isBeforeByPlace_21 : decode prog_2_method_11_code 21 = .ok (.laload, 1) := by decide +kernel
theorem d_B_isBeforeByPlace_22 : decode prog_2_method_11_code 22 = .ok (.aload_n 0, 1) := by decide +kernel
theorem d_B_isBeforeByPlace_23 : decode prog_2_method_11_code 23 = .ok (.getfield 22, 3) := by decide +kernel
theorem d_B_isBeforeByPlace_26 : decode prog_2_method_11_code 26 = .ok (.iload_n 2, 1) := by decide +kernel
theorem d_B_isBeforeByPlace_27 : decode prog_2_method_11_code 27 = .ok (.laload, 1) := by decide +kernel
theorem d_B_isBeforeByPlace_28 : decode prog_2_method_11_code 28 = .ok (.lcmp, 1) := by decide +kernel
theorem d_B_isBeforeByPlace_29 : decode prog_2_method_11_code 29 = .ok (.ifCond .ge 7, 3) := by decide +kernel
theorem d_B_isBeforeByPlace_32 : decode prog_2_method_11_code 32 = .ok (.iconst 1, 1) := by decide +kernel
theorem d_B_isBeforeByPlace_33 : decode prog_2_method_11_code 33 = .ok (.goto 4, 3) := by decide +kernel
theorem d_B_isBeforeByPlace_36 : decode prog_2_method_11_code 36 = .ok (.iconst 0, 1) := by decide +kernel
theorem d_B_isBeforeByPlace_37 : decode prog_2_method_11_code 37 = .ok (.ireturn, 1) := by decide +kernel
theorem d_B_isBeforeByPlace_38 : decode prog_2_method_11_code 38 = .ok (.aload_n 0, 1) := by decide +kernel
theorem d_B_isBeforeByPlace_39 : decode prog_2_method_11_code 39 = .ok (.getfield 26, 3) := by decide +kernel
theorem d_B_isBeforeByPlace_42 : decode prog_2_method_11_code 42 = .ok (.iload_n 1, 1) := by decide +kernel
theorem d_B_isBeforeByPlace_43 : decode prog_2_method_11_code 43 = .ok (.laload, 1) := by decide +kernel
theorem d_B_isBeforeByPlace_44 : decode prog_2_method_11_code 44 = .ok (.aload_n 0, 1) := by decide +kernel
theorem d_B_isBeforeByPlace_45 : decode prog_2_method_11_code 45 = .ok (.getfield 26, 3) := by decide +kernel
theorem d_B_isBeforeByPlace_48 : decode prog_2_method_11_code 48 = .ok (.iload_n 2, 1) := by decide +kernel
theorem d_B_isBeforeByPlace_49 : decode prog_2_method_11_code 49 = .ok (.laload, 1) := by decide +kernel
theorem d_B_isBeforeByPlace_50 : decode prog_2_method_11_code 50 = .ok (.lcmp, 1) := by decide +kernel
theorem d_B_isBeforeByPlace_51 : decode prog_2_method_11_code 51 = .ok (.ifCond .eq 27, 3) := by decide +kernel
theorem d_B_isBeforeByPlace_54 : decode prog_2_method_11_code 54 = .ok (.aload_n 0, 1) := by decide +kernel
theorem d_B_isBeforeByPlace_55 : decode prog_2_method_11_code 55 = .ok (.getfield 26, 3) := by decide +kernel
theorem d_B_isBeforeByPlace_58 : decode prog_2_method_11_code 58 = .ok (.iload_n 1, 1) := by decide +kernel
theorem d_B_isBeforeByPlace_59 : decode prog_2_method_11_code 59 = .ok (.laload, 1) := by decide +kernel
theorem d_B_isBeforeByPlace_60 : decode prog_2_method_11_code 60 = .ok (.aload_n 0, 1) := by decide +kernel
theorem d_B_isBeforeByPlace_61 : decode prog_2_method_11_code 61 = .ok (.getfield 26, 3) := by decide +kernel
theorem d_B_isBeforeByPlace_64 : decode prog_2_method_11_code 64 = .ok (.iload_n 2, 1) := by decide +kernel
theorem d_B_isBeforeByPlace_65 : decode prog_2_method_11_code 65 = .ok (.laload, 1) := by decide +kernel
theorem d_B_isBeforeByPlace_66 : decode prog_2_method_11_code 66 = .ok (.lcmp, 1) := by decide +kernel
theorem d_B_isBeforeByPlace_67 : decode prog_2_method_11_code 67 = .ok (.ifCond .ge 7, 3) := by decide +kernel
theorem d_B_isBeforeByPlace_70 : decode prog_2_method_11_code 70 = .ok (.iconst 1, 1) := by decide +kernel
theorem d_B_isBeforeByPlace_71 : decode prog_2_method_11_code 71 = .ok (.goto 17, 3) := by decide +kernel
theorem d_B_isBeforeByPlace_74 : decode prog_2_method_11_code 74 = .ok (.iconst 0, 1) := by decide +kernel
theorem d_B_isBeforeByPlace_75 : decode prog_2_method_11_code 75 = .ok (.goto 13, 3) := by decide +kernel
theorem d_B_isBeforeByPlace_78 : decode prog_2_method_11_code 78 = .ok (.iload_n 1, 1) := by decide +kernel
theorem d_B_isBeforeByPlace_79 : decode prog_2_method_11_code 79 = .ok (.iload_n 2, 1) := by decide +kernel
theorem d_B_isBeforeByPlace_80 : decode prog_2_method_11_code 80 = .ok (.if_icmp .ge 7, 3) := by decide +kernel
theorem d_B_isBeforeByPlace_83 : decode prog_2_method_11_code 83 = .ok (.iconst 1, 1) := by decide +kernel
theorem d_B_isBeforeByPlace_84 : decode prog_2_method_11_code 84 = .ok (.goto 4, 3) := by decide +kernel
theorem d_B_isBeforeByPlace_87 : decode prog_2_method_11_code 87 = .ok (.iconst 0, 1) := by decide +kernel
theorem d_B_isBeforeByPlace_88 : decode prog_2_method_11_code 88 = .ok (.ireturn, 1) := by decide +kernel
theorem d_X_part_0 : decode prog_1_method_9_code 0 = .ok (.aload_n 0, 1) := by decide +kernel
theorem d_X_part_1 : decode prog_1_method_9_code 1 = .ok (.iload_n 1, 1) := by decide +kernel
theorem d_X_part_2 : decode prog_1_method_9_code 2 = .ok (.invokevirtual 48, 3) := by decide +kernel
theorem d_X_part_5 : decode prog_1_method_9_code 5 = .ok (.aload_n 0, 1) := by decide +kernel
theorem d_X_part_6 : decode prog_1_method_9_code 6 = .ok (.iload_n 2, 1) := by decide +kernel
theorem d_X_part_7 : decode prog_1_method_9_code 7 = .ok (.invokevirtual 48, 3) := by decide +kernel
theorem d_X_part_10 : decode prog_1_method_9_code 10 = .ok (.lload_n 3, 1) := by decide +kernel
theorem d_X_part_11 : decode prog_1_method_9_code 11 = .ok (.lconst 1, 1) := by decide +kernel
theorem d_X_part_12 : decode prog_1_method_9_code 12 = .ok (.ldc2_w 115, 3) := by decide +kernel
theorem d_X_part_15 : decode prog_1_method_9_code 15 = .ok (.invokestatic 56, 3) := by decide +kernel
theorem d_X_part_18 : decode prog_1_method_9_code 18 = .ok (.ifCond .eq 15, 3) := by decide +kernel
theorem d_X_part_21 : decode prog_1_method_9_code 21 = .ok (.lload 5, 2) := by decide +kernel
theorem d_X_part_23 : decode prog_1_method_9_code 23 = .ok (.lload_n 3, 1) := by decide +kernel
theorem d_X_part_24 : decode prog_1_method_9_code 24 = .ok (.ldc2_w 115, 3) := by decide +kernel
theorem d_X_part_27 : decode prog_1_method_9_code 27 = .ok (.invokestatic 56, 3) := by decide +kernel
theorem d_X_part_30 : decode prog_1_method_9_code 30 = .ok (.ifCond .ne 13, 3) := by decide +kernel
theorem d_X_part_33 : decode prog_1_method_9_code 33 = .ok (.new 60, 3) := by decide +kernel
theorem d_X_part_36 : decode prog_1_method_9_code 36 = .ok (.dup, 1) := by decide +kernel
theorem d_X_part_37 : decode prog_1_method_9_code 37 = .ok (.ldc 117, 2) := by decide +kernel
theorem d_X_part_39 : decode prog_1_method_9_code 39 = .ok (.invokespecial 64, 3) := by decide +kernel
theorem d_X_part_42 : decode prog_1_method_9_code 42 = .ok (.athrow, 1) := by decide +kernel
theorem d_X_part_43 : decode prog_1_method_9_code 43 = .ok (.iload_n 1, 1) := by decide +kernel
theorem d_X_part_44 : decode prog_1_method_9_code 44 = .ok (.iload_n 2, 1) := by decide +kernel
theorem d_X_part_45 : decode prog_1_method_9_code 45 = .ok (.if_icmp .eq 22, 3) := by decide +kernel
theorem d_X_part_48 : decode prog_1_method_9_code 48 = .ok (.aload_n 0, 1) := by decide +kernel
theorem d_X_part_49 : decode prog_1_method_9_code 49 = .ok (.getfield 33, 3) := by decide +kernel
theorem d_X_part_52 : decode prog_1_method_9_code 52 = .ok (.iload_n 1, 1) := by decide +kernel
theorem d_X_part_53 : decode prog_1_method_9_code 53 = .ok (.iload_n 2, 1) := by decide +kernel
theorem d_X_part_54 : decode prog_1_method_9_code 54 = .ok (.lload_n 3, 1) := by decide +kernel
theorem d_X_part_55 : decode prog_1_method_9_code 55 = .ok (.lload 5, 2) := by decide +kernel
theorem d_X_part_57 : decode prog_1_method_9_code 57 = .ok (.invokevirtual 119, 3) := by decide +kernel
theorem d_X_part_60 : decode prog_1_method_9_code 60 = .ok (.ifCond .eq 7, 3) := by decide +kernel
theorem d_X_part_63 : decode prog_1_method_9_code 63 = .ok (.iconst 1, 1) := by decide +kernel
theorem d_X_part_64 : decode prog_1_method_9_code 64 = .ok (.goto 4, 3) := by decide +kernel
theorem d_X_part_67 : decode prog_1_method_9_code 67 = .ok (.iconst 0, 1) := by decide +kernel
theorem d_X_part_68 : decode prog_1_method_9_code 68 = .ok (.ireturn, 1) := by decide +kernel
theorem d_P_add_0 : decode prog_4_method_2_code 0 = .ok (.iload_n 1, 1) := by decide +kernel
theorem d_P_add_1 : decode prog_4_method_2_code 1 = .ok (.iload_n 2, 1) := by decide +kernel
theorem d_P_add_2 : decode prog_4_method_2_code 2 = .ok (.invokestatic 26, 3) := by decide +kernel
theorem d_P_add_5 : decode prog_4_method_2_code 5 = .ok (.istore 7, 2) := by decide +kernel
theorem d_P_add_7 : decode prog_4_method_2_code 7 = .ok (.aload_n 0, 1) := by decide +kernel
theorem d_P_add_8 : decode prog_4_method_2_code 8 = .ok (.getfield 11, 3) := by decide +kernel
theorem d_P_add_11 : decode prog_4_method_2_code 11 = .ok (.iload 7, 2) := by decide +kernel
theorem d_P_add_13 : decode prog_4_method_2_code 13 = .ok (.iaload, 1) := by decide +kernel
theorem d_P_add_14 : decode prog_4_method_2_code 14 = .ok (.iconst 4, 1) := by decide +kernel
theorem d_P_add_15 : decode prog_4_method_2_code 15 = .ok (.if_icmp .lt 5, 3) := by decide +kernel
theorem d_P_add_18 : decode prog_4_method_2_code 18 = .ok (.iconst 0, 1) := by decide +kernel
theorem d_P_add_19 : decode prog_4_method_2_code 19 = .ok (.ireturn, 1) := by decide +kernel
theorem d_P_add_20 : decode prog_4_method_2_code 20 = .ok (.aload_n 0, 1) := by decide +kernel
theorem d_P_add_21 : decode prog_4_method_2_code 21 = .ok (.iconst 0, 1) := by decide +kernel
theorem d_P_add_22 : decode prog_4_method_2_code 22 = .ok (.iload 7, 2) := by decide +kernel
theorem d_P_add_24 : decode prog_4_method_2_code 24 = .ok (.lload_n 3, 1) := by decide +kernel
theorem d_P_add_25 : decode prog_4_method_2_code 25 = .ok (.invokevirtual 30, 3) := by decide +kernel
theorem d_P_add_28 : decode prog_4_method_2_code 28 = .ok (.aload_n 0, 1) := by decide +kernel
theorem d_P_add_29 : decode prog_4_method_2_code 29 = .ok (.iconst 1, 1) := by decide +kernel
theorem d_P_add_30 : decode prog_4_method_2_code 30 = .ok (.iload 7, 2) := by decide +kernel
theorem d_P_add_32 : decode prog_4_method_2_code 32 = .ok (.lload 5, 2) := by decide +kernel
theorem d_P_add_34 : decode prog_4_method_2_code 34 = .ok (.invokevirtual 30, 3) := by decide +kernel
theorem d_P_add_37 : decode prog_4_method_2_code 37 = .ok (.aload_n 0, 1) := by decide +kernel
theorem d_P_add_38 : decode prog_4_method_2_code 38 = .ok (.getfield 11, 3) := by decide +kernel
theorem d_P_add_41 : decode prog_4_method_2_code 41 = .ok (.iload 7, 2) := by decide +kernel
theorem d_P_add_43 : decode prog_4_method_2_code 43 = .ok (.dup2, 1) := by decide +kernel
theorem d_P_add_44 : decode prog_4_method_2_code 44 = .ok (.iaload, 1) := by decide +kernel
theorem d_P_add_45 : decode prog_4_method_2_code 45 = .ok (.iconst 1, 1) := by decide +kernel
theorem d_P_add_46 : decode prog_4_method_2_code 46 = .ok (.iadd, 1) := by decide +kernel
theorem d_P_add_47 : decode prog_4_method_2_code 47 = .ok (.iastore, 1) := by decide +kernel
theorem d_P_add_48 : decode prog_4_method_2_code 48 = .ok (.aload_n 0, 1) := by decide +kernel
theorem d_P_add_49 : decode prog_4_method_2_code 49 = .ok (.getfield 15, 3) := by decide +kernel
theorem d_P_add_52 : decode prog_4_method_2_code 52 = .ok (.iload_n 1, 1) := by decide +kernel
theorem d_P_add_53 : decode prog_4_method_2_code 53 = .ok (.dup2, 1) := by decide +kernel
theorem d_P_add_54 : decode prog_4_method_2_code 54 = .ok (.iaload, 1) := by decide +kernel
theorem d_P_add_55 : decode prog_4_method_2_code 55 = .ok (.iconst 1, 1) := by decide +kernel
theorem d_P_add_56 : decode prog_4_method_2_code 56 = .ok (.iload_n 2, 1) := by decide +kernel
theorem d_P_add_57 : decode prog_4_method_2_code 57 = .ok (.ishl, 1) := by decide +kernel
theorem d_P_add_58 : decode prog_4_method_2_code 58 = .ok (.ior, 1) := by decide +kernel
theorem d_P_add_59 : decode prog_4_method_2_code 59 = .ok (.iastore, 1) := by decide +kernel
theorem d_P_add_60 : decode prog_4_method_2_code 60 = .ok (.aload_n 0, 1) := by decide +kernel
theorem d_P_add_61 : decode prog_4_method_2_code 61 = .ok (.getfield 15, 3) := by decide +kernel
theorem d_P_add_64 : decode prog_4_method_2_code 64 = .ok (.iload_n 2, 1) := by decide +kernel
theorem d_P_add_65 : decode prog_4_method_2_code 65 = .ok (.dup2, 1) := by decide +kernel
theorem d_P_add_66 : decode prog_4_method_2_code 66 = .ok (.iaload, 1) := by decide +kernel
theorem d_P_add_67 : decode prog_4_method_2_code 67 = .ok (.iconst 1, 1) := by decide +kernel
theorem d_P_add_68 : decode prog_4_method_2_code 68 = .ok (.iload_n 1, 1) := by decide +kernel
theorem d_P_add_69 : decode prog_4_method_2_code 69 = .ok (.ishl, 1) := by decide +kernel
theorem d_P_add_70 : decode prog_4_method_2_code 70 = .ok (.ior, 1) := by decide +kernel
theorem d_P_add_71 : decode prog_4_method_2_code 71 = .ok (.iastore, 1) := by decide +kernel
theorem d_P_add_72 : decode prog_4_method_2_code 72 = .ok (.iconst 1, 1) := by decide +kernel
theorem d_P_add_73 : decode prog_4_method_2_code 73 = .ok (.ireturn, 1) := by decide +kernel
theorem d_P_pairOf_0 : decode prog_4_method_7_code 0 = .ok (.iload_n 0, 1) := by decide +kernel
theorem d_P_pairOf_1 : decode prog_4_method_7_code 1 = .ok (.iload_n 1, 1) := by decide +kernel
theorem d_P_pairOf_2 : decode prog_4_method_7_code 2 = .ok (.invokestatic 47, 3) := by decide +kernel
theorem d_P_pairOf_5 : decode prog_4_method_7_code 5 = .ok (.bipush 12, 2) := by decide +kernel
theorem d_P_pairOf_7 : decode prog_4_method_7_code 7 = .ok (.imul, 1) := by decide +kernel
theorem d_P_pairOf_8 : decode prog_4_method_7_code 8 = .ok (.iload_n 0, 1) := by decide +kernel
theorem d_P_pairOf_9 : decode prog_4_method_7_code 9 = .ok (.iload_n 1, 1) := by decide +kernel
theorem d_P_pairOf_10 : decode prog_4_method_7_code 10 = .ok (.invokestatic 50, 3) := by decide +kernel
theorem d_P_pairOf_13 : decode prog_4_method_7_code 13 = .ok (.iadd, 1) := by decide +kernel
theorem d_P_pairOf_14 : decode prog_4_method_7_code 14 = .ok (.ireturn, 1) := by decide +kernel
theorem d_JM_min_0 : decode prog_14_method_69_code 0 = .ok (.iload_n 0, 1) := by decide +kernel
theorem d_JM_min_1 : decode prog_14_method_69_code 1 = .ok (.iload_n 1, 1) := by decide +kernel
theorem d_JM_min_2 : decode prog_14_method_69_code 2 = .ok (.if_icmp .gt 7, 3) := by decide +kernel
theorem d_JM_min_5 : decode prog_14_method_69_code 5 = .ok (.iload_n 0, 1) := by decide +kernel
theorem d_JM_min_6 : decode prog_14_method_69_code 6 = .ok (.goto 4, 3) := by decide +kernel
theorem d_JM_min_9 : decode prog_14_method_69_code 9 = .ok (.iload_n 1, 1) := by decide +kernel
theorem d_JM_min_10 : decode prog_14_method_69_code 10 = .ok (.ireturn, 1) := by decide +kernel
theorem d_JM_max_0 : decode prog_14_method_65_code 0 = .ok (.iload_n 0, 1) := by decide +kernel
theorem d_JM_max_1 : decode prog_14_method_65_code 1 = .ok (.iload_n 1, 1) := by decide +kernel
theorem d_JM_max_2 : decode prog_14_method_65_code 2 = .ok (.if_icmp .lt 7, 3) := by decide +kernel
theorem d_JM_max_5 : decode prog_14_method_65_code 5 = .ok (.iload_n 0, 1) := by decide +kernel
theorem d_JM_max_6 : decode prog_14_method_65_code 6 = .ok (.goto 4, 3) := by decide +kernel
theorem d_JM_max_9 : decode prog_14_method_65_code 9 = .ok (.iload_n 1, 1) := by decide +kernel
theorem d_JM_max_10 : decode prog_14_method_65_code 10 = .ok (.ireturn, 1) := by decide +kernel
theorem d_P_addInverse_0 : decode prog_4_method_6_code 0 = .ok (.aload_n 0, 1) := by decide +kernel
theorem d_P_addInverse_1 : decode prog_4_method_6_code 1 = .ok (.getfield 11, 3) := by decide +kernel
theorem d_P_addInverse_4 : decode prog_4_method_6_code 4 = .ok (.iload_n 2, 1) := by decide +kernel
theorem d_P_addInverse_5 : decode prog_4_method_6_code 5 = .ok (.iaload, 1) := by decide +kernel
theorem d_P_addInverse_6 : decode prog_4_method_6_code 6 = .ok (.ifCond .ne 7, 3) := by decide +kernel
theorem d_P_addInverse_9 : decode prog_4_method_6_code 9 = .ok (.lconst 1, 1) := by decide +kernel
theorem d_P_addInverse_10 : decode prog_4_method_6_code 10 = .ok (.goto 11, 3) := by decide +kernel
theorem d_P_addInverse_13 : decode prog_4_method_6_code 13 = .ok (.aload_n 0, 1) := by decide +kernel
theorem d_P_addInverse_14 : decode prog_4_method_6_code 14 = .ok (.getfield 23, 3) := by decide +kernel
theorem d_P_addInverse_17 : decode prog_4_method_6_code 17 = .ok (.iload_n 1, 1) := by decide +kernel
theorem d_P_addInverse_18 : decode prog_4_method_6_code 18 = .ok (.aaload, 1) := by decide +kernel
theorem d_P_addInverse_19 : decode prog_4_method_6_code 19 = .ok (.iload_n 2, 1) := by decide +kernel
theorem d_P_addInverse_20 : decode prog_4_method_6_code 20 = .ok (.laload, 1) := by decide +kernel
theorem d_P_addInverse_21 : decode prog_4_method_6_code 21 = .ok (.lstore 5, 2) := by decide +kernel
theorem d_P_addInverse_23 : decode prog_4_method_6_code 23 = .ok (.aload_n 0, 1) := by decide +kernel
theorem d_P_addInverse_24 : decode prog_4_method_6_code 24 = .ok (.getfield 20, 3) := by decide +kernel
theorem d_P_addInverse_27 : decode prog_4_method_6_code 27 = .ok (.iload_n 1, 1) := by decide +kernel
theorem d_P_addInverse_28 : decode prog_4_method_6_code 28 = .ok (.aaload, 1) := by decide +kernel
theorem d_P_addInverse_29 : decode prog_4_method_6_code 29 = .ok (.iload_n 2, 1) := by decide +kernel
theorem d_P_addInverse_30 : decode prog_4_method_6_code 30 = .ok (.aload_n 0, 1) := by decide +kernel
theorem d_P_addInverse_31 : decode prog_4_method_6_code 31 = .ok (.getfield 20, 3) := by decide +kernel
theorem d_P_addInverse_34 : decode prog_4_method_6_code 34 = .ok (.iload_n 1, 1) := by decide +kernel
theorem d_P_addInverse_35 : decode prog_4_method_6_code 35 = .ok (.aaload, 1) := by decide +kernel
theorem d_P_addInverse_36 : decode prog_4_method_6_code 36 = .ok (.iload_n 2, 1) := by decide +kernel
theorem d_P_addInverse_37 : decode prog_4_method_6_code 37 = .ok (.laload, 1) := by decide +kernel
theorem d_P_addInverse_38 : decode prog_4_method_6_code 38 = .ok (.lload_n 3, 1) := by decide +kernel
theorem d_P_addInverse_39 : decode prog_4_method_6_code 39 = .ok (.lmul, 1) := by decide +kernel
theorem d_P_addInverse_40 : decode prog_4_method_6_code 40 = .ok (.lload 5, 2) := by decide +kernel
theorem d_P_addInverse_42 : decode prog_4_method_6_code 42 = .ok (.ladd, 1) := by decide +kernel
theorem d_P_addInverse_43 : decode prog_4_method_6_code 43 = .ok (.lastore, 1) := by decide +kernel
theorem d_P_addInverse_44 : decode prog_4_method_6_code 44 = .ok (.aload_n 0, 1) := by decide +kernel
theorem d_P_addInverse_45 : decode prog_4_method_6_code 45 = .ok (.getfield 23, 3) := by decide +kernel
theorem d_P_addInverse_48 : decode prog_4_method_6_code 48 = .ok (.iload_n 1, 1) := by decide +kernel
theorem d_P_addInverse_49 : decode prog_4_method_6_code 49 = .ok (.aaload, 1) := by decide +kernel
theorem d_P_addInverse_50 : decode prog_4_method_6_code 50 = .ok (.iload_n 2, 1) := by decide +kernel
theorem d_P_addInverse_51 : decode prog_4_method_6_code 51 = .ok (.lload 5, 2) := by decide +kernel
theorem d_P_addInverse_53 : decode prog_4_method_6_code 53 = .ok (.lload_n 3, 1) := by decide +kernel
theorem d_P_addInverse_54 : decode prog_4_method_6_code 54 = .ok (.lmul, 1) := by decide +kernel
theorem d_P_addInverse_55 : decode prog_4_method_6_code 55 = .ok (.lastore, 1) := by decide +kernel
theorem d_P_addInverse_56 : decode prog_4_method_6_code 56 = .ok (.return_, 1) := by decide +kernel
theorem d_X_span_0 : decode prog_1_method_10_code 0 = .ok (.aload_n 0, 1) := by decide +kernel
theorem d_X_span_1 : decode prog_1_method_10_code 1 = .ok (.iload_n 1, 1) := by decide +kernel
theorem d_X_span_2 : decode prog_1_method_10_code 2 = .ok (.invokevirtual 48, 3) := by decide +kernel
theorem d_X_span_5 : decode prog_1_method_10_code 5 = .ok (.aload_n 0, 1) := by decide +kernel
theorem d_X_span_6 : decode prog_1_method_10_code 6 = .ok (.iload_n 2, 1) := by decide +kernel
theorem d_X_span_7 : decode prog_1_method_10_code 7 = .ok (.invokevirtual 48, 3) := by decide +kernel
theorem d_X_span_10 : decode prog_1_method_10_code 10 = .ok (.iload_n 3, 1) := by decide +kernel
theorem d_X_span_11 : decode prog_1_method_10_code 11 = .ok (.i2l, 1) := by decide +kernel
theorem d_X_span_12 : decode prog_1_method_10_code 12 = .ok (.lconst 0, 1) := by decide +kernel
theorem d_X_span_13 : decode prog_1_method_10_code 13 = .ok (.lconst 1, 1) := by decide +kernel
theorem d_X_span_14 : decode prog_1_method_10_code 14 = .ok (.invokestatic 56, 3) := by decide +kernel
theorem d_X_span_17 : decode prog_1_method_10_code 17 = .ok (.ifCond .eq 14, 3) := by decide +kernel
theorem d_X_span_20 : decode prog_1_method_10_code 20 = .ok (.iload 4, 2) := by decide +kernel
theorem d_X_span_22 : decode prog_1_method_10_code 22 = .ok (.i2l, 1) := by decide +kernel
theorem d_X_span_23 : decode prog_1_method_10_code 23 = .ok (.lconst 0, 1) := by decide +kernel
theorem d_X_span_24 : decode prog_1_method_10_code 24 = .ok (.lconst 1, 1) := by decide +kernel
theorem d_X_span_25 : decode prog_1_method_10_code 25 = .ok (.invokestatic 56, 3) := by decide +kernel
theorem d_X_span_28 : decode prog_1_method_10_code 28 = .ok (.ifCond .ne 13, 3) := by decide +kernel
theorem d_X_span_31 : decode prog_1_method_10_code 31 = .ok (.new 123, 3) := by decide +kernel
theorem d_X_span_34 : decode prog_1_method_10_code 34 = .ok (.dup, 1) := by decide +kernel
theorem d_X_span_35 : decode prog_1_method_10_code 35 = .ok (.ldc 125, 2) := by decide +kernel
theorem d_X_span_37 : decode prog_1_method_10_code 37 = .ok (.invokespecial 127, 3) := by decide +kernel
theorem d_X_span_40 : decode prog_1_method_10_code 40 = .ok (.athrow, 1) := by decide +kernel
theorem d_X_span_41 : decode prog_1_method_10_code 41 = .ok (.aload_n 0, 1) := by decide +kernel
theorem d_X_span_42 : decode prog_1_method_10_code 42 = .ok (.getfield 33, 3) := by decide +kernel
theorem d_X_span_45 : decode prog_1_method_10_code 45 = .ok (.iload_n 1, 1) := by decide +kernel
theorem d_X_span_46 : decode prog_1_method_10_code 46 = .ok (.iload_n 2, 1) := by decide +kernel
theorem d_X_span_47 : decode prog_1_method_10_code 47 = .ok (.invokevirtual 128, 3) := by decide +kernel
theorem d_X_span_50 : decode prog_1_method_10_code 50 = .ok (.ifCond .ne 13, 3) := by decide +kernel
theorem d_X_span_53 : decode prog_1_method_10_code 53 = .ok (.new 132, 3) := by decide +kernel
theorem d_X_span_56 : decode prog_1_method_10_code 56 = .ok (.dup, 1) := by decide +kernel
theorem d_X_span_57 : decode prog_1_method_10_code 57 = .ok (.ldc 134, 2) := by decide +kernel
theorem d_X_span_59 : decode prog_1_method_10_code 59 = .ok (.invokespecial 136, 3) := by decide +kernel
theorem d_X_span_62 : decode prog_1_method_10_code 62 = .ok (.athrow, 1) := by decide +kernel
theorem d_X_span_63 : decode prog_1_method_10_code 63 = .ok (.aload_n 0, 1) := by decide +kernel
theorem d_X_span_64 : decode prog_1_method_10_code 64 = .ok (.getfield 33, 3) := by decide +kernel
theorem d_X_span_67 : decode prog_1_method_10_code 67 = .ok (.iload_n 1, 1) := by decide +kernel
theorem d_X_span_68 : decode prog_1_method_10_code 68 = .ok (.iload_n 2, 1) := by decide +kernel
theorem d_X_span_69 : decode prog_1_method_10_code 69 = .ok (.iload_n 3, 1) := by decide +kernel
theorem d_X_span_70 : decode prog_1_method_10_code 70 = .ok (.iload 4, 2) := by decide +kernel
theorem d_X_span_72 : decode prog_1_method_10_code 72 = .ok (.invokevirtual 137, 3) := by decide +kernel
theorem d_X_span_75 : decode prog_1_method_10_code 75 = .ok (.lreturn, 1) := by decide +kernel
theorem d_P_areBetween_0 : decode prog_4_method_3_code 0 = .ok (.aload_n 0, 1) := by decide +kernel
theorem d_P_areBetween_1 : decode prog_4_method_3_code 1 = .ok (.getfield 15, 3) := by decide +kernel
theorem d_P_areBetween_4 : decode prog_4_method_3_code 4 = .ok (.iload_n 1, 1) := by decide +kernel
theorem d_P_areBetween_5 : decode prog_4_method_3_code 5 = .ok (.iaload, 1) := by decide +kernel
theorem d_P_areBetween_6 : decode prog_4_method_3_code 6 = .ok (.iload_n 2, 1) := by decide +kernel
theorem d_P_areBetween_7 : decode prog_4_method_3_code 7 = .ok (.invokestatic 34, 3) := by decide +kernel
theorem d_P_areBetween_10 : decode prog_4_method_3_code 10 = .ok (.ireturn, 1) := by decide +kernel
theorem d_P_termOfSpan_0 : decode prog_4_method_5_code 0 = .ok (.iload_n 1, 1) := by decide +kernel
theorem d_P_termOfSpan_1 : decode prog_4_method_5_code 1 = .ok (.iload_n 2, 1) := by decide +kernel
theorem d_P_termOfSpan_2 : decode prog_4_method_5_code 2 = .ok (.invokestatic 26, 3) := by decide +kernel
theorem d_P_termOfSpan_5 : decode prog_4_method_5_code 5 = .ok (.istore 5, 2) := by decide +kernel
theorem d_P_termOfSpan_7 : decode prog_4_method_5_code 7 = .ok (.aload_n 0, 1) := by decide +kernel
theorem d_P_termOfSpan_8 : decode prog_4_method_5_code 8 = .ok (.getfield 23, 3) := by decide +kernel
theorem d_P_termOfSpan_11 : decode prog_4_method_5_code 11 = .ok (.iload_n 3, 1) := by decide +kernel
theorem d_P_termOfSpan_12 : decode prog_4_method_5_code 12 = .ok (.aaload, 1) := by decide +kernel
theorem d_P_termOfSpan_13 : decode prog_4_method_5_code 13 = .ok (.iload 5, 2) := by decide +kernel
theorem d_P_termOfSpan_15 : decode prog_4_method_5_code 15 = .ok (.laload, 1) := by decide +kernel
theorem d_P_termOfSpan_16 : decode prog_4_method_5_code 16 = .ok (.lstore 6, 2) := by decide +kernel
theorem d_P_termOfSpan_18 : decode prog_4_method_5_code 18 = .ok (.aload_n 0, 1) := by decide +kernel
theorem d_P_termOfSpan_19 : decode prog_4_method_5_code 19 = .ok (.getfield 20, 3) := by decide +kernel
theorem d_P_termOfSpan_22 : decode prog_4_method_5_code 22 = .ok (.iload_n 3, 1) := by decide +kernel
theorem d_P_termOfSpan_23 : decode prog_4_method_5_code 23 = .ok (.aaload, 1) := by decide +kernel
theorem d_P_termOfSpan_24 : decode prog_4_method_5_code 24 = .ok (.iload 5, 2) := by decide +kernel
theorem d_P_termOfSpan_26 : decode prog_4_method_5_code 26 = .ok (.laload, 1) := by decide +kernel
theorem d_P_termOfSpan_27 : decode prog_4_method_5_code 27 = .ok (.lstore 8, 2) := by decide +kernel
theorem d_P_termOfSpan_29 : decode prog_4_method_5_code 29 = .ok (.lconst 1, 1) := by decide +kernel
theorem d_P_termOfSpan_30 : decode prog_4_method_5_code 30 = .ok (.lload 6, 2) := by decide +kernel
theorem d_P_termOfSpan_32 : decode prog_4_method_5_code 32 = .ok (.lload 8, 2) := by decide +kernel
theorem d_P_termOfSpan_34 : decode prog_4_method_5_code 34 = .ok (.invokestatic 38, 3) := by decide +kernel
theorem d_P_termOfSpan_37 : decode prog_4_method_5_code 37 = .ok (.invokestatic 42, 3) := by decide +kernel
theorem d_P_termOfSpan_40 : decode prog_4_method_5_code 40 = .ok (.lstore 10, 2) := by decide +kernel
theorem d_P_termOfSpan_42 : decode prog_4_method_5_code 42 = .ok (.iload 4, 2) := by decide +kernel
theorem d_P_termOfSpan_44 : decode prog_4_method_5_code 44 = .ok (.ifCond .ne 8, 3) := by decide +kernel
theorem d_P_termOfSpan_47 : decode prog_4_method_5_code 47 = .ok (.lload 6, 2) := by decide +kernel
theorem d_P_termOfSpan_49 : decode prog_4_method_5_code 49 = .ok (.goto 5, 3) := by decide +kernel
theorem d_P_termOfSpan_52 : decode prog_4_method_5_code 52 = .ok (.lload 8, 2) := by decide +kernel
theorem d_P_termOfSpan_54 : decode prog_4_method_5_code 54 = .ok (.lload 10, 2) := by decide +kernel
theorem d_P_termOfSpan_56 : decode prog_4_method_5_code 56 = .ok (.ldiv, 1) := by decide +kernel
theorem d_P_termOfSpan_57 : decode prog_4_method_5_code 57 = .ok (.lreturn, 1) := by decide +kernel
theorem d_P_commonDivisor_0 : decode prog_4_method_8_code 0 = .ok (.lload_n 0, 1) := by decide +kernel
theorem d_P_commonDivisor_1 : decode prog_4_method_8_code 1 = .ok (.lstore 4, 2) := by decide +kernel
theorem d_P_commonDivisor_3 : decode prog_4_method_8_code 3 = .ok (.lload_n 2, 1) := by decide +kernel
theorem d_P_commonDivisor_4 : decode prog_4_method_8_code 4 = .ok (.lstore 6, 2) := by decide +kernel
theorem d_P_commonDivisor_6 : decode prog_4_method_8_code 6 = .ok (.iconst 0, 1) := by decide +kernel
theorem d_P_commonDivisor_7 : decode prog_4_method_8_code 7 = .ok (.istore 8, 2) := by decide +kernel
theorem d_P_commonDivisor_9 : decode prog_4_method_8_code 9 = .ok (.iload 8, 2) := by decide +kernel
theorem d_P_commonDivisor_11 : decode prog_4_method_8_code 11 = .ok (.sipush 200, 3) := by decide +kernel
theorem d_P_commonDivisor_14 : decode prog_4_method_8_code 14 = .ok (.if_icmp .ge 31, 3) := by decide +kernel
theorem d_P_commonDivisor_17 : decode prog_4_method_8_code 17 = .ok (.lload 6, 2) := by decide +kernel
theorem d_P_commonDivisor_19 : decode prog_4_method_8_code 19 = .ok (.lconst 0, 1) := by decide +kernel
theorem d_P_commonDivisor_20 : decode prog_4_method_8_code 20 = .ok (.lcmp, 1) := by decide +kernel
theorem d_P_commonDivisor_21 : decode prog_4_method_8_code 21 = .ok (.ifCond .eq 24, 3) := by decide +kernel
theorem d_P_commonDivisor_24 : decode prog_4_method_8_code 24 = .ok (.lload 4, 2) := by decide +kernel
theorem d_P_commonDivisor_26 : decode prog_4_method_8_code 26 = .ok (.lload 6, 2) := by decide +kernel
theorem d_P_commonDivisor_28 : decode prog_4_method_8_code 28 = .ok (.lrem, 1) := by decide +kernel
theorem d_P_commonDivisor_29 : decode prog_4_method_8_code 29 = .ok (.lstore 9, 2) := by decide +kernel
theorem d_P_commonDivisor_31 : decode prog_4_method_8_code 31 = .ok (.lload 6, 2) := by decide +kernel
theorem d_P_commonDivisor_33 : decode prog_4_method_8_code 33 = .ok (.lstore 4, 2) := by decide +kernel
theorem d_P_commonDivisor_35 : decode prog_4_method_8_code 35 = .ok (.lload 9, 2) := by decide +kernel
theorem d_P_commonDivisor_37 : decode prog_4_method_8_code 37 = .ok (.lstore 6, 2) := by decide +kernel
theorem d_P_commonDivisor_39 : decode prog_4_method_8_code 39 = .ok (.iinc 8 1, 3) := by decide +kernel
theorem d_P_commonDivisor_42 : decode prog_4_method_8_code 42 = .ok (.goto (-33), 3) := by decide +kernel
theorem d_P_commonDivisor_45 : decode prog_4_method_8_code 45 = .ok (.lload 4, 2) := by decide +kernel
theorem d_P_commonDivisor_47 : decode prog_4_method_8_code 47 = .ok (.lreturn, 1) := by decide +kernel
theorem d_X_guard_0 : decode prog_1_method_11_code 0 = .ok (.aload_n 0, 1) := by decide +kernel
theorem d_X_guard_1 : decode prog_1_method_11_code 1 = .ok (.iload_n 1, 1) := by decide +kernel
theorem d_X_guard_2 : decode prog_1_method_11_code 2 = .ok (.invokevirtual 48, 3) := by decide +kernel
theorem d_X_guard_5 : decode prog_1_method_11_code 5 = .ok (.aload_n 0, 1) := by decide +kernel
theorem d_X_guard_6 : decode prog_1_method_11_code 6 = .ok (.iload_n 2, 1) := by decide +kernel
theorem d_X_guard_7 : decode prog_1_method_11_code 7 = .ok (.invokevirtual 48, 3) := by decide +kernel
theorem d_X_guard_10 : decode prog_1_method_11_code 10 = .ok (.aload_n 0, 1) := by decide +kernel
theorem d_X_guard_11 : decode prog_1_method_11_code 11 = .ok (.getfield 33, 3) := by decide +kernel
theorem d_X_guard_14 : decode prog_1_method_11_code 14 = .ok (.iload_n 1, 1) := by decide +kernel
theorem d_X_guard_15 : decode prog_1_method_11_code 15 = .ok (.iload_n 2, 1) := by decide +kernel
theorem d_X_guard_16 : decode prog_1_method_11_code 16 = .ok (.invokevirtual 141, 3) := by decide +kernel
theorem d_X_guard_19 : decode prog_1_method_11_code 19 = .ok (.iload_n 3, 1) := by decide +kernel
theorem d_X_guard_20 : decode prog_1_method_11_code 20 = .ok (.invokestatic 145, 3) := by decide +kernel
theorem d_X_guard_23 : decode prog_1_method_11_code 23 = .ok (.ireturn, 1) := by decide +kernel
theorem d_P_joinedToBoth_0 : decode prog_4_method_4_code 0 = .ok (.aload_n 0, 1) := by decide +kernel
theorem d_P_joinedToBoth_1 : decode prog_4_method_4_code 1 = .ok (.getfield 15, 3) := by decide +kernel
theorem d_P_joinedToBoth_4 : decode prog_4_method_4_code 4 = .ok (.iload_n 1, 1) := by decide +kernel
theorem d_P_joinedToBoth_5 : decode prog_4_method_4_code 5 = .ok (.iaload, 1) := by decide +kernel
theorem d_P_joinedToBoth_6 : decode prog_4_method_4_code 6 = .ok (.aload_n 0, 1) := by decide +kernel
theorem d_P_joinedToBoth_7 : decode prog_4_method_4_code 7 = .ok (.getfield 15, 3) := by decide +kernel
theorem d_P_joinedToBoth_10 : decode prog_4_method_4_code 10 = .ok (.iload_n 2, 1) := by decide +kernel
theorem d_P_joinedToBoth_11 : decode prog_4_method_4_code 11 = .ok (.iaload, 1) := by decide +kernel
theorem d_P_joinedToBoth_12 : decode prog_4_method_4_code 12 = .ok (.iand, 1) := by decide +kernel
theorem d_P_joinedToBoth_13 : decode prog_4_method_4_code 13 = .ok (.ireturn, 1) := by decide +kernel
theorem d_X_nthBit_0 : decode prog_1_method_25_code 0 = .ok (.iconst 0, 1) := by decide +kernel
theorem d_X_nthBit_1 : decode prog_1_method_25_code 1 = .ok (.istore_n 2, 1) := by decide +kernel
theorem d_X_nthBit_2 : decode prog_1_method_25_code 2 = .ok (.iconst 0, 1) := by decide +kernel
theorem d_X_nthBit_3 : decode prog_1_method_25_code 3 = .ok (.istore_n 3, 1) := by decide +kernel
theorem d_X_nthBit_4 : decode prog_1_method_25_code 4 = .ok (.iload_n 3, 1) := by decide +kernel
theorem d_X_nthBit_5 : decode prog_1_method_25_code 5 = .ok (.bipush 12, 2) := by decide +kernel
theorem d_X_nthBit_7 : decode prog_1_method_25_code 7 = .ok (.if_icmp .ge 27, 3) := by decide +kernel
theorem d_X_nthBit_10 : decode prog_1_method_25_code 10 = .ok (.iload_n 0, 1) := by decide +kernel
theorem d_X_nthBit_11 : decode prog_1_method_25_code 11 = .ok (.iload_n 3, 1) := by decide +kernel
theorem d_X_nthBit_12 : decode prog_1_method_25_code 12 = .ok (.invokestatic 203, 3) := by decide +kernel
theorem d_X_nthBit_15 : decode prog_1_method_25_code 15 = .ok (.ifCond .eq 13, 3) := by decide +kernel
theorem d_X_nthBit_18 : decode prog_1_method_25_code 18 = .ok (.iload_n 2, 1) := by decide +kernel
theorem d_X_nthBit_19 : decode prog_1_method_25_code 19 = .ok (.iload_n 1, 1) := by decide +kernel
theorem d_X_nthBit_20 : decode prog_1_method_25_code 20 = .ok (.if_icmp .ne 5, 3) := by decide +kernel
theorem d_X_nthBit_23 : decode prog_1_method_25_code 23 = .ok (.iload_n 3, 1) := by decide +kernel
theorem d_X_nthBit_24 : decode prog_1_method_25_code 24 = .ok (.ireturn, 1) := by decide +kernel
theorem d_X_nthBit_25 : decode prog_1_method_25_code 25 = .ok (.iinc 2 1, 3) := by decide +kernel
theorem d_X_nthBit_28 : decode prog_1_method_25_code 28 = .ok (.iinc 3 1, 3) := by decide +kernel
theorem d_X_nthBit_31 : decode prog_1_method_25_code 31 = .ok (.goto (-27), 3) := by decide +kernel
theorem d_X_nthBit_34 : decode prog_1_method_25_code 34 = .ok (.iconst (-1), 1) := by decide +kernel
theorem d_X_nthBit_35 : decode prog_1_method_25_code 35 = .ok (.ireturn, 1) := by decide +kernel
theorem d_X_fail_0 : decode prog_1_method_12_code 0 = .ok (.iload_n 1, 1) := by decide +kernel
theorem d_X_fail_1 : decode prog_1_method_12_code 1 = .ok (.ifCond .ge 13, 3) := by decide +kernel
theorem d_X_fail_4 : decode prog_1_method_12_code 4 = .ok (.new 123, 3) := by decide +kernel
theorem d_X_fail_7 : decode prog_1_method_12_code 7 = .ok (.dup, 1) := by decide +kernel
theorem d_X_fail_8 : decode prog_1_method_12_code 8 = .ok (.ldc 148, 2) := by decide +kernel
theorem d_X_fail_10 : decode prog_1_method_12_code 10 = .ok (.invokespecial 127, 3) := by decide +kernel
theorem d_X_fail_13 : decode prog_1_method_12_code 13 = .ok (.athrow, 1) := by decide +kernel
theorem d_X_fail_14 : decode prog_1_method_12_code 14 = .ok (.iload_n 1, 1) := by decide +kernel
theorem d_X_fail_15 : decode prog_1_method_12_code 15 = .ok (.bipush 16, 2) := by decide +kernel
theorem d_X_fail_17 : decode prog_1_method_12_code 17 = .ok (.idiv, 1) := by decide +kernel
theorem d_X_fail_18 : decode prog_1_method_12_code 18 = .ok (.istore_n 2, 1) := by decide +kernel
theorem d_X_fail_19 : decode prog_1_method_12_code 19 = .ok (.iload_n 1, 1) := by decide +kernel
theorem d_X_fail_20 : decode prog_1_method_12_code 20 = .ok (.bipush 16, 2) := by decide +kernel
theorem d_X_fail_22 : decode prog_1_method_12_code 22 = .ok (.irem, 1) := by decide +kernel
theorem d_X_fail_23 : decode prog_1_method_12_code 23 = .ok (.istore_n 3, 1) := by decide +kernel
theorem d_X_fail_24 : decode prog_1_method_12_code 24 = .ok (.aload_n 0, 1) := by decide +kernel
theorem d_X_fail_25 : decode prog_1_method_12_code 25 = .ok (.iload_n 2, 1) := by decide +kernel
theorem d_X_fail_26 : decode prog_1_method_12_code 26 = .ok (.invokevirtual 48, 3) := by decide +kernel
theorem d_X_fail_29 : decode prog_1_method_12_code 29 = .ok (.aload_n 0, 1) := by decide +kernel
theorem d_X_fail_30 : decode prog_1_method_12_code 30 = .ok (.iload_n 3, 1) := by decide +kernel
theorem d_X_fail_31 : decode prog_1_method_12_code 31 = .ok (.invokevirtual 48, 3) := by decide +kernel
theorem d_X_fail_34 : decode prog_1_method_12_code 34 = .ok (.iload_n 2, 1) := by decide +kernel
theorem d_X_fail_35 : decode prog_1_method_12_code 35 = .ok (.iload_n 3, 1) := by decide +kernel
theorem d_X_fail_36 : decode prog_1_method_12_code 36 = .ok (.if_icmp .eq 19, 3) := by decide +kernel
theorem d_X_fail_39 : decode prog_1_method_12_code 39 = .ok (.aload_n 0, 1) := by decide +kernel
theorem d_X_fail_40 : decode prog_1_method_12_code 40 = .ok (.getfield 40, 3) := by decide +kernel
theorem d_X_fail_43 : decode prog_1_method_12_code 43 = .ok (.iload_n 2, 1) := by decide +kernel
theorem d_X_fail_44 : decode prog_1_method_12_code 44 = .ok (.iload_n 3, 1) := by decide +kernel
theorem d_X_fail_45 : decode prog_1_method_12_code 45 = .ok (.invokevirtual 150, 3) := by decide +kernel
theorem d_X_fail_48 : decode prog_1_method_12_code 48 = .ok (.ifCond .eq 7, 3) := by decide +kernel
theorem d_X_fail_51 : decode prog_1_method_12_code 51 = .ok (.iconst 1, 1) := by decide +kernel
theorem d_X_fail_52 : decode prog_1_method_12_code 52 = .ok (.goto 4, 3) := by decide +kernel
theorem d_X_fail_55 : decode prog_1_method_12_code 55 = .ok (.iconst 0, 1) := by decide +kernel
theorem d_X_fail_56 : decode prog_1_method_12_code 56 = .ok (.ireturn, 1) := by decide +kernel
theorem d_R_add_0 : decode prog_5_method_2_code 0 = .ok (.aload_n 0, 1) := by decide +kernel
theorem d_R_add_1 : decode prog_5_method_2_code 1 = .ok (.getfield 9, 3) := by decide +kernel
theorem d_R_add_4 : decode prog_5_method_2_code 4 = .ok (.iload_n 1, 1) := by decide +kernel
theorem d_R_add_5 : decode prog_5_method_2_code 5 = .ok (.iaload, 1) := by decide +kernel
theorem d_R_add_6 : decode prog_5_method_2_code 6 = .ok (.iload_n 2, 1) := by decide +kernel
theorem d_R_add_7 : decode prog_5_method_2_code 7 = .ok (.invokestatic 15, 3) := by decide +kernel
theorem d_R_add_10 : decode prog_5_method_2_code 10 = .ok (.ifCond .eq 5, 3) := by decide +kernel
theorem d_R_add_13 : decode prog_5_method_2_code 13 = .ok (.iconst 0, 1) := by decide +kernel
theorem d_R_add_14 : decode prog_5_method_2_code 14 = .ok (.ireturn, 1) := by decide +kernel
theorem d_R_add_15 : decode prog_5_method_2_code 15 = .ok (.aload_n 0, 1) := by decide +kernel
theorem d_R_add_16 : decode prog_5_method_2_code 16 = .ok (.getfield 9, 3) := by decide +kernel
theorem d_R_add_19 : decode prog_5_method_2_code 19 = .ok (.iload_n 1, 1) := by decide +kernel
theorem d_R_add_20 : decode prog_5_method_2_code 20 = .ok (.dup2, 1) := by decide +kernel
theorem d_R_add_21 : decode prog_5_method_2_code 21 = .ok (.iaload, 1) := by decide +kernel
theorem d_R_add_22 : decode prog_5_method_2_code 22 = .ok (.iconst 1, 1) := by decide +kernel
theorem d_R_add_23 : decode prog_5_method_2_code 23 = .ok (.iload_n 2, 1) := by decide +kernel
theorem d_R_add_24 : decode prog_5_method_2_code 24 = .ok (.ishl, 1) := by decide +kernel
theorem d_R_add_25 : decode prog_5_method_2_code 25 = .ok (.ior, 1) := by decide +kernel
theorem d_R_add_26 : decode prog_5_method_2_code 26 = .ok (.iastore, 1) := by decide +kernel
theorem d_R_add_27 : decode prog_5_method_2_code 27 = .ok (.aload_n 0, 1) := by decide +kernel
theorem d_R_add_28 : decode prog_5_method_2_code 28 = .ok (.getfield 9, 3) := by decide +kernel
theorem d_R_add_31 : decode prog_5_method_2_code 31 = .ok (.iload_n 2, 1) := by decide +kernel
theorem d_R_add_32 : decode prog_5_method_2_code 32 = .ok (.dup2, 1) := by decide +kernel
theorem d_R_add_33 : decode prog_5_method_2_code 33 = .ok (.iaload, 1) := by decide +kernel
theorem d_R_add_34 : decode prog_5_method_2_code 34 = .ok (.iconst 1, 1) := by decide +kernel
theorem d_R_add_35 : decode prog_5_method_2_code 35 = .ok (.iload_n 1, 1) := by decide +kernel
theorem d_R_add_36 : decode prog_5_method_2_code 36 = .ok (.ishl, 1) := by decide +kernel
theorem d_R_add_37 : decode prog_5_method_2_code 37 = .ok (.ior, 1) := by decide +kernel
theorem d_R_add_38 : decode prog_5_method_2_code 38 = .ok (.iastore, 1) := by decide +kernel
theorem d_R_add_39 : decode prog_5_method_2_code 39 = .ok (.aload_n 0, 1) := by decide +kernel
theorem d_R_add_40 : decode prog_5_method_2_code 40 = .ok (.iconst 1, 1) := by decide +kernel
theorem d_R_add_41 : decode prog_5_method_2_code 41 = .ok (.putfield 19, 3) := by decide +kernel
theorem d_R_add_44 : decode prog_5_method_2_code 44 = .ok (.iconst 1, 1) := by decide +kernel
theorem d_R_add_45 : decode prog_5_method_2_code 45 = .ok (.ireturn, 1) := by decide +kernel
theorem d_X_suspect_0 : decode prog_1_method_14_code 0 = .ok (.aload_n 0, 1) := by decide +kernel
theorem d_X_suspect_1 : decode prog_1_method_14_code 1 = .ok (.getfield 40, 3) := by decide +kernel
theorem d_X_suspect_4 : decode prog_1_method_14_code 4 = .ok (.invokevirtual 152, 3) := by decide +kernel
theorem d_X_suspect_7 : decode prog_1_method_14_code 7 = .ok (.iload_n 1, 1) := by decide +kernel
theorem d_X_suspect_8 : decode prog_1_method_14_code 8 = .ok (.invokestatic 145, 3) := by decide +kernel
theorem d_X_suspect_11 : decode prog_1_method_14_code 11 = .ok (.istore_n 3, 1) := by decide +kernel
theorem d_X_suspect_12 : decode prog_1_method_14_code 12 = .ok (.iload_n 3, 1) := by decide +kernel
theorem d_X_suspect_13 : decode prog_1_method_14_code 13 = .ok (.iconst (-1), 1) := by decide +kernel
theorem d_X_suspect_14 : decode prog_1_method_14_code 14 = .ok (.if_icmp .eq 13, 3) := by decide +kernel
theorem d_X_suspect_17 : decode prog_1_method_14_code 17 = .ok (.iload_n 2, 1) := by decide +kernel
theorem d_X_suspect_18 : decode prog_1_method_14_code 18 = .ok (.i2l, 1) := by decide +kernel
theorem d_X_suspect_19 : decode prog_1_method_14_code 19 = .ok (.lconst 0, 1) := by decide +kernel
theorem d_X_suspect_20 : decode prog_1_method_14_code 20 = .ok (.lconst 1, 1) := by decide +kernel
theorem d_X_suspect_21 : decode prog_1_method_14_code 21 = .ok (.invokestatic 56, 3) := by decide +kernel
theorem d_X_suspect_24 : decode prog_1_method_14_code 24 = .ok (.ifCond .ne 13, 3) := by decide +kernel
theorem d_X_suspect_27 : decode prog_1_method_14_code 27 = .ok (.new 123, 3) := by decide +kernel
theorem d_X_suspect_30 : decode prog_1_method_14_code 30 = .ok (.dup, 1) := by decide +kernel
theorem d_X_suspect_31 : decode prog_1_method_14_code 31 = .ok (.ldc 162, 2) := by decide +kernel
theorem d_X_suspect_33 : decode prog_1_method_14_code 33 = .ok (.invokespecial 127, 3) := by decide +kernel
theorem d_X_suspect_36 : decode prog_1_method_14_code 36 = .ok (.athrow, 1) := by decide +kernel
theorem d_X_suspect_37 : decode prog_1_method_14_code 37 = .ok (.iload_n 2, 1) := by decide +kernel
theorem d_X_suspect_38 : decode prog_1_method_14_code 38 = .ok (.ifCond .ne 7, 3) := by decide +kernel
theorem d_X_suspect_41 : decode prog_1_method_14_code 41 = .ok (.iload_n 3, 1) := by decide +kernel
theorem d_X_suspect_42 : decode prog_1_method_14_code 42 = .ok (.goto 11, 3) := by decide +kernel
theorem d_X_suspect_45 : decode prog_1_method_14_code 45 = .ok (.aload_n 0, 1) := by decide +kernel
theorem d_X_suspect_46 : decode prog_1_method_14_code 46 = .ok (.getfield 40, 3) := by decide +kernel
theorem d_X_suspect_49 : decode prog_1_method_14_code 49 = .ok (.iload_n 3, 1) := by decide +kernel
theorem d_X_suspect_50 : decode prog_1_method_14_code 50 = .ok (.invokevirtual 164, 3) := by decide +kernel
theorem d_X_suspect_53 : decode prog_1_method_14_code 53 = .ok (.ireturn, 1) := by decide +kernel
theorem d_R_countOf_0 : decode prog_5_method_3_code 0 = .ok (.aload_n 0, 1) := by decide +kernel
theorem d_R_countOf_1 : decode prog_5_method_3_code 1 = .ok (.getfield 9, 3) := by decide +kernel
theorem d_R_countOf_4 : decode prog_5_method_3_code 4 = .ok (.iload_n 1, 1) := by decide +kernel
theorem d_R_countOf_5 : decode prog_5_method_3_code 5 = .ok (.iaload, 1) := by decide +kernel
theorem d_R_countOf_6 : decode prog_5_method_3_code 6 = .ok (.invokestatic 23, 3) := by decide +kernel
theorem d_R_countOf_9 : decode prog_5_method_3_code 9 = .ok (.ireturn, 1) := by decide +kernel
theorem d_X_faults_0 : decode prog_1_method_15_code 0 = .ok (.aload_n 0, 1) := by decide +kernel
theorem d_X_faults_1 : decode prog_1_method_15_code 1 = .ok (.iload_n 1, 1) := by decide +kernel
theorem d_X_faults_2 : decode prog_1_method_15_code 2 = .ok (.invokevirtual 48, 3) := by decide +kernel
theorem d_X_faults_5 : decode prog_1_method_15_code 5 = .ok (.aload_n 0, 1) := by decide +kernel
theorem d_X_faults_6 : decode prog_1_method_15_code 6 = .ok (.getfield 40, 3) := by decide +kernel
theorem d_X_faults_9 : decode prog_1_method_15_code 9 = .ok (.iload_n 1, 1) := by decide +kernel
theorem d_X_faults_10 : decode prog_1_method_15_code 10 = .ok (.invokevirtual 164, 3) := by decide +kernel
theorem d_X_faults_13 : decode prog_1_method_15_code 13 = .ok (.ireturn, 1) := by decide +kernel
theorem d_X_force_0 : decode prog_1_method_18_code 0 = .ok (.aload_n 0, 1) := by decide +kernel
theorem d_X_force_1 : decode prog_1_method_18_code 1 = .ok (.getfield 12, 3) := by decide +kernel
theorem d_X_force_4 : decode prog_1_method_18_code 4 = .ok (.iload_n 1, 1) := by decide +kernel
theorem d_X_force_5 : decode prog_1_method_18_code 5 = .ok (.invokevirtual 174, 3) := by decide +kernel
theorem d_X_force_8 : decode prog_1_method_18_code 8 = .ok (.ifCond .ne 13, 3) := by decide +kernel
theorem d_X_force_11 : decode prog_1_method_18_code 11 = .ok (.new 123, 3) := by decide +kernel
theorem d_X_force_14 : decode prog_1_method_18_code 14 = .ok (.dup, 1) := by decide +kernel
theorem d_X_force_15 : decode prog_1_method_18_code 15 = .ok (.ldc 178, 2) := by decide +kernel
theorem d_X_force_17 : decode prog_1_method_18_code 17 = .ok (.invokespecial 127, 3) := by decide +kernel
theorem d_X_force_20 : decode prog_1_method_18_code 20 = .ok (.athrow, 1) := by decide +kernel
theorem d_X_force_21 : decode prog_1_method_18_code 21 = .ok (.lload_n 2, 1) := by decide +kernel
theorem d_X_force_22 : decode prog_1_method_18_code 22 = .ok (.lconst 0, 1) := by decide +kernel
theorem d_X_force_23 : decode prog_1_method_18_code 23 = .ok (.ldc2_w 54, 3) := by decide +kernel
theorem d_X_force_26 : decode prog_1_method_18_code 26 = .ok (.invokestatic 56, 3) := by decide +kernel
theorem d_X_force_29 : decode prog_1_method_18_code 29 = .ok (.ifCond .ne 13, 3) := by decide +kernel
theorem d_X_force_32 : decode prog_1_method_18_code 32 = .ok (.new 60, 3) := by decide +kernel
theorem d_X_force_35 : decode prog_1_method_18_code 35 = .ok (.dup, 1) := by decide +kernel
theorem d_X_force_36 : decode prog_1_method_18_code 36 = .ok (.ldc 180, 2) := by decide +kernel
theorem d_X_force_38 : decode prog_1_method_18_code 38 = .ok (.invokespecial 64, 3) := by decide +kernel
theorem d_X_force_41 : decode prog_1_method_18_code 41 = .ok (.athrow, 1) := by decide +kernel
theorem d_X_force_42 : decode prog_1_method_18_code 42 = .ok (.aload_n 0, 1) := by decide +kernel
theorem d_X_force_43 : decode prog_1_method_18_code 43 = .ok (.getfield 12, 3) := by decide +kernel
theorem d_X_force_46 : decode prog_1_method_18_code 46 = .ok (.iload_n 1, 1) := by decide +kernel
theorem d_X_force_47 : decode prog_1_method_18_code 47 = .ok (.lload_n 2, 1) := by decide +kernel
theorem d_X_force_48 : decode prog_1_method_18_code 48 = .ok (.invokevirtual 182, 3) := by decide +kernel
theorem d_X_force_51 : decode prog_1_method_18_code 51 = .ok (.ireturn, 1) := by decide +kernel
theorem d_B_hasPoint_0 : decode prog_2_method_3_code 0 = .ok (.iload_n 1, 1) := by decide +kernel
theorem d_B_hasPoint_1 : decode prog_2_method_3_code 1 = .ok (.ifCond .lt 15, 3) := by decide +kernel
theorem d_B_hasPoint_4 : decode prog_2_method_3_code 4 = .ok (.iload_n 1, 1) := by decide +kernel
theorem d_B_hasPoint_5 : decode prog_2_method_3_code 5 = .ok (.aload_n 0, 1) := by decide +kernel
theorem d_B_hasPoint_6 : decode prog_2_method_3_code 6 = .ok (.getfield 39, 3) := by decide +kernel
theorem d_B_hasPoint_9 : decode prog_2_method_3_code 9 = .ok (.if_icmp .ge 7, 3) := by decide +kernel
theorem d_B_hasPoint_12 : decode prog_2_method_3_code 12 = .ok (.iconst 1, 1) := by decide +kernel
theorem d_B_hasPoint_13 : decode prog_2_method_3_code 13 = .ok (.goto 4, 3) := by decide +kernel
theorem d_B_hasPoint_16 : decode prog_2_method_3_code 16 = .ok (.iconst 0, 1) := by decide +kernel
theorem d_B_hasPoint_17 : decode prog_2_method_3_code 17 = .ok (.ireturn, 1) := by decide +kernel
theorem d_B_setForce_0 : decode prog_2_method_7_code 0 = .ok (.lload_n 2, 1) := by decide +kernel
theorem d_B_setForce_1 : decode prog_2_method_7_code 1 = .ok (.aload_n 0, 1) := by decide +kernel
theorem d_B_setForce_2 : decode prog_2_method_7_code 2 = .ok (.getfield 32, 3) := by decide +kernel
theorem d_B_setForce_5 : decode prog_2_method_7_code 5 = .ok (.iload_n 1, 1) := by decide +kernel
theorem d_B_setForce_6 : decode prog_2_method_7_code 6 = .ok (.laload, 1) := by decide +kernel
theorem d_B_setForce_7 : decode prog_2_method_7_code 7 = .ok (.lcmp, 1) := by decide +kernel
theorem d_B_setForce_8 : decode prog_2_method_7_code 8 = .ok (.ifCond .eq 7, 3) := by decide +kernel
theorem d_B_setForce_11 : decode prog_2_method_7_code 11 = .ok (.iconst 1, 1) := by decide +kernel
theorem d_B_setForce_12 : decode prog_2_method_7_code 12 = .ok (.goto 4, 3) := by decide +kernel
theorem d_B_setForce_15 : decode prog_2_method_7_code 15 = .ok (.iconst 0, 1) := by decide +kernel
theorem d_B_setForce_16 : decode prog_2_method_7_code 16 = .ok (.istore 4, 2) := by decide +kernel
theorem d_B_setForce_18 : decode prog_2_method_7_code 18 = .ok (.aload_n 0, 1) := by decide +kernel
theorem d_B_setForce_19 : decode prog_2_method_7_code 19 = .ok (.getfield 32, 3) := by decide +kernel
theorem d_B_setForce_22 : decode prog_2_method_7_code 22 = .ok (.iload_n 1, 1) := by decide +kernel
theorem d_B_setForce_23 : decode prog_2_method_7_code 23 = .ok (.lload_n 2, 1) := by decide +kernel
theorem d_B_setForce_24 : decode prog_2_method_7_code 24 = .ok (.lastore, 1) := by decide +kernel
theorem d_B_setForce_25 : decode prog_2_method_7_code 25 = .ok (.iload 4, 2) := by decide +kernel
theorem d_B_setForce_27 : decode prog_2_method_7_code 27 = .ok (.ireturn, 1) := by decide +kernel
theorem d_X_text_0 : decode prog_1_method_20_code 0 = .ok (.iload_n 1, 1) := by decide +kernel
theorem d_X_text_1 : decode prog_1_method_20_code 1 = .ok (.ifCond .ge 13, 3) := by decide +kernel
theorem d_X_text_4 : decode prog_1_method_20_code 4 = .ok (.new 123, 3) := by decide +kernel
theorem d_X_text_7 : decode prog_1_method_20_code 7 = .ok (.dup, 1) := by decide +kernel
theorem d_X_text_8 : decode prog_1_method_20_code 8 = .ok (.ldc 190, 2) := by decide +kernel
theorem d_X_text_10 : decode prog_1_method_20_code 10 = .ok (.invokespecial 127, 3) := by decide +kernel
theorem d_X_text_13 : decode prog_1_method_20_code 13 = .ok (.athrow, 1) := by decide +kernel
theorem d_X_text_14 : decode prog_1_method_20_code 14 = .ok (.aload_n 0, 1) := by decide +kernel
theorem d_X_text_15 : decode prog_1_method_20_code 15 = .ok (.getfield 26, 3) := by decide +kernel
theorem d_X_text_18 : decode prog_1_method_20_code 18 = .ok (.iload_n 1, 1) := by decide +kernel
theorem d_X_text_19 : decode prog_1_method_20_code 19 = .ok (.invokevirtual 192, 3) := by decide +kernel
theorem d_X_text_22 : decode prog_1_method_20_code 22 = .ok (.ireturn, 1) := by decide +kernel
