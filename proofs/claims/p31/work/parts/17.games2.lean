theorem dX0_bestDepth_0 : decode cX0_bestDepth 0 = .ok (.iconst 0, 1) := by decide +kernel
theorem dX0_bestDepth_1 : decode cX0_bestDepth 1 = .ok (.istore 4, 2) := by decide +kernel
theorem dX0_bestDepth_3 : decode cX0_bestDepth 3 = .ok (.iconst 0, 1) := by decide +kernel
theorem dX0_bestDepth_4 : decode cX0_bestDepth 4 = .ok (.istore 5, 2) := by decide +kernel
theorem dX0_bestDepth_6 : decode cX0_bestDepth 6 = .ok (.iload 5, 2) := by decide +kernel
theorem dX0_bestDepth_8 : decode cX0_bestDepth 8 = .ok (.bipush 14, 2) := by decide +kernel
theorem dX0_bestDepth_10 : decode cX0_bestDepth 10 = .ok (.if_icmp .ge 85, 3) := by decide +kernel
theorem dX0_bestDepth_13 : decode cX0_bestDepth 13 = .ok (.iload_n 2, 1) := by decide +kernel
theorem dX0_bestDepth_14 : decode cX0_bestDepth 14 = .ok (.iload 5, 2) := by decide +kernel
theorem dX0_bestDepth_16 : decode cX0_bestDepth 16 = .ok (.iushr, 1) := by decide +kernel
theorem dX0_bestDepth_17 : decode cX0_bestDepth 17 = .ok (.ifCond .eq 78, 3) := by decide +kernel
theorem dX0_bestDepth_20 : decode cX0_bestDepth 20 = .ok (.iload_n 2, 1) := by decide +kernel
theorem dX0_bestDepth_21 : decode cX0_bestDepth 21 = .ok (.iload 5, 2) := by decide +kernel
theorem dX0_bestDepth_23 : decode cX0_bestDepth 23 = .ok (.invokestatic 43, 3) := by decide +kernel
theorem dX0_bestDepth_26 : decode cX0_bestDepth 26 = .ok (.ifCond .eq 63, 3) := by decide +kernel
theorem dX0_bestDepth_29 : decode cX0_bestDepth 29 = .ok (.iload_n 3, 1) := by decide +kernel
theorem dX0_bestDepth_30 : decode cX0_bestDepth 30 = .ok (.ifCond .eq 13, 3) := by decide +kernel
theorem dX0_bestDepth_33 : decode cX0_bestDepth 33 = .ok (.aload_n 0, 1) := by decide +kernel
theorem dX0_bestDepth_34 : decode cX0_bestDepth 34 = .ok (.iload_n 1, 1) := by decide +kernel
theorem dX0_bestDepth_35 : decode cX0_bestDepth 35 = .ok (.iload 5, 2) := by decide +kernel
theorem dX0_bestDepth_37 : decode cX0_bestDepth 37 = .ok (.invokevirtual 54, 3) := by decide +kernel
theorem dX0_bestDepth_40 : decode cX0_bestDepth 40 = .ok (.ifCond .eq 49, 3) := by decide +kernel
theorem dX0_bestDepth_43 : decode cX0_bestDepth 43 = .ok (.iconst 1, 1) := by decide +kernel
theorem dX0_bestDepth_44 : decode cX0_bestDepth 44 = .ok (.aload_n 0, 1) := by decide +kernel
theorem dX0_bestDepth_45 : decode cX0_bestDepth 45 = .ok (.iload_n 1, 1) := by decide +kernel
theorem dX0_bestDepth_46 : decode cX0_bestDepth 46 = .ok (.iconst 1, 1) := by decide +kernel
theorem dX0_bestDepth_47 : decode cX0_bestDepth 47 = .ok (.iload 5, 2) := by decide +kernel
theorem dX0_bestDepth_49 : decode cX0_bestDepth 49 = .ok (.ishl, 1) := by decide +kernel
theorem dX0_bestDepth_50 : decode cX0_bestDepth 50 = .ok (.ixor, 1) := by decide +kernel
theorem dX0_bestDepth_51 : decode cX0_bestDepth 51 = .ok (.iload 5, 2) := by decide +kernel
theorem dX0_bestDepth_53 : decode cX0_bestDepth 53 = .ok (.invokevirtual 60, 3) := by decide +kernel
theorem dX0_bestDepth_56 : decode cX0_bestDepth 56 = .ok (.iadd, 1) := by decide +kernel
theorem dX0_bestDepth_57 : decode cX0_bestDepth 57 = .ok (.istore 6, 2) := by decide +kernel
theorem dX0_bestDepth_59 : decode cX0_bestDepth 59 = .ok (.iload 4, 2) := by decide +kernel
theorem dX0_bestDepth_61 : decode cX0_bestDepth 61 = .ok (.ifCond .eq 24, 3) := by decide +kernel
theorem dX0_bestDepth_64 : decode cX0_bestDepth 64 = .ok (.iload_n 3, 1) := by decide +kernel
theorem dX0_bestDepth_65 : decode cX0_bestDepth 65 = .ok (.ifCond .eq 13, 3) := by decide +kernel
theorem dX0_bestDepth_68 : decode cX0_bestDepth 68 = .ok (.iload 6, 2) := by decide +kernel
theorem dX0_bestDepth_70 : decode cX0_bestDepth 70 = .ok (.iload 4, 2) := by decide +kernel
theorem dX0_bestDepth_72 : decode cX0_bestDepth 72 = .ok (.if_icmp .ge 17, 3) := by decide +kernel
theorem dX0_bestDepth_75 : decode cX0_bestDepth 75 = .ok (.goto 10, 3) := by decide +kernel
theorem dX0_bestDepth_78 : decode cX0_bestDepth 78 = .ok (.iload 6, 2) := by decide +kernel
theorem dX0_bestDepth_80 : decode cX0_bestDepth 80 = .ok (.iload 4, 2) := by decide +kernel
theorem dX0_bestDepth_82 : decode cX0_bestDepth 82 = .ok (.if_icmp .le 7, 3) := by decide +kernel
theorem dX0_bestDepth_85 : decode cX0_bestDepth 85 = .ok (.iload 6, 2) := by decide +kernel
theorem dX0_bestDepth_87 : decode cX0_bestDepth 87 = .ok (.istore 4, 2) := by decide +kernel
theorem dX0_bestDepth_89 : decode cX0_bestDepth 89 = .ok (.iinc 5 1, 3) := by decide +kernel
theorem dX0_bestDepth_92 : decode cX0_bestDepth 92 = .ok (.goto (-86), 3) := by decide +kernel
theorem dX0_bestDepth_95 : decode cX0_bestDepth 95 = .ok (.iload 4, 2) := by decide +kernel
theorem dX0_bestDepth_97 : decode cX0_bestDepth 97 = .ok (.ireturn, 1) := by decide +kernel
theorem dX0_bestGain_0 : decode cX0_bestGain 0 = .ok (.iconst 0, 1) := by decide +kernel
theorem dX0_bestGain_1 : decode cX0_bestGain 1 = .ok (.istore 4, 2) := by decide +kernel
theorem dX0_bestGain_3 : decode cX0_bestGain 3 = .ok (.iconst 1, 1) := by decide +kernel
theorem dX0_bestGain_4 : decode cX0_bestGain 4 = .ok (.istore 5, 2) := by decide +kernel
theorem dX0_bestGain_6 : decode cX0_bestGain 6 = .ok (.iconst 0, 1) := by decide +kernel
theorem dX0_bestGain_7 : decode cX0_bestGain 7 = .ok (.istore 6, 2) := by decide +kernel
theorem dX0_bestGain_9 : decode cX0_bestGain 9 = .ok (.iload 6, 2) := by decide +kernel
theorem dX0_bestGain_11 : decode cX0_bestGain 11 = .ok (.aload_n 1, 1) := by decide +kernel
theorem dX0_bestGain_12 : decode cX0_bestGain 12 = .ok (.getfield 50, 3) := by decide +kernel
theorem dX0_bestGain_15 : decode cX0_bestGain 15 = .ok (.if_icmp .ge 73, 3) := by decide +kernel
theorem dX0_bestGain_18 : decode cX0_bestGain 18 = .ok (.iload_n 3, 1) := by decide +kernel
theorem dX0_bestGain_19 : decode cX0_bestGain 19 = .ok (.iload 6, 2) := by decide +kernel
theorem dX0_bestGain_21 : decode cX0_bestGain 21 = .ok (.iushr, 1) := by decide +kernel
theorem dX0_bestGain_22 : decode cX0_bestGain 22 = .ok (.ifCond .eq 66, 3) := by decide +kernel
theorem dX0_bestGain_25 : decode cX0_bestGain 25 = .ok (.iload_n 3, 1) := by decide +kernel
theorem dX0_bestGain_26 : decode cX0_bestGain 26 = .ok (.iload 6, 2) := by decide +kernel
theorem dX0_bestGain_28 : decode cX0_bestGain 28 = .ok (.invokestatic 43, 3) := by decide +kernel
theorem dX0_bestGain_31 : decode cX0_bestGain 31 = .ok (.ifCond .eq 51, 3) := by decide +kernel
theorem dX0_bestGain_34 : decode cX0_bestGain 34 = .ok (.aload_n 1, 1) := by decide +kernel
theorem dX0_bestGain_35 : decode cX0_bestGain 35 = .ok (.getfield 78, 3) := by decide +kernel
theorem dX0_bestGain_38 : decode cX0_bestGain 38 = .ok (.iload 6, 2) := by decide +kernel
theorem dX0_bestGain_40 : decode cX0_bestGain 40 = .ok (.iaload, 1) := by decide +kernel
theorem dX0_bestGain_41 : decode cX0_bestGain 41 = .ok (.aload_n 0, 1) := by decide +kernel
theorem dX0_bestGain_42 : decode cX0_bestGain 42 = .ok (.getfield 19, 3) := by decide +kernel
theorem dX0_bestGain_45 : decode cX0_bestGain 45 = .ok (.iload_n 2, 1) := by decide +kernel
theorem dX0_bestGain_46 : decode cX0_bestGain 46 = .ok (.iconst 1, 1) := by decide +kernel
theorem dX0_bestGain_47 : decode cX0_bestGain 47 = .ok (.iload 6, 2) := by decide +kernel
theorem dX0_bestGain_49 : decode cX0_bestGain 49 = .ok (.ishl, 1) := by decide +kernel
theorem dX0_bestGain_50 : decode cX0_bestGain 50 = .ok (.ixor, 1) := by decide +kernel
theorem dX0_bestGain_51 : decode cX0_bestGain 51 = .ok (.aload_n 1, 1) := by decide +kernel
theorem dX0_bestGain_52 : decode cX0_bestGain 52 = .ok (.getfield 50, 3) := by decide +kernel
theorem dX0_bestGain_55 : decode cX0_bestGain 55 = .ok (.imul, 1) := by decide +kernel
theorem dX0_bestGain_56 : decode cX0_bestGain 56 = .ok (.iload 6, 2) := by decide +kernel
theorem dX0_bestGain_58 : decode cX0_bestGain 58 = .ok (.iadd, 1) := by decide +kernel
theorem dX0_bestGain_59 : decode cX0_bestGain 59 = .ok (.saload, 1) := by decide +kernel
theorem dX0_bestGain_60 : decode cX0_bestGain 60 = .ok (.isub, 1) := by decide +kernel
theorem dX0_bestGain_61 : decode cX0_bestGain 61 = .ok (.istore 7, 2) := by decide +kernel
theorem dX0_bestGain_63 : decode cX0_bestGain 63 = .ok (.iload 5, 2) := by decide +kernel
theorem dX0_bestGain_65 : decode cX0_bestGain 65 = .ok (.ifCond .ne 10, 3) := by decide +kernel
theorem dX0_bestGain_68 : decode cX0_bestGain 68 = .ok (.iload 7, 2) := by decide +kernel
theorem dX0_bestGain_70 : decode cX0_bestGain 70 = .ok (.iload 4, 2) := by decide +kernel
theorem dX0_bestGain_72 : decode cX0_bestGain 72 = .ok (.if_icmp .le 10, 3) := by decide +kernel
theorem dX0_bestGain_75 : decode cX0_bestGain 75 = .ok (.iload 7, 2) := by decide +kernel
theorem dX0_bestGain_77 : decode cX0_bestGain 77 = .ok (.istore 4, 2) := by decide +kernel
theorem dX0_bestGain_79 : decode cX0_bestGain 79 = .ok (.iconst 0, 1) := by decide +kernel
theorem dX0_bestGain_80 : decode cX0_bestGain 80 = .ok (.istore 5, 2) := by decide +kernel
theorem dX0_bestGain_82 : decode cX0_bestGain 82 = .ok (.iinc 6 1, 3) := by decide +kernel
theorem dX0_bestGain_85 : decode cX0_bestGain 85 = .ok (.goto (-76), 3) := by decide +kernel
theorem dX0_bestGain_88 : decode cX0_bestGain 88 = .ok (.iload 4, 2) := by decide +kernel
theorem dX0_bestGain_90 : decode cX0_bestGain 90 = .ok (.ireturn, 1) := by decide +kernel
theorem dX0_depth_0 : decode cX0_depth 0 = .ok (.aload_n 0, 1) := by decide +kernel
theorem dX0_depth_1 : decode cX0_depth 1 = .ok (.getfield 15, 3) := by decide +kernel
theorem dX0_depth_4 : decode cX0_depth 4 = .ok (.iload_n 1, 1) := by decide +kernel
theorem dX0_depth_5 : decode cX0_depth 5 = .ok (.laload, 1) := by decide +kernel
theorem dX0_depth_6 : decode cX0_depth 6 = .ok (.iconst 4, 1) := by decide +kernel
theorem dX0_depth_7 : decode cX0_depth 7 = .ok (.iload_n 2, 1) := by decide +kernel
theorem dX0_depth_8 : decode cX0_depth 8 = .ok (.imul, 1) := by decide +kernel
theorem dX0_depth_9 : decode cX0_depth 9 = .ok (.lushr, 1) := by decide +kernel
theorem dX0_depth_10 : decode cX0_depth 10 = .ok (.l2i, 1) := by decide +kernel
theorem dX0_depth_11 : decode cX0_depth 11 = .ok (.bipush 15, 2) := by decide +kernel
theorem dX0_depth_13 : decode cX0_depth 13 = .ok (.iand, 1) := by decide +kernel
theorem dX0_depth_14 : decode cX0_depth 14 = .ok (.ireturn, 1) := by decide +kernel
theorem dX0_firstWinning_0 : decode cX0_firstWinning 0 = .ok (.aload_n 0, 1) := by decide +kernel
theorem dX0_firstWinning_1 : decode cX0_firstWinning 1 = .ok (.aload_n 1, 1) := by decide +kernel
theorem dX0_firstWinning_2 : decode cX0_firstWinning 2 = .ok (.invokevirtual 33, 3) := by decide +kernel
theorem dX0_firstWinning_5 : decode cX0_firstWinning 5 = .ok (.aload_n 1, 1) := by decide +kernel
theorem dX0_firstWinning_6 : decode cX0_firstWinning 6 = .ok (.invokevirtual 37, 3) := by decide +kernel
theorem dX0_firstWinning_9 : decode cX0_firstWinning 9 = .ok (.iconst 1, 1) := by decide +kernel
theorem dX0_firstWinning_10 : decode cX0_firstWinning 10 = .ok (.iload_n 2, 1) := by decide +kernel
theorem dX0_firstWinning_11 : decode cX0_firstWinning 11 = .ok (.ishl, 1) := by decide +kernel
theorem dX0_firstWinning_12 : decode cX0_firstWinning 12 = .ok (.ixor, 1) := by decide +kernel
theorem dX0_firstWinning_13 : decode cX0_firstWinning 13 = .ok (.istore_n 3, 1) := by decide +kernel
theorem dX0_firstWinning_14 : decode cX0_firstWinning 14 = .ok (.aload_n 1, 1) := by decide +kernel
theorem dX0_firstWinning_15 : decode cX0_firstWinning 15 = .ok (.getfield 47, 3) := by decide +kernel
theorem dX0_firstWinning_18 : decode cX0_firstWinning 18 = .ok (.iload_n 2, 1) := by decide +kernel
theorem dX0_firstWinning_19 : decode cX0_firstWinning 19 = .ok (.iaload, 1) := by decide +kernel
theorem dX0_firstWinning_20 : decode cX0_firstWinning 20 = .ok (.iload_n 3, 1) := by decide +kernel
theorem dX0_firstWinning_21 : decode cX0_firstWinning 21 = .ok (.iand, 1) := by decide +kernel
theorem dX0_firstWinning_22 : decode cX0_firstWinning 22 = .ok (.istore 4, 2) := by decide +kernel
theorem dX0_firstWinning_24 : decode cX0_firstWinning 24 = .ok (.iconst 0, 1) := by decide +kernel
theorem dX0_firstWinning_25 : decode cX0_firstWinning 25 = .ok (.istore 5, 2) := by decide +kernel
theorem dX0_firstWinning_27 : decode cX0_firstWinning 27 = .ok (.iload 5, 2) := by decide +kernel
theorem dX0_firstWinning_29 : decode cX0_firstWinning 29 = .ok (.aload_n 1, 1) := by decide +kernel
theorem dX0_firstWinning_30 : decode cX0_firstWinning 30 = .ok (.getfield 50, 3) := by decide +kernel
theorem dX0_firstWinning_33 : decode cX0_firstWinning 33 = .ok (.if_icmp .ge 32, 3) := by decide +kernel
theorem dX0_firstWinning_36 : decode cX0_firstWinning 36 = .ok (.iload 4, 2) := by decide +kernel
theorem dX0_firstWinning_38 : decode cX0_firstWinning 38 = .ok (.iload 5, 2) := by decide +kernel
theorem dX0_firstWinning_40 : decode cX0_firstWinning 40 = .ok (.invokestatic 43, 3) := by decide +kernel
theorem dX0_firstWinning_43 : decode cX0_firstWinning 43 = .ok (.ifCond .eq 16, 3) := by decide +kernel
theorem dX0_firstWinning_46 : decode cX0_firstWinning 46 = .ok (.aload_n 0, 1) := by decide +kernel
theorem dX0_firstWinning_47 : decode cX0_firstWinning 47 = .ok (.iload_n 3, 1) := by decide +kernel
theorem dX0_firstWinning_48 : decode cX0_firstWinning 48 = .ok (.iload 5, 2) := by decide +kernel
theorem dX0_firstWinning_50 : decode cX0_firstWinning 50 = .ok (.invokevirtual 54, 3) := by decide +kernel
theorem dX0_firstWinning_53 : decode cX0_firstWinning 53 = .ok (.ifCond .eq 6, 3) := by decide +kernel
theorem dX0_firstWinning_56 : decode cX0_firstWinning 56 = .ok (.iload 5, 2) := by decide +kernel
theorem dX0_firstWinning_58 : decode cX0_firstWinning 58 = .ok (.ireturn, 1) := by decide +kernel
theorem dX0_firstWinning_59 : decode cX0_firstWinning 59 = .ok (.iinc 5 1, 3) := by decide +kernel
theorem dX0_firstWinning_62 : decode cX0_firstWinning 62 = .ok (.goto (-35), 3) := by decide +kernel
theorem dX0_firstWinning_65 : decode cX0_firstWinning 65 = .ok (.iconst (-1), 1) := by decide +kernel
theorem dX0_firstWinning_66 : decode cX0_firstWinning 66 = .ok (.ireturn, 1) := by decide +kernel
theorem dX0_forget_0 : decode cX0_forget 0 = .ok (.aload_n 0, 1) := by decide +kernel
theorem dX0_forget_1 : decode cX0_forget 1 = .ok (.iconst 0, 1) := by decide +kernel
theorem dX0_forget_2 : decode cX0_forget 2 = .ok (.putfield 23, 3) := by decide +kernel
theorem dX0_forget_5 : decode cX0_forget 5 = .ok (.aload_n 0, 1) := by decide +kernel
theorem dX0_forget_6 : decode cX0_forget 6 = .ok (.iconst 0, 1) := by decide +kernel
theorem dX0_forget_7 : decode cX0_forget 7 = .ok (.putfield 27, 3) := by decide +kernel
theorem dX0_forget_10 : decode cX0_forget 10 = .ok (.aload_n 0, 1) := by decide +kernel
theorem dX0_forget_11 : decode cX0_forget 11 = .ok (.iconst 0, 1) := by decide +kernel
theorem dX0_forget_12 : decode cX0_forget 12 = .ok (.putfield 30, 3) := by decide +kernel
theorem dX0_forget_15 : decode cX0_forget 15 = .ok (.return_, 1) := by decide +kernel
theorem dX0_gainBehind_0 : decode cX0_gainBehind 0 = .ok (.aload_n 0, 1) := by decide +kernel
theorem dX0_gainBehind_1 : decode cX0_gainBehind 1 = .ok (.aload_n 1, 1) := by decide +kernel
theorem dX0_gainBehind_2 : decode cX0_gainBehind 2 = .ok (.invokevirtual 64, 3) := by decide +kernel
theorem dX0_gainBehind_5 : decode cX0_gainBehind 5 = .ok (.aload_n 0, 1) := by decide +kernel
theorem dX0_gainBehind_6 : decode cX0_gainBehind 6 = .ok (.getfield 19, 3) := by decide +kernel
theorem dX0_gainBehind_9 : decode cX0_gainBehind 9 = .ok (.aload_n 1, 1) := by decide +kernel
theorem dX0_gainBehind_10 : decode cX0_gainBehind 10 = .ok (.invokevirtual 37, 3) := by decide +kernel
theorem dX0_gainBehind_13 : decode cX0_gainBehind 13 = .ok (.iconst 1, 1) := by decide +kernel
theorem dX0_gainBehind_14 : decode cX0_gainBehind 14 = .ok (.iload_n 2, 1) := by decide +kernel
theorem dX0_gainBehind_15 : decode cX0_gainBehind 15 = .ok (.ishl, 1) := by decide +kernel
theorem dX0_gainBehind_16 : decode cX0_gainBehind 16 = .ok (.ixor, 1) := by decide +kernel
theorem dX0_gainBehind_17 : decode cX0_gainBehind 17 = .ok (.aload_n 1, 1) := by decide +kernel
theorem dX0_gainBehind_18 : decode cX0_gainBehind 18 = .ok (.getfield 50, 3) := by decide +kernel
theorem dX0_gainBehind_21 : decode cX0_gainBehind 21 = .ok (.imul, 1) := by decide +kernel
theorem dX0_gainBehind_22 : decode cX0_gainBehind 22 = .ok (.iload_n 2, 1) := by decide +kernel
theorem dX0_gainBehind_23 : decode cX0_gainBehind 23 = .ok (.iadd, 1) := by decide +kernel
theorem dX0_gainBehind_24 : decode cX0_gainBehind 24 = .ok (.saload, 1) := by decide +kernel
theorem dX0_gainBehind_25 : decode cX0_gainBehind 25 = .ok (.ireturn, 1) := by decide +kernel
theorem dX0_isWon_0 : decode cX0_isWon 0 = .ok (.aload_n 0, 1) := by decide +kernel
theorem dX0_isWon_1 : decode cX0_isWon 1 = .ok (.aload_n 1, 1) := by decide +kernel
theorem dX0_isWon_2 : decode cX0_isWon 2 = .ok (.invokevirtual 33, 3) := by decide +kernel
theorem dX0_isWon_5 : decode cX0_isWon 5 = .ok (.aload_n 0, 1) := by decide +kernel
theorem dX0_isWon_6 : decode cX0_isWon 6 = .ok (.getfield 9, 3) := by decide +kernel
theorem dX0_isWon_9 : decode cX0_isWon 9 = .ok (.aload_n 1, 1) := by decide +kernel
theorem dX0_isWon_10 : decode cX0_isWon 10 = .ok (.invokevirtual 37, 3) := by decide +kernel
theorem dX0_isWon_13 : decode cX0_isWon 13 = .ok (.iconst 1, 1) := by decide +kernel
theorem dX0_isWon_14 : decode cX0_isWon 14 = .ok (.iload_n 2, 1) := by decide +kernel
theorem dX0_isWon_15 : decode cX0_isWon 15 = .ok (.ishl, 1) := by decide +kernel
theorem dX0_isWon_16 : decode cX0_isWon 16 = .ok (.ixor, 1) := by decide +kernel
theorem dX0_isWon_17 : decode cX0_isWon 17 = .ok (.iaload, 1) := by decide +kernel
theorem dX0_isWon_18 : decode cX0_isWon 18 = .ok (.iload_n 2, 1) := by decide +kernel
theorem dX0_isWon_19 : decode cX0_isWon 19 = .ok (.invokestatic 43, 3) := by decide +kernel
theorem dX0_isWon_22 : decode cX0_isWon 22 = .ok (.ireturn, 1) := by decide +kernel
theorem dX0_learnDepths_0 : decode cX0_learnDepths 0 = .ok (.iconst 1, 1) := by decide +kernel
theorem dX0_learnDepths_1 : decode cX0_learnDepths 1 = .ok (.aload_n 1, 1) := by decide +kernel
theorem dX0_learnDepths_2 : decode cX0_learnDepths 2 = .ok (.getfield 50, 3) := by decide +kernel
theorem dX0_learnDepths_5 : decode cX0_learnDepths 5 = .ok (.ishl, 1) := by decide +kernel
theorem dX0_learnDepths_6 : decode cX0_learnDepths 6 = .ok (.istore_n 2, 1) := by decide +kernel
theorem dX0_learnDepths_7 : decode cX0_learnDepths 7 = .ok (.aload_n 0, 1) := by decide +kernel
theorem dX0_learnDepths_8 : decode cX0_learnDepths 8 = .ok (.getfield 27, 3) := by decide +kernel
theorem dX0_learnDepths_11 : decode cX0_learnDepths 11 = .ok (.ifCond .eq 4, 3) := by decide +kernel
theorem dX0_learnDepths_14 : decode cX0_learnDepths 14 = .ok (.return_, 1) := by decide +kernel
theorem dX0_learnDepths_15 : decode cX0_learnDepths 15 = .ok (.aload_n 0, 1) := by decide +kernel
theorem dX0_learnDepths_16 : decode cX0_learnDepths 16 = .ok (.aload_n 1, 1) := by decide +kernel
theorem dX0_learnDepths_17 : decode cX0_learnDepths 17 = .ok (.invokevirtual 33, 3) := by decide +kernel
theorem dX0_learnDepths_20 : decode cX0_learnDepths 20 = .ok (.aload_n 0, 1) := by decide +kernel
theorem dX0_learnDepths_21 : decode cX0_learnDepths 21 = .ok (.getfield 15, 3) := by decide +kernel
theorem dX0_learnDepths_24 : decode cX0_learnDepths 24 = .ok (.arraylength, 1) := by decide +kernel
theorem dX0_learnDepths_25 : decode cX0_learnDepths 25 = .ok (.iload_n 2, 1) := by decide +kernel
theorem dX0_learnDepths_26 : decode cX0_learnDepths 26 = .ok (.if_icmp .ge 10, 3) := by decide +kernel
theorem dX0_learnDepths_29 : decode cX0_learnDepths 29 = .ok (.aload_n 0, 1) := by decide +kernel
theorem dX0_learnDepths_30 : decode cX0_learnDepths 30 = .ok (.iload_n 2, 1) := by decide +kernel
theorem dX0_learnDepths_31 : decode cX0_learnDepths 31 = .ok (.newarray .long, 2) := by decide +kernel
theorem dX0_learnDepths_33 : decode cX0_learnDepths 33 = .ok (.putfield 15, 3) := by decide +kernel
theorem dX0_learnDepths_36 : decode cX0_learnDepths 36 = .ok (.iconst 0, 1) := by decide +kernel
theorem dX0_learnDepths_37 : decode cX0_learnDepths 37 = .ok (.istore_n 3, 1) := by decide +kernel
theorem dX0_learnDepths_38 : decode cX0_learnDepths 38 = .ok (.iload_n 3, 1) := by decide +kernel
theorem dX0_learnDepths_39 : decode cX0_learnDepths 39 = .ok (.iload_n 2, 1) := by decide +kernel
theorem dX0_learnDepths_40 : decode cX0_learnDepths 40 = .ok (.if_icmp .ge 87, 3) := by decide +kernel
theorem dX0_learnDepths_43 : decode cX0_learnDepths 43 = .ok (.lconst 0, 1) := by decide +kernel
theorem dX0_learnDepths_44 : decode cX0_learnDepths 44 = .ok (.lstore 4, 2) := by decide +kernel
theorem dX0_learnDepths_46 : decode cX0_learnDepths 46 = .ok (.iconst 0, 1) := by decide +kernel
theorem dX0_learnDepths_47 : decode cX0_learnDepths 47 = .ok (.istore 6, 2) := by decide +kernel
theorem dX0_learnDepths_49 : decode cX0_learnDepths 49 = .ok (.iload 6, 2) := by decide +kernel
theorem dX0_learnDepths_51 : decode cX0_learnDepths 51 = .ok (.aload_n 1, 1) := by decide +kernel
theorem dX0_learnDepths_52 : decode cX0_learnDepths 52 = .ok (.getfield 50, 3) := by decide +kernel
theorem dX0_learnDepths_55 : decode cX0_learnDepths 55 = .ok (.if_icmp .ge 58, 3) := by decide +kernel
theorem dX0_learnDepths_58 : decode cX0_learnDepths 58 = .ok (.iload_n 3, 1) := by decide +kernel
theorem dX0_learnDepths_59 : decode cX0_learnDepths 59 = .ok (.iload 6, 2) := by decide +kernel
theorem dX0_learnDepths_61 : decode cX0_learnDepths 61 = .ok (.invokestatic 43, 3) := by decide +kernel
theorem dX0_learnDepths_64 : decode cX0_learnDepths 64 = .ok (.ifCond .ne 43, 3) := by decide +kernel
theorem dX0_learnDepths_67 : decode cX0_learnDepths 67 = .ok (.aload_n 1, 1) := by decide +kernel
theorem dX0_learnDepths_68 : decode cX0_learnDepths 68 = .ok (.getfield 47, 3) := by decide +kernel
theorem dX0_learnDepths_71 : decode cX0_learnDepths 71 = .ok (.iload 6, 2) := by decide +kernel
theorem dX0_learnDepths_73 : decode cX0_learnDepths 73 = .ok (.iaload, 1) := by decide +kernel
theorem dX0_learnDepths_74 : decode cX0_learnDepths 74 = .ok (.iload_n 3, 1) := by decide +kernel
theorem dX0_learnDepths_75 : decode cX0_learnDepths 75 = .ok (.iand, 1) := by decide +kernel
theorem dX0_learnDepths_76 : decode cX0_learnDepths 76 = .ok (.istore 7, 2) := by decide +kernel
theorem dX0_learnDepths_78 : decode cX0_learnDepths 78 = .ok (.lload 4, 2) := by decide +kernel
theorem dX0_learnDepths_80 : decode cX0_learnDepths 80 = .ok (.aload_n 0, 1) := by decide +kernel
theorem dX0_learnDepths_81 : decode cX0_learnDepths 81 = .ok (.iload_n 3, 1) := by decide +kernel
theorem dX0_learnDepths_82 : decode cX0_learnDepths 82 = .ok (.iload 7, 2) := by decide +kernel
theorem dX0_learnDepths_84 : decode cX0_learnDepths 84 = .ok (.aload_n 0, 1) := by decide +kernel
theorem dX0_learnDepths_85 : decode cX0_learnDepths 85 = .ok (.getfield 9, 3) := by decide +kernel
theorem dX0_learnDepths_88 : decode cX0_learnDepths 88 = .ok (.iload_n 3, 1) := by decide +kernel
theorem dX0_learnDepths_89 : decode cX0_learnDepths 89 = .ok (.iaload, 1) := by decide +kernel
theorem dX0_learnDepths_90 : decode cX0_learnDepths 90 = .ok (.iload 6, 2) := by decide +kernel
theorem dX0_learnDepths_92 : decode cX0_learnDepths 92 = .ok (.invokestatic 43, 3) := by decide +kernel
theorem dX0_learnDepths_95 : decode cX0_learnDepths 95 = .ok (.invokevirtual 70, 3) := by decide +kernel
theorem dX0_learnDepths_98 : decode cX0_learnDepths 98 = .ok (.i2l, 1) := by decide +kernel
theorem dX0_learnDepths_99 : decode cX0_learnDepths 99 = .ok (.iconst 4, 1) := by decide +kernel
theorem dX0_learnDepths_100 : decode cX0_learnDepths 100 = .ok (.iload 6, 2) := by decide +kernel
theorem dX0_learnDepths_102 : decode cX0_learnDepths 102 = .ok (.imul, 1) := by decide +kernel
theorem dX0_learnDepths_103 : decode cX0_learnDepths 103 = .ok (.lshl, 1) := by decide +kernel
theorem dX0_learnDepths_104 : decode cX0_learnDepths 104 = .ok (.lor, 1) := by decide +kernel
theorem dX0_learnDepths_105 : decode cX0_learnDepths 105 = .ok (.lstore 4, 2) := by decide +kernel
theorem dX0_learnDepths_107 : decode cX0_learnDepths 107 = .ok (.iinc 6 1, 3) := by decide +kernel
theorem dX0_learnDepths_110 : decode cX0_learnDepths 110 = .ok (.goto (-61), 3) := by decide +kernel
theorem dX0_learnDepths_113 : decode cX0_learnDepths 113 = .ok (.aload_n 0, 1) := by decide +kernel
theorem dX0_learnDepths_114 : decode cX0_learnDepths 114 = .ok (.getfield 15, 3) := by decide +kernel
theorem dX0_learnDepths_117 : decode cX0_learnDepths 117 = .ok (.iload_n 3, 1) := by decide +kernel
theorem dX0_learnDepths_118 : decode cX0_learnDepths 118 = .ok (.lload 4, 2) := by decide +kernel
theorem dX0_learnDepths_120 : decode cX0_learnDepths 120 = .ok (.lastore, 1) := by decide +kernel
theorem dX0_learnDepths_121 : decode cX0_learnDepths 121 = .ok (.iinc 3 1, 3) := by decide +kernel
theorem dX0_learnDepths_124 : decode cX0_learnDepths 124 = .ok (.goto (-86), 3) := by decide +kernel
theorem dX0_learnDepths_127 : decode cX0_learnDepths 127 = .ok (.aload_n 0, 1) := by decide +kernel
theorem dX0_learnDepths_128 : decode cX0_learnDepths 128 = .ok (.iconst 1, 1) := by decide +kernel
theorem dX0_learnDepths_129 : decode cX0_learnDepths 129 = .ok (.putfield 27, 3) := by decide +kernel
theorem dX0_learnDepths_132 : decode cX0_learnDepths 132 = .ok (.return_, 1) := by decide +kernel
theorem dX0_learnGains_0 : decode cX0_learnGains 0 = .ok (.iconst 1, 1) := by decide +kernel
theorem dX0_learnGains_1 : decode cX0_learnGains 1 = .ok (.aload_n 1, 1) := by decide +kernel
theorem dX0_learnGains_2 : decode cX0_learnGains 2 = .ok (.getfield 50, 3) := by decide +kernel
theorem dX0_learnGains_5 : decode cX0_learnGains 5 = .ok (.ishl, 1) := by decide +kernel
theorem dX0_learnGains_6 : decode cX0_learnGains 6 = .ok (.istore_n 2, 1) := by decide +kernel
theorem dX0_learnGains_7 : decode cX0_learnGains 7 = .ok (.aload_n 0, 1) := by decide +kernel
theorem dX0_learnGains_8 : decode cX0_learnGains 8 = .ok (.getfield 30, 3) := by decide +kernel
theorem dX0_learnGains_11 : decode cX0_learnGains 11 = .ok (.ifCond .eq 4, 3) := by decide +kernel
theorem dX0_learnGains_14 : decode cX0_learnGains 14 = .ok (.return_, 1) := by decide +kernel
theorem dX0_learnGains_15 : decode cX0_learnGains 15 = .ok (.aload_n 0, 1) := by decide +kernel
theorem dX0_learnGains_16 : decode cX0_learnGains 16 = .ok (.getfield 19, 3) := by decide +kernel
theorem dX0_learnGains_19 : decode cX0_learnGains 19 = .ok (.arraylength, 1) := by decide +kernel
theorem dX0_learnGains_20 : decode cX0_learnGains 20 = .ok (.iload_n 2, 1) := by decide +kernel
theorem dX0_learnGains_21 : decode cX0_learnGains 21 = .ok (.aload_n 1, 1) := by decide +kernel
theorem dX0_learnGains_22 : decode cX0_learnGains 22 = .ok (.getfield 50, 3) := by decide +kernel
theorem dX0_learnGains_25 : decode cX0_learnGains 25 = .ok (.imul, 1) := by decide +kernel
theorem dX0_learnGains_26 : decode cX0_learnGains 26 = .ok (.if_icmp .ge 15, 3) := by decide +kernel
theorem dX0_learnGains_29 : decode cX0_learnGains 29 = .ok (.aload_n 0, 1) := by decide +kernel
theorem dX0_learnGains_30 : decode cX0_learnGains 30 = .ok (.iload_n 2, 1) := by decide +kernel
theorem dX0_learnGains_31 : decode cX0_learnGains 31 = .ok (.aload_n 1, 1) := by decide +kernel
theorem dX0_learnGains_32 : decode cX0_learnGains 32 = .ok (.getfield 50, 3) := by decide +kernel
theorem dX0_learnGains_35 : decode cX0_learnGains 35 = .ok (.imul, 1) := by decide +kernel
theorem dX0_learnGains_36 : decode cX0_learnGains 36 = .ok (.newarray .short, 2) := by decide +kernel
theorem dX0_learnGains_38 : decode cX0_learnGains 38 = .ok (.putfield 19, 3) := by decide +kernel
theorem dX0_learnGains_41 : decode cX0_learnGains 41 = .ok (.iconst 0, 1) := by decide +kernel
theorem dX0_learnGains_42 : decode cX0_learnGains 42 = .ok (.istore_n 3, 1) := by decide +kernel
theorem dX0_learnGains_43 : decode cX0_learnGains 43 = .ok (.iload_n 3, 1) := by decide +kernel
theorem dX0_learnGains_44 : decode cX0_learnGains 44 = .ok (.iload_n 2, 1) := by decide +kernel
theorem dX0_learnGains_45 : decode cX0_learnGains 45 = .ok (.if_icmp .ge 66, 3) := by decide +kernel
theorem dX0_learnGains_48 : decode cX0_learnGains 48 = .ok (.iconst 0, 1) := by decide +kernel
theorem dX0_learnGains_49 : decode cX0_learnGains 49 = .ok (.istore 4, 2) := by decide +kernel
theorem dX0_learnGains_51 : decode cX0_learnGains 51 = .ok (.iload 4, 2) := by decide +kernel
theorem dX0_learnGains_53 : decode cX0_learnGains 53 = .ok (.aload_n 1, 1) := by decide +kernel
theorem dX0_learnGains_54 : decode cX0_learnGains 54 = .ok (.getfield 50, 3) := by decide +kernel
theorem dX0_learnGains_57 : decode cX0_learnGains 57 = .ok (.if_icmp .ge 48, 3) := by decide +kernel
theorem dX0_learnGains_60 : decode cX0_learnGains 60 = .ok (.iload_n 3, 1) := by decide +kernel
theorem dX0_learnGains_61 : decode cX0_learnGains 61 = .ok (.iload 4, 2) := by decide +kernel
theorem dX0_learnGains_63 : decode cX0_learnGains 63 = .ok (.invokestatic 43, 3) := by decide +kernel
theorem dX0_learnGains_66 : decode cX0_learnGains 66 = .ok (.ifCond .ne 33, 3) := by decide +kernel
theorem dX0_learnGains_69 : decode cX0_learnGains 69 = .ok (.aload_n 0, 1) := by decide +kernel
theorem dX0_learnGains_70 : decode cX0_learnGains 70 = .ok (.getfield 19, 3) := by decide +kernel
theorem dX0_learnGains_73 : decode cX0_learnGains 73 = .ok (.iload_n 3, 1) := by decide +kernel
theorem dX0_learnGains_74 : decode cX0_learnGains 74 = .ok (.aload_n 1, 1) := by decide +kernel
theorem dX0_learnGains_75 : decode cX0_learnGains 75 = .ok (.getfield 50, 3) := by decide +kernel
theorem dX0_learnGains_78 : decode cX0_learnGains 78 = .ok (.imul, 1) := by decide +kernel
theorem dX0_learnGains_79 : decode cX0_learnGains 79 = .ok (.iload 4, 2) := by decide +kernel
theorem dX0_learnGains_81 : decode cX0_learnGains 81 = .ok (.iadd, 1) := by decide +kernel
theorem dX0_learnGains_82 : decode cX0_learnGains 82 = .ok (.aload_n 0, 1) := by decide +kernel
theorem dX0_learnGains_83 : decode cX0_learnGains 83 = .ok (.aload_n 1, 1) := by decide +kernel
theorem dX0_learnGains_84 : decode cX0_learnGains 84 = .ok (.iload_n 3, 1) := by decide +kernel
theorem dX0_learnGains_85 : decode cX0_learnGains 85 = .ok (.aload_n 1, 1) := by decide +kernel
theorem dX0_learnGains_86 : decode cX0_learnGains 86 = .ok (.getfield 47, 3) := by decide +kernel
theorem dX0_learnGains_89 : decode cX0_learnGains 89 = .ok (.iload 4, 2) := by decide +kernel
theorem dX0_learnGains_91 : decode cX0_learnGains 91 = .ok (.iaload, 1) := by decide +kernel
theorem dX0_learnGains_92 : decode cX0_learnGains 92 = .ok (.iload_n 3, 1) := by decide +kernel
theorem dX0_learnGains_93 : decode cX0_learnGains 93 = .ok (.iand, 1) := by decide +kernel
theorem dX0_learnGains_94 : decode cX0_learnGains 94 = .ok (.invokevirtual 74, 3) := by decide +kernel
theorem dX0_learnGains_97 : decode cX0_learnGains 97 = .ok (.i2s, 1) := by decide +kernel
theorem dX0_learnGains_98 : decode cX0_learnGains 98 = .ok (.sastore, 1) := by decide +kernel
theorem dX0_learnGains_99 : decode cX0_learnGains 99 = .ok (.iinc 4 1, 3) := by decide +kernel
theorem dX0_learnGains_102 : decode cX0_learnGains 102 = .ok (.goto (-51), 3) := by decide +kernel
theorem dX0_learnGains_105 : decode cX0_learnGains 105 = .ok (.iinc 3 1, 3) := by decide +kernel
theorem dX0_learnGains_108 : decode cX0_learnGains 108 = .ok (.goto (-65), 3) := by decide +kernel
theorem dX0_learnGains_111 : decode cX0_learnGains 111 = .ok (.aload_n 0, 1) := by decide +kernel
theorem dX0_learnGains_112 : decode cX0_learnGains 112 = .ok (.iconst 1, 1) := by decide +kernel
theorem dX0_learnGains_113 : decode cX0_learnGains 113 = .ok (.putfield 30, 3) := by decide +kernel
theorem dX0_learnGains_116 : decode cX0_learnGains 116 = .ok (.return_, 1) := by decide +kernel
theorem dX0_lengthBehind_0 : decode cX0_lengthBehind 0 = .ok (.aload_n 0, 1) := by decide +kernel
theorem dX0_lengthBehind_1 : decode cX0_lengthBehind 1 = .ok (.aload_n 1, 1) := by decide +kernel
theorem dX0_lengthBehind_2 : decode cX0_lengthBehind 2 = .ok (.invokevirtual 57, 3) := by decide +kernel
theorem dX0_lengthBehind_5 : decode cX0_lengthBehind 5 = .ok (.aload_n 0, 1) := by decide +kernel
theorem dX0_lengthBehind_6 : decode cX0_lengthBehind 6 = .ok (.aload_n 1, 1) := by decide +kernel
theorem dX0_lengthBehind_7 : decode cX0_lengthBehind 7 = .ok (.invokevirtual 37, 3) := by decide +kernel
theorem dX0_lengthBehind_10 : decode cX0_lengthBehind 10 = .ok (.iconst 1, 1) := by decide +kernel
theorem dX0_lengthBehind_11 : decode cX0_lengthBehind 11 = .ok (.iload_n 2, 1) := by decide +kernel
theorem dX0_lengthBehind_12 : decode cX0_lengthBehind 12 = .ok (.ishl, 1) := by decide +kernel
theorem dX0_lengthBehind_13 : decode cX0_lengthBehind 13 = .ok (.ixor, 1) := by decide +kernel
theorem dX0_lengthBehind_14 : decode cX0_lengthBehind 14 = .ok (.iload_n 2, 1) := by decide +kernel
theorem dX0_lengthBehind_15 : decode cX0_lengthBehind 15 = .ok (.invokevirtual 60, 3) := by decide +kernel
theorem dX0_lengthBehind_18 : decode cX0_lengthBehind 18 = .ok (.ireturn, 1) := by decide +kernel
set_option maxRecDepth 20000 in
theorem ggX0_bestDepth_X0_depth : GoodIn wsX0_bestDepth wsX0_depth := goodIn_r _ [13, 14, 15, 16, 17, 18, 19, 20] (by decide +kernel) (by decide +kernel)
set_option maxRecDepth 20000 in
theorem gX0_bestDepth_X0_depth : GoodIn wsX0_bestDepth (wsV RX0 60 RX0 yX0_depth wsX0_depth) := goodIn_app (goodIn_of _ (by decide +kernel)) ggX0_bestDepth_X0_depth
set_option maxRecDepth 20000 in
theorem ggX0_bestDepth_X0_isLostBehind : GoodIn wsX0_bestDepth wsX0_isLostBehind := goodIn_r _ [8, 9, 1, 2, 3, 15, 16, 17, 18, 19, 20] (by decide +kernel) (by decide +kernel)
set_option maxRecDepth 20000 in
theorem gX0_bestDepth_X0_isLostBehind : GoodIn wsX0_bestDepth (wsV RX0 54 RX0 yX0_isLostBehind wsX0_isLostBehind) := goodIn_app (goodIn_of _ (by decide +kernel)) ggX0_bestDepth_X0_isLostBehind
set_option maxRecDepth 20000 in
theorem ggX0_bestDepth_X10_isIn : GoodIn wsX0_bestDepth wsX10_isIn := goodIn_r _ [3] (by decide +kernel) (by decide +kernel)
set_option maxRecDepth 20000 in
theorem gX0_bestDepth_X10_isIn_n43 : GoodIn wsX0_bestDepth (wsX10_isIn) := ggX0_bestDepth_X10_isIn
set_option maxRecDepth 20000 in
theorem ggX0_bestGain_X10_isIn : GoodIn wsX0_bestGain wsX10_isIn := goodIn_r _ [4] (by decide +kernel) (by decide +kernel)
set_option maxRecDepth 20000 in
theorem gX0_bestGain_X10_isIn_n43 : GoodIn wsX0_bestGain (wsX10_isIn) := ggX0_bestGain_X10_isIn
set_option maxRecDepth 20000 in
theorem ggX0_firstWinning_X0_isLostBehind : GoodIn wsX0_firstWinning wsX0_isLostBehind := goodIn_r _ [15, 7, 9, 10, 11, 38, 39, 40, 41, 42, 43] (by decide +kernel) (by decide +kernel)
set_option maxRecDepth 20000 in
theorem gX0_firstWinning_X0_isLostBehind : GoodIn wsX0_firstWinning (wsV RX0 54 RX0 yX0_isLostBehind wsX0_isLostBehind) := goodIn_app (goodIn_of _ (by decide +kernel)) ggX0_firstWinning_X0_isLostBehind
set_option maxRecDepth 20000 in
theorem ggX0_firstWinning_X0_learnWon : GoodIn wsX0_firstWinning wsX0_learnWon := goodIn_r _ [5, 6, 7, 8, 9, 10, 11, 12, 13, 14, 4, 15, 22, 23, 24, 25, 26, 27, 28, 29, 30, 31, 32, 33, 34, 35, 36, 37, 38, 39, 40, 41, 42, 43] (by decide +kernel) (by decide +kernel)
set_option maxRecDepth 20000 in
theorem gX0_firstWinning_X0_learnWon : GoodIn wsX0_firstWinning (wsV RX0 33 RX0 yX0_learnWon wsX0_learnWon) := goodIn_app (goodIn_of _ (by decide +kernel)) ggX0_firstWinning_X0_learnWon
set_option maxRecDepth 20000 in
theorem ggX0_firstWinning_X10_isIn : GoodIn wsX0_firstWinning wsX10_isIn := goodIn_r _ [11] (by decide +kernel) (by decide +kernel)
set_option maxRecDepth 20000 in
theorem gX0_firstWinning_X10_isIn_n43 : GoodIn wsX0_firstWinning (wsX10_isIn) := ggX0_firstWinning_X10_isIn
set_option maxRecDepth 20000 in
theorem ggX0_firstWinning_X8_everyWord : GoodIn wsX0_firstWinning wsX8_everyWord := goodIn_r _ [20, 21, 22, 23, 24, 25, 26, 27, 28, 29, 30, 31, 32, 33, 34, 35, 36, 37] (by decide +kernel) (by decide +kernel)
set_option maxRecDepth 20000 in
theorem gX0_firstWinning_X8_everyWord : GoodIn wsX0_firstWinning (wsV RX0 37 RX8 yX8_everyWord wsX8_everyWord) := goodIn_app (goodIn_of _ (by decide +kernel)) ggX0_firstWinning_X8_everyWord
set_option maxRecDepth 20000 in
theorem ggX0_gainBehind_X0_learnGains : GoodIn wsX0_gainBehind wsX0_learnGains := goodIn_r _ [6, 7, 1, 8, 9, 10, 11, 12, 13, 14, 5, 15, 28, 29, 30, 31, 32, 33, 34, 35, 36, 37, 38, 39, 40, 41, 42, 43, 22, 23, 24, 25, 26, 27] (by decide +kernel) (by decide +kernel)
set_option maxRecDepth 20000 in
theorem gX0_gainBehind_X0_learnGains : GoodIn wsX0_gainBehind (wsV RX0 64 RX0 yX0_learnGains wsX0_learnGains) := goodIn_app (goodIn_of _ (by decide +kernel)) ggX0_gainBehind_X0_learnGains
set_option maxRecDepth 20000 in
theorem ggX0_gainBehind_X8_everyWord : GoodIn wsX0_gainBehind wsX8_everyWord := goodIn_r _ [20, 21, 28, 29, 30, 31, 32, 33, 34, 35, 36, 37, 38, 39, 40, 41, 42, 43] (by decide +kernel) (by decide +kernel)
set_option maxRecDepth 20000 in
theorem gX0_gainBehind_X8_everyWord : GoodIn wsX0_gainBehind (wsV RX0 37 RX8 yX8_everyWord wsX8_everyWord) := goodIn_app (goodIn_of _ (by decide +kernel)) ggX0_gainBehind_X8_everyWord
set_option maxRecDepth 20000 in
theorem ggX0_isWon_X0_learnWon : GoodIn wsX0_isWon wsX0_learnWon := goodIn_r _ [6, 7, 1, 8, 9, 10, 11, 12, 13, 14, 5, 15, 28, 29, 30, 31, 32, 33, 34, 35, 36, 37, 38, 39, 40, 41, 42, 43, 22, 23, 24, 25, 26, 27] (by decide +kernel) (by decide +kernel)
set_option maxRecDepth 20000 in
theorem gX0_isWon_X0_learnWon : GoodIn wsX0_isWon (wsV RX0 33 RX0 yX0_learnWon wsX0_learnWon) := goodIn_app (goodIn_of _ (by decide +kernel)) ggX0_isWon_X0_learnWon
set_option maxRecDepth 20000 in
theorem ggX0_isWon_X10_isIn : GoodIn wsX0_isWon wsX10_isIn := goodIn_r _ [11] (by decide +kernel) (by decide +kernel)
set_option maxRecDepth 20000 in
theorem gX0_isWon_X10_isIn_n43 : GoodIn wsX0_isWon (wsX10_isIn) := ggX0_isWon_X10_isIn
set_option maxRecDepth 20000 in
theorem ggX0_isWon_X8_everyWord : GoodIn wsX0_isWon wsX8_everyWord := goodIn_r _ [20, 21, 28, 29, 30, 31, 32, 33, 34, 35, 36, 37, 38, 39, 40, 41, 42, 43] (by decide +kernel) (by decide +kernel)
set_option maxRecDepth 20000 in
theorem gX0_isWon_X8_everyWord : GoodIn wsX0_isWon (wsV RX0 37 RX8 yX8_everyWord wsX8_everyWord) := goodIn_app (goodIn_of _ (by decide +kernel)) ggX0_isWon_X8_everyWord
set_option maxRecDepth 20000 in
theorem ggX0_learnDepths_X0_bestDepth : GoodIn wsX0_learnDepths wsX0_bestDepth := goodIn_r _ [22, 12, 13, 14, 15, 16, 17, 8, 18, 4, 23, 24, 25, 26, 2, 43, 44, 45, 46, 47, 48] (by decide +kernel) (by decide +kernel)
set_option maxRecDepth 20000 in
theorem gX0_learnDepths_X0_bestDepth : GoodIn wsX0_learnDepths (wsV RX0 70 RX0 yX0_bestDepth wsX0_bestDepth) := goodIn_app (goodIn_of _ (by decide +kernel)) ggX0_learnDepths_X0_bestDepth
set_option maxRecDepth 20000 in
theorem ggX0_learnDepths_X0_learnWon : GoodIn wsX0_learnDepths wsX0_learnWon := goodIn_r _ [9, 10, 4, 11, 12, 13, 14, 15, 16, 17, 8, 18, 27, 28, 29, 30, 31, 32, 33, 34, 35, 36, 37, 38, 39, 40, 41, 42, 43, 44, 45, 46, 47, 48] (by decide +kernel) (by decide +kernel)
set_option maxRecDepth 20000 in
theorem gX0_learnDepths_X0_learnWon : GoodIn wsX0_learnDepths (wsV RX0 33 RX0 yX0_learnWon wsX0_learnWon) := goodIn_app (goodIn_of _ (by decide +kernel)) ggX0_learnDepths_X0_learnWon
set_option maxRecDepth 20000 in
theorem ggX0_learnDepths_X10_isIn : GoodIn wsX0_learnDepths wsX10_isIn := goodIn_r _ [14] (by decide +kernel) (by decide +kernel)
set_option maxRecDepth 20000 in
theorem gX0_learnDepths_X10_isIn_n43 : GoodIn wsX0_learnDepths (wsX10_isIn) := ggX0_learnDepths_X10_isIn
set_option maxRecDepth 20000 in
theorem ggX0_learnGains_X0_bestGain : GoodIn wsX0_learnGains wsX0_bestGain := goodIn_r _ [11, 2, 4, 5, 6, 12, 13, 14, 15, 16, 17, 18, 19, 20, 21, 22, 23, 24, 25, 26, 27, 28, 29, 30, 31, 32, 33] (by decide +kernel) (by decide +kernel)
set_option maxRecDepth 20000 in
theorem gX0_learnGains_X0_bestGain : GoodIn wsX0_learnGains (wsV RX0 74 RX0 yX0_bestGain wsX0_bestGain) := goodIn_app (goodIn_of _ (by decide +kernel)) ggX0_learnGains_X0_bestGain
set_option maxRecDepth 20000 in
theorem ggX0_learnGains_X10_isIn : GoodIn wsX0_learnGains wsX10_isIn := goodIn_r _ [6] (by decide +kernel) (by decide +kernel)
set_option maxRecDepth 20000 in
theorem gX0_learnGains_X10_isIn_n43 : GoodIn wsX0_learnGains (wsX10_isIn) := ggX0_learnGains_X10_isIn
set_option maxRecDepth 20000 in
theorem ggX0_lengthBehind_X0_depth : GoodIn wsX0_lengthBehind wsX0_depth := goodIn_r _ [30, 7, 53, 54, 55, 56, 57, 58] (by decide +kernel) (by decide +kernel)
set_option maxRecDepth 20000 in
theorem gX0_lengthBehind_X0_depth : GoodIn wsX0_lengthBehind (wsV RX0 60 RX0 yX0_depth wsX0_depth) := goodIn_app (goodIn_of _ (by decide +kernel)) ggX0_lengthBehind_X0_depth
set_option maxRecDepth 20000 in
theorem ggX0_lengthBehind_X0_learnDepths : GoodIn wsX0_lengthBehind wsX0_learnDepths := goodIn_r _ [5, 6, 7, 8, 9, 10, 11, 12, 4, 13, 14, 15, 16, 17, 18, 19, 20, 21, 22, 23, 24, 25, 26, 27, 28, 29, 30, 37, 38, 39, 40, 41, 42, 43, 44, 45, 46, 47, 48, 49, 50, 51, 52, 53, 54, 55, 56, 57, 58] (by decide +kernel) (by decide +kernel)
set_option maxRecDepth 20000 in
theorem gX0_lengthBehind_X0_learnDepths : GoodIn wsX0_lengthBehind (wsV RX0 57 RX0 yX0_learnDepths wsX0_learnDepths) := goodIn_app (goodIn_of _ (by decide +kernel)) ggX0_lengthBehind_X0_learnDepths
set_option maxRecDepth 20000 in
theorem ggX0_lengthBehind_X8_everyWord : GoodIn wsX0_lengthBehind wsX8_everyWord := goodIn_r _ [35, 36, 37, 38, 39, 40, 41, 42, 43, 44, 45, 46, 47, 48, 49, 50, 51, 52] (by decide +kernel) (by decide +kernel)
set_option maxRecDepth 20000 in
theorem gX0_lengthBehind_X8_everyWord : GoodIn wsX0_lengthBehind (wsV RX0 37 RX8 yX8_everyWord wsX8_everyWord) := goodIn_app (goodIn_of _ (by decide +kernel)) ggX0_lengthBehind_X8_everyWord
set_option maxHeartbeats 4000000 in
set_option maxRecDepth 100000 in
theorem c_X0_forget (l : Launch) (D : va_G) (cB cI cJ cS cZ cO : ClassId) (sz : Nat) (o : Nat) (gm_won : Nat) (gm_depths : Nat) (gm_gains : Nat) (gm_isWonKnown : Int32) (gm_isDepthKnown : Int32) (gm_isGainKnown : Int32) : Met l yX0_forget wsX0_forget ({ frames := 0, cells := 0, slots := 0, locals := 0 }) (xPre D (tyL cB cI cJ cS cZ cO) [(o, .inr (0, [.ref gm_won, .ref gm_depths, .ref gm_gains, .int gm_isWonKnown, .int gm_isDepthKnown, .int gm_isGainKnown]))] sz [.ref o]) (xQv D (tyL cB cI cJ cS cZ cO) (va_A [(o, .inr (0, [.ref gm_won, .ref gm_depths, .ref gm_gains, .int gm_isWonKnown, .int gm_isDepthKnown, .int gm_isGainKnown]))] sz) (fun u : va_W => u = [(o, .inr (0, [.ref gm_won, .ref gm_depths, .ref gm_gains, .int 0, .int 0, .int 0]))])) 0 0 (va_A [(o, .inr (0, [.ref gm_won, .ref gm_depths, .ref gm_gains, .int gm_isWonKnown, .int gm_isDepthKnown, .int gm_isGainKnown]))] sz) := by
  refine Met.ofW (cc := cX0_forget) (maxL := 1) (ret := none) (by decide) rfl ?_
  intro p e s m args below meth c s₁ B hml hv
  obtain ⟨rfl, hsz, hP, hK, hD0, hN⟩ := hv
  have hx := B.exec
  have hb := B.bytes
  have hr := B.returns
  have hts := atoms_spec (ws := wsX0_forget) B.pre
  have hown : s.vm.findClass RX0 = some m.cls := findClass_of_methodNamed B.named
  have hlocks := B.notSynchronized
  subst hsz
  have hD := hD0.self (sz := s.heap.size)
  generalize hAe : va_A [(o, .inr (0, [.ref gm_won, .ref gm_depths, .ref gm_gains, .int gm_isWonKnown, .int gm_isDepthKnown, .int gm_isGainKnown]))] s.heap.size = A at hD ⊢
  have hA : ∀ q : Nat, s.heap.size ≤ q → A q := fun q h => by rw [← hAe]; exact Or.inr h
  have hS : va_S A s.heap s.heap [] := va_S.rf
  have hP : va_P D vwCl [(o, .inr (0, [.ref gm_won, .ref gm_depths, .ref gm_gains, .int gm_isWonKnown, .int gm_isDepthKnown, .int gm_isGainKnown]))] s.heap := hP
  have hl := lv_entry ([.ref o]) (n := 1) (Nat.le_of_ble_eq_true rfl)
  rw [lg_entry_eq]
  generalize (lg_sl ([.ref o]) ++ List.replicate (1 - (lg_sl ([.ref o])).length) Slot.unset).toArray = ls at hl ⊢
  have hl : lv_has ls 1 [(0, .ref o)] := hl
  refine lv_aload_n hx hb dX0_forget_0 rfl (lv_at hl 0 rfl) ?_
  refine lv_iconst (v := 0) hx hb dX0_forget_1 (by decide) ?_
  refine va_put (D := D) (ci := 0) (v := .int 0) (ty := .boolean) (C := RX0) (T := TX0) (N := 6) hx hb hts (by decide +kernel) tyX0 tyX0_ok nmX0 hown hK hP hD hS 0 rfl rfl 3 (by decide) (hts (.fieldLink RX0 23 "LastLetter$Games" "isWonKnown" "Z") (by decide +kernel)) (fun _ h9 => h9) rfl (by decide +kernel) rfl rfl (Nat.le_of_ble_eq_true rfl) dX0_forget_2 (fun H locs hP hD hS => ?_)
  have hP : va_P D vwCl [(o, .inr (0, [.ref gm_won, .ref gm_depths, .ref gm_gains, .int 0, .int gm_isDepthKnown, .int gm_isGainKnown]))] H := hP
  have hD : va_D A [(o, .inr (0, [.ref gm_won, .ref gm_depths, .ref gm_gains, .int 0, .int gm_isDepthKnown, .int gm_isGainKnown]))] := hD
  refine lv_aload_n hx hb dX0_forget_5 rfl (lv_at hl 0 rfl) ?_
  refine lv_iconst (v := 0) hx hb dX0_forget_6 (by decide) ?_
  refine va_put (D := D) (ci := 0) (v := .int 0) (ty := .boolean) (C := RX0) (T := TX0) (N := 6) hx hb hts (by decide +kernel) tyX0 tyX0_ok nmX0 hown hK hP hD hS 0 rfl rfl 4 (by decide) (hts (.fieldLink RX0 27 "LastLetter$Games" "isDepthKnown" "Z") (by decide +kernel)) (fun _ h9 => h9) rfl (by decide +kernel) rfl rfl (Nat.le_of_ble_eq_true rfl) dX0_forget_7 (fun H locs hP hD hS => ?_)
  have hP : va_P D vwCl [(o, .inr (0, [.ref gm_won, .ref gm_depths, .ref gm_gains, .int 0, .int 0, .int gm_isGainKnown]))] H := hP
  have hD : va_D A [(o, .inr (0, [.ref gm_won, .ref gm_depths, .ref gm_gains, .int 0, .int 0, .int gm_isGainKnown]))] := hD
  refine lv_aload_n hx hb dX0_forget_10 rfl (lv_at hl 0 rfl) ?_
  refine lv_iconst (v := 0) hx hb dX0_forget_11 (by decide) ?_
  refine va_put (D := D) (ci := 0) (v := .int 0) (ty := .boolean) (C := RX0) (T := TX0) (N := 6) hx hb hts (by decide +kernel) tyX0 tyX0_ok nmX0 hown hK hP hD hS 0 rfl rfl 5 (by decide) (hts (.fieldLink RX0 30 "LastLetter$Games" "isGainKnown" "Z") (by decide +kernel)) (fun _ h9 => h9) rfl (by decide +kernel) rfl rfl (Nat.le_of_ble_eq_true rfl) dX0_forget_12 (fun H locs hP hD hS => ?_)
  have hP : va_P D vwCl [(o, .inr (0, [.ref gm_won, .ref gm_depths, .ref gm_gains, .int 0, .int 0, .int 0]))] H := hP
  have hD : va_D A [(o, .inr (0, [.ref gm_won, .ref gm_depths, .ref gm_gains, .int 0, .int 0, .int 0]))] := hD
  have hP9 := hP.sub (ws' := [(o, .inr (0, [.ref gm_won, .ref gm_depths, .ref gm_gains, .int 0, .int 0, .int 0]))]) [0] rfl
  have hD9 := hD.sub (ws' := [(o, .inr (0, [.ref gm_won, .ref gm_depths, .ref gm_gains, .int 0, .int 0, .int 0]))]) [0] (by decide) rfl
  refine W.widen (k := 0) (n := 0) (Nat.le_of_ble_eq_true rfl) (Nat.le_of_ble_eq_true rfl) ?_
  exact W.vret hx hb hr (fun tz htz hWz => ⟨⟨[(o, .inr (0, [.ref gm_won, .ref gm_depths, .ref gm_gains, .int 0, .int 0, .int 0]))], rfl, rfl, by rw [htz]; exact hP9, va_K.moved hWz.alike hK, hD9⟩, hS.F htz⟩) hS.2.2 dX0_forget_15

set_option maxHeartbeats 4000000 in
set_option maxRecDepth 100000 in
theorem c_X0_isWon (l : Launch) (D : va_G) (cB cI cJ cS cZ cO : ClassId) (sz : Nat) (o : Nat) (t : Nat) (k : Nat) (gm_won : Nat) (gm_depths : Nat) (gm_gains : Nat) (kn : Int32) (gm_isDepthKnown : Int32) (gm_isGainKnown : Int32) (ln : Nat) (fwn : Nat → Int32) (k_name : Nat) (k_worth : Nat) (k_times : Nat) (k_first : Nat) (k_second : Nat) (k_beforeLast : Nat) (k_last : Nat) (k_errandOf : Nat) (k_errandAfter : Nat) (k_sound : Nat) (k_followers : Nat) (k_leaders : Nat) (w : Nat) (k_errands : Int32) (k_alikes : Int32) (k_law : Int32) (f_leaders : Nat → Int32) (sN : Nat) (gW : Nat) (hs : sN = 2 ^ w) (hw4 : w ≤ 14) (hs1 : 1 ≤ sN) (hs2 : sN ≤ 16384) (hln : ln ≤ 16384) (hgW : ln < sN → sN ≤ gW) (hkn : (kn = 0 ∨ sN ≤ ln)) (hk : k < w) : Met l yX0_isWon wsX0_isWon ({ frames := 3, cells := 1, slots := gW, locals := 68 }) (xPre D (tyL cB cI cJ cS cZ cO) [(o, .inr (0, [.ref gm_won, .ref gm_depths, .ref gm_gains, .int kn, .int gm_isDepthKnown, .int gm_isGainKnown])), (gm_won, .inl (cI, ln, .inl fwn)), (t, .inr (8, [.ref k_name, .ref k_worth, .ref k_times, .ref k_first, .ref k_second, .ref k_beforeLast, .ref k_last, .ref k_errandOf, .ref k_errandAfter, .ref k_sound, .ref k_followers, .ref k_leaders, .int (nI w), .int k_errands, .int k_alikes, .int k_law])), (k_leaders, .inl (cI, 24, .inl f_leaders))] sz [.ref o, .ref t, .int (nI k)]) (xQi D (tyL cB cI cJ cS cZ cO) (va_A [(o, .inr (0, [.ref gm_won, .ref gm_depths, .ref gm_gains, .int kn, .int gm_isDepthKnown, .int gm_isGainKnown])), (gm_won, .inl (cI, ln, .inl fwn)), (t, .inr (8, [.ref k_name, .ref k_worth, .ref k_times, .ref k_first, .ref k_second, .ref k_beforeLast, .ref k_last, .ref k_errandOf, .ref k_errandAfter, .ref k_sound, .ref k_followers, .ref k_leaders, .int (nI w), .int k_errands, .int k_alikes, .int k_law])), (k_leaders, .inl (cI, 24, .inl f_leaders))] sz) (fun (r : Int32) (u : va_W) => ∃ k2 : Int32, ∃ wn2 : Nat, ∃ ln2 : Nat, ∃ gwn : Nat → Int32, u = [(o, .inr (0, [.ref wn2, .ref gm_depths, .ref gm_gains, .int k2, .int gm_isDepthKnown, .int gm_isGainKnown])), (wn2, .inl (cI, ln2, .inl gwn)), (t, .inr (8, [.ref k_name, .ref k_worth, .ref k_times, .ref k_first, .ref k_second, .ref k_beforeLast, .ref k_last, .ref k_errandOf, .ref k_errandAfter, .ref k_sound, .ref k_followers, .ref k_leaders, .int (nI w), .int k_errands, .int k_alikes, .int k_law])), (k_leaders, .inl (cI, 24, .inl f_leaders))] ∧ (r = 0 ∨ r = 1) ∧ sN ≤ ln2 ∧ ln2 ≤ 16384 ∧ (ln2 = ln ∨ (ln < sN ∧ ln2 = sN)) ∧ k2 ≠ 0)) 1 gW (va_A [(o, .inr (0, [.ref gm_won, .ref gm_depths, .ref gm_gains, .int kn, .int gm_isDepthKnown, .int gm_isGainKnown])), (gm_won, .inl (cI, ln, .inl fwn)), (t, .inr (8, [.ref k_name, .ref k_worth, .ref k_times, .ref k_first, .ref k_second, .ref k_beforeLast, .ref k_last, .ref k_errandOf, .ref k_errandAfter, .ref k_sound, .ref k_followers, .ref k_leaders, .int (nI w), .int k_errands, .int k_alikes, .int k_law])), (k_leaders, .inl (cI, 24, .inl f_leaders))] sz) := by
  refine Met.ofW (cc := cX0_isWon) (maxL := 3) (ret := (some .boolean)) (by decide) rfl ?_
  intro p e s m args below meth c s₁ B hml hv
  obtain ⟨rfl, hsz, hP, hK, hD0, hN⟩ := hv
  have hx := B.exec
  have hb := B.bytes
  have hr := B.returns
  have hts := atoms_spec (ws := wsX0_isWon) B.pre
  have hown : s.vm.findClass RX0 = some m.cls := findClass_of_methodNamed B.named
  have hlocks := B.notSynchronized
  subst hsz
  have hD := hD0.self (sz := s.heap.size)
  generalize hAe : va_A [(o, .inr (0, [.ref gm_won, .ref gm_depths, .ref gm_gains, .int kn, .int gm_isDepthKnown, .int gm_isGainKnown])), (gm_won, .inl (cI, ln, .inl fwn)), (t, .inr (8, [.ref k_name, .ref k_worth, .ref k_times, .ref k_first, .ref k_second, .ref k_beforeLast, .ref k_last, .ref k_errandOf, .ref k_errandAfter, .ref k_sound, .ref k_followers, .ref k_leaders, .int (nI w), .int k_errands, .int k_alikes, .int k_law])), (k_leaders, .inl (cI, 24, .inl f_leaders))] s.heap.size = A at hD ⊢
  have hA : ∀ q : Nat, s.heap.size ≤ q → A q := fun q h => by rw [← hAe]; exact Or.inr h
  have hS : va_S A s.heap s.heap [] := va_S.rf
  have hP : va_P D vwCl [(o, .inr (0, [.ref gm_won, .ref gm_depths, .ref gm_gains, .int kn, .int gm_isDepthKnown, .int gm_isGainKnown])), (gm_won, .inl (cI, ln, .inl fwn)), (t, .inr (8, [.ref k_name, .ref k_worth, .ref k_times, .ref k_first, .ref k_second, .ref k_beforeLast, .ref k_last, .ref k_errandOf, .ref k_errandAfter, .ref k_sound, .ref k_followers, .ref k_leaders, .int (nI w), .int k_errands, .int k_alikes, .int k_law])), (k_leaders, .inl (cI, 24, .inl f_leaders))] s.heap := hP
  have hl := lv_entry ([.ref o, .ref t, .int (nI k)]) (n := 3) (Nat.le_of_ble_eq_true rfl)
  rw [lg_entry_eq]
  generalize (lg_sl ([.ref o, .ref t, .int (nI k)]) ++ List.replicate (3 - (lg_sl ([.ref o, .ref t, .int (nI k)])).length) Slot.unset).toArray = ls at hl ⊢
  have hl : lv_has ls 3 [(0, .ref o), (1, .ref t), (2, .int (nI k))] := hl
  refine lv_aload_n hx hb dX0_isWon_0 rfl (lv_at hl 0 rfl) ?_
  refine lv_aload_n hx hb dX0_isWon_1 rfl (lv_at hl 1 rfl) ?_
  refine xCv (wr := []) (win := [(o, .inr (0, [.ref gm_won, .ref gm_depths, .ref gm_gains, .int kn, .int gm_isDepthKnown, .int gm_isGainKnown])), (gm_won, .inl (cI, ln, .inl fwn)), (t, .inr (8, [.ref k_name, .ref k_worth, .ref k_times, .ref k_first, .ref k_second, .ref k_beforeLast, .ref k_last, .ref k_errandOf, .ref k_errandAfter, .ref k_sound, .ref k_followers, .ref k_leaders, .int (nI w), .int k_errands, .int k_alikes, .int k_law])), (k_leaders, .inl (cI, 24, .inl f_leaders))]) hP hD hS hA [0, 1, 2, 3] [] rfl rfl (by decide) (by decide) (va_runV (As := [.ref t]) (rest := []) ⟨hx, hb, hml, hown, hts⟩ (c_X0_learnWon l D cB cI cJ cS cZ cO s.heap.size o t gm_won gm_depths gm_gains kn gm_isDepthKnown gm_isGainKnown ln fwn k_name k_worth k_times k_first k_second k_beforeLast k_last k_errandOf k_errandAfter k_sound k_followers k_leaders w k_errands k_alikes k_law f_leaders sN gW (by first | assumption | omega | decide) (by first | assumption | omega | decide) (by first | assumption | omega | decide) (by first | assumption | omega | decide) (by first | assumption | omega | decide) (by first | assumption | omega | decide) (by first | assumption | omega | decide)) (cwV 1 hts gX0_isWon_X0_learnWon rfl rfl rfl (by decide +kernel) ⟨Nat.le_of_ble_eq_true rfl, Nat.le_of_ble_eq_true rfl⟩) (xPreV (win := [(o, .inr (0, [.ref gm_won, .ref gm_depths, .ref gm_gains, .int kn, .int gm_isDepthKnown, .int gm_isGainKnown])), (gm_won, .inl (cI, ln, .inl fwn)), (t, .inr (8, [.ref k_name, .ref k_worth, .ref k_times, .ref k_first, .ref k_second, .ref k_beforeLast, .ref k_last, .ref k_errandOf, .ref k_errandAfter, .ref k_sound, .ref k_followers, .ref k_leaders, .int (nI w), .int k_errands, .int k_alikes, .int k_law])), (k_leaders, .inl (cI, 24, .inl f_leaders))]) hN hK hP hD [0, 1, 2, 3] (by decide) rfl 0 0 rfl rfl rfl) rfl rfl hl.1 rfl (lv_room (Nat.le_of_ble_eq_true rfl)) dX0_isWon_2 ⟨show 0 + 1 ≤ 1 by omega, show 0 + (gW) ≤ gW by omega⟩) (fun w0 H locs hw hP hD hS => ?_)
  obtain ⟨k2_1, wn2_2, ln2_3, gwn_4, rfl, hf_5, hf_6, hf_7, hf_8⟩ := hw
  refine W.widen (k := 1) (n := (gW)) (by omega) (by omega) ?_
  have hP : va_P D vwCl [(o, .inr (0, [.ref wn2_2, .ref gm_depths, .ref gm_gains, .int k2_1, .int gm_isDepthKnown, .int gm_isGainKnown])), (wn2_2, .inl (cI, ln2_3, .inl gwn_4)), (t, .inr (8, [.ref k_name, .ref k_worth, .ref k_times, .ref k_first, .ref k_second, .ref k_beforeLast, .ref k_last, .ref k_errandOf, .ref k_errandAfter, .ref k_sound, .ref k_followers, .ref k_leaders, .int (nI w), .int k_errands, .int k_alikes, .int k_law])), (k_leaders, .inl (cI, 24, .inl f_leaders))] H := hP
  have hD : va_D A [(o, .inr (0, [.ref wn2_2, .ref gm_depths, .ref gm_gains, .int k2_1, .int gm_isDepthKnown, .int gm_isGainKnown])), (wn2_2, .inl (cI, ln2_3, .inl gwn_4)), (t, .inr (8, [.ref k_name, .ref k_worth, .ref k_times, .ref k_first, .ref k_second, .ref k_beforeLast, .ref k_last, .ref k_errandOf, .ref k_errandAfter, .ref k_sound, .ref k_followers, .ref k_leaders, .int (nI w), .int k_errands, .int k_alikes, .int k_law])), (k_leaders, .inl (cI, 24, .inl f_leaders))] := hD
  refine lv_aload_n hx hb dX0_isWon_5 rfl (lv_at hl 0 rfl) ?_
  refine va_get (D := D) (ci := 0) (v := .ref wn2_2) (C := RX0) (T := TX0) (N := 6) hx hb hts (by decide +kernel) hown hK hP 0 rfl rfl 0 (by decide) (hts (.fieldLink RX0 9 "LastLetter$Games" "won" "[I") (by decide +kernel)) (fun _ h9 => h9) rfl dX0_isWon_6 ?_
  refine lv_aload_n hx hb dX0_isWon_9 rfl (lv_at hl 1 rfl) ?_
  refine xCi (wr := [(o, .inr (0, [.ref wn2_2, .ref gm_depths, .ref gm_gains, .int k2_1, .int gm_isDepthKnown, .int gm_isGainKnown])), (wn2_2, .inl (cI, ln2_3, .inl gwn_4)), (k_leaders, .inl (cI, 24, .inl f_leaders))]) (win := [(t, .inr (8, [.ref k_name, .ref k_worth, .ref k_times, .ref k_first, .ref k_second, .ref k_beforeLast, .ref k_last, .ref k_errandOf, .ref k_errandAfter, .ref k_sound, .ref k_followers, .ref k_leaders, .int (nI w), .int k_errands, .int k_alikes, .int k_law]))]) hP hD hS hA [2] [0, 1, 3] rfl rfl (by decide) (by decide) (va_runV (As := []) (rest := [.ref wn2_2]) ⟨hx, hb, hml, hown, hts⟩ (c_X8_everyWord l D cB cI cJ cS cZ cO H.size t k_name k_worth k_times k_first k_second k_beforeLast k_last k_errandOf k_errandAfter k_sound k_followers k_leaders w k_errands k_alikes k_law (by first | assumption | omega | decide)) (cwV 0 hts gX0_isWon_X8_everyWord rfl rfl rfl (by decide +kernel) ⟨Nat.le_of_ble_eq_true rfl, Nat.le_of_ble_eq_true rfl⟩) (xPreV (win := [(t, .inr (8, [.ref k_name, .ref k_worth, .ref k_times, .ref k_first, .ref k_second, .ref k_beforeLast, .ref k_last, .ref k_errandOf, .ref k_errandAfter, .ref k_sound, .ref k_followers, .ref k_leaders, .int (nI w), .int k_errands, .int k_alikes, .int k_law]))]) hN hK hP hD [2] (by decide) rfl 2 8 rfl rfl rfl) rfl rfl hl.1 rfl (lv_room (Nat.le_of_ble_eq_true rfl)) dX0_isWon_10 ⟨show 1 + 0 ≤ 1 by omega, show (gW) + 0 ≤ gW by omega⟩) (fun r0 w0 H locs hw hP hD hS => ?_)
  obtain ⟨rfl, rfl⟩ := hw
  have hP : va_P D vwCl [(o, .inr (0, [.ref wn2_2, .ref gm_depths, .ref gm_gains, .int k2_1, .int gm_isDepthKnown, .int gm_isGainKnown])), (wn2_2, .inl (cI, ln2_3, .inl gwn_4)), (k_leaders, .inl (cI, 24, .inl f_leaders)), (t, .inr (8, [.ref k_name, .ref k_worth, .ref k_times, .ref k_first, .ref k_second, .ref k_beforeLast, .ref k_last, .ref k_errandOf, .ref k_errandAfter, .ref k_sound, .ref k_followers, .ref k_leaders, .int (nI w), .int k_errands, .int k_alikes, .int k_law]))] H := hP
  have hD : va_D A [(o, .inr (0, [.ref wn2_2, .ref gm_depths, .ref gm_gains, .int k2_1, .int gm_isDepthKnown, .int gm_isGainKnown])), (wn2_2, .inl (cI, ln2_3, .inl gwn_4)), (k_leaders, .inl (cI, 24, .inl f_leaders)), (t, .inr (8, [.ref k_name, .ref k_worth, .ref k_times, .ref k_first, .ref k_second, .ref k_beforeLast, .ref k_last, .ref k_errandOf, .ref k_errandAfter, .ref k_sound, .ref k_followers, .ref k_leaders, .int (nI w), .int k_errands, .int k_alikes, .int k_law]))] := hD
  refine xb_top (y := nI (sN - 1)) (by rw [hs]) ?_
  refine lv_iconst (v := 1) hx hb dX0_isWon_13 (by decide) ?_
  refine lv_iload_n hx hb dX0_isWon_14 rfl (lv_at hl 2 rfl) ?_
  refine lv_ishl hx hb dX0_isWon_15 ?_
  refine xb_top (y := nI (1 * 2 ^ k)) (nb_shl (a := 1) (i := k) (by omega)) ?_
  obtain ⟨q_9, hq_9, eq_9⟩ := set_xor (a := sN - 1) (i := k) hs (by omega) (by omega)
  refine lv_ixor hx hb dX0_isWon_16 ?_
  refine xb_top (y := nI q_9) ((nb_xor (sN - 1) (1 * 2 ^ k)).trans eq_9) ?_
  refine va_iald hx hb hK hP 1 1 rfl rfl (vp_in_nI (by omega) (by omega)) dX0_isWon_17 ?_
  refine xb_top (y := gwn_4 q_9) (by rw [nI_clamp (by omega)]) ?_
  refine lv_iload_n hx hb dX0_isWon_18 rfl (lv_at hl 2 rfl) ?_
  refine xCi (wr := [(o, .inr (0, [.ref wn2_2, .ref gm_depths, .ref gm_gains, .int k2_1, .int gm_isDepthKnown, .int gm_isGainKnown])), (wn2_2, .inl (cI, ln2_3, .inl gwn_4)), (k_leaders, .inl (cI, 24, .inl f_leaders)), (t, .inr (8, [.ref k_name, .ref k_worth, .ref k_times, .ref k_first, .ref k_second, .ref k_beforeLast, .ref k_last, .ref k_errandOf, .ref k_errandAfter, .ref k_sound, .ref k_followers, .ref k_leaders, .int (nI w), .int k_errands, .int k_alikes, .int k_law]))]) (win := []) hP hD hS hA [] [0, 1, 2, 3] rfl rfl (by decide) (by decide) (va_runSN (As := [.int (gwn_4 q_9), .int (nI k)]) (rest := []) ⟨hx, hb, hml, hown, hts⟩ (c_X10_isIn l D cB cI cJ cS cZ cO H.size (gwn_4 q_9) (nI k) ) ⟨va_cnB 2 hts gX0_isWon_X10_isIn_n43 rfl rfl rfl (hN.2.1 (RX0, 43, yX10_isIn, RX10) (by decide +kernel)) (hts (.initialized RX10) (by decide +kernel)) (by decide +kernel) ⟨Nat.le_of_ble_eq_true rfl, Nat.le_of_ble_eq_true rfl⟩, hts (.static yX10_isIn) (by decide +kernel), trivial⟩ (xPreS (win := []) hN hK hP hD [] (by decide) rfl) rfl rfl hl.1 rfl (lv_room (Nat.le_of_ble_eq_true rfl)) dX0_isWon_19 ⟨show 1 + 0 ≤ 1 by omega, show (gW) + 0 ≤ gW by omega⟩) (fun r_10 w0 H locs hw hP hD hS => ?_)
  obtain ⟨rfl, hf_11⟩ := hw
  have hP : va_P D vwCl [(o, .inr (0, [.ref wn2_2, .ref gm_depths, .ref gm_gains, .int k2_1, .int gm_isDepthKnown, .int gm_isGainKnown])), (wn2_2, .inl (cI, ln2_3, .inl gwn_4)), (k_leaders, .inl (cI, 24, .inl f_leaders)), (t, .inr (8, [.ref k_name, .ref k_worth, .ref k_times, .ref k_first, .ref k_second, .ref k_beforeLast, .ref k_last, .ref k_errandOf, .ref k_errandAfter, .ref k_sound, .ref k_followers, .ref k_leaders, .int (nI w), .int k_errands, .int k_alikes, .int k_law]))] H := hP
  have hD : va_D A [(o, .inr (0, [.ref wn2_2, .ref gm_depths, .ref gm_gains, .int k2_1, .int gm_isDepthKnown, .int gm_isGainKnown])), (wn2_2, .inl (cI, ln2_3, .inl gwn_4)), (k_leaders, .inl (cI, 24, .inl f_leaders)), (t, .inr (8, [.ref k_name, .ref k_worth, .ref k_times, .ref k_first, .ref k_second, .ref k_beforeLast, .ref k_last, .ref k_errandOf, .ref k_errandAfter, .ref k_sound, .ref k_followers, .ref k_leaders, .int (nI w), .int k_errands, .int k_alikes, .int k_law]))] := hD
  have hP9 := hP.sub (ws' := [(o, .inr (0, [.ref wn2_2, .ref gm_depths, .ref gm_gains, .int k2_1, .int gm_isDepthKnown, .int gm_isGainKnown])), (wn2_2, .inl (cI, ln2_3, .inl gwn_4)), (t, .inr (8, [.ref k_name, .ref k_worth, .ref k_times, .ref k_first, .ref k_second, .ref k_beforeLast, .ref k_last, .ref k_errandOf, .ref k_errandAfter, .ref k_sound, .ref k_followers, .ref k_leaders, .int (nI w), .int k_errands, .int k_alikes, .int k_law])), (k_leaders, .inl (cI, 24, .inl f_leaders))]) [0, 1, 3, 2] rfl
  have hD9 := hD.sub (ws' := [(o, .inr (0, [.ref wn2_2, .ref gm_depths, .ref gm_gains, .int k2_1, .int gm_isDepthKnown, .int gm_isGainKnown])), (wn2_2, .inl (cI, ln2_3, .inl gwn_4)), (t, .inr (8, [.ref k_name, .ref k_worth, .ref k_times, .ref k_first, .ref k_second, .ref k_beforeLast, .ref k_last, .ref k_errandOf, .ref k_errandAfter, .ref k_sound, .ref k_followers, .ref k_leaders, .int (nI w), .int k_errands, .int k_alikes, .int k_law])), (k_leaders, .inl (cI, 24, .inl f_leaders))]) [0, 1, 3, 2] (by decide) rfl
  refine W.widen (k := 1) (n := gW) (show 1 ≤ 1 by omega) (show (gW) ≤ gW by omega) ?_
  exact W.zret (v := r_10) hx hb hr (nz01 hf_11) (fun tz htz hWz => ⟨⟨r_10, [(o, .inr (0, [.ref wn2_2, .ref gm_depths, .ref gm_gains, .int k2_1, .int gm_isDepthKnown, .int gm_isGainKnown])), (wn2_2, .inl (cI, ln2_3, .inl gwn_4)), (t, .inr (8, [.ref k_name, .ref k_worth, .ref k_times, .ref k_first, .ref k_second, .ref k_beforeLast, .ref k_last, .ref k_errandOf, .ref k_errandAfter, .ref k_sound, .ref k_followers, .ref k_leaders, .int (nI w), .int k_errands, .int k_alikes, .int k_law])), (k_leaders, .inl (cI, 24, .inl f_leaders))], rfl, ⟨k2_1, wn2_2, ln2_3, gwn_4, rfl, hf_11, hf_5, hf_6, hf_7, hf_8⟩, by rw [htz]; exact hP9, va_K.moved hWz.alike hK, hD9⟩, hS.F htz⟩) hS.2.2 dX0_isWon_22

set_option maxHeartbeats 4000000 in
set_option maxRecDepth 100000 in
theorem c_X0_firstWinning (l : Launch) (D : va_G) (cB cI cJ cS cZ cO : ClassId) (sz : Nat) (o : Nat) (t : Nat) (k : Nat) (gm_won : Nat) (gm_depths : Nat) (gm_gains : Nat) (kn : Int32) (gm_isDepthKnown : Int32) (gm_isGainKnown : Int32) (ln : Nat) (fwn : Nat → Int32) (k_name : Nat) (k_worth : Nat) (k_times : Nat) (k_first : Nat) (k_second : Nat) (k_beforeLast : Nat) (k_last : Nat) (k_errandOf : Nat) (k_errandAfter : Nat) (k_sound : Nat) (k_followers : Nat) (k_leaders : Nat) (w : Nat) (k_errands : Int32) (k_alikes : Int32) (k_law : Int32) (f_leaders : Nat → Int32) (f_followers : Nat → Int32) (sN : Nat) (gW : Nat) (hs : sN = 2 ^ w) (hw4 : w ≤ 14) (hs1 : 1 ≤ sN) (hs2 : sN ≤ 16384) (hln : ln ≤ 16384) (hgW : ln < sN → sN ≤ gW) (hkn : (kn = 0 ∨ sN ≤ ln)) (hk : k < w) : Met l yX0_firstWinning wsX0_firstWinning ({ frames := 3, cells := 1, slots := gW, locals := 68 }) (xPre D (tyL cB cI cJ cS cZ cO) [(o, .inr (0, [.ref gm_won, .ref gm_depths, .ref gm_gains, .int kn, .int gm_isDepthKnown, .int gm_isGainKnown])), (gm_won, .inl (cI, ln, .inl fwn)), (t, .inr (8, [.ref k_name, .ref k_worth, .ref k_times, .ref k_first, .ref k_second, .ref k_beforeLast, .ref k_last, .ref k_errandOf, .ref k_errandAfter, .ref k_sound, .ref k_followers, .ref k_leaders, .int (nI w), .int k_errands, .int k_alikes, .int k_law])), (k_leaders, .inl (cI, 24, .inl f_leaders)), (k_followers, .inl (cI, 24, .inl f_followers))] sz [.ref o, .ref t, .int (nI k)]) (xQi D (tyL cB cI cJ cS cZ cO) (va_A [(o, .inr (0, [.ref gm_won, .ref gm_depths, .ref gm_gains, .int kn, .int gm_isDepthKnown, .int gm_isGainKnown])), (gm_won, .inl (cI, ln, .inl fwn)), (t, .inr (8, [.ref k_name, .ref k_worth, .ref k_times, .ref k_first, .ref k_second, .ref k_beforeLast, .ref k_last, .ref k_errandOf, .ref k_errandAfter, .ref k_sound, .ref k_followers, .ref k_leaders, .int (nI w), .int k_errands, .int k_alikes, .int k_law])), (k_leaders, .inl (cI, 24, .inl f_leaders)), (k_followers, .inl (cI, 24, .inl f_followers))] sz) (fun (r : Int32) (u : va_W) => ∃ k2 : Int32, ∃ wn2 : Nat, ∃ ln2 : Nat, ∃ gwn : Nat → Int32, u = [(o, .inr (0, [.ref wn2, .ref gm_depths, .ref gm_gains, .int k2, .int gm_isDepthKnown, .int gm_isGainKnown])), (wn2, .inl (cI, ln2, .inl gwn)), (t, .inr (8, [.ref k_name, .ref k_worth, .ref k_times, .ref k_first, .ref k_second, .ref k_beforeLast, .ref k_last, .ref k_errandOf, .ref k_errandAfter, .ref k_sound, .ref k_followers, .ref k_leaders, .int (nI w), .int k_errands, .int k_alikes, .int k_law])), (k_leaders, .inl (cI, 24, .inl f_leaders)), (k_followers, .inl (cI, 24, .inl f_followers))] ∧ sN ≤ ln2 ∧ ln2 ≤ 16384 ∧ (ln2 = ln ∨ (ln < sN ∧ ln2 = sN)) ∧ k2 ≠ 0)) 1 gW (va_A [(o, .inr (0, [.ref gm_won, .ref gm_depths, .ref gm_gains, .int kn, .int gm_isDepthKnown, .int gm_isGainKnown])), (gm_won, .inl (cI, ln, .inl fwn)), (t, .inr (8, [.ref k_name, .ref k_worth, .ref k_times, .ref k_first, .ref k_second, .ref k_beforeLast, .ref k_last, .ref k_errandOf, .ref k_errandAfter, .ref k_sound, .ref k_followers, .ref k_leaders, .int (nI w), .int k_errands, .int k_alikes, .int k_law])), (k_leaders, .inl (cI, 24, .inl f_leaders)), (k_followers, .inl (cI, 24, .inl f_followers))] sz) := by
  refine Met.ofW (cc := cX0_firstWinning) (maxL := 6) (ret := (some .int)) (by decide) rfl ?_
  intro p e s m args below meth c s₁ B hml hv
  obtain ⟨rfl, hsz, hP, hK, hD0, hN⟩ := hv
  have hx := B.exec
  have hb := B.bytes
  have hr := B.returns
  have hts := atoms_spec (ws := wsX0_firstWinning) B.pre
  have hown : s.vm.findClass RX0 = some m.cls := findClass_of_methodNamed B.named
  have hlocks := B.notSynchronized
  subst hsz
  have hD := hD0.self (sz := s.heap.size)
  generalize hAe : va_A [(o, .inr (0, [.ref gm_won, .ref gm_depths, .ref gm_gains, .int kn, .int gm_isDepthKnown, .int gm_isGainKnown])), (gm_won, .inl (cI, ln, .inl fwn)), (t, .inr (8, [.ref k_name, .ref k_worth, .ref k_times, .ref k_first, .ref k_second, .ref k_beforeLast, .ref k_last, .ref k_errandOf, .ref k_errandAfter, .ref k_sound, .ref k_followers, .ref k_leaders, .int (nI w), .int k_errands, .int k_alikes, .int k_law])), (k_leaders, .inl (cI, 24, .inl f_leaders)), (k_followers, .inl (cI, 24, .inl f_followers))] s.heap.size = A at hD ⊢
  have hA : ∀ q : Nat, s.heap.size ≤ q → A q := fun q h => by rw [← hAe]; exact Or.inr h
  have hS : va_S A s.heap s.heap [] := va_S.rf
  have hP : va_P D vwCl [(o, .inr (0, [.ref gm_won, .ref gm_depths, .ref gm_gains, .int kn, .int gm_isDepthKnown, .int gm_isGainKnown])), (gm_won, .inl (cI, ln, .inl fwn)), (t, .inr (8, [.ref k_name, .ref k_worth, .ref k_times, .ref k_first, .ref k_second, .ref k_beforeLast, .ref k_last, .ref k_errandOf, .ref k_errandAfter, .ref k_sound, .ref k_followers, .ref k_leaders, .int (nI w), .int k_errands, .int k_alikes, .int k_law])), (k_leaders, .inl (cI, 24, .inl f_leaders)), (k_followers, .inl (cI, 24, .inl f_followers))] s.heap := hP
  have hl := lv_entry ([.ref o, .ref t, .int (nI k)]) (n := 6) (Nat.le_of_ble_eq_true rfl)
  rw [lg_entry_eq]
  generalize (lg_sl ([.ref o, .ref t, .int (nI k)]) ++ List.replicate (6 - (lg_sl ([.ref o, .ref t, .int (nI k)])).length) Slot.unset).toArray = ls at hl ⊢
  have hl : lv_has ls 6 [(0, .ref o), (1, .ref t), (2, .int (nI k))] := hl
  refine lv_aload_n hx hb dX0_firstWinning_0 rfl (lv_at hl 0 rfl) ?_
  refine lv_aload_n hx hb dX0_firstWinning_1 rfl (lv_at hl 1 rfl) ?_
  refine xCv (wr := [(k_followers, .inl (cI, 24, .inl f_followers))]) (win := [(o, .inr (0, [.ref gm_won, .ref gm_depths, .ref gm_gains, .int kn, .int gm_isDepthKnown, .int gm_isGainKnown])), (gm_won, .inl (cI, ln, .inl fwn)), (t, .inr (8, [.ref k_name, .ref k_worth, .ref k_times, .ref k_first, .ref k_second, .ref k_beforeLast, .ref k_last, .ref k_errandOf, .ref k_errandAfter, .ref k_sound, .ref k_followers, .ref k_leaders, .int (nI w), .int k_errands, .int k_alikes, .int k_law])), (k_leaders, .inl (cI, 24, .inl f_leaders))]) hP hD hS hA [0, 1, 2, 3] [4] rfl rfl (by decide) (by decide) (va_runV (As := [.ref t]) (rest := []) ⟨hx, hb, hml, hown, hts⟩ (c_X0_learnWon l D cB cI cJ cS cZ cO s.heap.size o t gm_won gm_depths gm_gains kn gm_isDepthKnown gm_isGainKnown ln fwn k_name k_worth k_times k_first k_second k_beforeLast k_last k_errandOf k_errandAfter k_sound k_followers k_leaders w k_errands k_alikes k_law f_leaders sN gW (by first | assumption | omega | decide) (by first | assumption | omega | decide) (by first | assumption | omega | decide) (by first | assumption | omega | decide) (by first | assumption | omega | decide) (by first | assumption | omega | decide) (by first | assumption | omega | decide)) (cwV 1 hts gX0_firstWinning_X0_learnWon rfl rfl rfl (by decide +kernel) ⟨Nat.le_of_ble_eq_true rfl, Nat.le_of_ble_eq_true rfl⟩) (xPreV (win := [(o, .inr (0, [.ref gm_won, .ref gm_depths, .ref gm_gains, .int kn, .int gm_isDepthKnown, .int gm_isGainKnown])), (gm_won, .inl (cI, ln, .inl fwn)), (t, .inr (8, [.ref k_name, .ref k_worth, .ref k_times, .ref k_first, .ref k_second, .ref k_beforeLast, .ref k_last, .ref k_errandOf, .ref k_errandAfter, .ref k_sound, .ref k_followers, .ref k_leaders, .int (nI w), .int k_errands, .int k_alikes, .int k_law])), (k_leaders, .inl (cI, 24, .inl f_leaders))]) hN hK hP hD [0, 1, 2, 3] (by decide) rfl 0 0 rfl rfl rfl) rfl rfl hl.1 rfl (lv_room (Nat.le_of_ble_eq_true rfl)) dX0_firstWinning_2 ⟨show 0 + 1 ≤ 1 by omega, show 0 + (gW) ≤ gW by omega⟩) (fun w0 H locs hw hP hD hS => ?_)
  obtain ⟨k2_1, wn2_2, ln2_3, gwn_4, rfl, hf_5, hf_6, hf_7, hf_8⟩ := hw
  refine W.widen (k := 1) (n := (gW)) (by omega) (by omega) ?_
  have hP : va_P D vwCl [(k_followers, .inl (cI, 24, .inl f_followers)), (o, .inr (0, [.ref wn2_2, .ref gm_depths, .ref gm_gains, .int k2_1, .int gm_isDepthKnown, .int gm_isGainKnown])), (wn2_2, .inl (cI, ln2_3, .inl gwn_4)), (t, .inr (8, [.ref k_name, .ref k_worth, .ref k_times, .ref k_first, .ref k_second, .ref k_beforeLast, .ref k_last, .ref k_errandOf, .ref k_errandAfter, .ref k_sound, .ref k_followers, .ref k_leaders, .int (nI w), .int k_errands, .int k_alikes, .int k_law])), (k_leaders, .inl (cI, 24, .inl f_leaders))] H := hP
  have hD : va_D A [(k_followers, .inl (cI, 24, .inl f_followers)), (o, .inr (0, [.ref wn2_2, .ref gm_depths, .ref gm_gains, .int k2_1, .int gm_isDepthKnown, .int gm_isGainKnown])), (wn2_2, .inl (cI, ln2_3, .inl gwn_4)), (t, .inr (8, [.ref k_name, .ref k_worth, .ref k_times, .ref k_first, .ref k_second, .ref k_beforeLast, .ref k_last, .ref k_errandOf, .ref k_errandAfter, .ref k_sound, .ref k_followers, .ref k_leaders, .int (nI w), .int k_errands, .int k_alikes, .int k_law])), (k_leaders, .inl (cI, 24, .inl f_leaders))] := hD
  refine lv_aload_n hx hb dX0_firstWinning_5 rfl (lv_at hl 1 rfl) ?_
  refine xCi (wr := [(k_followers, .inl (cI, 24, .inl f_followers)), (o, .inr (0, [.ref wn2_2, .ref gm_depths, .ref gm_gains, .int k2_1, .int gm_isDepthKnown, .int gm_isGainKnown])), (wn2_2, .inl (cI, ln2_3, .inl gwn_4)), (k_leaders, .inl (cI, 24, .inl f_leaders))]) (win := [(t, .inr (8, [.ref k_name, .ref k_worth, .ref k_times, .ref k_first, .ref k_second, .ref k_beforeLast, .ref k_last, .ref k_errandOf, .ref k_errandAfter, .ref k_sound, .ref k_followers, .ref k_leaders, .int (nI w), .int k_errands, .int k_alikes, .int k_law]))]) hP hD hS hA [3] [0, 1, 2, 4] rfl rfl (by decide) (by decide) (va_runV (As := []) (rest := []) ⟨hx, hb, hml, hown, hts⟩ (c_X8_everyWord l D cB cI cJ cS cZ cO H.size t k_name k_worth k_times k_first k_second k_beforeLast k_last k_errandOf k_errandAfter k_sound k_followers k_leaders w k_errands k_alikes k_law (by first | assumption | omega | decide)) (cwV 0 hts gX0_firstWinning_X8_everyWord rfl rfl rfl (by decide +kernel) ⟨Nat.le_of_ble_eq_true rfl, Nat.le_of_ble_eq_true rfl⟩) (xPreV (win := [(t, .inr (8, [.ref k_name, .ref k_worth, .ref k_times, .ref k_first, .ref k_second, .ref k_beforeLast, .ref k_last, .ref k_errandOf, .ref k_errandAfter, .ref k_sound, .ref k_followers, .ref k_leaders, .int (nI w), .int k_errands, .int k_alikes, .int k_law]))]) hN hK hP hD [3] (by decide) rfl 3 8 rfl rfl rfl) rfl rfl hl.1 rfl (lv_room (Nat.le_of_ble_eq_true rfl)) dX0_firstWinning_6 ⟨show 1 + 0 ≤ 1 by omega, show (gW) + 0 ≤ gW by omega⟩) (fun r0 w0 H locs hw hP hD hS => ?_)
  obtain ⟨rfl, rfl⟩ := hw
  have hP : va_P D vwCl [(k_followers, .inl (cI, 24, .inl f_followers)), (o, .inr (0, [.ref wn2_2, .ref gm_depths, .ref gm_gains, .int k2_1, .int gm_isDepthKnown, .int gm_isGainKnown])), (wn2_2, .inl (cI, ln2_3, .inl gwn_4)), (k_leaders, .inl (cI, 24, .inl f_leaders)), (t, .inr (8, [.ref k_name, .ref k_worth, .ref k_times, .ref k_first, .ref k_second, .ref k_beforeLast, .ref k_last, .ref k_errandOf, .ref k_errandAfter, .ref k_sound, .ref k_followers, .ref k_leaders, .int (nI w), .int k_errands, .int k_alikes, .int k_law]))] H := hP
  have hD : va_D A [(k_followers, .inl (cI, 24, .inl f_followers)), (o, .inr (0, [.ref wn2_2, .ref gm_depths, .ref gm_gains, .int k2_1, .int gm_isDepthKnown, .int gm_isGainKnown])), (wn2_2, .inl (cI, ln2_3, .inl gwn_4)), (k_leaders, .inl (cI, 24, .inl f_leaders)), (t, .inr (8, [.ref k_name, .ref k_worth, .ref k_times, .ref k_first, .ref k_second, .ref k_beforeLast, .ref k_last, .ref k_errandOf, .ref k_errandAfter, .ref k_sound, .ref k_followers, .ref k_leaders, .int (nI w), .int k_errands, .int k_alikes, .int k_law]))] := hD
  refine xb_top (y := nI (sN - 1)) (by rw [hs]) ?_
  refine lv_iconst (v := 1) hx hb dX0_firstWinning_9 (by decide) ?_
  refine lv_iload_n hx hb dX0_firstWinning_10 rfl (lv_at hl 2 rfl) ?_
  refine lv_ishl hx hb dX0_firstWinning_11 ?_
  refine xb_top (y := nI (1 * 2 ^ k)) (nb_shl (a := 1) (i := k) (by omega)) ?_
  obtain ⟨q_9, hq_9, eq_9⟩ := set_xor (a := sN - 1) (i := k) hs (by omega) (by omega)
  refine lv_ixor hx hb dX0_firstWinning_12 ?_
  refine xb_top (y := nI q_9) ((nb_xor (sN - 1) (1 * 2 ^ k)).trans eq_9) ?_
  refine lv_istore_n (lv' := [(3, .int (nI q_9)), (0, .ref o), (1, .ref t), (2, .int (nI k))]) hx hb dX0_firstWinning_13 rfl hl (by decide) rfl (fun ls hl => ?_)
  refine lv_aload_n hx hb dX0_firstWinning_14 rfl (lv_at hl 2 rfl) ?_
  refine va_getN (D := D) (ci := 8) (v := .ref k_followers) (C := RX8) (T := TX8) (N := 16) hx hb hts (by decide +kernel) hown hK hP 4 rfl rfl 10 (by decide) (va_Nw.use rfl (hN.1 (RX0, 47, RX8, "followers", "[I", RX10) (by decide +kernel))) (fun _ h9 => h9) rfl dX0_firstWinning_15 ?_
  refine lv_iload_n hx hb dX0_firstWinning_18 rfl (lv_at hl 3 rfl) ?_
  refine va_iald hx hb hK hP 0 1 rfl rfl (vp_in_nI (by omega) (by omega)) dX0_firstWinning_19 ?_
  refine xb_top (y := f_followers k) (by rw [nI_clamp (by omega)]) ?_
  refine lv_iload_n hx hb dX0_firstWinning_20 rfl (lv_at hl 0 rfl) ?_
  refine lv_iand hx hb dX0_firstWinning_21 ?_
  refine lv_topi (fun v_10 ev_10 => ?_)
  refine lv_istore (lv' := [(4, .int v_10), (3, .int (nI q_9)), (0, .ref o), (1, .ref t), (2, .int (nI k))]) hx hb dX0_firstWinning_22 hl (by decide) rfl (fun ls hl => ?_)
  refine lv_iconst (v := 0) hx hb dX0_firstWinning_24 (by decide) ?_
  refine lv_istore (lv' := [(5, .int 0), (4, .int v_10), (3, .int (nI q_9)), (0, .ref o), (1, .ref t), (2, .int (nI k))]) hx hb dX0_firstWinning_25 hl (by decide) rfl (fun ls hl => ?_)
  refine xb_wh (fun (n9 : Nat) H locs ls => ∃ i : Nat, (w - i) = n9 ∧ va_P D vwCl [(k_followers, .inl (cI, 24, .inl f_followers)), (o, .inr (0, [.ref wn2_2, .ref gm_depths, .ref gm_gains, .int k2_1, .int gm_isDepthKnown, .int gm_isGainKnown])), (wn2_2, .inl (cI, ln2_3, .inl gwn_4)), (k_leaders, .inl (cI, 24, .inl f_leaders)), (t, .inr (8, [.ref k_name, .ref k_worth, .ref k_times, .ref k_first, .ref k_second, .ref k_beforeLast, .ref k_last, .ref k_errandOf, .ref k_errandAfter, .ref k_sound, .ref k_followers, .ref k_leaders, .int (nI w), .int k_errands, .int k_alikes, .int k_law]))] H ∧ va_D A [(k_followers, .inl (cI, 24, .inl f_followers)), (o, .inr (0, [.ref wn2_2, .ref gm_depths, .ref gm_gains, .int k2_1, .int gm_isDepthKnown, .int gm_isGainKnown])), (wn2_2, .inl (cI, ln2_3, .inl gwn_4)), (k_leaders, .inl (cI, 24, .inl f_leaders)), (t, .inr (8, [.ref k_name, .ref k_worth, .ref k_times, .ref k_first, .ref k_second, .ref k_beforeLast, .ref k_last, .ref k_errandOf, .ref k_errandAfter, .ref k_sound, .ref k_followers, .ref k_leaders, .int (nI w), .int k_errands, .int k_alikes, .int k_law]))] ∧ va_S A s.heap H locs ∧ lv_has ls 6 [(5, .int (nI i)), (4, .int v_10), (3, .int (nI q_9)), (0, .ref o), (1, .ref t), (2, .int (nI k))] ∧ (i ≤ w)) ⟨0, rfl, hP, hD, hS, lv_sub hl [0, 1, 2, 3, 4, 5] rfl, (by first | assumption | omega)⟩ (fun n9 H locs ls hI kk_27 => ?_)
  obtain ⟨i, hn_27, hP, hD, hS, hl, hF_h_11⟩ := hI
  refine lv_iload hx hb dX0_firstWinning_27 (lv_at hl 0 rfl) ?_
  refine lv_aload_n hx hb dX0_firstWinning_29 rfl (lv_at hl 4 rfl) ?_
  refine va_getN (D := D) (ci := 8) (v := .int (nI w)) (C := RX8) (T := TX8) (N := 16) hx hb hts (by decide +kernel) hown hK hP 4 rfl rfl 12 (by decide) (va_Nw.use rfl (hN.1 (RX0, 50, RX8, "words", "I", RX10) (by decide +kernel))) (fun _ h9 => h9) rfl dX0_firstWinning_30 ?_
  refine lv_icmp_ge (tgt := 65) hx hb dX0_firstWinning_33 (by decide) (fun c_12 => ?_) (fun c_12 => ?_)
  · have dc_12 : w ≤ i := (nI_leI (a := w) (b := i) (by omega) (by omega)).mp c_12
    refine lv_iconst (v := (-1)) hx hb dX0_firstWinning_65 (by decide) ?_
    have hP9 := hP.sub (ws' := [(o, .inr (0, [.ref wn2_2, .ref gm_depths, .ref gm_gains, .int k2_1, .int gm_isDepthKnown, .int gm_isGainKnown])), (wn2_2, .inl (cI, ln2_3, .inl gwn_4)), (t, .inr (8, [.ref k_name, .ref k_worth, .ref k_times, .ref k_first, .ref k_second, .ref k_beforeLast, .ref k_last, .ref k_errandOf, .ref k_errandAfter, .ref k_sound, .ref k_followers, .ref k_leaders, .int (nI w), .int k_errands, .int k_alikes, .int k_law])), (k_leaders, .inl (cI, 24, .inl f_leaders)), (k_followers, .inl (cI, 24, .inl f_followers))]) [1, 2, 4, 3, 0] rfl
    have hD9 := hD.sub (ws' := [(o, .inr (0, [.ref wn2_2, .ref gm_depths, .ref gm_gains, .int k2_1, .int gm_isDepthKnown, .int gm_isGainKnown])), (wn2_2, .inl (cI, ln2_3, .inl gwn_4)), (t, .inr (8, [.ref k_name, .ref k_worth, .ref k_times, .ref k_first, .ref k_second, .ref k_beforeLast, .ref k_last, .ref k_errandOf, .ref k_errandAfter, .ref k_sound, .ref k_followers, .ref k_leaders, .int (nI w), .int k_errands, .int k_alikes, .int k_law])), (k_leaders, .inl (cI, 24, .inl f_leaders)), (k_followers, .inl (cI, 24, .inl f_followers))]) [1, 2, 4, 3, 0] (by decide) rfl
    refine W.widen (k := 1) (n := gW) (show 1 ≤ 1 by omega) (show (gW) ≤ gW by omega) ?_
    exact W.iret (v := (-1)) hx hb hr (fun tz htz hWz => ⟨⟨(-1), [(o, .inr (0, [.ref wn2_2, .ref gm_depths, .ref gm_gains, .int k2_1, .int gm_isDepthKnown, .int gm_isGainKnown])), (wn2_2, .inl (cI, ln2_3, .inl gwn_4)), (t, .inr (8, [.ref k_name, .ref k_worth, .ref k_times, .ref k_first, .ref k_second, .ref k_beforeLast, .ref k_last, .ref k_errandOf, .ref k_errandAfter, .ref k_sound, .ref k_followers, .ref k_leaders, .int (nI w), .int k_errands, .int k_alikes, .int k_law])), (k_leaders, .inl (cI, 24, .inl f_leaders)), (k_followers, .inl (cI, 24, .inl f_followers))], rfl, ⟨k2_1, wn2_2, ln2_3, gwn_4, rfl, hf_5, hf_6, hf_7, hf_8⟩, by rw [htz]; exact hP9, va_K.moved hWz.alike hK, hD9⟩, hS.F htz⟩) hS.2.2 dX0_firstWinning_66
  · have dc_12 : ¬ w ≤ i := fun h => c_12 ((nI_leI (a := w) (b := i) (by omega) (by omega)).mpr h)
    refine lv_iload hx hb dX0_firstWinning_36 (lv_at hl 1 rfl) ?_
    refine lv_iload hx hb dX0_firstWinning_38 (lv_at hl 0 rfl) ?_
    refine xCi (wr := [(k_followers, .inl (cI, 24, .inl f_followers)), (o, .inr (0, [.ref wn2_2, .ref gm_depths, .ref gm_gains, .int k2_1, .int gm_isDepthKnown, .int gm_isGainKnown])), (wn2_2, .inl (cI, ln2_3, .inl gwn_4)), (k_leaders, .inl (cI, 24, .inl f_leaders)), (t, .inr (8, [.ref k_name, .ref k_worth, .ref k_times, .ref k_first, .ref k_second, .ref k_beforeLast, .ref k_last, .ref k_errandOf, .ref k_errandAfter, .ref k_sound, .ref k_followers, .ref k_leaders, .int (nI w), .int k_errands, .int k_alikes, .int k_law]))]) (win := []) hP hD hS hA [] [0, 1, 2, 3, 4] rfl rfl (by decide) (by decide) (va_runSN (As := [.int v_10, .int (nI i)]) (rest := []) ⟨hx, hb, hml, hown, hts⟩ (c_X10_isIn l D cB cI cJ cS cZ cO H.size v_10 (nI i) ) ⟨va_cnB 2 hts gX0_firstWinning_X10_isIn_n43 rfl rfl rfl (hN.2.1 (RX0, 43, yX10_isIn, RX10) (by decide +kernel)) (hts (.initialized RX10) (by decide +kernel)) (by decide +kernel) ⟨Nat.le_of_ble_eq_true rfl, Nat.le_of_ble_eq_true rfl⟩, hts (.static yX10_isIn) (by decide +kernel), trivial⟩ (xPreS (win := []) hN hK hP hD [] (by decide) rfl) rfl rfl hl.1 rfl (lv_room (Nat.le_of_ble_eq_true rfl)) dX0_firstWinning_40 ⟨show 1 + 0 ≤ 1 by omega, show (gW) + 0 ≤ gW by omega⟩) (fun r_13 w0 H locs hw hP hD hS => ?_)
    obtain ⟨rfl, hf_14⟩ := hw
    have hP : va_P D vwCl [(k_followers, .inl (cI, 24, .inl f_followers)), (o, .inr (0, [.ref wn2_2, .ref gm_depths, .ref gm_gains, .int k2_1, .int gm_isDepthKnown, .int gm_isGainKnown])), (wn2_2, .inl (cI, ln2_3, .inl gwn_4)), (k_leaders, .inl (cI, 24, .inl f_leaders)), (t, .inr (8, [.ref k_name, .ref k_worth, .ref k_times, .ref k_first, .ref k_second, .ref k_beforeLast, .ref k_last, .ref k_errandOf, .ref k_errandAfter, .ref k_sound, .ref k_followers, .ref k_leaders, .int (nI w), .int k_errands, .int k_alikes, .int k_law]))] H := hP
    have hD : va_D A [(k_followers, .inl (cI, 24, .inl f_followers)), (o, .inr (0, [.ref wn2_2, .ref gm_depths, .ref gm_gains, .int k2_1, .int gm_isDepthKnown, .int gm_isGainKnown])), (wn2_2, .inl (cI, ln2_3, .inl gwn_4)), (k_leaders, .inl (cI, 24, .inl f_leaders)), (t, .inr (8, [.ref k_name, .ref k_worth, .ref k_times, .ref k_first, .ref k_second, .ref k_beforeLast, .ref k_last, .ref k_errandOf, .ref k_errandAfter, .ref k_sound, .ref k_followers, .ref k_leaders, .int (nI w), .int k_errands, .int k_alikes, .int k_law]))] := hD
    refine lv_if_eq (tgt := 59) hx hb dX0_firstWinning_43 (by decide) (fun c_15 => ?_) (fun c_15 => ?_)
    · refine lv_iinc (v := nI (i + 1)) (lv' := [(5, .int (nI (i + 1))), (4, .int v_10), (3, .int (nI q_9)), (0, .ref o), (1, .ref t), (2, .int (nI k))]) hx hb dX0_firstWinning_59 hl (k := 0) rfl (nI_1 i) (by decide) rfl (fun ls hl => ?_)
      refine lv_goto (tgt := 27) hx hb dX0_firstWinning_62 (by decide) ?_
      exact kk_27 _ _ _ _ (by rw [← hn_27]; omega) ⟨(i + 1), rfl, hP, hD, hS, lv_sub hl [0, 1, 2, 3, 4, 5] rfl, (by first | assumption | omega)⟩
    · refine lv_aload_n hx hb dX0_firstWinning_46 rfl (lv_at hl 3 rfl) ?_
      refine lv_iload_n hx hb dX0_firstWinning_47 rfl (lv_at hl 2 rfl) ?_
      refine lv_iload hx hb dX0_firstWinning_48 (lv_at hl 0 rfl) ?_
      refine xCi (wr := [(k_followers, .inl (cI, 24, .inl f_followers)), (k_leaders, .inl (cI, 24, .inl f_leaders)), (t, .inr (8, [.ref k_name, .ref k_worth, .ref k_times, .ref k_first, .ref k_second, .ref k_beforeLast, .ref k_last, .ref k_errandOf, .ref k_errandAfter, .ref k_sound, .ref k_followers, .ref k_leaders, .int (nI w), .int k_errands, .int k_alikes, .int k_law]))]) (win := [(o, .inr (0, [.ref wn2_2, .ref gm_depths, .ref gm_gains, .int k2_1, .int gm_isDepthKnown, .int gm_isGainKnown])), (wn2_2, .inl (cI, ln2_3, .inl gwn_4))]) hP hD hS hA [1, 2] [0, 3, 4] rfl rfl (by decide) (by decide) (va_runV (As := [.int (nI q_9), .int (nI i)]) (rest := []) ⟨hx, hb, hml, hown, hts⟩ (c_X0_isLostBehind l D cB cI cJ cS cZ cO H.size o q_9 i wn2_2 gm_depths gm_gains k2_1 gm_isDepthKnown gm_isGainKnown ln2_3 gwn_4 sN w (by first | assumption | omega | decide) (by first | assumption | omega | decide) (by first | assumption | omega | decide) (by first | assumption | omega | decide) (by first | assumption | omega | decide) (by first | assumption | omega | decide) (by first | assumption | omega | decide) (by first | assumption | omega | decide)) (cwV 2 hts gX0_firstWinning_X0_isLostBehind rfl rfl rfl (by decide +kernel) ⟨Nat.le_of_ble_eq_true rfl, Nat.le_of_ble_eq_true rfl⟩) (xPreV (win := [(o, .inr (0, [.ref wn2_2, .ref gm_depths, .ref gm_gains, .int k2_1, .int gm_isDepthKnown, .int gm_isGainKnown])), (wn2_2, .inl (cI, ln2_3, .inl gwn_4))]) hN hK hP hD [1, 2] (by decide) rfl 1 0 rfl rfl rfl) rfl rfl hl.1 rfl (lv_room (Nat.le_of_ble_eq_true rfl)) dX0_firstWinning_50 ⟨show 1 + 0 ≤ 1 by omega, show (gW) + 0 ≤ gW by omega⟩) (fun r_16 w0 H locs hw hP hD hS => ?_)
      obtain ⟨rfl, hf_17⟩ := hw
      have hP : va_P D vwCl [(k_followers, .inl (cI, 24, .inl f_followers)), (k_leaders, .inl (cI, 24, .inl f_leaders)), (t, .inr (8, [.ref k_name, .ref k_worth, .ref k_times, .ref k_first, .ref k_second, .ref k_beforeLast, .ref k_last, .ref k_errandOf, .ref k_errandAfter, .ref k_sound, .ref k_followers, .ref k_leaders, .int (nI w), .int k_errands, .int k_alikes, .int k_law])), (o, .inr (0, [.ref wn2_2, .ref gm_depths, .ref gm_gains, .int k2_1, .int gm_isDepthKnown, .int gm_isGainKnown])), (wn2_2, .inl (cI, ln2_3, .inl gwn_4))] H := hP
      have hD : va_D A [(k_followers, .inl (cI, 24, .inl f_followers)), (k_leaders, .inl (cI, 24, .inl f_leaders)), (t, .inr (8, [.ref k_name, .ref k_worth, .ref k_times, .ref k_first, .ref k_second, .ref k_beforeLast, .ref k_last, .ref k_errandOf, .ref k_errandAfter, .ref k_sound, .ref k_followers, .ref k_leaders, .int (nI w), .int k_errands, .int k_alikes, .int k_law])), (o, .inr (0, [.ref wn2_2, .ref gm_depths, .ref gm_gains, .int k2_1, .int gm_isDepthKnown, .int gm_isGainKnown])), (wn2_2, .inl (cI, ln2_3, .inl gwn_4))] := hD
      refine lv_if_eq (tgt := 59) hx hb dX0_firstWinning_53 (by decide) (fun c_18 => ?_) (fun c_18 => ?_)
      · refine lv_iinc (v := nI (i + 1)) (lv' := [(5, .int (nI (i + 1))), (4, .int v_10), (3, .int (nI q_9)), (0, .ref o), (1, .ref t), (2, .int (nI k))]) hx hb dX0_firstWinning_59 hl (k := 0) rfl (nI_1 i) (by decide) rfl (fun ls hl => ?_)
        refine lv_goto (tgt := 27) hx hb dX0_firstWinning_62 (by decide) ?_
        exact kk_27 _ _ _ _ (by rw [← hn_27]; omega) ⟨(i + 1), rfl, hP.sub [0, 3, 4, 1, 2] rfl, hD.sub [0, 3, 4, 1, 2] (by decide) rfl, hS, lv_sub hl [0, 1, 2, 3, 4, 5] rfl, (by first | assumption | omega)⟩
      · refine lv_iload hx hb dX0_firstWinning_56 (lv_at hl 0 rfl) ?_
        have hP9 := hP.sub (ws' := [(o, .inr (0, [.ref wn2_2, .ref gm_depths, .ref gm_gains, .int k2_1, .int gm_isDepthKnown, .int gm_isGainKnown])), (wn2_2, .inl (cI, ln2_3, .inl gwn_4)), (t, .inr (8, [.ref k_name, .ref k_worth, .ref k_times, .ref k_first, .ref k_second, .ref k_beforeLast, .ref k_last, .ref k_errandOf, .ref k_errandAfter, .ref k_sound, .ref k_followers, .ref k_leaders, .int (nI w), .int k_errands, .int k_alikes, .int k_law])), (k_leaders, .inl (cI, 24, .inl f_leaders)), (k_followers, .inl (cI, 24, .inl f_followers))]) [3, 4, 2, 1, 0] rfl
        have hD9 := hD.sub (ws' := [(o, .inr (0, [.ref wn2_2, .ref gm_depths, .ref gm_gains, .int k2_1, .int gm_isDepthKnown, .int gm_isGainKnown])), (wn2_2, .inl (cI, ln2_3, .inl gwn_4)), (t, .inr (8, [.ref k_name, .ref k_worth, .ref k_times, .ref k_first, .ref k_second, .ref k_beforeLast, .ref k_last, .ref k_errandOf, .ref k_errandAfter, .ref k_sound, .ref k_followers, .ref k_leaders, .int (nI w), .int k_errands, .int k_alikes, .int k_law])), (k_leaders, .inl (cI, 24, .inl f_leaders)), (k_followers, .inl (cI, 24, .inl f_followers))]) [3, 4, 2, 1, 0] (by decide) rfl
        refine W.widen (k := 1) (n := gW) (show 1 ≤ 1 by omega) (show (gW) ≤ gW by omega) ?_
        exact W.iret (v := nI i) hx hb hr (fun tz htz hWz => ⟨⟨nI i, [(o, .inr (0, [.ref wn2_2, .ref gm_depths, .ref gm_gains, .int k2_1, .int gm_isDepthKnown, .int gm_isGainKnown])), (wn2_2, .inl (cI, ln2_3, .inl gwn_4)), (t, .inr (8, [.ref k_name, .ref k_worth, .ref k_times, .ref k_first, .ref k_second, .ref k_beforeLast, .ref k_last, .ref k_errandOf, .ref k_errandAfter, .ref k_sound, .ref k_followers, .ref k_leaders, .int (nI w), .int k_errands, .int k_alikes, .int k_law])), (k_leaders, .inl (cI, 24, .inl f_leaders)), (k_followers, .inl (cI, 24, .inl f_followers))], rfl, ⟨k2_1, wn2_2, ln2_3, gwn_4, rfl, hf_5, hf_6, hf_7, hf_8⟩, by rw [htz]; exact hP9, va_K.moved hWz.alike hK, hD9⟩, hS.F htz⟩) hS.2.2 dX0_firstWinning_58

set_option maxHeartbeats 4000000 in
set_option maxRecDepth 100000 in
theorem c_X0_depth (l : Launch) (D : va_G) (cB cI cJ cS cZ cO : ClassId) (sz : Nat) (o : Nat) (st : Nat) (k : Nat) (gm_won : Nat) (gm_depths : Nat) (gm_gains : Nat) (gm_isWonKnown : Int32) (gm_isDepthKnown : Int32) (gm_isGainKnown : Int32) (ld : Nat) (fd : Nat → Int64) (hld : ld ≤ 16384) (hst : st < ld) : Met l yX0_depth wsX0_depth ({ frames := 0, cells := 0, slots := 0, locals := 0 }) (xPre D (tyL cB cI cJ cS cZ cO) [(o, .inr (0, [.ref gm_won, .ref gm_depths, .ref gm_gains, .int gm_isWonKnown, .int gm_isDepthKnown, .int gm_isGainKnown])), (gm_depths, .inl (cJ, ld, .inr (.inl fd)))] sz [.ref o, .int (nI st), .int (nI k)]) (xQi D (tyL cB cI cJ cS cZ cO) (va_A [(o, .inr (0, [.ref gm_won, .ref gm_depths, .ref gm_gains, .int gm_isWonKnown, .int gm_isDepthKnown, .int gm_isGainKnown])), (gm_depths, .inl (cJ, ld, .inr (.inl fd)))] sz) (fun (r : Int32) (u : va_W) => u = [(o, .inr (0, [.ref gm_won, .ref gm_depths, .ref gm_gains, .int gm_isWonKnown, .int gm_isDepthKnown, .int gm_isGainKnown])), (gm_depths, .inl (cJ, ld, .inr (.inl fd)))])) 0 0 (va_A [(o, .inr (0, [.ref gm_won, .ref gm_depths, .ref gm_gains, .int gm_isWonKnown, .int gm_isDepthKnown, .int gm_isGainKnown])), (gm_depths, .inl (cJ, ld, .inr (.inl fd)))] sz) := by
  refine Met.ofW (cc := cX0_depth) (maxL := 3) (ret := (some .int)) (by decide) rfl ?_
  intro p e s m args below meth c s₁ B hml hv
  obtain ⟨rfl, hsz, hP, hK, hD0, hN⟩ := hv
  have hx := B.exec
  have hb := B.bytes
  have hr := B.returns
  have hts := atoms_spec (ws := wsX0_depth) B.pre
  have hown : s.vm.findClass RX0 = some m.cls := findClass_of_methodNamed B.named
  have hlocks := B.notSynchronized
  subst hsz
  have hD := hD0.self (sz := s.heap.size)
  generalize hAe : va_A [(o, .inr (0, [.ref gm_won, .ref gm_depths, .ref gm_gains, .int gm_isWonKnown, .int gm_isDepthKnown, .int gm_isGainKnown])), (gm_depths, .inl (cJ, ld, .inr (.inl fd)))] s.heap.size = A at hD ⊢
  have hA : ∀ q : Nat, s.heap.size ≤ q → A q := fun q h => by rw [← hAe]; exact Or.inr h
  have hS : va_S A s.heap s.heap [] := va_S.rf
  have hP : va_P D vwCl [(o, .inr (0, [.ref gm_won, .ref gm_depths, .ref gm_gains, .int gm_isWonKnown, .int gm_isDepthKnown, .int gm_isGainKnown])), (gm_depths, .inl (cJ, ld, .inr (.inl fd)))] s.heap := hP
  have hl := lv_entry ([.ref o, .int (nI st), .int (nI k)]) (n := 3) (Nat.le_of_ble_eq_true rfl)
  rw [lg_entry_eq]
  generalize (lg_sl ([.ref o, .int (nI st), .int (nI k)]) ++ List.replicate (3 - (lg_sl ([.ref o, .int (nI st), .int (nI k)])).length) Slot.unset).toArray = ls at hl ⊢
  have hl : lv_has ls 3 [(0, .ref o), (1, .int (nI st)), (2, .int (nI k))] := hl
  refine lv_aload_n hx hb dX0_depth_0 rfl (lv_at hl 0 rfl) ?_
  refine va_get (D := D) (ci := 0) (v := .ref gm_depths) (C := RX0) (T := TX0) (N := 6) hx hb hts (by decide +kernel) hown hK hP 0 rfl rfl 1 (by decide) (hts (.fieldLink RX0 15 "LastLetter$Games" "depths" "[J") (by decide +kernel)) (fun _ h9 => h9) rfl dX0_depth_1 ?_
  refine lv_iload_n hx hb dX0_depth_4 rfl (lv_at hl 1 rfl) ?_
  refine va_lald hx hb hK hP 1 2 rfl rfl (vp_in_nI (by omega) (by omega)) dX0_depth_5 ?_
  refine xb_topl (y := fd st) (by rw [nI_clamp (by omega)]) ?_
  refine lv_iconst (v := 4) hx hb dX0_depth_6 (by decide) ?_
  refine lv_iload_n hx hb dX0_depth_7 rfl (lv_at hl 2 rfl) ?_
  refine lv_imul hx hb dX0_depth_8 ?_
  refine xb_top (y := nI (4 * k)) (pk_mul 4 k) ?_
  obtain ⟨v_1, ev_1⟩ : ∃ v9 : Int64, (((fd st) : Int64).toUInt64 >>> (((nI (4 * k)) : Int32).toInt64.toUInt64 &&& Int64.toUInt64 63)).toInt64 = v9 := ⟨_, rfl⟩
  refine lv_lushr (v := v_1) hx hb dX0_depth_9 ev_1 ?_
  obtain ⟨v_2, ev_2⟩ : ∃ v9 : Int32, Int64.toInt32 v_1 = v9 := ⟨_, rfl⟩
  refine lv_l2i (v := v_2) hx hb dX0_depth_10 ev_2 ?_
  refine lv_bipush (v := 15) hx hb dX0_depth_11 (by decide) ?_
  refine lv_iand hx hb dX0_depth_13 ?_
  have hP9 := hP.sub (ws' := [(o, .inr (0, [.ref gm_won, .ref gm_depths, .ref gm_gains, .int gm_isWonKnown, .int gm_isDepthKnown, .int gm_isGainKnown])), (gm_depths, .inl (cJ, ld, .inr (.inl fd)))]) [0, 1] rfl
  have hD9 := hD.sub (ws' := [(o, .inr (0, [.ref gm_won, .ref gm_depths, .ref gm_gains, .int gm_isWonKnown, .int gm_isDepthKnown, .int gm_isGainKnown])), (gm_depths, .inl (cJ, ld, .inr (.inl fd)))]) [0, 1] (by decide) rfl
  refine W.widen (k := 0) (n := 0) (Nat.le_of_ble_eq_true rfl) (Nat.le_of_ble_eq_true rfl) ?_
  exact W.iret (v := v_2 &&& 15) hx hb hr (fun tz htz hWz => ⟨⟨v_2 &&& 15, [(o, .inr (0, [.ref gm_won, .ref gm_depths, .ref gm_gains, .int gm_isWonKnown, .int gm_isDepthKnown, .int gm_isGainKnown])), (gm_depths, .inl (cJ, ld, .inr (.inl fd)))], rfl, rfl, by rw [htz]; exact hP9, va_K.moved hWz.alike hK, hD9⟩, hS.F htz⟩) hS.2.2 dX0_depth_14

set_option maxHeartbeats 4000000 in
set_option maxRecDepth 100000 in
theorem c_X0_bestDepth (l : Launch) (D : va_G) (cB cI cJ cS cZ cO : ClassId) (sz : Nat) (o : Nat) (st : Nat) (mv : Nat) (x : Int32) (gm_won : Nat) (gm_depths : Nat) (gm_gains : Nat) (gm_isWonKnown : Int32) (gm_isDepthKnown : Int32) (gm_isGainKnown : Int32) (ln : Nat) (fwn : Nat → Int32) (ld : Nat) (fd : Nat → Int64) (sN : Nat) (w : Nat) (hs : sN = 2 ^ w) (hw4 : w ≤ 14) (hs1 : 1 ≤ sN) (hs2 : sN ≤ 16384) (hln : ln ≤ 16384) (hld : ld ≤ 16384) (hsl : sN ≤ ln) (hsd : sN ≤ ld) (hst : st < sN) (hmv : mv ≤ st) : Met l yX0_bestDepth wsX0_bestDepth ({ frames := 2, cells := 0, slots := 0, locals := 43 }) (xPre D (tyL cB cI cJ cS cZ cO) [(o, .inr (0, [.ref gm_won, .ref gm_depths, .ref gm_gains, .int gm_isWonKnown, .int gm_isDepthKnown, .int gm_isGainKnown])), (gm_won, .inl (cI, ln, .inl fwn)), (gm_depths, .inl (cJ, ld, .inr (.inl fd)))] sz [.ref o, .int (nI st), .int (nI mv), .int x]) (xQi D (tyL cB cI cJ cS cZ cO) (va_A [(o, .inr (0, [.ref gm_won, .ref gm_depths, .ref gm_gains, .int gm_isWonKnown, .int gm_isDepthKnown, .int gm_isGainKnown])), (gm_won, .inl (cI, ln, .inl fwn)), (gm_depths, .inl (cJ, ld, .inr (.inl fd)))] sz) (fun (r : Int32) (u : va_W) => u = [(o, .inr (0, [.ref gm_won, .ref gm_depths, .ref gm_gains, .int gm_isWonKnown, .int gm_isDepthKnown, .int gm_isGainKnown])), (gm_won, .inl (cI, ln, .inl fwn)), (gm_depths, .inl (cJ, ld, .inr (.inl fd)))])) 0 0 (va_A [(o, .inr (0, [.ref gm_won, .ref gm_depths, .ref gm_gains, .int gm_isWonKnown, .int gm_isDepthKnown, .int gm_isGainKnown])), (gm_won, .inl (cI, ln, .inl fwn)), (gm_depths, .inl (cJ, ld, .inr (.inl fd)))] sz) := by
  refine Met.ofW (cc := cX0_bestDepth) (maxL := 7) (ret := (some .int)) (by decide) rfl ?_
  intro p e s m args below meth c s₁ B hml hv
  obtain ⟨rfl, hsz, hP, hK, hD0, hN⟩ := hv
  have hx := B.exec
  have hb := B.bytes
  have hr := B.returns
  have hts := atoms_spec (ws := wsX0_bestDepth) B.pre
  have hown : s.vm.findClass RX0 = some m.cls := findClass_of_methodNamed B.named
  have hlocks := B.notSynchronized
  subst hsz
  have hD := hD0.self (sz := s.heap.size)
  generalize hAe : va_A [(o, .inr (0, [.ref gm_won, .ref gm_depths, .ref gm_gains, .int gm_isWonKnown, .int gm_isDepthKnown, .int gm_isGainKnown])), (gm_won, .inl (cI, ln, .inl fwn)), (gm_depths, .inl (cJ, ld, .inr (.inl fd)))] s.heap.size = A at hD ⊢
  have hA : ∀ q : Nat, s.heap.size ≤ q → A q := fun q h => by rw [← hAe]; exact Or.inr h
  have hS : va_S A s.heap s.heap [] := va_S.rf
  have hP : va_P D vwCl [(o, .inr (0, [.ref gm_won, .ref gm_depths, .ref gm_gains, .int gm_isWonKnown, .int gm_isDepthKnown, .int gm_isGainKnown])), (gm_won, .inl (cI, ln, .inl fwn)), (gm_depths, .inl (cJ, ld, .inr (.inl fd)))] s.heap := hP
  have hl := lv_entry ([.ref o, .int (nI st), .int (nI mv), .int x]) (n := 7) (Nat.le_of_ble_eq_true rfl)
  rw [lg_entry_eq]
  generalize (lg_sl ([.ref o, .int (nI st), .int (nI mv), .int x]) ++ List.replicate (7 - (lg_sl ([.ref o, .int (nI st), .int (nI mv), .int x])).length) Slot.unset).toArray = ls at hl ⊢
  have hl : lv_has ls 7 [(0, .ref o), (1, .int (nI st)), (2, .int (nI mv)), (3, .int x)] := hl
  refine lv_iconst (v := 0) hx hb dX0_bestDepth_0 (by decide) ?_
  refine lv_istore (lv' := [(4, .int 0), (0, .ref o), (1, .int (nI st)), (2, .int (nI mv)), (3, .int x)]) hx hb dX0_bestDepth_1 hl (by decide) rfl (fun ls hl => ?_)
  refine lv_iconst (v := 0) hx hb dX0_bestDepth_3 (by decide) ?_
  refine lv_istore (lv' := [(5, .int 0), (4, .int 0), (0, .ref o), (1, .int (nI st)), (2, .int (nI mv)), (3, .int x)]) hx hb dX0_bestDepth_4 hl (by decide) rfl (fun ls hl => ?_)
  refine xb_wh (fun (n9 : Nat) H locs ls => ∃ i : Nat, ∃ be : Int32, (14 - i) = n9 ∧ va_P D vwCl [(o, .inr (0, [.ref gm_won, .ref gm_depths, .ref gm_gains, .int gm_isWonKnown, .int gm_isDepthKnown, .int gm_isGainKnown])), (gm_won, .inl (cI, ln, .inl fwn)), (gm_depths, .inl (cJ, ld, .inr (.inl fd)))] H ∧ va_D A [(o, .inr (0, [.ref gm_won, .ref gm_depths, .ref gm_gains, .int gm_isWonKnown, .int gm_isDepthKnown, .int gm_isGainKnown])), (gm_won, .inl (cI, ln, .inl fwn)), (gm_depths, .inl (cJ, ld, .inr (.inl fd)))] ∧ va_S A s.heap H locs ∧ lv_has ls 7 [(5, .int (nI i)), (4, .int be), (0, .ref o), (1, .int (nI st)), (2, .int (nI mv)), (3, .int x)] ∧ (i ≤ 14)) ⟨0, 0, rfl, hP, hD, hS, lv_sub hl [0, 1, 2, 3, 4, 5] rfl, (by first | assumption | omega)⟩ (fun n9 H locs ls hI kk_6 => ?_)
  obtain ⟨i, be, hn_6, hP, hD, hS, hl, hF_h_1⟩ := hI
  refine lv_iload hx hb dX0_bestDepth_6 (lv_at hl 0 rfl) ?_
  refine lv_bipush (v := 14) hx hb dX0_bestDepth_8 (by decide) ?_
  refine lv_icmp_ge (tgt := 95) hx hb dX0_bestDepth_10 (by decide) (fun c_2 => ?_) (fun c_2 => ?_)
  · have dc_2 : 14 ≤ i := (nI_leI (a := 14) (b := i) (by omega) (by omega)).mp c_2
    refine lv_iload hx hb dX0_bestDepth_95 (lv_at hl 1 rfl) ?_
    have hP9 := hP.sub (ws' := [(o, .inr (0, [.ref gm_won, .ref gm_depths, .ref gm_gains, .int gm_isWonKnown, .int gm_isDepthKnown, .int gm_isGainKnown])), (gm_won, .inl (cI, ln, .inl fwn)), (gm_depths, .inl (cJ, ld, .inr (.inl fd)))]) [0, 1, 2] rfl
    have hD9 := hD.sub (ws' := [(o, .inr (0, [.ref gm_won, .ref gm_depths, .ref gm_gains, .int gm_isWonKnown, .int gm_isDepthKnown, .int gm_isGainKnown])), (gm_won, .inl (cI, ln, .inl fwn)), (gm_depths, .inl (cJ, ld, .inr (.inl fd)))]) [0, 1, 2] (by decide) rfl
    refine W.widen (k := 0) (n := 0) (Nat.le_of_ble_eq_true rfl) (Nat.le_of_ble_eq_true rfl) ?_
    exact W.iret (v := be) hx hb hr (fun tz htz hWz => ⟨⟨be, [(o, .inr (0, [.ref gm_won, .ref gm_depths, .ref gm_gains, .int gm_isWonKnown, .int gm_isDepthKnown, .int gm_isGainKnown])), (gm_won, .inl (cI, ln, .inl fwn)), (gm_depths, .inl (cJ, ld, .inr (.inl fd)))], rfl, rfl, by rw [htz]; exact hP9, va_K.moved hWz.alike hK, hD9⟩, hS.F htz⟩) hS.2.2 dX0_bestDepth_97
  · have dc_2 : ¬ 14 ≤ i := fun h => c_2 ((nI_leI (a := 14) (b := i) (by omega) (by omega)).mpr h)
    refine lv_iload_n hx hb dX0_bestDepth_13 rfl (lv_at hl 4 rfl) ?_
    refine lv_iload hx hb dX0_bestDepth_14 (lv_at hl 0 rfl) ?_
    refine lv_iushr (v := nI (mv / 2 ^ i)) hx hb dX0_bestDepth_16 (nb_ushr (a := mv) (i := i) (by omega) (by omega)) ?_
    refine lv_if_eq (tgt := 95) hx hb dX0_bestDepth_17 (by decide) (fun c_3 => ?_) (fun c_3 => ?_)
    · refine lv_iload hx hb dX0_bestDepth_95 (lv_at hl 1 rfl) ?_
      have hP9 := hP.sub (ws' := [(o, .inr (0, [.ref gm_won, .ref gm_depths, .ref gm_gains, .int gm_isWonKnown, .int gm_isDepthKnown, .int gm_isGainKnown])), (gm_won, .inl (cI, ln, .inl fwn)), (gm_depths, .inl (cJ, ld, .inr (.inl fd)))]) [0, 1, 2] rfl
      have hD9 := hD.sub (ws' := [(o, .inr (0, [.ref gm_won, .ref gm_depths, .ref gm_gains, .int gm_isWonKnown, .int gm_isDepthKnown, .int gm_isGainKnown])), (gm_won, .inl (cI, ln, .inl fwn)), (gm_depths, .inl (cJ, ld, .inr (.inl fd)))]) [0, 1, 2] (by decide) rfl
      refine W.widen (k := 0) (n := 0) (Nat.le_of_ble_eq_true rfl) (Nat.le_of_ble_eq_true rfl) ?_
      exact W.iret (v := be) hx hb hr (fun tz htz hWz => ⟨⟨be, [(o, .inr (0, [.ref gm_won, .ref gm_depths, .ref gm_gains, .int gm_isWonKnown, .int gm_isDepthKnown, .int gm_isGainKnown])), (gm_won, .inl (cI, ln, .inl fwn)), (gm_depths, .inl (cJ, ld, .inr (.inl fd)))], rfl, rfl, by rw [htz]; exact hP9, va_K.moved hWz.alike hK, hD9⟩, hS.F htz⟩) hS.2.2 dX0_bestDepth_97
    · refine lv_iload_n hx hb dX0_bestDepth_20 rfl (lv_at hl 4 rfl) ?_
      refine lv_iload hx hb dX0_bestDepth_21 (lv_at hl 0 rfl) ?_
      refine xCi (wr := [(o, .inr (0, [.ref gm_won, .ref gm_depths, .ref gm_gains, .int gm_isWonKnown, .int gm_isDepthKnown, .int gm_isGainKnown])), (gm_won, .inl (cI, ln, .inl fwn)), (gm_depths, .inl (cJ, ld, .inr (.inl fd)))]) (win := []) hP hD hS hA [] [0, 1, 2] rfl rfl (by decide) (by decide) (va_runSN (As := [.int (nI mv), .int (nI i)]) (rest := []) ⟨hx, hb, hml, hown, hts⟩ (c_X10_isIn_n l D cB cI cJ cS cZ cO H.size mv i (by first | assumption | omega | decide) (by first | assumption | omega | decide)) ⟨va_cnB 2 hts gX0_bestDepth_X10_isIn_n43 rfl rfl rfl (hN.2.1 (RX0, 43, yX10_isIn, RX10) (by decide +kernel)) (hts (.initialized RX10) (by decide +kernel)) (by decide +kernel) ⟨Nat.le_of_ble_eq_true rfl, Nat.le_of_ble_eq_true rfl⟩, hts (.static yX10_isIn) (by decide +kernel), trivial⟩ (xPreS (win := []) hN hK hP hD [] (by decide) rfl) rfl rfl hl.1 rfl (lv_room (Nat.le_of_ble_eq_true rfl)) dX0_bestDepth_23 ⟨Nat.le_of_ble_eq_true rfl, Nat.le_of_ble_eq_true rfl⟩) (fun r_4 w0 H locs hw hP hD hS => ?_)
      obtain ⟨rfl, hf_5⟩ := hw
      have hP : va_P D vwCl [(o, .inr (0, [.ref gm_won, .ref gm_depths, .ref gm_gains, .int gm_isWonKnown, .int gm_isDepthKnown, .int gm_isGainKnown])), (gm_won, .inl (cI, ln, .inl fwn)), (gm_depths, .inl (cJ, ld, .inr (.inl fd)))] H := hP
      have hD : va_D A [(o, .inr (0, [.ref gm_won, .ref gm_depths, .ref gm_gains, .int gm_isWonKnown, .int gm_isDepthKnown, .int gm_isGainKnown])), (gm_won, .inl (cI, ln, .inl fwn)), (gm_depths, .inl (cJ, ld, .inr (.inl fd)))] := hD
      refine lv_if_eq (tgt := 89) hx hb dX0_bestDepth_26 (by decide) (fun c_6 => ?_) (fun c_6 => ?_)
      · refine lv_iinc (v := nI (i + 1)) (lv' := [(5, .int (nI (i + 1))), (4, .int be), (0, .ref o), (1, .int (nI st)), (2, .int (nI mv)), (3, .int x)]) hx hb dX0_bestDepth_89 hl (k := 0) rfl (nI_1 i) (by decide) rfl (fun ls hl => ?_)
        refine lv_goto (tgt := 6) hx hb dX0_bestDepth_92 (by decide) ?_
        exact kk_6 _ _ _ _ (by rw [← hn_6]; omega) ⟨(i + 1), be, rfl, hP, hD, hS, lv_sub hl [0, 1, 2, 3, 4, 5] rfl, (by first | assumption | omega)⟩
      · have hiw : i < w := bit_w (v := mv) (by rw [← hs]; omega) (hf_5.resolve_left c_6).2
        refine lv_iload_n hx hb dX0_bestDepth_29 rfl (lv_at hl 5 rfl) ?_
        refine lv_if_eq (tgt := 43) hx hb dX0_bestDepth_30 (by decide) (fun c_7 => ?_) (fun c_7 => ?_)
        · refine lv_iconst (v := 1) hx hb dX0_bestDepth_43 (by decide) ?_
          refine lv_aload_n hx hb dX0_bestDepth_44 rfl (lv_at hl 2 rfl) ?_
          refine lv_iload_n hx hb dX0_bestDepth_45 rfl (lv_at hl 3 rfl) ?_
          refine lv_iconst (v := 1) hx hb dX0_bestDepth_46 (by decide) ?_
          refine lv_iload hx hb dX0_bestDepth_47 (lv_at hl 0 rfl) ?_
          refine lv_ishl hx hb dX0_bestDepth_49 ?_
          refine xb_top (y := nI (1 * 2 ^ i)) (nb_shl (a := 1) (i := i) (by omega)) ?_
          obtain ⟨q_8, hq_8, eq_8⟩ := set_xor (a := st) (i := i) hs (by omega) (by omega)
          refine lv_ixor hx hb dX0_bestDepth_50 ?_
          refine xb_top (y := nI q_8) ((nb_xor st (1 * 2 ^ i)).trans eq_8) ?_
          refine lv_iload hx hb dX0_bestDepth_51 (lv_at hl 0 rfl) ?_
          refine xCi (wr := [(gm_won, .inl (cI, ln, .inl fwn))]) (win := [(o, .inr (0, [.ref gm_won, .ref gm_depths, .ref gm_gains, .int gm_isWonKnown, .int gm_isDepthKnown, .int gm_isGainKnown])), (gm_depths, .inl (cJ, ld, .inr (.inl fd)))]) hP hD hS hA [0, 2] [1] rfl rfl (by decide) (by decide) (va_runV (As := [.int (nI q_8), .int (nI i)]) (rest := [.int 1]) ⟨hx, hb, hml, hown, hts⟩ (c_X0_depth l D cB cI cJ cS cZ cO H.size o q_8 i gm_won gm_depths gm_gains gm_isWonKnown gm_isDepthKnown gm_isGainKnown ld fd (by first | assumption | omega | decide) (by first | assumption | omega | decide)) (cwV 2 hts gX0_bestDepth_X0_depth rfl rfl rfl (by decide +kernel) ⟨Nat.le_of_ble_eq_true rfl, Nat.le_of_ble_eq_true rfl⟩) (xPreV (win := [(o, .inr (0, [.ref gm_won, .ref gm_depths, .ref gm_gains, .int gm_isWonKnown, .int gm_isDepthKnown, .int gm_isGainKnown])), (gm_depths, .inl (cJ, ld, .inr (.inl fd)))]) hN hK hP hD [0, 2] (by decide) rfl 0 0 rfl rfl rfl) rfl rfl hl.1 rfl (lv_room (Nat.le_of_ble_eq_true rfl)) dX0_bestDepth_53 ⟨Nat.le_of_ble_eq_true rfl, Nat.le_of_ble_eq_true rfl⟩) (fun r_9 w0 H locs hw hP hD hS => ?_)
          subst hw
          have hP : va_P D vwCl [(gm_won, .inl (cI, ln, .inl fwn)), (o, .inr (0, [.ref gm_won, .ref gm_depths, .ref gm_gains, .int gm_isWonKnown, .int gm_isDepthKnown, .int gm_isGainKnown])), (gm_depths, .inl (cJ, ld, .inr (.inl fd)))] H := hP
          have hD : va_D A [(gm_won, .inl (cI, ln, .inl fwn)), (o, .inr (0, [.ref gm_won, .ref gm_depths, .ref gm_gains, .int gm_isWonKnown, .int gm_isDepthKnown, .int gm_isGainKnown])), (gm_depths, .inl (cJ, ld, .inr (.inl fd)))] := hD
          refine lv_iadd hx hb dX0_bestDepth_56 ?_
          refine lv_istore (lv' := [(6, .int (1 + r_9)), (5, .int (nI i)), (4, .int be), (0, .ref o), (1, .int (nI st)), (2, .int (nI mv)), (3, .int x)]) hx hb dX0_bestDepth_57 hl (by decide) rfl (fun ls hl => ?_)
          refine lv_iload hx hb dX0_bestDepth_59 (lv_at hl 2 rfl) ?_
          refine lv_if_eq (tgt := 85) hx hb dX0_bestDepth_61 (by decide) (fun c_10 => ?_) (fun c_10 => ?_)
          · refine lv_iload hx hb dX0_bestDepth_85 (lv_at hl 0 rfl) ?_
            refine lv_istore (lv' := [(4, .int (1 + r_9)), (6, .int (1 + r_9)), (5, .int (nI i)), (0, .ref o), (1, .int (nI st)), (2, .int (nI mv)), (3, .int x)]) hx hb dX0_bestDepth_87 hl (by decide) rfl (fun ls hl => ?_)
            refine lv_iinc (v := nI (i + 1)) (lv' := [(5, .int (nI (i + 1))), (4, .int (1 + r_9)), (6, .int (1 + r_9)), (0, .ref o), (1, .int (nI st)), (2, .int (nI mv)), (3, .int x)]) hx hb dX0_bestDepth_89 hl (k := 2) rfl (nI_1 i) (by decide) rfl (fun ls hl => ?_)
            refine lv_goto (tgt := 6) hx hb dX0_bestDepth_92 (by decide) ?_
            exact kk_6 _ _ _ _ (by rw [← hn_6]; omega) ⟨(i + 1), (1 + r_9), rfl, hP.sub [1, 0, 2] rfl, hD.sub [1, 0, 2] (by decide) rfl, hS, lv_sub hl [0, 1, 3, 4, 5, 6] rfl, (by first | assumption | omega)⟩
          · refine lv_iload_n hx hb dX0_bestDepth_64 rfl (lv_at hl 6 rfl) ?_
            refine lv_if_eq (tgt := 78) hx hb dX0_bestDepth_65 (by decide) (fun c_11 => ?_) (fun c_11 => ?_)
            · refine lv_iload hx hb dX0_bestDepth_78 (lv_at hl 0 rfl) ?_
              refine lv_iload hx hb dX0_bestDepth_80 (lv_at hl 2 rfl) ?_
              refine lv_icmp_le (tgt := 89) hx hb dX0_bestDepth_82 (by decide) (fun c_12 => ?_) (fun c_12 => ?_)
              · refine lv_iinc (v := nI (i + 1)) (lv' := [(5, .int (nI (i + 1))), (6, .int (1 + r_9)), (4, .int be), (0, .ref o), (1, .int (nI st)), (2, .int (nI mv)), (3, .int x)]) hx hb dX0_bestDepth_89 hl (k := 1) rfl (nI_1 i) (by decide) rfl (fun ls hl => ?_)
                refine lv_goto (tgt := 6) hx hb dX0_bestDepth_92 (by decide) ?_
                exact kk_6 _ _ _ _ (by rw [← hn_6]; omega) ⟨(i + 1), be, rfl, hP.sub [1, 0, 2] rfl, hD.sub [1, 0, 2] (by decide) rfl, hS, lv_sub hl [0, 2, 3, 4, 5, 6] rfl, (by first | assumption | omega)⟩
              · refine lv_iload hx hb dX0_bestDepth_85 (lv_at hl 0 rfl) ?_
                refine lv_istore (lv' := [(4, .int (1 + r_9)), (6, .int (1 + r_9)), (5, .int (nI i)), (0, .ref o), (1, .int (nI st)), (2, .int (nI mv)), (3, .int x)]) hx hb dX0_bestDepth_87 hl (by decide) rfl (fun ls hl => ?_)
                refine lv_iinc (v := nI (i + 1)) (lv' := [(5, .int (nI (i + 1))), (4, .int (1 + r_9)), (6, .int (1 + r_9)), (0, .ref o), (1, .int (nI st)), (2, .int (nI mv)), (3, .int x)]) hx hb dX0_bestDepth_89 hl (k := 2) rfl (nI_1 i) (by decide) rfl (fun ls hl => ?_)
                refine lv_goto (tgt := 6) hx hb dX0_bestDepth_92 (by decide) ?_
                exact kk_6 _ _ _ _ (by rw [← hn_6]; omega) ⟨(i + 1), (1 + r_9), rfl, hP.sub [1, 0, 2] rfl, hD.sub [1, 0, 2] (by decide) rfl, hS, lv_sub hl [0, 1, 3, 4, 5, 6] rfl, (by first | assumption | omega)⟩
            · refine lv_iload hx hb dX0_bestDepth_68 (lv_at hl 0 rfl) ?_
              refine lv_iload hx hb dX0_bestDepth_70 (lv_at hl 2 rfl) ?_
              refine lv_icmp_ge (tgt := 89) hx hb dX0_bestDepth_72 (by decide) (fun c_13 => ?_) (fun c_13 => ?_)
              · refine lv_iinc (v := nI (i + 1)) (lv' := [(5, .int (nI (i + 1))), (6, .int (1 + r_9)), (4, .int be), (0, .ref o), (1, .int (nI st)), (2, .int (nI mv)), (3, .int x)]) hx hb dX0_bestDepth_89 hl (k := 1) rfl (nI_1 i) (by decide) rfl (fun ls hl => ?_)
                refine lv_goto (tgt := 6) hx hb dX0_bestDepth_92 (by decide) ?_
                exact kk_6 _ _ _ _ (by rw [← hn_6]; omega) ⟨(i + 1), be, rfl, hP.sub [1, 0, 2] rfl, hD.sub [1, 0, 2] (by decide) rfl, hS, lv_sub hl [0, 2, 3, 4, 5, 6] rfl, (by first | assumption | omega)⟩
              · refine lv_goto (tgt := 85) hx hb dX0_bestDepth_75 (by decide) ?_
                refine lv_iload hx hb dX0_bestDepth_85 (lv_at hl 0 rfl) ?_
                refine lv_istore (lv' := [(4, .int (1 + r_9)), (6, .int (1 + r_9)), (5, .int (nI i)), (0, .ref o), (1, .int (nI st)), (2, .int (nI mv)), (3, .int x)]) hx hb dX0_bestDepth_87 hl (by decide) rfl (fun ls hl => ?_)
                refine lv_iinc (v := nI (i + 1)) (lv' := [(5, .int (nI (i + 1))), (4, .int (1 + r_9)), (6, .int (1 + r_9)), (0, .ref o), (1, .int (nI st)), (2, .int (nI mv)), (3, .int x)]) hx hb dX0_bestDepth_89 hl (k := 2) rfl (nI_1 i) (by decide) rfl (fun ls hl => ?_)
                refine lv_goto (tgt := 6) hx hb dX0_bestDepth_92 (by decide) ?_
                exact kk_6 _ _ _ _ (by rw [← hn_6]; omega) ⟨(i + 1), (1 + r_9), rfl, hP.sub [1, 0, 2] rfl, hD.sub [1, 0, 2] (by decide) rfl, hS, lv_sub hl [0, 1, 3, 4, 5, 6] rfl, (by first | assumption | omega)⟩
        · refine lv_aload_n hx hb dX0_bestDepth_33 rfl (lv_at hl 2 rfl) ?_
          refine lv_iload_n hx hb dX0_bestDepth_34 rfl (lv_at hl 3 rfl) ?_
          refine lv_iload hx hb dX0_bestDepth_35 (lv_at hl 0 rfl) ?_
          refine xCi (wr := [(gm_depths, .inl (cJ, ld, .inr (.inl fd)))]) (win := [(o, .inr (0, [.ref gm_won, .ref gm_depths, .ref gm_gains, .int gm_isWonKnown, .int gm_isDepthKnown, .int gm_isGainKnown])), (gm_won, .inl (cI, ln, .inl fwn))]) hP hD hS hA [0, 1] [2] rfl rfl (by decide) (by decide) (va_runV (As := [.int (nI st), .int (nI i)]) (rest := []) ⟨hx, hb, hml, hown, hts⟩ (c_X0_isLostBehind l D cB cI cJ cS cZ cO H.size o st i gm_won gm_depths gm_gains gm_isWonKnown gm_isDepthKnown gm_isGainKnown ln fwn sN w (by first | assumption | omega | decide) (by first | assumption | omega | decide) (by first | assumption | omega | decide) (by first | assumption | omega | decide) (by first | assumption | omega | decide) (by first | assumption | omega | decide) (by first | assumption | omega | decide) (by first | assumption | omega | decide)) (cwV 2 hts gX0_bestDepth_X0_isLostBehind rfl rfl rfl (by decide +kernel) ⟨Nat.le_of_ble_eq_true rfl, Nat.le_of_ble_eq_true rfl⟩) (xPreV (win := [(o, .inr (0, [.ref gm_won, .ref gm_depths, .ref gm_gains, .int gm_isWonKnown, .int gm_isDepthKnown, .int gm_isGainKnown])), (gm_won, .inl (cI, ln, .inl fwn))]) hN hK hP hD [0, 1] (by decide) rfl 0 0 rfl rfl rfl) rfl rfl hl.1 rfl (lv_room (Nat.le_of_ble_eq_true rfl)) dX0_bestDepth_37 ⟨Nat.le_of_ble_eq_true rfl, Nat.le_of_ble_eq_true rfl⟩) (fun r_14 w0 H locs hw hP hD hS => ?_)
          obtain ⟨rfl, hf_15⟩ := hw
          have hP : va_P D vwCl [(gm_depths, .inl (cJ, ld, .inr (.inl fd))), (o, .inr (0, [.ref gm_won, .ref gm_depths, .ref gm_gains, .int gm_isWonKnown, .int gm_isDepthKnown, .int gm_isGainKnown])), (gm_won, .inl (cI, ln, .inl fwn))] H := hP
          have hD : va_D A [(gm_depths, .inl (cJ, ld, .inr (.inl fd))), (o, .inr (0, [.ref gm_won, .ref gm_depths, .ref gm_gains, .int gm_isWonKnown, .int gm_isDepthKnown, .int gm_isGainKnown])), (gm_won, .inl (cI, ln, .inl fwn))] := hD
          refine lv_if_eq (tgt := 89) hx hb dX0_bestDepth_40 (by decide) (fun c_16 => ?_) (fun c_16 => ?_)
          · refine lv_iinc (v := nI (i + 1)) (lv' := [(5, .int (nI (i + 1))), (4, .int be), (0, .ref o), (1, .int (nI st)), (2, .int (nI mv)), (3, .int x)]) hx hb dX0_bestDepth_89 hl (k := 0) rfl (nI_1 i) (by decide) rfl (fun ls hl => ?_)
            refine lv_goto (tgt := 6) hx hb dX0_bestDepth_92 (by decide) ?_
            exact kk_6 _ _ _ _ (by rw [← hn_6]; omega) ⟨(i + 1), be, rfl, hP.sub [1, 2, 0] rfl, hD.sub [1, 2, 0] (by decide) rfl, hS, lv_sub hl [0, 1, 2, 3, 4, 5] rfl, (by first | assumption | omega)⟩
          · refine lv_iconst (v := 1) hx hb dX0_bestDepth_43 (by decide) ?_
            refine lv_aload_n hx hb dX0_bestDepth_44 rfl (lv_at hl 2 rfl) ?_
            refine lv_iload_n hx hb dX0_bestDepth_45 rfl (lv_at hl 3 rfl) ?_
            refine lv_iconst (v := 1) hx hb dX0_bestDepth_46 (by decide) ?_
            refine lv_iload hx hb dX0_bestDepth_47 (lv_at hl 0 rfl) ?_
            refine lv_ishl hx hb dX0_bestDepth_49 ?_
            refine xb_top (y := nI (1 * 2 ^ i)) (nb_shl (a := 1) (i := i) (by omega)) ?_
            obtain ⟨q_17, hq_17, eq_17⟩ := set_xor (a := st) (i := i) hs (by omega) (by omega)
            refine lv_ixor hx hb dX0_bestDepth_50 ?_
            refine xb_top (y := nI q_17) ((nb_xor st (1 * 2 ^ i)).trans eq_17) ?_
            refine lv_iload hx hb dX0_bestDepth_51 (lv_at hl 0 rfl) ?_
            refine xCi (wr := [(gm_won, .inl (cI, ln, .inl fwn))]) (win := [(o, .inr (0, [.ref gm_won, .ref gm_depths, .ref gm_gains, .int gm_isWonKnown, .int gm_isDepthKnown, .int gm_isGainKnown])), (gm_depths, .inl (cJ, ld, .inr (.inl fd)))]) hP hD hS hA [1, 0] [2] rfl rfl (by decide) (by decide) (va_runV (As := [.int (nI q_17), .int (nI i)]) (rest := [.int 1]) ⟨hx, hb, hml, hown, hts⟩ (c_X0_depth l D cB cI cJ cS cZ cO H.size o q_17 i gm_won gm_depths gm_gains gm_isWonKnown gm_isDepthKnown gm_isGainKnown ld fd (by first | assumption | omega | decide) (by first | assumption | omega | decide)) (cwV 2 hts gX0_bestDepth_X0_depth rfl rfl rfl (by decide +kernel) ⟨Nat.le_of_ble_eq_true rfl, Nat.le_of_ble_eq_true rfl⟩) (xPreV (win := [(o, .inr (0, [.ref gm_won, .ref gm_depths, .ref gm_gains, .int gm_isWonKnown, .int gm_isDepthKnown, .int gm_isGainKnown])), (gm_depths, .inl (cJ, ld, .inr (.inl fd)))]) hN hK hP hD [1, 0] (by decide) rfl 1 0 rfl rfl rfl) rfl rfl hl.1 rfl (lv_room (Nat.le_of_ble_eq_true rfl)) dX0_bestDepth_53 ⟨Nat.le_of_ble_eq_true rfl, Nat.le_of_ble_eq_true rfl⟩) (fun r_18 w0 H locs hw hP hD hS => ?_)
            subst hw
            have hP : va_P D vwCl [(gm_won, .inl (cI, ln, .inl fwn)), (o, .inr (0, [.ref gm_won, .ref gm_depths, .ref gm_gains, .int gm_isWonKnown, .int gm_isDepthKnown, .int gm_isGainKnown])), (gm_depths, .inl (cJ, ld, .inr (.inl fd)))] H := hP
            have hD : va_D A [(gm_won, .inl (cI, ln, .inl fwn)), (o, .inr (0, [.ref gm_won, .ref gm_depths, .ref gm_gains, .int gm_isWonKnown, .int gm_isDepthKnown, .int gm_isGainKnown])), (gm_depths, .inl (cJ, ld, .inr (.inl fd)))] := hD
            refine lv_iadd hx hb dX0_bestDepth_56 ?_
            refine lv_istore (lv' := [(6, .int (1 + r_18)), (5, .int (nI i)), (4, .int be), (0, .ref o), (1, .int (nI st)), (2, .int (nI mv)), (3, .int x)]) hx hb dX0_bestDepth_57 hl (by decide) rfl (fun ls hl => ?_)
            refine lv_iload hx hb dX0_bestDepth_59 (lv_at hl 2 rfl) ?_
            refine lv_if_eq (tgt := 85) hx hb dX0_bestDepth_61 (by decide) (fun c_19 => ?_) (fun c_19 => ?_)
            · refine lv_iload hx hb dX0_bestDepth_85 (lv_at hl 0 rfl) ?_
              refine lv_istore (lv' := [(4, .int (1 + r_18)), (6, .int (1 + r_18)), (5, .int (nI i)), (0, .ref o), (1, .int (nI st)), (2, .int (nI mv)), (3, .int x)]) hx hb dX0_bestDepth_87 hl (by decide) rfl (fun ls hl => ?_)
              refine lv_iinc (v := nI (i + 1)) (lv' := [(5, .int (nI (i + 1))), (4, .int (1 + r_18)), (6, .int (1 + r_18)), (0, .ref o), (1, .int (nI st)), (2, .int (nI mv)), (3, .int x)]) hx hb dX0_bestDepth_89 hl (k := 2) rfl (nI_1 i) (by decide) rfl (fun ls hl => ?_)
              refine lv_goto (tgt := 6) hx hb dX0_bestDepth_92 (by decide) ?_
              exact kk_6 _ _ _ _ (by rw [← hn_6]; omega) ⟨(i + 1), (1 + r_18), rfl, hP.sub [1, 0, 2] rfl, hD.sub [1, 0, 2] (by decide) rfl, hS, lv_sub hl [0, 1, 3, 4, 5, 6] rfl, (by first | assumption | omega)⟩
            · refine lv_iload_n hx hb dX0_bestDepth_64 rfl (lv_at hl 6 rfl) ?_
              refine lv_if_eq (tgt := 78) hx hb dX0_bestDepth_65 (by decide) (fun c_20 => ?_) (fun c_20 => ?_)
              · refine lv_iload hx hb dX0_bestDepth_78 (lv_at hl 0 rfl) ?_
                refine lv_iload hx hb dX0_bestDepth_80 (lv_at hl 2 rfl) ?_
                refine lv_icmp_le (tgt := 89) hx hb dX0_bestDepth_82 (by decide) (fun c_21 => ?_) (fun c_21 => ?_)
                · refine lv_iinc (v := nI (i + 1)) (lv' := [(5, .int (nI (i + 1))), (6, .int (1 + r_18)), (4, .int be), (0, .ref o), (1, .int (nI st)), (2, .int (nI mv)), (3, .int x)]) hx hb dX0_bestDepth_89 hl (k := 1) rfl (nI_1 i) (by decide) rfl (fun ls hl => ?_)
                  refine lv_goto (tgt := 6) hx hb dX0_bestDepth_92 (by decide) ?_
                  exact kk_6 _ _ _ _ (by rw [← hn_6]; omega) ⟨(i + 1), be, rfl, hP.sub [1, 0, 2] rfl, hD.sub [1, 0, 2] (by decide) rfl, hS, lv_sub hl [0, 2, 3, 4, 5, 6] rfl, (by first | assumption | omega)⟩
                · refine lv_iload hx hb dX0_bestDepth_85 (lv_at hl 0 rfl) ?_
                  refine lv_istore (lv' := [(4, .int (1 + r_18)), (6, .int (1 + r_18)), (5, .int (nI i)), (0, .ref o), (1, .int (nI st)), (2, .int (nI mv)), (3, .int x)]) hx hb dX0_bestDepth_87 hl (by decide) rfl (fun ls hl => ?_)
                  refine lv_iinc (v := nI (i + 1)) (lv' := [(5, .int (nI (i + 1))), (4, .int (1 + r_18)), (6, .int (1 + r_18)), (0, .ref o), (1, .int (nI st)), (2, .int (nI mv)), (3, .int x)]) hx hb dX0_bestDepth_89 hl (k := 2) rfl (nI_1 i) (by decide) rfl (fun ls hl => ?_)
                  refine lv_goto (tgt := 6) hx hb dX0_bestDepth_92 (by decide) ?_
                  exact kk_6 _ _ _ _ (by rw [← hn_6]; omega) ⟨(i + 1), (1 + r_18), rfl, hP.sub [1, 0, 2] rfl, hD.sub [1, 0, 2] (by decide) rfl, hS, lv_sub hl [0, 1, 3, 4, 5, 6] rfl, (by first | assumption | omega)⟩
              · refine lv_iload hx hb dX0_bestDepth_68 (lv_at hl 0 rfl) ?_
                refine lv_iload hx hb dX0_bestDepth_70 (lv_at hl 2 rfl) ?_
                refine lv_icmp_ge (tgt := 89) hx hb dX0_bestDepth_72 (by decide) (fun c_22 => ?_) (fun c_22 => ?_)
                · refine lv_iinc (v := nI (i + 1)) (lv' := [(5, .int (nI (i + 1))), (6, .int (1 + r_18)), (4, .int be), (0, .ref o), (1, .int (nI st)), (2, .int (nI mv)), (3, .int x)]) hx hb dX0_bestDepth_89 hl (k := 1) rfl (nI_1 i) (by decide) rfl (fun ls hl => ?_)
                  refine lv_goto (tgt := 6) hx hb dX0_bestDepth_92 (by decide) ?_
                  exact kk_6 _ _ _ _ (by rw [← hn_6]; omega) ⟨(i + 1), be, rfl, hP.sub [1, 0, 2] rfl, hD.sub [1, 0, 2] (by decide) rfl, hS, lv_sub hl [0, 2, 3, 4, 5, 6] rfl, (by first | assumption | omega)⟩
                · refine lv_goto (tgt := 85) hx hb dX0_bestDepth_75 (by decide) ?_
                  refine lv_iload hx hb dX0_bestDepth_85 (lv_at hl 0 rfl) ?_
                  refine lv_istore (lv' := [(4, .int (1 + r_18)), (6, .int (1 + r_18)), (5, .int (nI i)), (0, .ref o), (1, .int (nI st)), (2, .int (nI mv)), (3, .int x)]) hx hb dX0_bestDepth_87 hl (by decide) rfl (fun ls hl => ?_)
                  refine lv_iinc (v := nI (i + 1)) (lv' := [(5, .int (nI (i + 1))), (4, .int (1 + r_18)), (6, .int (1 + r_18)), (0, .ref o), (1, .int (nI st)), (2, .int (nI mv)), (3, .int x)]) hx hb dX0_bestDepth_89 hl (k := 2) rfl (nI_1 i) (by decide) rfl (fun ls hl => ?_)
                  refine lv_goto (tgt := 6) hx hb dX0_bestDepth_92 (by decide) ?_
                  exact kk_6 _ _ _ _ (by rw [← hn_6]; omega) ⟨(i + 1), (1 + r_18), rfl, hP.sub [1, 0, 2] rfl, hD.sub [1, 0, 2] (by decide) rfl, hS, lv_sub hl [0, 1, 3, 4, 5, 6] rfl, (by first | assumption | omega)⟩

set_option maxHeartbeats 4000000 in
set_option maxRecDepth 100000 in
theorem c_X0_learnDepths (l : Launch) (D : va_G) (cB cI cJ cS cZ cO : ClassId) (sz : Nat) (o : Nat) (t : Nat) (gm_won : Nat) (gm_depths : Nat) (gm_gains : Nat) (kn : Int32) (kd : Int32) (gm_isGainKnown : Int32) (ld : Nat) (fd : Nat → Int64) (ln : Nat) (fwn : Nat → Int32) (k_name : Nat) (k_worth : Nat) (k_times : Nat) (k_first : Nat) (k_second : Nat) (k_beforeLast : Nat) (k_last : Nat) (k_errandOf : Nat) (k_errandAfter : Nat) (k_sound : Nat) (k_followers : Nat) (k_leaders : Nat) (w : Nat) (k_errands : Int32) (k_alikes : Int32) (k_law : Int32) (f_leaders : Nat → Int32) (f_followers : Nat → Int32) (sN : Nat) (gW : Nat) (gD : Nat) (hs : sN = 2 ^ w) (hw4 : w ≤ 14) (hs1 : 1 ≤ sN) (hs2 : sN ≤ 16384) (hln : ln ≤ 16384) (hgW : ln < sN → sN ≤ gW) (hkn : (kn = 0 ∨ sN ≤ ln)) (hld : ld ≤ 16384) (hgD : ld < sN → sN ≤ gD) (hkd : (kd = 0 ∨ sN ≤ ld)) : Met l yX0_learnDepths wsX0_learnDepths ({ frames := 3, cells := 2, slots := (gW + gD), locals := 69 }) (xPre D (tyL cB cI cJ cS cZ cO) [(o, .inr (0, [.ref gm_won, .ref gm_depths, .ref gm_gains, .int kn, .int kd, .int gm_isGainKnown])), (gm_depths, .inl (cJ, ld, .inr (.inl fd))), (gm_won, .inl (cI, ln, .inl fwn)), (t, .inr (8, [.ref k_name, .ref k_worth, .ref k_times, .ref k_first, .ref k_second, .ref k_beforeLast, .ref k_last, .ref k_errandOf, .ref k_errandAfter, .ref k_sound, .ref k_followers, .ref k_leaders, .int (nI w), .int k_errands, .int k_alikes, .int k_law])), (k_leaders, .inl (cI, 24, .inl f_leaders)), (k_followers, .inl (cI, 24, .inl f_followers))] sz [.ref o, .ref t]) (xQv D (tyL cB cI cJ cS cZ cO) (va_A [(o, .inr (0, [.ref gm_won, .ref gm_depths, .ref gm_gains, .int kn, .int kd, .int gm_isGainKnown])), (gm_depths, .inl (cJ, ld, .inr (.inl fd))), (gm_won, .inl (cI, ln, .inl fwn)), (t, .inr (8, [.ref k_name, .ref k_worth, .ref k_times, .ref k_first, .ref k_second, .ref k_beforeLast, .ref k_last, .ref k_errandOf, .ref k_errandAfter, .ref k_sound, .ref k_followers, .ref k_leaders, .int (nI w), .int k_errands, .int k_alikes, .int k_law])), (k_leaders, .inl (cI, 24, .inl f_leaders)), (k_followers, .inl (cI, 24, .inl f_followers))] sz) (fun u : va_W => ∃ kd2 : Int32, ∃ k2 : Int32, ∃ wn2 : Nat, ∃ d2 : Nat, ∃ ld2 : Nat, ∃ gd : Nat → Int64, ∃ ln2 : Nat, ∃ gwn : Nat → Int32, u = [(o, .inr (0, [.ref wn2, .ref d2, .ref gm_gains, .int k2, .int kd2, .int gm_isGainKnown])), (d2, .inl (cJ, ld2, .inr (.inl gd))), (wn2, .inl (cI, ln2, .inl gwn)), (t, .inr (8, [.ref k_name, .ref k_worth, .ref k_times, .ref k_first, .ref k_second, .ref k_beforeLast, .ref k_last, .ref k_errandOf, .ref k_errandAfter, .ref k_sound, .ref k_followers, .ref k_leaders, .int (nI w), .int k_errands, .int k_alikes, .int k_law])), (k_leaders, .inl (cI, 24, .inl f_leaders)), (k_followers, .inl (cI, 24, .inl f_followers))] ∧ sN ≤ ld2 ∧ ld2 ≤ 16384 ∧ (ld2 = ld ∨ (ld < sN ∧ ld2 = sN)) ∧ kd2 ≠ 0 ∧ (k2 = 0 ∨ sN ≤ ln2) ∧ ln2 ≤ 16384 ∧ (ln2 = ln ∨ (ln < sN ∧ ln2 = sN)))) 2 (gW + gD) (va_A [(o, .inr (0, [.ref gm_won, .ref gm_depths, .ref gm_gains, .int kn, .int kd, .int gm_isGainKnown])), (gm_depths, .inl (cJ, ld, .inr (.inl fd))), (gm_won, .inl (cI, ln, .inl fwn)), (t, .inr (8, [.ref k_name, .ref k_worth, .ref k_times, .ref k_first, .ref k_second, .ref k_beforeLast, .ref k_last, .ref k_errandOf, .ref k_errandAfter, .ref k_sound, .ref k_followers, .ref k_leaders, .int (nI w), .int k_errands, .int k_alikes, .int k_law])), (k_leaders, .inl (cI, 24, .inl f_leaders)), (k_followers, .inl (cI, 24, .inl f_followers))] sz) := by
  refine Met.ofW (cc := cX0_learnDepths) (maxL := 8) (ret := none) (by decide) rfl ?_
  intro p e s m args below meth c s₁ B hml hv
  obtain ⟨rfl, hsz, hP, hK, hD0, hN⟩ := hv
  have hx := B.exec
  have hb := B.bytes
  have hr := B.returns
  have hts := atoms_spec (ws := wsX0_learnDepths) B.pre
  have hown : s.vm.findClass RX0 = some m.cls := findClass_of_methodNamed B.named
  have hlocks := B.notSynchronized
  subst hsz
  have hD := hD0.self (sz := s.heap.size)
  generalize hAe : va_A [(o, .inr (0, [.ref gm_won, .ref gm_depths, .ref gm_gains, .int kn, .int kd, .int gm_isGainKnown])), (gm_depths, .inl (cJ, ld, .inr (.inl fd))), (gm_won, .inl (cI, ln, .inl fwn)), (t, .inr (8, [.ref k_name, .ref k_worth, .ref k_times, .ref k_first, .ref k_second, .ref k_beforeLast, .ref k_last, .ref k_errandOf, .ref k_errandAfter, .ref k_sound, .ref k_followers, .ref k_leaders, .int (nI w), .int k_errands, .int k_alikes, .int k_law])), (k_leaders, .inl (cI, 24, .inl f_leaders)), (k_followers, .inl (cI, 24, .inl f_followers))] s.heap.size = A at hD ⊢
  have hA : ∀ q : Nat, s.heap.size ≤ q → A q := fun q h => by rw [← hAe]; exact Or.inr h
  have hS : va_S A s.heap s.heap [] := va_S.rf
  have hP : va_P D vwCl [(o, .inr (0, [.ref gm_won, .ref gm_depths, .ref gm_gains, .int kn, .int kd, .int gm_isGainKnown])), (gm_depths, .inl (cJ, ld, .inr (.inl fd))), (gm_won, .inl (cI, ln, .inl fwn)), (t, .inr (8, [.ref k_name, .ref k_worth, .ref k_times, .ref k_first, .ref k_second, .ref k_beforeLast, .ref k_last, .ref k_errandOf, .ref k_errandAfter, .ref k_sound, .ref k_followers, .ref k_leaders, .int (nI w), .int k_errands, .int k_alikes, .int k_law])), (k_leaders, .inl (cI, 24, .inl f_leaders)), (k_followers, .inl (cI, 24, .inl f_followers))] s.heap := hP
  have hl := lv_entry ([.ref o, .ref t]) (n := 8) (Nat.le_of_ble_eq_true rfl)
  rw [lg_entry_eq]
  generalize (lg_sl ([.ref o, .ref t]) ++ List.replicate (8 - (lg_sl ([.ref o, .ref t])).length) Slot.unset).toArray = ls at hl ⊢
  have hl : lv_has ls 8 [(0, .ref o), (1, .ref t)] := hl
  refine lv_iconst (v := 1) hx hb dX0_learnDepths_0 (by decide) ?_
  refine lv_aload_n hx hb dX0_learnDepths_1 rfl (lv_at hl 1 rfl) ?_
  refine va_getN (D := D) (ci := 8) (v := .int (nI w)) (C := RX8) (T := TX8) (N := 16) hx hb hts (by decide +kernel) hown hK hP 3 rfl rfl 12 (by decide) (va_Nw.use rfl (hN.1 (RX0, 50, RX8, "words", "I", RX10) (by decide +kernel))) (fun _ h9 => h9) rfl dX0_learnDepths_2 ?_
  refine lv_ishl hx hb dX0_learnDepths_5 ?_
  refine xb_top (y := nI sN) (by rw [hs]; exact (nb_shl (a := 1) (i := w) (by omega)).trans (by rw [Nat.one_mul])) ?_
  refine lv_istore_n (lv' := [(2, .int (nI sN)), (0, .ref o), (1, .ref t)]) hx hb dX0_learnDepths_6 rfl hl (by decide) rfl (fun ls hl => ?_)
  refine lv_aload_n hx hb dX0_learnDepths_7 rfl (lv_at hl 1 rfl) ?_
  refine va_get (D := D) (ci := 0) (v := .int kd) (C := RX0) (T := TX0) (N := 6) hx hb hts (by decide +kernel) hown hK hP 0 rfl rfl 4 (by decide) (hts (.fieldLink RX0 27 "LastLetter$Games" "isDepthKnown" "Z") (by decide +kernel)) (fun _ h9 => h9) rfl dX0_learnDepths_8 ?_
  refine lv_if_eq (tgt := 15) hx hb dX0_learnDepths_11 (by decide) (fun c_1 => ?_) (fun c_1 => ?_)
  · refine lv_aload_n hx hb dX0_learnDepths_15 rfl (lv_at hl 1 rfl) ?_
    refine lv_aload_n hx hb dX0_learnDepths_16 rfl (lv_at hl 2 rfl) ?_
    refine xCv (wr := [(gm_depths, .inl (cJ, ld, .inr (.inl fd))), (k_followers, .inl (cI, 24, .inl f_followers))]) (win := [(o, .inr (0, [.ref gm_won, .ref gm_depths, .ref gm_gains, .int kn, .int kd, .int gm_isGainKnown])), (gm_won, .inl (cI, ln, .inl fwn)), (t, .inr (8, [.ref k_name, .ref k_worth, .ref k_times, .ref k_first, .ref k_second, .ref k_beforeLast, .ref k_last, .ref k_errandOf, .ref k_errandAfter, .ref k_sound, .ref k_followers, .ref k_leaders, .int (nI w), .int k_errands, .int k_alikes, .int k_law])), (k_leaders, .inl (cI, 24, .inl f_leaders))]) hP hD hS hA [0, 2, 3, 4] [1, 5] rfl rfl (by decide) (by decide) (va_runV (As := [.ref t]) (rest := []) ⟨hx, hb, hml, hown, hts⟩ (c_X0_learnWon l D cB cI cJ cS cZ cO s.heap.size o t gm_won gm_depths gm_gains kn kd gm_isGainKnown ln fwn k_name k_worth k_times k_first k_second k_beforeLast k_last k_errandOf k_errandAfter k_sound k_followers k_leaders w k_errands k_alikes k_law f_leaders sN gW (by first | assumption | omega | decide) (by first | assumption | omega | decide) (by first | assumption | omega | decide) (by first | assumption | omega | decide) (by first | assumption | omega | decide) (by first | assumption | omega | decide) (by first | assumption | omega | decide)) (cwV 1 hts gX0_learnDepths_X0_learnWon rfl rfl rfl (by decide +kernel) ⟨Nat.le_of_ble_eq_true rfl, Nat.le_of_ble_eq_true rfl⟩) (xPreV (win := [(o, .inr (0, [.ref gm_won, .ref gm_depths, .ref gm_gains, .int kn, .int kd, .int gm_isGainKnown])), (gm_won, .inl (cI, ln, .inl fwn)), (t, .inr (8, [.ref k_name, .ref k_worth, .ref k_times, .ref k_first, .ref k_second, .ref k_beforeLast, .ref k_last, .ref k_errandOf, .ref k_errandAfter, .ref k_sound, .ref k_followers, .ref k_leaders, .int (nI w), .int k_errands, .int k_alikes, .int k_law])), (k_leaders, .inl (cI, 24, .inl f_leaders))]) hN hK hP hD [0, 2, 3, 4] (by decide) rfl 0 0 rfl rfl rfl) rfl rfl hl.1 rfl (lv_room (Nat.le_of_ble_eq_true rfl)) dX0_learnDepths_17 ⟨show 0 + 1 ≤ 2 by omega, show 0 + (gW) ≤ gW + gD by omega⟩) (fun w0 H locs hw hP hD hS => ?_)
    obtain ⟨k2_2, wn2_3, ln2_4, gwn_5, rfl, hf_6, hf_7, hf_8, hf_9⟩ := hw
    refine W.widen (k := 1) (n := (gW)) (by omega) (by omega) ?_
    have hP : va_P D vwCl [(gm_depths, .inl (cJ, ld, .inr (.inl fd))), (k_followers, .inl (cI, 24, .inl f_followers)), (o, .inr (0, [.ref wn2_3, .ref gm_depths, .ref gm_gains, .int k2_2, .int kd, .int gm_isGainKnown])), (wn2_3, .inl (cI, ln2_4, .inl gwn_5)), (t, .inr (8, [.ref k_name, .ref k_worth, .ref k_times, .ref k_first, .ref k_second, .ref k_beforeLast, .ref k_last, .ref k_errandOf, .ref k_errandAfter, .ref k_sound, .ref k_followers, .ref k_leaders, .int (nI w), .int k_errands, .int k_alikes, .int k_law])), (k_leaders, .inl (cI, 24, .inl f_leaders))] H := hP
    have hD : va_D A [(gm_depths, .inl (cJ, ld, .inr (.inl fd))), (k_followers, .inl (cI, 24, .inl f_followers)), (o, .inr (0, [.ref wn2_3, .ref gm_depths, .ref gm_gains, .int k2_2, .int kd, .int gm_isGainKnown])), (wn2_3, .inl (cI, ln2_4, .inl gwn_5)), (t, .inr (8, [.ref k_name, .ref k_worth, .ref k_times, .ref k_first, .ref k_second, .ref k_beforeLast, .ref k_last, .ref k_errandOf, .ref k_errandAfter, .ref k_sound, .ref k_followers, .ref k_leaders, .int (nI w), .int k_errands, .int k_alikes, .int k_law])), (k_leaders, .inl (cI, 24, .inl f_leaders))] := hD
    refine lv_aload_n hx hb dX0_learnDepths_20 rfl (lv_at hl 1 rfl) ?_
    refine va_get (D := D) (ci := 0) (v := .ref gm_depths) (C := RX0) (T := TX0) (N := 6) hx hb hts (by decide +kernel) hown hK hP 2 rfl rfl 1 (by decide) (hts (.fieldLink RX0 15 "LastLetter$Games" "depths" "[J") (by decide +kernel)) (fun _ h9 => h9) rfl dX0_learnDepths_21 ?_
    refine va_alen (v := nI ld) hx hb hK hP 0 2 rfl rfl rfl dX0_learnDepths_24 ?_
    refine lv_iload_n hx hb dX0_learnDepths_25 rfl (lv_at hl 0 rfl) ?_
    refine lv_icmp_ge (tgt := 36) hx hb dX0_learnDepths_26 (by decide) (fun c_10 => ?_) (fun c_10 => ?_)
    · have dc_10 : sN ≤ ld := (nI_leI (a := sN) (b := ld) (by omega) (by omega)).mp c_10
      refine lv_iconst (v := 0) hx hb dX0_learnDepths_36 (by decide) ?_
      refine lv_istore_n (lv' := [(3, .int 0), (2, .int (nI sN)), (0, .ref o), (1, .ref t)]) hx hb dX0_learnDepths_37 rfl hl (by decide) rfl (fun ls hl => ?_)
      refine xb_wh (fun (n9 : Nat) H locs ls => ∃ st : Nat, ∃ gd : Nat → Int64, (sN - st) = n9 ∧ va_P D vwCl [(gm_depths, .inl (cJ, ld, .inr (.inl gd))), (k_followers, .inl (cI, 24, .inl f_followers)), (o, .inr (0, [.ref wn2_3, .ref gm_depths, .ref gm_gains, .int k2_2, .int kd, .int gm_isGainKnown])), (wn2_3, .inl (cI, ln2_4, .inl gwn_5)), (t, .inr (8, [.ref k_name, .ref k_worth, .ref k_times, .ref k_first, .ref k_second, .ref k_beforeLast, .ref k_last, .ref k_errandOf, .ref k_errandAfter, .ref k_sound, .ref k_followers, .ref k_leaders, .int (nI w), .int k_errands, .int k_alikes, .int k_law])), (k_leaders, .inl (cI, 24, .inl f_leaders))] H ∧ va_D A [(gm_depths, .inl (cJ, ld, .inr (.inl gd))), (k_followers, .inl (cI, 24, .inl f_followers)), (o, .inr (0, [.ref wn2_3, .ref gm_depths, .ref gm_gains, .int k2_2, .int kd, .int gm_isGainKnown])), (wn2_3, .inl (cI, ln2_4, .inl gwn_5)), (t, .inr (8, [.ref k_name, .ref k_worth, .ref k_times, .ref k_first, .ref k_second, .ref k_beforeLast, .ref k_last, .ref k_errandOf, .ref k_errandAfter, .ref k_sound, .ref k_followers, .ref k_leaders, .int (nI w), .int k_errands, .int k_alikes, .int k_law])), (k_leaders, .inl (cI, 24, .inl f_leaders))] ∧ va_S A s.heap H locs ∧ lv_has ls 8 [(3, .int (nI st)), (2, .int (nI sN)), (0, .ref o), (1, .ref t)] ∧ (st ≤ sN)) ⟨0, fd, rfl, hP, hD, hS, lv_sub hl [0, 1, 2, 3] rfl, (Nat.zero_le _)⟩ (fun n9 H locs ls hI kk_38 => ?_)
      obtain ⟨st, gd, hn_38, hP, hD, hS, hl, hF_h_11⟩ := hI
      refine lv_iload_n hx hb dX0_learnDepths_38 rfl (lv_at hl 0 rfl) ?_
      refine lv_iload_n hx hb dX0_learnDepths_39 rfl (lv_at hl 1 rfl) ?_
      refine lv_icmp_ge (tgt := 127) hx hb dX0_learnDepths_40 (by decide) (fun c_12 => ?_) (fun c_12 => ?_)
      · have dc_12 : sN ≤ st := (nI_leI (a := sN) (b := st) (by omega) (by omega)).mp c_12
        refine lv_aload_n hx hb dX0_learnDepths_127 rfl (lv_at hl 2 rfl) ?_
        refine lv_iconst (v := 1) hx hb dX0_learnDepths_128 (by decide) ?_
        refine va_put (D := D) (ci := 0) (v := .int 1) (ty := .boolean) (C := RX0) (T := TX0) (N := 6) hx hb hts (by decide +kernel) tyX0 tyX0_ok nmX0 hown hK hP hD hS 2 rfl rfl 4 (by decide) (hts (.fieldLink RX0 27 "LastLetter$Games" "isDepthKnown" "Z") (by decide +kernel)) (fun _ h9 => h9) rfl (by decide +kernel) rfl rfl (Nat.le_of_ble_eq_true rfl) dX0_learnDepths_129 (fun H locs hP hD hS => ?_)
        have hP : va_P D vwCl [(gm_depths, .inl (cJ, ld, .inr (.inl gd))), (k_followers, .inl (cI, 24, .inl f_followers)), (o, .inr (0, [.ref wn2_3, .ref gm_depths, .ref gm_gains, .int k2_2, .int 1, .int gm_isGainKnown])), (wn2_3, .inl (cI, ln2_4, .inl gwn_5)), (t, .inr (8, [.ref k_name, .ref k_worth, .ref k_times, .ref k_first, .ref k_second, .ref k_beforeLast, .ref k_last, .ref k_errandOf, .ref k_errandAfter, .ref k_sound, .ref k_followers, .ref k_leaders, .int (nI w), .int k_errands, .int k_alikes, .int k_law])), (k_leaders, .inl (cI, 24, .inl f_leaders))] H := hP
        have hD : va_D A [(gm_depths, .inl (cJ, ld, .inr (.inl gd))), (k_followers, .inl (cI, 24, .inl f_followers)), (o, .inr (0, [.ref wn2_3, .ref gm_depths, .ref gm_gains, .int k2_2, .int 1, .int gm_isGainKnown])), (wn2_3, .inl (cI, ln2_4, .inl gwn_5)), (t, .inr (8, [.ref k_name, .ref k_worth, .ref k_times, .ref k_first, .ref k_second, .ref k_beforeLast, .ref k_last, .ref k_errandOf, .ref k_errandAfter, .ref k_sound, .ref k_followers, .ref k_leaders, .int (nI w), .int k_errands, .int k_alikes, .int k_law])), (k_leaders, .inl (cI, 24, .inl f_leaders))] := hD
        have hP9 := hP.sub (ws' := [(o, .inr (0, [.ref wn2_3, .ref gm_depths, .ref gm_gains, .int k2_2, .int 1, .int gm_isGainKnown])), (gm_depths, .inl (cJ, ld, .inr (.inl gd))), (wn2_3, .inl (cI, ln2_4, .inl gwn_5)), (t, .inr (8, [.ref k_name, .ref k_worth, .ref k_times, .ref k_first, .ref k_second, .ref k_beforeLast, .ref k_last, .ref k_errandOf, .ref k_errandAfter, .ref k_sound, .ref k_followers, .ref k_leaders, .int (nI w), .int k_errands, .int k_alikes, .int k_law])), (k_leaders, .inl (cI, 24, .inl f_leaders)), (k_followers, .inl (cI, 24, .inl f_followers))]) [2, 0, 3, 4, 5, 1] rfl
        have hD9 := hD.sub (ws' := [(o, .inr (0, [.ref wn2_3, .ref gm_depths, .ref gm_gains, .int k2_2, .int 1, .int gm_isGainKnown])), (gm_depths, .inl (cJ, ld, .inr (.inl gd))), (wn2_3, .inl (cI, ln2_4, .inl gwn_5)), (t, .inr (8, [.ref k_name, .ref k_worth, .ref k_times, .ref k_first, .ref k_second, .ref k_beforeLast, .ref k_last, .ref k_errandOf, .ref k_errandAfter, .ref k_sound, .ref k_followers, .ref k_leaders, .int (nI w), .int k_errands, .int k_alikes, .int k_law])), (k_leaders, .inl (cI, 24, .inl f_leaders)), (k_followers, .inl (cI, 24, .inl f_followers))]) [2, 0, 3, 4, 5, 1] (by decide) rfl
        refine W.widen (k := 2) (n := gW + gD) (show 1 ≤ 2 by omega) (show (gW) ≤ gW + gD by omega) ?_
        exact W.vret hx hb hr (fun tz htz hWz => ⟨⟨[(o, .inr (0, [.ref wn2_3, .ref gm_depths, .ref gm_gains, .int k2_2, .int 1, .int gm_isGainKnown])), (gm_depths, .inl (cJ, ld, .inr (.inl gd))), (wn2_3, .inl (cI, ln2_4, .inl gwn_5)), (t, .inr (8, [.ref k_name, .ref k_worth, .ref k_times, .ref k_first, .ref k_second, .ref k_beforeLast, .ref k_last, .ref k_errandOf, .ref k_errandAfter, .ref k_sound, .ref k_followers, .ref k_leaders, .int (nI w), .int k_errands, .int k_alikes, .int k_law])), (k_leaders, .inl (cI, 24, .inl f_leaders)), (k_followers, .inl (cI, 24, .inl f_followers))], rfl, ⟨1, k2_2, wn2_3, gm_depths, ld, gd, ln2_4, gwn_5, rfl, (by omega), (by omega), (Or.inl rfl), (by decide), (Or.inr hf_6), hf_7, hf_8⟩, by rw [htz]; exact hP9, va_K.moved hWz.alike hK, hD9⟩, hS.F htz⟩) hS.2.2 dX0_learnDepths_132
      · have dc_12 : ¬ sN ≤ st := fun h => c_12 ((nI_leI (a := sN) (b := st) (by omega) (by omega)).mpr h)
        refine lv_lconst (v := 0) hx hb dX0_learnDepths_43 (by decide) ?_
        refine lv_lstore (lv' := [(4, .long 0), (3, .int (nI st)), (2, .int (nI sN)), (0, .ref o), (1, .ref t)]) hx hb dX0_learnDepths_44 hl (by decide) rfl (fun ls hl => ?_)
        refine lv_iconst (v := 0) hx hb dX0_learnDepths_46 (by decide) ?_
        refine lv_istore (lv' := [(6, .int 0), (4, .long 0), (3, .int (nI st)), (2, .int (nI sN)), (0, .ref o), (1, .ref t)]) hx hb dX0_learnDepths_47 hl (by decide) rfl (fun ls hl => ?_)
        refine xb_wh (fun (n9 : Nat) H locs ls => ∃ k : Nat, ∃ pkd : Int64, (w - k) = n9 ∧ va_P D vwCl [(gm_depths, .inl (cJ, ld, .inr (.inl gd))), (k_followers, .inl (cI, 24, .inl f_followers)), (o, .inr (0, [.ref wn2_3, .ref gm_depths, .ref gm_gains, .int k2_2, .int kd, .int gm_isGainKnown])), (wn2_3, .inl (cI, ln2_4, .inl gwn_5)), (t, .inr (8, [.ref k_name, .ref k_worth, .ref k_times, .ref k_first, .ref k_second, .ref k_beforeLast, .ref k_last, .ref k_errandOf, .ref k_errandAfter, .ref k_sound, .ref k_followers, .ref k_leaders, .int (nI w), .int k_errands, .int k_alikes, .int k_law])), (k_leaders, .inl (cI, 24, .inl f_leaders))] H ∧ va_D A [(gm_depths, .inl (cJ, ld, .inr (.inl gd))), (k_followers, .inl (cI, 24, .inl f_followers)), (o, .inr (0, [.ref wn2_3, .ref gm_depths, .ref gm_gains, .int k2_2, .int kd, .int gm_isGainKnown])), (wn2_3, .inl (cI, ln2_4, .inl gwn_5)), (t, .inr (8, [.ref k_name, .ref k_worth, .ref k_times, .ref k_first, .ref k_second, .ref k_beforeLast, .ref k_last, .ref k_errandOf, .ref k_errandAfter, .ref k_sound, .ref k_followers, .ref k_leaders, .int (nI w), .int k_errands, .int k_alikes, .int k_law])), (k_leaders, .inl (cI, 24, .inl f_leaders))] ∧ va_S A s.heap H locs ∧ lv_has ls 8 [(6, .int (nI k)), (4, .long pkd), (3, .int (nI st)), (2, .int (nI sN)), (0, .ref o), (1, .ref t)] ∧ (k ≤ w)) ⟨0, 0, rfl, hP, hD, hS, lv_sub hl [0, 1, 2, 3, 4, 5] rfl, (by first | assumption | omega)⟩ (fun n9 H locs ls hI kk_49 => ?_)
        obtain ⟨k, pkd, hn_49, hP, hD, hS, hl, hF_h_13⟩ := hI
        refine lv_iload hx hb dX0_learnDepths_49 (lv_at hl 0 rfl) ?_
        refine lv_aload_n hx hb dX0_learnDepths_51 rfl (lv_at hl 5 rfl) ?_
        refine va_getN (D := D) (ci := 8) (v := .int (nI w)) (C := RX8) (T := TX8) (N := 16) hx hb hts (by decide +kernel) hown hK hP 4 rfl rfl 12 (by decide) (va_Nw.use rfl (hN.1 (RX0, 50, RX8, "words", "I", RX10) (by decide +kernel))) (fun _ h9 => h9) rfl dX0_learnDepths_52 ?_
        refine lv_icmp_ge (tgt := 113) hx hb dX0_learnDepths_55 (by decide) (fun c_14 => ?_) (fun c_14 => ?_)
        · have dc_14 : w ≤ k := (nI_leI (a := w) (b := k) (by omega) (by omega)).mp c_14
          refine lv_aload_n hx hb dX0_learnDepths_113 rfl (lv_at hl 4 rfl) ?_
          refine va_get (D := D) (ci := 0) (v := .ref gm_depths) (C := RX0) (T := TX0) (N := 6) hx hb hts (by decide +kernel) hown hK hP 2 rfl rfl 1 (by decide) (hts (.fieldLink RX0 15 "LastLetter$Games" "depths" "[J") (by decide +kernel)) (fun _ h9 => h9) rfl dX0_learnDepths_114 ?_
          refine lv_iload_n hx hb dX0_learnDepths_117 rfl (lv_at hl 2 rfl) ?_
          refine lv_lload hx hb dX0_learnDepths_118 (lv_at hl 1 rfl) ?_
          refine va_last hx hb hK hP hD hS 0 2 rfl rfl (vp_in_nI (by omega) (by omega)) dX0_learnDepths_120 (fun H locs hP hD hS => ?_)
          have hP : va_P D vwCl [(gm_depths, .inl (cJ, ld, .inr (.inl (vp_updL gd (Int32.toNatClampNeg (nI st)) pkd)))), (k_followers, .inl (cI, 24, .inl f_followers)), (o, .inr (0, [.ref wn2_3, .ref gm_depths, .ref gm_gains, .int k2_2, .int kd, .int gm_isGainKnown])), (wn2_3, .inl (cI, ln2_4, .inl gwn_5)), (t, .inr (8, [.ref k_name, .ref k_worth, .ref k_times, .ref k_first, .ref k_second, .ref k_beforeLast, .ref k_last, .ref k_errandOf, .ref k_errandAfter, .ref k_sound, .ref k_followers, .ref k_leaders, .int (nI w), .int k_errands, .int k_alikes, .int k_law])), (k_leaders, .inl (cI, 24, .inl f_leaders))] H := hP
          have hD : va_D A [(gm_depths, .inl (cJ, ld, .inr (.inl (vp_updL gd (Int32.toNatClampNeg (nI st)) pkd)))), (k_followers, .inl (cI, 24, .inl f_followers)), (o, .inr (0, [.ref wn2_3, .ref gm_depths, .ref gm_gains, .int k2_2, .int kd, .int gm_isGainKnown])), (wn2_3, .inl (cI, ln2_4, .inl gwn_5)), (t, .inr (8, [.ref k_name, .ref k_worth, .ref k_times, .ref k_first, .ref k_second, .ref k_beforeLast, .ref k_last, .ref k_errandOf, .ref k_errandAfter, .ref k_sound, .ref k_followers, .ref k_leaders, .int (nI w), .int k_errands, .int k_alikes, .int k_law])), (k_leaders, .inl (cI, 24, .inl f_leaders))] := hD
          generalize eg_15 : vp_updL gd (Int32.toNatClampNeg (nI st)) pkd = g_15 at hP hD
          refine lv_iinc (v := nI (st + 1)) (lv' := [(3, .int (nI (st + 1))), (6, .int (nI k)), (4, .long pkd), (2, .int (nI sN)), (0, .ref o), (1, .ref t)]) hx hb dX0_learnDepths_121 hl (k := 2) rfl (nI_1 st) (by decide) rfl (fun ls hl => ?_)
          refine lv_goto (tgt := 38) hx hb dX0_learnDepths_124 (by decide) ?_
          exact kk_38 _ _ _ _ (by rw [← hn_38]; omega) ⟨(st + 1), g_15, rfl, hP, hD, hS, lv_sub hl [0, 3, 4, 5] rfl, (by first | assumption | omega)⟩
        · have dc_14 : ¬ w ≤ k := fun h => c_14 ((nI_leI (a := w) (b := k) (by omega) (by omega)).mpr h)
          refine lv_iload_n hx hb dX0_learnDepths_58 rfl (lv_at hl 2 rfl) ?_
          refine lv_iload hx hb dX0_learnDepths_59 (lv_at hl 0 rfl) ?_
          refine xCi (wr := [(gm_depths, .inl (cJ, ld, .inr (.inl gd))), (k_followers, .inl (cI, 24, .inl f_followers)), (o, .inr (0, [.ref wn2_3, .ref gm_depths, .ref gm_gains, .int k2_2, .int kd, .int gm_isGainKnown])), (wn2_3, .inl (cI, ln2_4, .inl gwn_5)), (t, .inr (8, [.ref k_name, .ref k_worth, .ref k_times, .ref k_first, .ref k_second, .ref k_beforeLast, .ref k_last, .ref k_errandOf, .ref k_errandAfter, .ref k_sound, .ref k_followers, .ref k_leaders, .int (nI w), .int k_errands, .int k_alikes, .int k_law])), (k_leaders, .inl (cI, 24, .inl f_leaders))]) (win := []) hP hD hS hA [] [0, 1, 2, 3, 4, 5] rfl rfl (by decide) (by decide) (va_runSN (As := [.int (nI st), .int (nI k)]) (rest := []) ⟨hx, hb, hml, hown, hts⟩ (c_X10_isIn l D cB cI cJ cS cZ cO H.size (nI st) (nI k) ) ⟨va_cnB 2 hts gX0_learnDepths_X10_isIn_n43 rfl rfl rfl (hN.2.1 (RX0, 43, yX10_isIn, RX10) (by decide +kernel)) (hts (.initialized RX10) (by decide +kernel)) (by decide +kernel) ⟨Nat.le_of_ble_eq_true rfl, Nat.le_of_ble_eq_true rfl⟩, hts (.static yX10_isIn) (by decide +kernel), trivial⟩ (xPreS (win := []) hN hK hP hD [] (by decide) rfl) rfl rfl hl.1 rfl (lv_room (Nat.le_of_ble_eq_true rfl)) dX0_learnDepths_61 ⟨show 1 + 0 ≤ 2 by omega, show (gW) + 0 ≤ gW + gD by omega⟩) (fun r_16 w0 H locs hw hP hD hS => ?_)
          obtain ⟨rfl, hf_17⟩ := hw
          have hP : va_P D vwCl [(gm_depths, .inl (cJ, ld, .inr (.inl gd))), (k_followers, .inl (cI, 24, .inl f_followers)), (o, .inr (0, [.ref wn2_3, .ref gm_depths, .ref gm_gains, .int k2_2, .int kd, .int gm_isGainKnown])), (wn2_3, .inl (cI, ln2_4, .inl gwn_5)), (t, .inr (8, [.ref k_name, .ref k_worth, .ref k_times, .ref k_first, .ref k_second, .ref k_beforeLast, .ref k_last, .ref k_errandOf, .ref k_errandAfter, .ref k_sound, .ref k_followers, .ref k_leaders, .int (nI w), .int k_errands, .int k_alikes, .int k_law])), (k_leaders, .inl (cI, 24, .inl f_leaders))] H := hP
          have hD : va_D A [(gm_depths, .inl (cJ, ld, .inr (.inl gd))), (k_followers, .inl (cI, 24, .inl f_followers)), (o, .inr (0, [.ref wn2_3, .ref gm_depths, .ref gm_gains, .int k2_2, .int kd, .int gm_isGainKnown])), (wn2_3, .inl (cI, ln2_4, .inl gwn_5)), (t, .inr (8, [.ref k_name, .ref k_worth, .ref k_times, .ref k_first, .ref k_second, .ref k_beforeLast, .ref k_last, .ref k_errandOf, .ref k_errandAfter, .ref k_sound, .ref k_followers, .ref k_leaders, .int (nI w), .int k_errands, .int k_alikes, .int k_law])), (k_leaders, .inl (cI, 24, .inl f_leaders))] := hD
          refine lv_if_ne (tgt := 107) hx hb dX0_learnDepths_64 (by decide) (fun c_18 => ?_) (fun c_18 => ?_)
          · refine lv_iinc (v := nI (k + 1)) (lv' := [(6, .int (nI (k + 1))), (4, .long pkd), (3, .int (nI st)), (2, .int (nI sN)), (0, .ref o), (1, .ref t)]) hx hb dX0_learnDepths_107 hl (k := 0) rfl (nI_1 k) (by decide) rfl (fun ls hl => ?_)
            refine lv_goto (tgt := 49) hx hb dX0_learnDepths_110 (by decide) ?_
            exact kk_49 _ _ _ _ (by rw [← hn_49]; omega) ⟨(k + 1), pkd, rfl, hP, hD, hS, lv_sub hl [0, 1, 2, 3, 4, 5] rfl, (by first | assumption | omega)⟩
          · refine lv_aload_n hx hb dX0_learnDepths_67 rfl (lv_at hl 5 rfl) ?_
            refine va_getN (D := D) (ci := 8) (v := .ref k_followers) (C := RX8) (T := TX8) (N := 16) hx hb hts (by decide +kernel) hown hK hP 4 rfl rfl 10 (by decide) (va_Nw.use rfl (hN.1 (RX0, 47, RX8, "followers", "[I", RX10) (by decide +kernel))) (fun _ h9 => h9) rfl dX0_learnDepths_68 ?_
            refine lv_iload hx hb dX0_learnDepths_71 (lv_at hl 0 rfl) ?_
            refine va_iald hx hb hK hP 1 1 rfl rfl (vp_in_nI (by omega) (by omega)) dX0_learnDepths_73 ?_
            refine xb_top (y := f_followers k) (by rw [nI_clamp (by omega)]) ?_
            refine lv_iload_n hx hb dX0_learnDepths_74 rfl (lv_at hl 2 rfl) ?_
            obtain ⟨q_19, hq_19, eq_19⟩ := any_and st (f_followers k)
            refine lv_iand hx hb dX0_learnDepths_75 ?_
            refine xb_top (y := nI q_19) eq_19 ?_
            refine lv_istore (lv' := [(7, .int (nI q_19)), (6, .int (nI k)), (4, .long pkd), (3, .int (nI st)), (2, .int (nI sN)), (0, .ref o), (1, .ref t)]) hx hb dX0_learnDepths_76 hl (by decide) rfl (fun ls hl => ?_)
            refine lv_lload hx hb dX0_learnDepths_78 (lv_at hl 2 rfl) ?_
            refine lv_aload_n hx hb dX0_learnDepths_80 rfl (lv_at hl 5 rfl) ?_
            refine lv_iload_n hx hb dX0_learnDepths_81 rfl (lv_at hl 3 rfl) ?_
            refine lv_iload hx hb dX0_learnDepths_82 (lv_at hl 0 rfl) ?_
            refine lv_aload_n hx hb dX0_learnDepths_84 rfl (lv_at hl 5 rfl) ?_
            refine va_get (D := D) (ci := 0) (v := .ref wn2_3) (C := RX0) (T := TX0) (N := 6) hx hb hts (by decide +kernel) hown hK hP 2 rfl rfl 0 (by decide) (hts (.fieldLink RX0 9 "LastLetter$Games" "won" "[I") (by decide +kernel)) (fun _ h9 => h9) rfl dX0_learnDepths_85 ?_
            refine lv_iload_n hx hb dX0_learnDepths_88 rfl (lv_at hl 3 rfl) ?_
            refine va_iald hx hb hK hP 3 1 rfl rfl (vp_in_nI (by omega) (by omega)) dX0_learnDepths_89 ?_
            refine xb_top (y := gwn_5 st) (by rw [nI_clamp (by omega)]) ?_
            refine lv_iload hx hb dX0_learnDepths_90 (lv_at hl 1 rfl) ?_
            refine xCi (wr := [(gm_depths, .inl (cJ, ld, .inr (.inl gd))), (k_followers, .inl (cI, 24, .inl f_followers)), (o, .inr (0, [.ref wn2_3, .ref gm_depths, .ref gm_gains, .int k2_2, .int kd, .int gm_isGainKnown])), (wn2_3, .inl (cI, ln2_4, .inl gwn_5)), (t, .inr (8, [.ref k_name, .ref k_worth, .ref k_times, .ref k_first, .ref k_second, .ref k_beforeLast, .ref k_last, .ref k_errandOf, .ref k_errandAfter, .ref k_sound, .ref k_followers, .ref k_leaders, .int (nI w), .int k_errands, .int k_alikes, .int k_law])), (k_leaders, .inl (cI, 24, .inl f_leaders))]) (win := []) hP hD hS hA [] [0, 1, 2, 3, 4, 5] rfl rfl (by decide) (by decide) (va_runSN (As := [.int (gwn_5 st), .int (nI k)]) (rest := [.int (nI q_19), .int (nI st), .ref o, .long pkd]) ⟨hx, hb, hml, hown, hts⟩ (c_X10_isIn l D cB cI cJ cS cZ cO H.size (gwn_5 st) (nI k) ) ⟨va_cnB 2 hts gX0_learnDepths_X10_isIn_n43 rfl rfl rfl (hN.2.1 (RX0, 43, yX10_isIn, RX10) (by decide +kernel)) (hts (.initialized RX10) (by decide +kernel)) (by decide +kernel) ⟨Nat.le_of_ble_eq_true rfl, Nat.le_of_ble_eq_true rfl⟩, hts (.static yX10_isIn) (by decide +kernel), trivial⟩ (xPreS (win := []) hN hK hP hD [] (by decide) rfl) rfl rfl hl.1 rfl (lv_room (Nat.le_of_ble_eq_true rfl)) dX0_learnDepths_92 ⟨show 1 + 0 ≤ 2 by omega, show (gW) + 0 ≤ gW + gD by omega⟩) (fun r_20 w0 H locs hw hP hD hS => ?_)
            obtain ⟨rfl, hf_21⟩ := hw
            have hP : va_P D vwCl [(gm_depths, .inl (cJ, ld, .inr (.inl gd))), (k_followers, .inl (cI, 24, .inl f_followers)), (o, .inr (0, [.ref wn2_3, .ref gm_depths, .ref gm_gains, .int k2_2, .int kd, .int gm_isGainKnown])), (wn2_3, .inl (cI, ln2_4, .inl gwn_5)), (t, .inr (8, [.ref k_name, .ref k_worth, .ref k_times, .ref k_first, .ref k_second, .ref k_beforeLast, .ref k_last, .ref k_errandOf, .ref k_errandAfter, .ref k_sound, .ref k_followers, .ref k_leaders, .int (nI w), .int k_errands, .int k_alikes, .int k_law])), (k_leaders, .inl (cI, 24, .inl f_leaders))] H := hP
            have hD : va_D A [(gm_depths, .inl (cJ, ld, .inr (.inl gd))), (k_followers, .inl (cI, 24, .inl f_followers)), (o, .inr (0, [.ref wn2_3, .ref gm_depths, .ref gm_gains, .int k2_2, .int kd, .int gm_isGainKnown])), (wn2_3, .inl (cI, ln2_4, .inl gwn_5)), (t, .inr (8, [.ref k_name, .ref k_worth, .ref k_times, .ref k_first, .ref k_second, .ref k_beforeLast, .ref k_last, .ref k_errandOf, .ref k_errandAfter, .ref k_sound, .ref k_followers, .ref k_leaders, .int (nI w), .int k_errands, .int k_alikes, .int k_law])), (k_leaders, .inl (cI, 24, .inl f_leaders))] := hD
            refine xCi (wr := [(k_followers, .inl (cI, 24, .inl f_followers)), (t, .inr (8, [.ref k_name, .ref k_worth, .ref k_times, .ref k_first, .ref k_second, .ref k_beforeLast, .ref k_last, .ref k_errandOf, .ref k_errandAfter, .ref k_sound, .ref k_followers, .ref k_leaders, .int (nI w), .int k_errands, .int k_alikes, .int k_law])), (k_leaders, .inl (cI, 24, .inl f_leaders))]) (win := [(o, .inr (0, [.ref wn2_3, .ref gm_depths, .ref gm_gains, .int k2_2, .int kd, .int gm_isGainKnown])), (wn2_3, .inl (cI, ln2_4, .inl gwn_5)), (gm_depths, .inl (cJ, ld, .inr (.inl gd)))]) hP hD hS hA [2, 3, 0] [1, 4, 5] rfl rfl (by decide) (by decide) (va_runV (As := [.int (nI st), .int (nI q_19), .int r_20]) (rest := [.long pkd]) ⟨hx, hb, hml, hown, hts⟩ (c_X0_bestDepth l D cB cI cJ cS cZ cO H.size o st q_19 r_20 wn2_3 gm_depths gm_gains k2_2 kd gm_isGainKnown ln2_4 gwn_5 ld gd sN w (by first | assumption | omega | decide) (by first | assumption | omega | decide) (by first | assumption | omega | decide) (by first | assumption | omega | decide) (by first | assumption | omega | decide) (by first | assumption | omega | decide) (by first | assumption | omega | decide) (by first | assumption | omega | decide) (by first | assumption | omega | decide) (by first | assumption | omega | decide)) (cwV 3 hts gX0_learnDepths_X0_bestDepth rfl rfl rfl (by decide +kernel) ⟨Nat.le_of_ble_eq_true rfl, Nat.le_of_ble_eq_true rfl⟩) (xPreV (win := [(o, .inr (0, [.ref wn2_3, .ref gm_depths, .ref gm_gains, .int k2_2, .int kd, .int gm_isGainKnown])), (wn2_3, .inl (cI, ln2_4, .inl gwn_5)), (gm_depths, .inl (cJ, ld, .inr (.inl gd)))]) hN hK hP hD [2, 3, 0] (by decide) rfl 2 0 rfl rfl rfl) rfl rfl hl.1 rfl (lv_room (Nat.le_of_ble_eq_true rfl)) dX0_learnDepths_95 ⟨show 1 + 0 ≤ 2 by omega, show (gW) + 0 ≤ gW + gD by omega⟩) (fun r_22 w0 H locs hw hP hD hS => ?_)
            subst hw
            have hP : va_P D vwCl [(k_followers, .inl (cI, 24, .inl f_followers)), (t, .inr (8, [.ref k_name, .ref k_worth, .ref k_times, .ref k_first, .ref k_second, .ref k_beforeLast, .ref k_last, .ref k_errandOf, .ref k_errandAfter, .ref k_sound, .ref k_followers, .ref k_leaders, .int (nI w), .int k_errands, .int k_alikes, .int k_law])), (k_leaders, .inl (cI, 24, .inl f_leaders)), (o, .inr (0, [.ref wn2_3, .ref gm_depths, .ref gm_gains, .int k2_2, .int kd, .int gm_isGainKnown])), (wn2_3, .inl (cI, ln2_4, .inl gwn_5)), (gm_depths, .inl (cJ, ld, .inr (.inl gd)))] H := hP
            have hD : va_D A [(k_followers, .inl (cI, 24, .inl f_followers)), (t, .inr (8, [.ref k_name, .ref k_worth, .ref k_times, .ref k_first, .ref k_second, .ref k_beforeLast, .ref k_last, .ref k_errandOf, .ref k_errandAfter, .ref k_sound, .ref k_followers, .ref k_leaders, .int (nI w), .int k_errands, .int k_alikes, .int k_law])), (k_leaders, .inl (cI, 24, .inl f_leaders)), (o, .inr (0, [.ref wn2_3, .ref gm_depths, .ref gm_gains, .int k2_2, .int kd, .int gm_isGainKnown])), (wn2_3, .inl (cI, ln2_4, .inl gwn_5)), (gm_depths, .inl (cJ, ld, .inr (.inl gd)))] := hD
            obtain ⟨v_23, ev_23⟩ : ∃ v9 : Int64, Int32.toInt64 r_22 = v9 := ⟨_, rfl⟩
            refine lv_i2l (v := v_23) hx hb dX0_learnDepths_98 ev_23 ?_
            refine lv_iconst (v := 4) hx hb dX0_learnDepths_99 (by decide) ?_
            refine lv_iload hx hb dX0_learnDepths_100 (lv_at hl 1 rfl) ?_
            refine lv_imul hx hb dX0_learnDepths_102 ?_
            refine xb_top (y := nI (4 * k)) (pk_mul 4 k) ?_
            obtain ⟨v_24, ev_24⟩ : ∃ v9 : Int64, (v_23 : Int64) <<< (((nI (4 * k)) : Int32).toInt64 &&& 63) = v9 := ⟨_, rfl⟩
            refine lv_lshl (v := v_24) hx hb dX0_learnDepths_103 ev_24 ?_
            refine lv_lor hx hb dX0_learnDepths_104 ?_
            refine lv_topl (fun v_25 ev_25 => ?_)
            refine lv_lstore (lv' := [(4, .long v_25), (7, .int (nI q_19)), (6, .int (nI k)), (3, .int (nI st)), (2, .int (nI sN)), (0, .ref o), (1, .ref t)]) hx hb dX0_learnDepths_105 hl (by decide) rfl (fun ls hl => ?_)
            refine lv_iinc (v := nI (k + 1)) (lv' := [(6, .int (nI (k + 1))), (4, .long v_25), (7, .int (nI q_19)), (3, .int (nI st)), (2, .int (nI sN)), (0, .ref o), (1, .ref t)]) hx hb dX0_learnDepths_107 hl (k := 2) rfl (nI_1 k) (by decide) rfl (fun ls hl => ?_)
            refine lv_goto (tgt := 49) hx hb dX0_learnDepths_110 (by decide) ?_
            exact kk_49 _ _ _ _ (by rw [← hn_49]; omega) ⟨(k + 1), v_25, rfl, hP.sub [5, 0, 3, 4, 1, 2] rfl, hD.sub [5, 0, 3, 4, 1, 2] (by decide) rfl, hS, lv_sub hl [0, 1, 3, 4, 5, 6] rfl, (by first | assumption | omega)⟩
    · have dc_10 : ¬ sN ≤ ld := fun h => c_10 ((nI_leI (a := sN) (b := ld) (by omega) (by omega)).mpr h)
      refine lv_aload_n hx hb dX0_learnDepths_29 rfl (lv_at hl 1 rfl) ?_
      refine lv_iload_n hx hb dX0_learnDepths_30 rfl (lv_at hl 0 rfl) ?_
      refine xnewa (atype := .long) (a0 := (sN, .inr (.inl (fun _ => 0)))) (ty := .long) hx hb (hts (.arrayClass .long) (by decide +kernel)) rfl hK 2 rfl hP hD hS hA (fun _ => rfl) (nI_pos (by omega)) (nI_clamp (by omega)) (show sN * 8 ≤ 536870912 by omega) (show 1 + 1 ≤ 2 by omega) (show (gW) + sN ≤ gW + gD by omega) dX0_learnDepths_31 (fun q_26 H hP hD hS => ?_)
      refine W.widen (k := 2) (n := (gW) + sN) (Nat.le_refl _) (Nat.le_refl _) ?_
      have hP : va_P D vwCl [(gm_depths, .inl (cJ, ld, .inr (.inl fd))), (k_followers, .inl (cI, 24, .inl f_followers)), (o, .inr (0, [.ref wn2_3, .ref gm_depths, .ref gm_gains, .int k2_2, .int kd, .int gm_isGainKnown])), (wn2_3, .inl (cI, ln2_4, .inl gwn_5)), (t, .inr (8, [.ref k_name, .ref k_worth, .ref k_times, .ref k_first, .ref k_second, .ref k_beforeLast, .ref k_last, .ref k_errandOf, .ref k_errandAfter, .ref k_sound, .ref k_followers, .ref k_leaders, .int (nI w), .int k_errands, .int k_alikes, .int k_law])), (k_leaders, .inl (cI, 24, .inl f_leaders)), (q_26, .inl (cJ, sN, .inr (.inl (fun _ => 0))))] H := hP
      have hD : va_D A [(gm_depths, .inl (cJ, ld, .inr (.inl fd))), (k_followers, .inl (cI, 24, .inl f_followers)), (o, .inr (0, [.ref wn2_3, .ref gm_depths, .ref gm_gains, .int k2_2, .int kd, .int gm_isGainKnown])), (wn2_3, .inl (cI, ln2_4, .inl gwn_5)), (t, .inr (8, [.ref k_name, .ref k_worth, .ref k_times, .ref k_first, .ref k_second, .ref k_beforeLast, .ref k_last, .ref k_errandOf, .ref k_errandAfter, .ref k_sound, .ref k_followers, .ref k_leaders, .int (nI w), .int k_errands, .int k_alikes, .int k_law])), (k_leaders, .inl (cI, 24, .inl f_leaders)), (q_26, .inl (cJ, sN, .inr (.inl (fun _ => 0))))] := hD
      refine va_put (D := D) (ci := 0) (v := .ref q_26) (ty := .array .long) (C := RX0) (T := TX0) (N := 6) hx hb hts (by decide +kernel) tyX0 tyX0_ok nmX0 hown hK hP hD hS 2 rfl rfl 1 (by decide) (hts (.fieldLink RX0 15 "LastLetter$Games" "depths" "[J") (by decide +kernel)) (fun _ h9 => h9) rfl (by decide +kernel) rfl rfl (Nat.le_of_ble_eq_true rfl) dX0_learnDepths_33 (fun H locs hP hD hS => ?_)
      have hP : va_P D vwCl [(gm_depths, .inl (cJ, ld, .inr (.inl fd))), (k_followers, .inl (cI, 24, .inl f_followers)), (o, .inr (0, [.ref wn2_3, .ref q_26, .ref gm_gains, .int k2_2, .int kd, .int gm_isGainKnown])), (wn2_3, .inl (cI, ln2_4, .inl gwn_5)), (t, .inr (8, [.ref k_name, .ref k_worth, .ref k_times, .ref k_first, .ref k_second, .ref k_beforeLast, .ref k_last, .ref k_errandOf, .ref k_errandAfter, .ref k_sound, .ref k_followers, .ref k_leaders, .int (nI w), .int k_errands, .int k_alikes, .int k_law])), (k_leaders, .inl (cI, 24, .inl f_leaders)), (q_26, .inl (cJ, sN, .inr (.inl (fun _ => 0))))] H := hP
      have hD : va_D A [(gm_depths, .inl (cJ, ld, .inr (.inl fd))), (k_followers, .inl (cI, 24, .inl f_followers)), (o, .inr (0, [.ref wn2_3, .ref q_26, .ref gm_gains, .int k2_2, .int kd, .int gm_isGainKnown])), (wn2_3, .inl (cI, ln2_4, .inl gwn_5)), (t, .inr (8, [.ref k_name, .ref k_worth, .ref k_times, .ref k_first, .ref k_second, .ref k_beforeLast, .ref k_last, .ref k_errandOf, .ref k_errandAfter, .ref k_sound, .ref k_followers, .ref k_leaders, .int (nI w), .int k_errands, .int k_alikes, .int k_law])), (k_leaders, .inl (cI, 24, .inl f_leaders)), (q_26, .inl (cJ, sN, .inr (.inl (fun _ => 0))))] := hD
      refine lv_iconst (v := 0) hx hb dX0_learnDepths_36 (by decide) ?_
      refine lv_istore_n (lv' := [(3, .int 0), (2, .int (nI sN)), (0, .ref o), (1, .ref t)]) hx hb dX0_learnDepths_37 rfl hl (by decide) rfl (fun ls hl => ?_)
      refine xb_wh (fun (n9 : Nat) H locs ls => ∃ st : Nat, ∃ gd : Nat → Int64, (sN - st) = n9 ∧ va_P D vwCl [(gm_depths, .inl (cJ, ld, .inr (.inl fd))), (k_followers, .inl (cI, 24, .inl f_followers)), (o, .inr (0, [.ref wn2_3, .ref q_26, .ref gm_gains, .int k2_2, .int kd, .int gm_isGainKnown])), (wn2_3, .inl (cI, ln2_4, .inl gwn_5)), (t, .inr (8, [.ref k_name, .ref k_worth, .ref k_times, .ref k_first, .ref k_second, .ref k_beforeLast, .ref k_last, .ref k_errandOf, .ref k_errandAfter, .ref k_sound, .ref k_followers, .ref k_leaders, .int (nI w), .int k_errands, .int k_alikes, .int k_law])), (k_leaders, .inl (cI, 24, .inl f_leaders)), (q_26, .inl (cJ, sN, .inr (.inl gd)))] H ∧ va_D A [(gm_depths, .inl (cJ, ld, .inr (.inl fd))), (k_followers, .inl (cI, 24, .inl f_followers)), (o, .inr (0, [.ref wn2_3, .ref q_26, .ref gm_gains, .int k2_2, .int kd, .int gm_isGainKnown])), (wn2_3, .inl (cI, ln2_4, .inl gwn_5)), (t, .inr (8, [.ref k_name, .ref k_worth, .ref k_times, .ref k_first, .ref k_second, .ref k_beforeLast, .ref k_last, .ref k_errandOf, .ref k_errandAfter, .ref k_sound, .ref k_followers, .ref k_leaders, .int (nI w), .int k_errands, .int k_alikes, .int k_law])), (k_leaders, .inl (cI, 24, .inl f_leaders)), (q_26, .inl (cJ, sN, .inr (.inl gd)))] ∧ va_S A s.heap H locs ∧ lv_has ls 8 [(3, .int (nI st)), (2, .int (nI sN)), (0, .ref o), (1, .ref t)] ∧ (st ≤ sN)) ⟨0, (fun _ => 0), rfl, hP, hD, hS, lv_sub hl [0, 1, 2, 3] rfl, (Nat.zero_le _)⟩ (fun n9 H locs ls hI kk_38 => ?_)
      obtain ⟨st, gd, hn_38, hP, hD, hS, hl, hF_h_27⟩ := hI
      refine lv_iload_n hx hb dX0_learnDepths_38 rfl (lv_at hl 0 rfl) ?_
      refine lv_iload_n hx hb dX0_learnDepths_39 rfl (lv_at hl 1 rfl) ?_
      refine lv_icmp_ge (tgt := 127) hx hb dX0_learnDepths_40 (by decide) (fun c_28 => ?_) (fun c_28 => ?_)
      · have dc_28 : sN ≤ st := (nI_leI (a := sN) (b := st) (by omega) (by omega)).mp c_28
        refine lv_aload_n hx hb dX0_learnDepths_127 rfl (lv_at hl 2 rfl) ?_
        refine lv_iconst (v := 1) hx hb dX0_learnDepths_128 (by decide) ?_
        refine va_put (D := D) (ci := 0) (v := .int 1) (ty := .boolean) (C := RX0) (T := TX0) (N := 6) hx hb hts (by decide +kernel) tyX0 tyX0_ok nmX0 hown hK hP hD hS 2 rfl rfl 4 (by decide) (hts (.fieldLink RX0 27 "LastLetter$Games" "isDepthKnown" "Z") (by decide +kernel)) (fun _ h9 => h9) rfl (by decide +kernel) rfl rfl (Nat.le_of_ble_eq_true rfl) dX0_learnDepths_129 (fun H locs hP hD hS => ?_)
        have hP : va_P D vwCl [(gm_depths, .inl (cJ, ld, .inr (.inl fd))), (k_followers, .inl (cI, 24, .inl f_followers)), (o, .inr (0, [.ref wn2_3, .ref q_26, .ref gm_gains, .int k2_2, .int 1, .int gm_isGainKnown])), (wn2_3, .inl (cI, ln2_4, .inl gwn_5)), (t, .inr (8, [.ref k_name, .ref k_worth, .ref k_times, .ref k_first, .ref k_second, .ref k_beforeLast, .ref k_last, .ref k_errandOf, .ref k_errandAfter, .ref k_sound, .ref k_followers, .ref k_leaders, .int (nI w), .int k_errands, .int k_alikes, .int k_law])), (k_leaders, .inl (cI, 24, .inl f_leaders)), (q_26, .inl (cJ, sN, .inr (.inl gd)))] H := hP
        have hD : va_D A [(gm_depths, .inl (cJ, ld, .inr (.inl fd))), (k_followers, .inl (cI, 24, .inl f_followers)), (o, .inr (0, [.ref wn2_3, .ref q_26, .ref gm_gains, .int k2_2, .int 1, .int gm_isGainKnown])), (wn2_3, .inl (cI, ln2_4, .inl gwn_5)), (t, .inr (8, [.ref k_name, .ref k_worth, .ref k_times, .ref k_first, .ref k_second, .ref k_beforeLast, .ref k_last, .ref k_errandOf, .ref k_errandAfter, .ref k_sound, .ref k_followers, .ref k_leaders, .int (nI w), .int k_errands, .int k_alikes, .int k_law])), (k_leaders, .inl (cI, 24, .inl f_leaders)), (q_26, .inl (cJ, sN, .inr (.inl gd)))] := hD
        have hP9 := hP.sub (ws' := [(o, .inr (0, [.ref wn2_3, .ref q_26, .ref gm_gains, .int k2_2, .int 1, .int gm_isGainKnown])), (q_26, .inl (cJ, sN, .inr (.inl gd))), (wn2_3, .inl (cI, ln2_4, .inl gwn_5)), (t, .inr (8, [.ref k_name, .ref k_worth, .ref k_times, .ref k_first, .ref k_second, .ref k_beforeLast, .ref k_last, .ref k_errandOf, .ref k_errandAfter, .ref k_sound, .ref k_followers, .ref k_leaders, .int (nI w), .int k_errands, .int k_alikes, .int k_law])), (k_leaders, .inl (cI, 24, .inl f_leaders)), (k_followers, .inl (cI, 24, .inl f_followers))]) [2, 6, 3, 4, 5, 1] rfl
        have hD9 := hD.sub (ws' := [(o, .inr (0, [.ref wn2_3, .ref q_26, .ref gm_gains, .int k2_2, .int 1, .int gm_isGainKnown])), (q_26, .inl (cJ, sN, .inr (.inl gd))), (wn2_3, .inl (cI, ln2_4, .inl gwn_5)), (t, .inr (8, [.ref k_name, .ref k_worth, .ref k_times, .ref k_first, .ref k_second, .ref k_beforeLast, .ref k_last, .ref k_errandOf, .ref k_errandAfter, .ref k_sound, .ref k_followers, .ref k_leaders, .int (nI w), .int k_errands, .int k_alikes, .int k_law])), (k_leaders, .inl (cI, 24, .inl f_leaders)), (k_followers, .inl (cI, 24, .inl f_followers))]) [2, 6, 3, 4, 5, 1] (by decide) rfl
        refine W.widen (k := 2) (n := gW + gD) (show 2 ≤ 2 by omega) (show (gW) + sN ≤ gW + gD by omega) ?_
        exact W.vret hx hb hr (fun tz htz hWz => ⟨⟨[(o, .inr (0, [.ref wn2_3, .ref q_26, .ref gm_gains, .int k2_2, .int 1, .int gm_isGainKnown])), (q_26, .inl (cJ, sN, .inr (.inl gd))), (wn2_3, .inl (cI, ln2_4, .inl gwn_5)), (t, .inr (8, [.ref k_name, .ref k_worth, .ref k_times, .ref k_first, .ref k_second, .ref k_beforeLast, .ref k_last, .ref k_errandOf, .ref k_errandAfter, .ref k_sound, .ref k_followers, .ref k_leaders, .int (nI w), .int k_errands, .int k_alikes, .int k_law])), (k_leaders, .inl (cI, 24, .inl f_leaders)), (k_followers, .inl (cI, 24, .inl f_followers))], rfl, ⟨1, k2_2, wn2_3, q_26, sN, gd, ln2_4, gwn_5, rfl, (by omega), (by omega), (Or.inr ⟨by omega, rfl⟩), (by decide), (Or.inr hf_6), hf_7, hf_8⟩, by rw [htz]; exact hP9, va_K.moved hWz.alike hK, hD9⟩, hS.F htz⟩) hS.2.2 dX0_learnDepths_132
      · have dc_28 : ¬ sN ≤ st := fun h => c_28 ((nI_leI (a := sN) (b := st) (by omega) (by omega)).mpr h)
        refine lv_lconst (v := 0) hx hb dX0_learnDepths_43 (by decide) ?_
        refine lv_lstore (lv' := [(4, .long 0), (3, .int (nI st)), (2, .int (nI sN)), (0, .ref o), (1, .ref t)]) hx hb dX0_learnDepths_44 hl (by decide) rfl (fun ls hl => ?_)
        refine lv_iconst (v := 0) hx hb dX0_learnDepths_46 (by decide) ?_
        refine lv_istore (lv' := [(6, .int 0), (4, .long 0), (3, .int (nI st)), (2, .int (nI sN)), (0, .ref o), (1, .ref t)]) hx hb dX0_learnDepths_47 hl (by decide) rfl (fun ls hl => ?_)
        refine xb_wh (fun (n9 : Nat) H locs ls => ∃ k : Nat, ∃ pkd : Int64, (w - k) = n9 ∧ va_P D vwCl [(gm_depths, .inl (cJ, ld, .inr (.inl fd))), (k_followers, .inl (cI, 24, .inl f_followers)), (o, .inr (0, [.ref wn2_3, .ref q_26, .ref gm_gains, .int k2_2, .int kd, .int gm_isGainKnown])), (wn2_3, .inl (cI, ln2_4, .inl gwn_5)), (t, .inr (8, [.ref k_name, .ref k_worth, .ref k_times, .ref k_first, .ref k_second, .ref k_beforeLast, .ref k_last, .ref k_errandOf, .ref k_errandAfter, .ref k_sound, .ref k_followers, .ref k_leaders, .int (nI w), .int k_errands, .int k_alikes, .int k_law])), (k_leaders, .inl (cI, 24, .inl f_leaders)), (q_26, .inl (cJ, sN, .inr (.inl gd)))] H ∧ va_D A [(gm_depths, .inl (cJ, ld, .inr (.inl fd))), (k_followers, .inl (cI, 24, .inl f_followers)), (o, .inr (0, [.ref wn2_3, .ref q_26, .ref gm_gains, .int k2_2, .int kd, .int gm_isGainKnown])), (wn2_3, .inl (cI, ln2_4, .inl gwn_5)), (t, .inr (8, [.ref k_name, .ref k_worth, .ref k_times, .ref k_first, .ref k_second, .ref k_beforeLast, .ref k_last, .ref k_errandOf, .ref k_errandAfter, .ref k_sound, .ref k_followers, .ref k_leaders, .int (nI w), .int k_errands, .int k_alikes, .int k_law])), (k_leaders, .inl (cI, 24, .inl f_leaders)), (q_26, .inl (cJ, sN, .inr (.inl gd)))] ∧ va_S A s.heap H locs ∧ lv_has ls 8 [(6, .int (nI k)), (4, .long pkd), (3, .int (nI st)), (2, .int (nI sN)), (0, .ref o), (1, .ref t)] ∧ (k ≤ w)) ⟨0, 0, rfl, hP, hD, hS, lv_sub hl [0, 1, 2, 3, 4, 5] rfl, (by first | assumption | omega)⟩ (fun n9 H locs ls hI kk_49 => ?_)
        obtain ⟨k, pkd, hn_49, hP, hD, hS, hl, hF_h_29⟩ := hI
        refine lv_iload hx hb dX0_learnDepths_49 (lv_at hl 0 rfl) ?_
        refine lv_aload_n hx hb dX0_learnDepths_51 rfl (lv_at hl 5 rfl) ?_
        refine va_getN (D := D) (ci := 8) (v := .int (nI w)) (C := RX8) (T := TX8) (N := 16) hx hb hts (by decide +kernel) hown hK hP 4 rfl rfl 12 (by decide) (va_Nw.use rfl (hN.1 (RX0, 50, RX8, "words", "I", RX10) (by decide +kernel))) (fun _ h9 => h9) rfl dX0_learnDepths_52 ?_
        refine lv_icmp_ge (tgt := 113) hx hb dX0_learnDepths_55 (by decide) (fun c_30 => ?_) (fun c_30 => ?_)
        · have dc_30 : w ≤ k := (nI_leI (a := w) (b := k) (by omega) (by omega)).mp c_30
          refine lv_aload_n hx hb dX0_learnDepths_113 rfl (lv_at hl 4 rfl) ?_
          refine va_get (D := D) (ci := 0) (v := .ref q_26) (C := RX0) (T := TX0) (N := 6) hx hb hts (by decide +kernel) hown hK hP 2 rfl rfl 1 (by decide) (hts (.fieldLink RX0 15 "LastLetter$Games" "depths" "[J") (by decide +kernel)) (fun _ h9 => h9) rfl dX0_learnDepths_114 ?_
          refine lv_iload_n hx hb dX0_learnDepths_117 rfl (lv_at hl 2 rfl) ?_
          refine lv_lload hx hb dX0_learnDepths_118 (lv_at hl 1 rfl) ?_
          refine va_last hx hb hK hP hD hS 6 2 rfl rfl (vp_in_nI (by omega) (by omega)) dX0_learnDepths_120 (fun H locs hP hD hS => ?_)
          have hP : va_P D vwCl [(gm_depths, .inl (cJ, ld, .inr (.inl fd))), (k_followers, .inl (cI, 24, .inl f_followers)), (o, .inr (0, [.ref wn2_3, .ref q_26, .ref gm_gains, .int k2_2, .int kd, .int gm_isGainKnown])), (wn2_3, .inl (cI, ln2_4, .inl gwn_5)), (t, .inr (8, [.ref k_name, .ref k_worth, .ref k_times, .ref k_first, .ref k_second, .ref k_beforeLast, .ref k_last, .ref k_errandOf, .ref k_errandAfter, .ref k_sound, .ref k_followers, .ref k_leaders, .int (nI w), .int k_errands, .int k_alikes, .int k_law])), (k_leaders, .inl (cI, 24, .inl f_leaders)), (q_26, .inl (cJ, sN, .inr (.inl (vp_updL gd (Int32.toNatClampNeg (nI st)) pkd))))] H := hP
          have hD : va_D A [(gm_depths, .inl (cJ, ld, .inr (.inl fd))), (k_followers, .inl (cI, 24, .inl f_followers)), (o, .inr (0, [.ref wn2_3, .ref q_26, .ref gm_gains, .int k2_2, .int kd, .int gm_isGainKnown])), (wn2_3, .inl (cI, ln2_4, .inl gwn_5)), (t, .inr (8, [.ref k_name, .ref k_worth, .ref k_times, .ref k_first, .ref k_second, .ref k_beforeLast, .ref k_last, .ref k_errandOf, .ref k_errandAfter, .ref k_sound, .ref k_followers, .ref k_leaders, .int (nI w), .int k_errands, .int k_alikes, .int k_law])), (k_leaders, .inl (cI, 24, .inl f_leaders)), (q_26, .inl (cJ, sN, .inr (.inl (vp_updL gd (Int32.toNatClampNeg (nI st)) pkd))))] := hD
          generalize eg_31 : vp_updL gd (Int32.toNatClampNeg (nI st)) pkd = g_31 at hP hD
          refine lv_iinc (v := nI (st + 1)) (lv' := [(3, .int (nI (st + 1))), (6, .int (nI k)), (4, .long pkd), (2, .int (nI sN)), (0, .ref o), (1, .ref t)]) hx hb dX0_learnDepths_121 hl (k := 2) rfl (nI_1 st) (by decide) rfl (fun ls hl => ?_)
          refine lv_goto (tgt := 38) hx hb dX0_learnDepths_124 (by decide) ?_
          exact kk_38 _ _ _ _ (by rw [← hn_38]; omega) ⟨(st + 1), g_31, rfl, hP, hD, hS, lv_sub hl [0, 3, 4, 5] rfl, (by first | assumption | omega)⟩
        · have dc_30 : ¬ w ≤ k := fun h => c_30 ((nI_leI (a := w) (b := k) (by omega) (by omega)).mpr h)
          refine lv_iload_n hx hb dX0_learnDepths_58 rfl (lv_at hl 2 rfl) ?_
          refine lv_iload hx hb dX0_learnDepths_59 (lv_at hl 0 rfl) ?_
          refine xCi (wr := [(gm_depths, .inl (cJ, ld, .inr (.inl fd))), (k_followers, .inl (cI, 24, .inl f_followers)), (o, .inr (0, [.ref wn2_3, .ref q_26, .ref gm_gains, .int k2_2, .int kd, .int gm_isGainKnown])), (wn2_3, .inl (cI, ln2_4, .inl gwn_5)), (t, .inr (8, [.ref k_name, .ref k_worth, .ref k_times, .ref k_first, .ref k_second, .ref k_beforeLast, .ref k_last, .ref k_errandOf, .ref k_errandAfter, .ref k_sound, .ref k_followers, .ref k_leaders, .int (nI w), .int k_errands, .int k_alikes, .int k_law])), (k_leaders, .inl (cI, 24, .inl f_leaders)), (q_26, .inl (cJ, sN, .inr (.inl gd)))]) (win := []) hP hD hS hA [] [0, 1, 2, 3, 4, 5, 6] rfl rfl (by decide) (by decide) (va_runSN (As := [.int (nI st), .int (nI k)]) (rest := []) ⟨hx, hb, hml, hown, hts⟩ (c_X10_isIn l D cB cI cJ cS cZ cO H.size (nI st) (nI k) ) ⟨va_cnB 2 hts gX0_learnDepths_X10_isIn_n43 rfl rfl rfl (hN.2.1 (RX0, 43, yX10_isIn, RX10) (by decide +kernel)) (hts (.initialized RX10) (by decide +kernel)) (by decide +kernel) ⟨Nat.le_of_ble_eq_true rfl, Nat.le_of_ble_eq_true rfl⟩, hts (.static yX10_isIn) (by decide +kernel), trivial⟩ (xPreS (win := []) hN hK hP hD [] (by decide) rfl) rfl rfl hl.1 rfl (lv_room (Nat.le_of_ble_eq_true rfl)) dX0_learnDepths_61 ⟨show 2 + 0 ≤ 2 by omega, show (gW) + sN + 0 ≤ gW + gD by omega⟩) (fun r_32 w0 H locs hw hP hD hS => ?_)
          obtain ⟨rfl, hf_33⟩ := hw
          have hP : va_P D vwCl [(gm_depths, .inl (cJ, ld, .inr (.inl fd))), (k_followers, .inl (cI, 24, .inl f_followers)), (o, .inr (0, [.ref wn2_3, .ref q_26, .ref gm_gains, .int k2_2, .int kd, .int gm_isGainKnown])), (wn2_3, .inl (cI, ln2_4, .inl gwn_5)), (t, .inr (8, [.ref k_name, .ref k_worth, .ref k_times, .ref k_first, .ref k_second, .ref k_beforeLast, .ref k_last, .ref k_errandOf, .ref k_errandAfter, .ref k_sound, .ref k_followers, .ref k_leaders, .int (nI w), .int k_errands, .int k_alikes, .int k_law])), (k_leaders, .inl (cI, 24, .inl f_leaders)), (q_26, .inl (cJ, sN, .inr (.inl gd)))] H := hP
          have hD : va_D A [(gm_depths, .inl (cJ, ld, .inr (.inl fd))), (k_followers, .inl (cI, 24, .inl f_followers)), (o, .inr (0, [.ref wn2_3, .ref q_26, .ref gm_gains, .int k2_2, .int kd, .int gm_isGainKnown])), (wn2_3, .inl (cI, ln2_4, .inl gwn_5)), (t, .inr (8, [.ref k_name, .ref k_worth, .ref k_times, .ref k_first, .ref k_second, .ref k_beforeLast, .ref k_last, .ref k_errandOf, .ref k_errandAfter, .ref k_sound, .ref k_followers, .ref k_leaders, .int (nI w), .int k_errands, .int k_alikes, .int k_law])), (k_leaders, .inl (cI, 24, .inl f_leaders)), (q_26, .inl (cJ, sN, .inr (.inl gd)))] := hD
          refine lv_if_ne (tgt := 107) hx hb dX0_learnDepths_64 (by decide) (fun c_34 => ?_) (fun c_34 => ?_)
          · refine lv_iinc (v := nI (k + 1)) (lv' := [(6, .int (nI (k + 1))), (4, .long pkd), (3, .int (nI st)), (2, .int (nI sN)), (0, .ref o), (1, .ref t)]) hx hb dX0_learnDepths_107 hl (k := 0) rfl (nI_1 k) (by decide) rfl (fun ls hl => ?_)
            refine lv_goto (tgt := 49) hx hb dX0_learnDepths_110 (by decide) ?_
            exact kk_49 _ _ _ _ (by rw [← hn_49]; omega) ⟨(k + 1), pkd, rfl, hP, hD, hS, lv_sub hl [0, 1, 2, 3, 4, 5] rfl, (by first | assumption | omega)⟩
          · refine lv_aload_n hx hb dX0_learnDepths_67 rfl (lv_at hl 5 rfl) ?_
            refine va_getN (D := D) (ci := 8) (v := .ref k_followers) (C := RX8) (T := TX8) (N := 16) hx hb hts (by decide +kernel) hown hK hP 4 rfl rfl 10 (by decide) (va_Nw.use rfl (hN.1 (RX0, 47, RX8, "followers", "[I", RX10) (by decide +kernel))) (fun _ h9 => h9) rfl dX0_learnDepths_68 ?_
            refine lv_iload hx hb dX0_learnDepths_71 (lv_at hl 0 rfl) ?_
            refine va_iald hx hb hK hP 1 1 rfl rfl (vp_in_nI (by omega) (by omega)) dX0_learnDepths_73 ?_
            refine xb_top (y := f_followers k) (by rw [nI_clamp (by omega)]) ?_
            refine lv_iload_n hx hb dX0_learnDepths_74 rfl (lv_at hl 2 rfl) ?_
            obtain ⟨q_35, hq_35, eq_35⟩ := any_and st (f_followers k)
            refine lv_iand hx hb dX0_learnDepths_75 ?_
            refine xb_top (y := nI q_35) eq_35 ?_
            refine lv_istore (lv' := [(7, .int (nI q_35)), (6, .int (nI k)), (4, .long pkd), (3, .int (nI st)), (2, .int (nI sN)), (0, .ref o), (1, .ref t)]) hx hb dX0_learnDepths_76 hl (by decide) rfl (fun ls hl => ?_)
            refine lv_lload hx hb dX0_learnDepths_78 (lv_at hl 2 rfl) ?_
            refine lv_aload_n hx hb dX0_learnDepths_80 rfl (lv_at hl 5 rfl) ?_
            refine lv_iload_n hx hb dX0_learnDepths_81 rfl (lv_at hl 3 rfl) ?_
            refine lv_iload hx hb dX0_learnDepths_82 (lv_at hl 0 rfl) ?_
            refine lv_aload_n hx hb dX0_learnDepths_84 rfl (lv_at hl 5 rfl) ?_
            refine va_get (D := D) (ci := 0) (v := .ref wn2_3) (C := RX0) (T := TX0) (N := 6) hx hb hts (by decide +kernel) hown hK hP 2 rfl rfl 0 (by decide) (hts (.fieldLink RX0 9 "LastLetter$Games" "won" "[I") (by decide +kernel)) (fun _ h9 => h9) rfl dX0_learnDepths_85 ?_
            refine lv_iload_n hx hb dX0_learnDepths_88 rfl (lv_at hl 3 rfl) ?_
            refine va_iald hx hb hK hP 3 1 rfl rfl (vp_in_nI (by omega) (by omega)) dX0_learnDepths_89 ?_
            refine xb_top (y := gwn_5 st) (by rw [nI_clamp (by omega)]) ?_
            refine lv_iload hx hb dX0_learnDepths_90 (lv_at hl 1 rfl) ?_
            refine xCi (wr := [(gm_depths, .inl (cJ, ld, .inr (.inl fd))), (k_followers, .inl (cI, 24, .inl f_followers)), (o, .inr (0, [.ref wn2_3, .ref q_26, .ref gm_gains, .int k2_2, .int kd, .int gm_isGainKnown])), (wn2_3, .inl (cI, ln2_4, .inl gwn_5)), (t, .inr (8, [.ref k_name, .ref k_worth, .ref k_times, .ref k_first, .ref k_second, .ref k_beforeLast, .ref k_last, .ref k_errandOf, .ref k_errandAfter, .ref k_sound, .ref k_followers, .ref k_leaders, .int (nI w), .int k_errands, .int k_alikes, .int k_law])), (k_leaders, .inl (cI, 24, .inl f_leaders)), (q_26, .inl (cJ, sN, .inr (.inl gd)))]) (win := []) hP hD hS hA [] [0, 1, 2, 3, 4, 5, 6] rfl rfl (by decide) (by decide) (va_runSN (As := [.int (gwn_5 st), .int (nI k)]) (rest := [.int (nI q_35), .int (nI st), .ref o, .long pkd]) ⟨hx, hb, hml, hown, hts⟩ (c_X10_isIn l D cB cI cJ cS cZ cO H.size (gwn_5 st) (nI k) ) ⟨va_cnB 2 hts gX0_learnDepths_X10_isIn_n43 rfl rfl rfl (hN.2.1 (RX0, 43, yX10_isIn, RX10) (by decide +kernel)) (hts (.initialized RX10) (by decide +kernel)) (by decide +kernel) ⟨Nat.le_of_ble_eq_true rfl, Nat.le_of_ble_eq_true rfl⟩, hts (.static yX10_isIn) (by decide +kernel), trivial⟩ (xPreS (win := []) hN hK hP hD [] (by decide) rfl) rfl rfl hl.1 rfl (lv_room (Nat.le_of_ble_eq_true rfl)) dX0_learnDepths_92 ⟨show 2 + 0 ≤ 2 by omega, show (gW) + sN + 0 ≤ gW + gD by omega⟩) (fun r_36 w0 H locs hw hP hD hS => ?_)
            obtain ⟨rfl, hf_37⟩ := hw
            have hP : va_P D vwCl [(gm_depths, .inl (cJ, ld, .inr (.inl fd))), (k_followers, .inl (cI, 24, .inl f_followers)), (o, .inr (0, [.ref wn2_3, .ref q_26, .ref gm_gains, .int k2_2, .int kd, .int gm_isGainKnown])), (wn2_3, .inl (cI, ln2_4, .inl gwn_5)), (t, .inr (8, [.ref k_name, .ref k_worth, .ref k_times, .ref k_first, .ref k_second, .ref k_beforeLast, .ref k_last, .ref k_errandOf, .ref k_errandAfter, .ref k_sound, .ref k_followers, .ref k_leaders, .int (nI w), .int k_errands, .int k_alikes, .int k_law])), (k_leaders, .inl (cI, 24, .inl f_leaders)), (q_26, .inl (cJ, sN, .inr (.inl gd)))] H := hP
            have hD : va_D A [(gm_depths, .inl (cJ, ld, .inr (.inl fd))), (k_followers, .inl (cI, 24, .inl f_followers)), (o, .inr (0, [.ref wn2_3, .ref q_26, .ref gm_gains, .int k2_2, .int kd, .int gm_isGainKnown])), (wn2_3, .inl (cI, ln2_4, .inl gwn_5)), (t, .inr (8, [.ref k_name, .ref k_worth, .ref k_times, .ref k_first, .ref k_second, .ref k_beforeLast, .ref k_last, .ref k_errandOf, .ref k_errandAfter, .ref k_sound, .ref k_followers, .ref k_leaders, .int (nI w), .int k_errands, .int k_alikes, .int k_law])), (k_leaders, .inl (cI, 24, .inl f_leaders)), (q_26, .inl (cJ, sN, .inr (.inl gd)))] := hD
            refine xCi (wr := [(gm_depths, .inl (cJ, ld, .inr (.inl fd))), (k_followers, .inl (cI, 24, .inl f_followers)), (t, .inr (8, [.ref k_name, .ref k_worth, .ref k_times, .ref k_first, .ref k_second, .ref k_beforeLast, .ref k_last, .ref k_errandOf, .ref k_errandAfter, .ref k_sound, .ref k_followers, .ref k_leaders, .int (nI w), .int k_errands, .int k_alikes, .int k_law])), (k_leaders, .inl (cI, 24, .inl f_leaders))]) (win := [(o, .inr (0, [.ref wn2_3, .ref q_26, .ref gm_gains, .int k2_2, .int kd, .int gm_isGainKnown])), (wn2_3, .inl (cI, ln2_4, .inl gwn_5)), (q_26, .inl (cJ, sN, .inr (.inl gd)))]) hP hD hS hA [2, 3, 6] [0, 1, 4, 5] rfl rfl (by decide) (by decide) (va_runV (As := [.int (nI st), .int (nI q_35), .int r_36]) (rest := [.long pkd]) ⟨hx, hb, hml, hown, hts⟩ (c_X0_bestDepth l D cB cI cJ cS cZ cO H.size o st q_35 r_36 wn2_3 q_26 gm_gains k2_2 kd gm_isGainKnown ln2_4 gwn_5 sN gd sN w (by first | assumption | omega | decide) (by first | assumption | omega | decide) (by first | assumption | omega | decide) (by first | assumption | omega | decide) (by first | assumption | omega | decide) (by first | assumption | omega | decide) (by first | assumption | omega | decide) (by first | assumption | omega | decide) (by first | assumption | omega | decide) (by first | assumption | omega | decide)) (cwV 3 hts gX0_learnDepths_X0_bestDepth rfl rfl rfl (by decide +kernel) ⟨Nat.le_of_ble_eq_true rfl, Nat.le_of_ble_eq_true rfl⟩) (xPreV (win := [(o, .inr (0, [.ref wn2_3, .ref q_26, .ref gm_gains, .int k2_2, .int kd, .int gm_isGainKnown])), (wn2_3, .inl (cI, ln2_4, .inl gwn_5)), (q_26, .inl (cJ, sN, .inr (.inl gd)))]) hN hK hP hD [2, 3, 6] (by decide) rfl 2 0 rfl rfl rfl) rfl rfl hl.1 rfl (lv_room (Nat.le_of_ble_eq_true rfl)) dX0_learnDepths_95 ⟨show 2 + 0 ≤ 2 by omega, show (gW) + sN + 0 ≤ gW + gD by omega⟩) (fun r_38 w0 H locs hw hP hD hS => ?_)
            subst hw
            have hP : va_P D vwCl [(gm_depths, .inl (cJ, ld, .inr (.inl fd))), (k_followers, .inl (cI, 24, .inl f_followers)), (t, .inr (8, [.ref k_name, .ref k_worth, .ref k_times, .ref k_first, .ref k_second, .ref k_beforeLast, .ref k_last, .ref k_errandOf, .ref k_errandAfter, .ref k_sound, .ref k_followers, .ref k_leaders, .int (nI w), .int k_errands, .int k_alikes, .int k_law])), (k_leaders, .inl (cI, 24, .inl f_leaders)), (o, .inr (0, [.ref wn2_3, .ref q_26, .ref gm_gains, .int k2_2, .int kd, .int gm_isGainKnown])), (wn2_3, .inl (cI, ln2_4, .inl gwn_5)), (q_26, .inl (cJ, sN, .inr (.inl gd)))] H := hP
            have hD : va_D A [(gm_depths, .inl (cJ, ld, .inr (.inl fd))), (k_followers, .inl (cI, 24, .inl f_followers)), (t, .inr (8, [.ref k_name, .ref k_worth, .ref k_times, .ref k_first, .ref k_second, .ref k_beforeLast, .ref k_last, .ref k_errandOf, .ref k_errandAfter, .ref k_sound, .ref k_followers, .ref k_leaders, .int (nI w), .int k_errands, .int k_alikes, .int k_law])), (k_leaders, .inl (cI, 24, .inl f_leaders)), (o, .inr (0, [.ref wn2_3, .ref q_26, .ref gm_gains, .int k2_2, .int kd, .int gm_isGainKnown])), (wn2_3, .inl (cI, ln2_4, .inl gwn_5)), (q_26, .inl (cJ, sN, .inr (.inl gd)))] := hD
            obtain ⟨v_39, ev_39⟩ : ∃ v9 : Int64, Int32.toInt64 r_38 = v9 := ⟨_, rfl⟩
            refine lv_i2l (v := v_39) hx hb dX0_learnDepths_98 ev_39 ?_
            refine lv_iconst (v := 4) hx hb dX0_learnDepths_99 (by decide) ?_
            refine lv_iload hx hb dX0_learnDepths_100 (lv_at hl 1 rfl) ?_
            refine lv_imul hx hb dX0_learnDepths_102 ?_
            refine xb_top (y := nI (4 * k)) (pk_mul 4 k) ?_
            obtain ⟨v_40, ev_40⟩ : ∃ v9 : Int64, (v_39 : Int64) <<< (((nI (4 * k)) : Int32).toInt64 &&& 63) = v9 := ⟨_, rfl⟩
            refine lv_lshl (v := v_40) hx hb dX0_learnDepths_103 ev_40 ?_
            refine lv_lor hx hb dX0_learnDepths_104 ?_
            refine lv_topl (fun v_41 ev_41 => ?_)
            refine lv_lstore (lv' := [(4, .long v_41), (7, .int (nI q_35)), (6, .int (nI k)), (3, .int (nI st)), (2, .int (nI sN)), (0, .ref o), (1, .ref t)]) hx hb dX0_learnDepths_105 hl (by decide) rfl (fun ls hl => ?_)
            refine lv_iinc (v := nI (k + 1)) (lv' := [(6, .int (nI (k + 1))), (4, .long v_41), (7, .int (nI q_35)), (3, .int (nI st)), (2, .int (nI sN)), (0, .ref o), (1, .ref t)]) hx hb dX0_learnDepths_107 hl (k := 2) rfl (nI_1 k) (by decide) rfl (fun ls hl => ?_)
            refine lv_goto (tgt := 49) hx hb dX0_learnDepths_110 (by decide) ?_
            exact kk_49 _ _ _ _ (by rw [← hn_49]; omega) ⟨(k + 1), v_41, rfl, hP.sub [0, 1, 4, 5, 2, 3, 6] rfl, hD.sub [0, 1, 4, 5, 2, 3, 6] (by decide) rfl, hS, lv_sub hl [0, 1, 3, 4, 5, 6] rfl, (by first | assumption | omega)⟩
  · have hP9 := hP.sub (ws' := [(o, .inr (0, [.ref gm_won, .ref gm_depths, .ref gm_gains, .int kn, .int kd, .int gm_isGainKnown])), (gm_depths, .inl (cJ, ld, .inr (.inl fd))), (gm_won, .inl (cI, ln, .inl fwn)), (t, .inr (8, [.ref k_name, .ref k_worth, .ref k_times, .ref k_first, .ref k_second, .ref k_beforeLast, .ref k_last, .ref k_errandOf, .ref k_errandAfter, .ref k_sound, .ref k_followers, .ref k_leaders, .int (nI w), .int k_errands, .int k_alikes, .int k_law])), (k_leaders, .inl (cI, 24, .inl f_leaders)), (k_followers, .inl (cI, 24, .inl f_followers))]) [0, 1, 2, 3, 4, 5] rfl
    have hD9 := hD.sub (ws' := [(o, .inr (0, [.ref gm_won, .ref gm_depths, .ref gm_gains, .int kn, .int kd, .int gm_isGainKnown])), (gm_depths, .inl (cJ, ld, .inr (.inl fd))), (gm_won, .inl (cI, ln, .inl fwn)), (t, .inr (8, [.ref k_name, .ref k_worth, .ref k_times, .ref k_first, .ref k_second, .ref k_beforeLast, .ref k_last, .ref k_errandOf, .ref k_errandAfter, .ref k_sound, .ref k_followers, .ref k_leaders, .int (nI w), .int k_errands, .int k_alikes, .int k_law])), (k_leaders, .inl (cI, 24, .inl f_leaders)), (k_followers, .inl (cI, 24, .inl f_followers))]) [0, 1, 2, 3, 4, 5] (by decide) rfl
    refine W.widen (k := 2) (n := gW + gD) (show 0 ≤ 2 by omega) (show 0 ≤ gW + gD by omega) ?_
    exact W.vret hx hb hr (fun tz htz hWz => ⟨⟨[(o, .inr (0, [.ref gm_won, .ref gm_depths, .ref gm_gains, .int kn, .int kd, .int gm_isGainKnown])), (gm_depths, .inl (cJ, ld, .inr (.inl fd))), (gm_won, .inl (cI, ln, .inl fwn)), (t, .inr (8, [.ref k_name, .ref k_worth, .ref k_times, .ref k_first, .ref k_second, .ref k_beforeLast, .ref k_last, .ref k_errandOf, .ref k_errandAfter, .ref k_sound, .ref k_followers, .ref k_leaders, .int (nI w), .int k_errands, .int k_alikes, .int k_law])), (k_leaders, .inl (cI, 24, .inl f_leaders)), (k_followers, .inl (cI, 24, .inl f_followers))], rfl, ⟨kd, kn, gm_won, gm_depths, ld, fd, ln, fwn, rfl, (hkd.resolve_left c_1), hld, (Or.inl rfl), c_1, hkn, hln, (Or.inl rfl)⟩, by rw [htz]; exact hP9, va_K.moved hWz.alike hK, hD9⟩, hS.F htz⟩) hS.2.2 dX0_learnDepths_14

set_option maxHeartbeats 4000000 in
set_option maxRecDepth 100000 in
theorem c_X0_lengthBehind (l : Launch) (D : va_G) (cB cI cJ cS cZ cO : ClassId) (sz : Nat) (o : Nat) (t : Nat) (k : Nat) (gm_won : Nat) (gm_depths : Nat) (gm_gains : Nat) (kn : Int32) (kd : Int32) (gm_isGainKnown : Int32) (ld : Nat) (fd : Nat → Int64) (ln : Nat) (fwn : Nat → Int32) (k_name : Nat) (k_worth : Nat) (k_times : Nat) (k_first : Nat) (k_second : Nat) (k_beforeLast : Nat) (k_last : Nat) (k_errandOf : Nat) (k_errandAfter : Nat) (k_sound : Nat) (k_followers : Nat) (k_leaders : Nat) (w : Nat) (k_errands : Int32) (k_alikes : Int32) (k_law : Int32) (f_leaders : Nat → Int32) (f_followers : Nat → Int32) (sN : Nat) (gW : Nat) (gD : Nat) (hs : sN = 2 ^ w) (hw4 : w ≤ 14) (hs1 : 1 ≤ sN) (hs2 : sN ≤ 16384) (hln : ln ≤ 16384) (hgW : ln < sN → sN ≤ gW) (hkn : (kn = 0 ∨ sN ≤ ln)) (hld : ld ≤ 16384) (hgD : ld < sN → sN ≤ gD) (hkd : (kd = 0 ∨ sN ≤ ld)) (hk : k < w) : Met l yX0_lengthBehind wsX0_lengthBehind ({ frames := 4, cells := 2, slots := (gW + gD), locals := 96 }) (xPre D (tyL cB cI cJ cS cZ cO) [(o, .inr (0, [.ref gm_won, .ref gm_depths, .ref gm_gains, .int kn, .int kd, .int gm_isGainKnown])), (gm_depths, .inl (cJ, ld, .inr (.inl fd))), (gm_won, .inl (cI, ln, .inl fwn)), (t, .inr (8, [.ref k_name, .ref k_worth, .ref k_times, .ref k_first, .ref k_second, .ref k_beforeLast, .ref k_last, .ref k_errandOf, .ref k_errandAfter, .ref k_sound, .ref k_followers, .ref k_leaders, .int (nI w), .int k_errands, .int k_alikes, .int k_law])), (k_leaders, .inl (cI, 24, .inl f_leaders)), (k_followers, .inl (cI, 24, .inl f_followers))] sz [.ref o, .ref t, .int (nI k)]) (xQi D (tyL cB cI cJ cS cZ cO) (va_A [(o, .inr (0, [.ref gm_won, .ref gm_depths, .ref gm_gains, .int kn, .int kd, .int gm_isGainKnown])), (gm_depths, .inl (cJ, ld, .inr (.inl fd))), (gm_won, .inl (cI, ln, .inl fwn)), (t, .inr (8, [.ref k_name, .ref k_worth, .ref k_times, .ref k_first, .ref k_second, .ref k_beforeLast, .ref k_last, .ref k_errandOf, .ref k_errandAfter, .ref k_sound, .ref k_followers, .ref k_leaders, .int (nI w), .int k_errands, .int k_alikes, .int k_law])), (k_leaders, .inl (cI, 24, .inl f_leaders)), (k_followers, .inl (cI, 24, .inl f_followers))] sz) (fun (r : Int32) (u : va_W) => ∃ kd2 : Int32, ∃ k2 : Int32, ∃ wn2 : Nat, ∃ d2 : Nat, ∃ ld2 : Nat, ∃ gd : Nat → Int64, ∃ ln2 : Nat, ∃ gwn : Nat → Int32, u = [(o, .inr (0, [.ref wn2, .ref d2, .ref gm_gains, .int k2, .int kd2, .int gm_isGainKnown])), (d2, .inl (cJ, ld2, .inr (.inl gd))), (wn2, .inl (cI, ln2, .inl gwn)), (t, .inr (8, [.ref k_name, .ref k_worth, .ref k_times, .ref k_first, .ref k_second, .ref k_beforeLast, .ref k_last, .ref k_errandOf, .ref k_errandAfter, .ref k_sound, .ref k_followers, .ref k_leaders, .int (nI w), .int k_errands, .int k_alikes, .int k_law])), (k_leaders, .inl (cI, 24, .inl f_leaders)), (k_followers, .inl (cI, 24, .inl f_followers))] ∧ sN ≤ ld2 ∧ ld2 ≤ 16384 ∧ (ld2 = ld ∨ (ld < sN ∧ ld2 = sN)) ∧ kd2 ≠ 0 ∧ (k2 = 0 ∨ sN ≤ ln2) ∧ ln2 ≤ 16384 ∧ (ln2 = ln ∨ (ln < sN ∧ ln2 = sN)))) 2 (gW + gD) (va_A [(o, .inr (0, [.ref gm_won, .ref gm_depths, .ref gm_gains, .int kn, .int kd, .int gm_isGainKnown])), (gm_depths, .inl (cJ, ld, .inr (.inl fd))), (gm_won, .inl (cI, ln, .inl fwn)), (t, .inr (8, [.ref k_name, .ref k_worth, .ref k_times, .ref k_first, .ref k_second, .ref k_beforeLast, .ref k_last, .ref k_errandOf, .ref k_errandAfter, .ref k_sound, .ref k_followers, .ref k_leaders, .int (nI w), .int k_errands, .int k_alikes, .int k_law])), (k_leaders, .inl (cI, 24, .inl f_leaders)), (k_followers, .inl (cI, 24, .inl f_followers))] sz) := by
  refine Met.ofW (cc := cX0_lengthBehind) (maxL := 3) (ret := (some .int)) (by decide) rfl ?_
  intro p e s m args below meth c s₁ B hml hv
  obtain ⟨rfl, hsz, hP, hK, hD0, hN⟩ := hv
  have hx := B.exec
  have hb := B.bytes
  have hr := B.returns
  have hts := atoms_spec (ws := wsX0_lengthBehind) B.pre
  have hown : s.vm.findClass RX0 = some m.cls := findClass_of_methodNamed B.named
  have hlocks := B.notSynchronized
  subst hsz
  have hD := hD0.self (sz := s.heap.size)
  generalize hAe : va_A [(o, .inr (0, [.ref gm_won, .ref gm_depths, .ref gm_gains, .int kn, .int kd, .int gm_isGainKnown])), (gm_depths, .inl (cJ, ld, .inr (.inl fd))), (gm_won, .inl (cI, ln, .inl fwn)), (t, .inr (8, [.ref k_name, .ref k_worth, .ref k_times, .ref k_first, .ref k_second, .ref k_beforeLast, .ref k_last, .ref k_errandOf, .ref k_errandAfter, .ref k_sound, .ref k_followers, .ref k_leaders, .int (nI w), .int k_errands, .int k_alikes, .int k_law])), (k_leaders, .inl (cI, 24, .inl f_leaders)), (k_followers, .inl (cI, 24, .inl f_followers))] s.heap.size = A at hD ⊢
  have hA : ∀ q : Nat, s.heap.size ≤ q → A q := fun q h => by rw [← hAe]; exact Or.inr h
  have hS : va_S A s.heap s.heap [] := va_S.rf
  have hP : va_P D vwCl [(o, .inr (0, [.ref gm_won, .ref gm_depths, .ref gm_gains, .int kn, .int kd, .int gm_isGainKnown])), (gm_depths, .inl (cJ, ld, .inr (.inl fd))), (gm_won, .inl (cI, ln, .inl fwn)), (t, .inr (8, [.ref k_name, .ref k_worth, .ref k_times, .ref k_first, .ref k_second, .ref k_beforeLast, .ref k_last, .ref k_errandOf, .ref k_errandAfter, .ref k_sound, .ref k_followers, .ref k_leaders, .int (nI w), .int k_errands, .int k_alikes, .int k_law])), (k_leaders, .inl (cI, 24, .inl f_leaders)), (k_followers, .inl (cI, 24, .inl f_followers))] s.heap := hP
  have hl := lv_entry ([.ref o, .ref t, .int (nI k)]) (n := 3) (Nat.le_of_ble_eq_true rfl)
  rw [lg_entry_eq]
  generalize (lg_sl ([.ref o, .ref t, .int (nI k)]) ++ List.replicate (3 - (lg_sl ([.ref o, .ref t, .int (nI k)])).length) Slot.unset).toArray = ls at hl ⊢
  have hl : lv_has ls 3 [(0, .ref o), (1, .ref t), (2, .int (nI k))] := hl
  refine lv_aload_n hx hb dX0_lengthBehind_0 rfl (lv_at hl 0 rfl) ?_
  refine lv_aload_n hx hb dX0_lengthBehind_1 rfl (lv_at hl 1 rfl) ?_
  refine xCv (wr := []) (win := [(o, .inr (0, [.ref gm_won, .ref gm_depths, .ref gm_gains, .int kn, .int kd, .int gm_isGainKnown])), (gm_depths, .inl (cJ, ld, .inr (.inl fd))), (gm_won, .inl (cI, ln, .inl fwn)), (t, .inr (8, [.ref k_name, .ref k_worth, .ref k_times, .ref k_first, .ref k_second, .ref k_beforeLast, .ref k_last, .ref k_errandOf, .ref k_errandAfter, .ref k_sound, .ref k_followers, .ref k_leaders, .int (nI w), .int k_errands, .int k_alikes, .int k_law])), (k_leaders, .inl (cI, 24, .inl f_leaders)), (k_followers, .inl (cI, 24, .inl f_followers))]) hP hD hS hA [0, 1, 2, 3, 4, 5] [] rfl rfl (by decide) (by decide) (va_runV (As := [.ref t]) (rest := []) ⟨hx, hb, hml, hown, hts⟩ (c_X0_learnDepths l D cB cI cJ cS cZ cO s.heap.size o t gm_won gm_depths gm_gains kn kd gm_isGainKnown ld fd ln fwn k_name k_worth k_times k_first k_second k_beforeLast k_last k_errandOf k_errandAfter k_sound k_followers k_leaders w k_errands k_alikes k_law f_leaders f_followers sN gW gD (by first | assumption | omega | decide) (by first | assumption | omega | decide) (by first | assumption | omega | decide) (by first | assumption | omega | decide) (by first | assumption | omega | decide) (by first | assumption | omega | decide) (by first | assumption | omega | decide) (by first | assumption | omega | decide) (by first | assumption | omega | decide) (by first | assumption | omega | decide)) (cwV 1 hts gX0_lengthBehind_X0_learnDepths rfl rfl rfl (by decide +kernel) ⟨Nat.le_of_ble_eq_true rfl, Nat.le_of_ble_eq_true rfl⟩) (xPreV (win := [(o, .inr (0, [.ref gm_won, .ref gm_depths, .ref gm_gains, .int kn, .int kd, .int gm_isGainKnown])), (gm_depths, .inl (cJ, ld, .inr (.inl fd))), (gm_won, .inl (cI, ln, .inl fwn)), (t, .inr (8, [.ref k_name, .ref k_worth, .ref k_times, .ref k_first, .ref k_second, .ref k_beforeLast, .ref k_last, .ref k_errandOf, .ref k_errandAfter, .ref k_sound, .ref k_followers, .ref k_leaders, .int (nI w), .int k_errands, .int k_alikes, .int k_law])), (k_leaders, .inl (cI, 24, .inl f_leaders)), (k_followers, .inl (cI, 24, .inl f_followers))]) hN hK hP hD [0, 1, 2, 3, 4, 5] (by decide) rfl 0 0 rfl rfl rfl) rfl rfl hl.1 rfl (lv_room (Nat.le_of_ble_eq_true rfl)) dX0_lengthBehind_2 ⟨show 0 + 2 ≤ 2 by omega, show 0 + (gW + gD) ≤ gW + gD by omega⟩) (fun w0 H locs hw hP hD hS => ?_)
  obtain ⟨kd2_1, k2_2, wn2_3, d2_4, ld2_5, gd_6, ln2_7, gwn_8, rfl, hf_9, hf_10, hf_11, hf_12, hf_13, hf_14, hf_15⟩ := hw
  refine W.widen (k := 2) (n := (gW + gD)) (by omega) (by omega) ?_
  have hP : va_P D vwCl [(o, .inr (0, [.ref wn2_3, .ref d2_4, .ref gm_gains, .int k2_2, .int kd2_1, .int gm_isGainKnown])), (d2_4, .inl (cJ, ld2_5, .inr (.inl gd_6))), (wn2_3, .inl (cI, ln2_7, .inl gwn_8)), (t, .inr (8, [.ref k_name, .ref k_worth, .ref k_times, .ref k_first, .ref k_second, .ref k_beforeLast, .ref k_last, .ref k_errandOf, .ref k_errandAfter, .ref k_sound, .ref k_followers, .ref k_leaders, .int (nI w), .int k_errands, .int k_alikes, .int k_law])), (k_leaders, .inl (cI, 24, .inl f_leaders)), (k_followers, .inl (cI, 24, .inl f_followers))] H := hP
  have hD : va_D A [(o, .inr (0, [.ref wn2_3, .ref d2_4, .ref gm_gains, .int k2_2, .int kd2_1, .int gm_isGainKnown])), (d2_4, .inl (cJ, ld2_5, .inr (.inl gd_6))), (wn2_3, .inl (cI, ln2_7, .inl gwn_8)), (t, .inr (8, [.ref k_name, .ref k_worth, .ref k_times, .ref k_first, .ref k_second, .ref k_beforeLast, .ref k_last, .ref k_errandOf, .ref k_errandAfter, .ref k_sound, .ref k_followers, .ref k_leaders, .int (nI w), .int k_errands, .int k_alikes, .int k_law])), (k_leaders, .inl (cI, 24, .inl f_leaders)), (k_followers, .inl (cI, 24, .inl f_followers))] := hD
  refine lv_aload_n hx hb dX0_lengthBehind_5 rfl (lv_at hl 0 rfl) ?_
  refine lv_aload_n hx hb dX0_lengthBehind_6 rfl (lv_at hl 1 rfl) ?_
  refine xCi (wr := [(o, .inr (0, [.ref wn2_3, .ref d2_4, .ref gm_gains, .int k2_2, .int kd2_1, .int gm_isGainKnown])), (d2_4, .inl (cJ, ld2_5, .inr (.inl gd_6))), (wn2_3, .inl (cI, ln2_7, .inl gwn_8)), (k_leaders, .inl (cI, 24, .inl f_leaders)), (k_followers, .inl (cI, 24, .inl f_followers))]) (win := [(t, .inr (8, [.ref k_name, .ref k_worth, .ref k_times, .ref k_first, .ref k_second, .ref k_beforeLast, .ref k_last, .ref k_errandOf, .ref k_errandAfter, .ref k_sound, .ref k_followers, .ref k_leaders, .int (nI w), .int k_errands, .int k_alikes, .int k_law]))]) hP hD hS hA [3] [0, 1, 2, 4, 5] rfl rfl (by decide) (by decide) (va_runV (As := []) (rest := [.ref o]) ⟨hx, hb, hml, hown, hts⟩ (c_X8_everyWord l D cB cI cJ cS cZ cO H.size t k_name k_worth k_times k_first k_second k_beforeLast k_last k_errandOf k_errandAfter k_sound k_followers k_leaders w k_errands k_alikes k_law (by first | assumption | omega | decide)) (cwV 0 hts gX0_lengthBehind_X8_everyWord rfl rfl rfl (by decide +kernel) ⟨Nat.le_of_ble_eq_true rfl, Nat.le_of_ble_eq_true rfl⟩) (xPreV (win := [(t, .inr (8, [.ref k_name, .ref k_worth, .ref k_times, .ref k_first, .ref k_second, .ref k_beforeLast, .ref k_last, .ref k_errandOf, .ref k_errandAfter, .ref k_sound, .ref k_followers, .ref k_leaders, .int (nI w), .int k_errands, .int k_alikes, .int k_law]))]) hN hK hP hD [3] (by decide) rfl 3 8 rfl rfl rfl) rfl rfl hl.1 rfl (lv_room (Nat.le_of_ble_eq_true rfl)) dX0_lengthBehind_7 ⟨show 2 + 0 ≤ 2 by omega, show (gW + gD) + 0 ≤ gW + gD by omega⟩) (fun r0 w0 H locs hw hP hD hS => ?_)
  obtain ⟨rfl, rfl⟩ := hw
  have hP : va_P D vwCl [(o, .inr (0, [.ref wn2_3, .ref d2_4, .ref gm_gains, .int k2_2, .int kd2_1, .int gm_isGainKnown])), (d2_4, .inl (cJ, ld2_5, .inr (.inl gd_6))), (wn2_3, .inl (cI, ln2_7, .inl gwn_8)), (k_leaders, .inl (cI, 24, .inl f_leaders)), (k_followers, .inl (cI, 24, .inl f_followers)), (t, .inr (8, [.ref k_name, .ref k_worth, .ref k_times, .ref k_first, .ref k_second, .ref k_beforeLast, .ref k_last, .ref k_errandOf, .ref k_errandAfter, .ref k_sound, .ref k_followers, .ref k_leaders, .int (nI w), .int k_errands, .int k_alikes, .int k_law]))] H := hP
  have hD : va_D A [(o, .inr (0, [.ref wn2_3, .ref d2_4, .ref gm_gains, .int k2_2, .int kd2_1, .int gm_isGainKnown])), (d2_4, .inl (cJ, ld2_5, .inr (.inl gd_6))), (wn2_3, .inl (cI, ln2_7, .inl gwn_8)), (k_leaders, .inl (cI, 24, .inl f_leaders)), (k_followers, .inl (cI, 24, .inl f_followers)), (t, .inr (8, [.ref k_name, .ref k_worth, .ref k_times, .ref k_first, .ref k_second, .ref k_beforeLast, .ref k_last, .ref k_errandOf, .ref k_errandAfter, .ref k_sound, .ref k_followers, .ref k_leaders, .int (nI w), .int k_errands, .int k_alikes, .int k_law]))] := hD
  refine xb_top (y := nI (sN - 1)) (by rw [hs]) ?_
  refine lv_iconst (v := 1) hx hb dX0_lengthBehind_10 (by decide) ?_
  refine lv_iload_n hx hb dX0_lengthBehind_11 rfl (lv_at hl 2 rfl) ?_
  refine lv_ishl hx hb dX0_lengthBehind_12 ?_
  refine xb_top (y := nI (1 * 2 ^ k)) (nb_shl (a := 1) (i := k) (by omega)) ?_
  obtain ⟨q_16, hq_16, eq_16⟩ := set_xor (a := sN - 1) (i := k) hs (by omega) (by omega)
  refine lv_ixor hx hb dX0_lengthBehind_13 ?_
  refine xb_top (y := nI q_16) ((nb_xor (sN - 1) (1 * 2 ^ k)).trans eq_16) ?_
  refine lv_iload_n hx hb dX0_lengthBehind_14 rfl (lv_at hl 2 rfl) ?_
  refine xCi (wr := [(wn2_3, .inl (cI, ln2_7, .inl gwn_8)), (k_leaders, .inl (cI, 24, .inl f_leaders)), (k_followers, .inl (cI, 24, .inl f_followers)), (t, .inr (8, [.ref k_name, .ref k_worth, .ref k_times, .ref k_first, .ref k_second, .ref k_beforeLast, .ref k_last, .ref k_errandOf, .ref k_errandAfter, .ref k_sound, .ref k_followers, .ref k_leaders, .int (nI w), .int k_errands, .int k_alikes, .int k_law]))]) (win := [(o, .inr (0, [.ref wn2_3, .ref d2_4, .ref gm_gains, .int k2_2, .int kd2_1, .int gm_isGainKnown])), (d2_4, .inl (cJ, ld2_5, .inr (.inl gd_6)))]) hP hD hS hA [0, 1] [2, 3, 4, 5] rfl rfl (by decide) (by decide) (va_runV (As := [.int (nI q_16), .int (nI k)]) (rest := []) ⟨hx, hb, hml, hown, hts⟩ (c_X0_depth l D cB cI cJ cS cZ cO H.size o q_16 k wn2_3 d2_4 gm_gains k2_2 kd2_1 gm_isGainKnown ld2_5 gd_6 (by first | assumption | omega | decide) (by first | assumption | omega | decide)) (cwV 2 hts gX0_lengthBehind_X0_depth rfl rfl rfl (by decide +kernel) ⟨Nat.le_of_ble_eq_true rfl, Nat.le_of_ble_eq_true rfl⟩) (xPreV (win := [(o, .inr (0, [.ref wn2_3, .ref d2_4, .ref gm_gains, .int k2_2, .int kd2_1, .int gm_isGainKnown])), (d2_4, .inl (cJ, ld2_5, .inr (.inl gd_6)))]) hN hK hP hD [0, 1] (by decide) rfl 0 0 rfl rfl rfl) rfl rfl hl.1 rfl (lv_room (Nat.le_of_ble_eq_true rfl)) dX0_lengthBehind_15 ⟨show 2 + 0 ≤ 2 by omega, show (gW + gD) + 0 ≤ gW + gD by omega⟩) (fun r_17 w0 H locs hw hP hD hS => ?_)
  subst hw
  have hP : va_P D vwCl [(wn2_3, .inl (cI, ln2_7, .inl gwn_8)), (k_leaders, .inl (cI, 24, .inl f_leaders)), (k_followers, .inl (cI, 24, .inl f_followers)), (t, .inr (8, [.ref k_name, .ref k_worth, .ref k_times, .ref k_first, .ref k_second, .ref k_beforeLast, .ref k_last, .ref k_errandOf, .ref k_errandAfter, .ref k_sound, .ref k_followers, .ref k_leaders, .int (nI w), .int k_errands, .int k_alikes, .int k_law])), (o, .inr (0, [.ref wn2_3, .ref d2_4, .ref gm_gains, .int k2_2, .int kd2_1, .int gm_isGainKnown])), (d2_4, .inl (cJ, ld2_5, .inr (.inl gd_6)))] H := hP
  have hD : va_D A [(wn2_3, .inl (cI, ln2_7, .inl gwn_8)), (k_leaders, .inl (cI, 24, .inl f_leaders)), (k_followers, .inl (cI, 24, .inl f_followers)), (t, .inr (8, [.ref k_name, .ref k_worth, .ref k_times, .ref k_first, .ref k_second, .ref k_beforeLast, .ref k_last, .ref k_errandOf, .ref k_errandAfter, .ref k_sound, .ref k_followers, .ref k_leaders, .int (nI w), .int k_errands, .int k_alikes, .int k_law])), (o, .inr (0, [.ref wn2_3, .ref d2_4, .ref gm_gains, .int k2_2, .int kd2_1, .int gm_isGainKnown])), (d2_4, .inl (cJ, ld2_5, .inr (.inl gd_6)))] := hD
  have hP9 := hP.sub (ws' := [(o, .inr (0, [.ref wn2_3, .ref d2_4, .ref gm_gains, .int k2_2, .int kd2_1, .int gm_isGainKnown])), (d2_4, .inl (cJ, ld2_5, .inr (.inl gd_6))), (wn2_3, .inl (cI, ln2_7, .inl gwn_8)), (t, .inr (8, [.ref k_name, .ref k_worth, .ref k_times, .ref k_first, .ref k_second, .ref k_beforeLast, .ref k_last, .ref k_errandOf, .ref k_errandAfter, .ref k_sound, .ref k_followers, .ref k_leaders, .int (nI w), .int k_errands, .int k_alikes, .int k_law])), (k_leaders, .inl (cI, 24, .inl f_leaders)), (k_followers, .inl (cI, 24, .inl f_followers))]) [4, 5, 0, 3, 1, 2] rfl
  have hD9 := hD.sub (ws' := [(o, .inr (0, [.ref wn2_3, .ref d2_4, .ref gm_gains, .int k2_2, .int kd2_1, .int gm_isGainKnown])), (d2_4, .inl (cJ, ld2_5, .inr (.inl gd_6))), (wn2_3, .inl (cI, ln2_7, .inl gwn_8)), (t, .inr (8, [.ref k_name, .ref k_worth, .ref k_times, .ref k_first, .ref k_second, .ref k_beforeLast, .ref k_last, .ref k_errandOf, .ref k_errandAfter, .ref k_sound, .ref k_followers, .ref k_leaders, .int (nI w), .int k_errands, .int k_alikes, .int k_law])), (k_leaders, .inl (cI, 24, .inl f_leaders)), (k_followers, .inl (cI, 24, .inl f_followers))]) [4, 5, 0, 3, 1, 2] (by decide) rfl
  refine W.widen (k := 2) (n := gW + gD) (show 2 ≤ 2 by omega) (show (gW + gD) ≤ gW + gD by omega) ?_
  exact W.iret (v := r_17) hx hb hr (fun tz htz hWz => ⟨⟨r_17, [(o, .inr (0, [.ref wn2_3, .ref d2_4, .ref gm_gains, .int k2_2, .int kd2_1, .int gm_isGainKnown])), (d2_4, .inl (cJ, ld2_5, .inr (.inl gd_6))), (wn2_3, .inl (cI, ln2_7, .inl gwn_8)), (t, .inr (8, [.ref k_name, .ref k_worth, .ref k_times, .ref k_first, .ref k_second, .ref k_beforeLast, .ref k_last, .ref k_errandOf, .ref k_errandAfter, .ref k_sound, .ref k_followers, .ref k_leaders, .int (nI w), .int k_errands, .int k_alikes, .int k_law])), (k_leaders, .inl (cI, 24, .inl f_leaders)), (k_followers, .inl (cI, 24, .inl f_followers))], rfl, ⟨kd2_1, k2_2, wn2_3, d2_4, ld2_5, gd_6, ln2_7, gwn_8, rfl, hf_9, hf_10, hf_11, hf_12, hf_13, hf_14, hf_15⟩, by rw [htz]; exact hP9, va_K.moved hWz.alike hK, hD9⟩, hS.F htz⟩) hS.2.2 dX0_lengthBehind_18

set_option maxHeartbeats 4000000 in
set_option maxRecDepth 100000 in
theorem c_X0_bestGain (l : Launch) (D : va_G) (cB cI cJ cS cZ cO : ClassId) (sz : Nat) (o : Nat) (t : Nat) (st : Nat) (mv : Nat) (gm_won : Nat) (gm_depths : Nat) (gm_gains : Nat) (gm_isWonKnown : Int32) (gm_isDepthKnown : Int32) (gm_isGainKnown : Int32) (lg : Nat) (fg : Nat → Int32) (k_name : Nat) (k_worth : Nat) (k_times : Nat) (k_first : Nat) (k_second : Nat) (k_beforeLast : Nat) (k_last : Nat) (k_errandOf : Nat) (k_errandAfter : Nat) (k_sound : Nat) (k_followers : Nat) (k_leaders : Nat) (w : Nat) (k_errands : Int32) (k_alikes : Int32) (k_law : Int32) (f_worth : Nat → Int32) (sN : Nat) (mN : Nat) (hs : sN = 2 ^ w) (hw4 : w ≤ 14) (hs1 : 1 ≤ sN) (hs2 : sN ≤ 16384) (hm9 : mN = sN * w) (hmN : mN ≤ 229376) (hlg : lg ≤ 229376) (hsl : mN ≤ lg) (hst : st < sN) (hmv : mv ≤ st) : Met l yX0_bestGain wsX0_bestGain ({ frames := 1, cells := 0, slots := 0, locals := 21 }) (xPre D (tyL cB cI cJ cS cZ cO) [(o, .inr (0, [.ref gm_won, .ref gm_depths, .ref gm_gains, .int gm_isWonKnown, .int gm_isDepthKnown, .int gm_isGainKnown])), (gm_gains, .inl (cS, lg, .inl fg)), (t, .inr (8, [.ref k_name, .ref k_worth, .ref k_times, .ref k_first, .ref k_second, .ref k_beforeLast, .ref k_last, .ref k_errandOf, .ref k_errandAfter, .ref k_sound, .ref k_followers, .ref k_leaders, .int (nI w), .int k_errands, .int k_alikes, .int k_law])), (k_worth, .inl (cI, 24, .inl f_worth))] sz [.ref o, .ref t, .int (nI st), .int (nI mv)]) (xQi D (tyL cB cI cJ cS cZ cO) (va_A [(o, .inr (0, [.ref gm_won, .ref gm_depths, .ref gm_gains, .int gm_isWonKnown, .int gm_isDepthKnown, .int gm_isGainKnown])), (gm_gains, .inl (cS, lg, .inl fg)), (t, .inr (8, [.ref k_name, .ref k_worth, .ref k_times, .ref k_first, .ref k_second, .ref k_beforeLast, .ref k_last, .ref k_errandOf, .ref k_errandAfter, .ref k_sound, .ref k_followers, .ref k_leaders, .int (nI w), .int k_errands, .int k_alikes, .int k_law])), (k_worth, .inl (cI, 24, .inl f_worth))] sz) (fun (r : Int32) (u : va_W) => u = [(o, .inr (0, [.ref gm_won, .ref gm_depths, .ref gm_gains, .int gm_isWonKnown, .int gm_isDepthKnown, .int gm_isGainKnown])), (gm_gains, .inl (cS, lg, .inl fg)), (t, .inr (8, [.ref k_name, .ref k_worth, .ref k_times, .ref k_first, .ref k_second, .ref k_beforeLast, .ref k_last, .ref k_errandOf, .ref k_errandAfter, .ref k_sound, .ref k_followers, .ref k_leaders, .int (nI w), .int k_errands, .int k_alikes, .int k_law])), (k_worth, .inl (cI, 24, .inl f_worth))])) 0 0 (va_A [(o, .inr (0, [.ref gm_won, .ref gm_depths, .ref gm_gains, .int gm_isWonKnown, .int gm_isDepthKnown, .int gm_isGainKnown])), (gm_gains, .inl (cS, lg, .inl fg)), (t, .inr (8, [.ref k_name, .ref k_worth, .ref k_times, .ref k_first, .ref k_second, .ref k_beforeLast, .ref k_last, .ref k_errandOf, .ref k_errandAfter, .ref k_sound, .ref k_followers, .ref k_leaders, .int (nI w), .int k_errands, .int k_alikes, .int k_law])), (k_worth, .inl (cI, 24, .inl f_worth))] sz) := by
  refine Met.ofW (cc := cX0_bestGain) (maxL := 8) (ret := (some .int)) (by decide) rfl ?_
  intro p e s m args below meth c s₁ B hml hv
  obtain ⟨rfl, hsz, hP, hK, hD0, hN⟩ := hv
  have hx := B.exec
  have hb := B.bytes
  have hr := B.returns
  have hts := atoms_spec (ws := wsX0_bestGain) B.pre
  have hown : s.vm.findClass RX0 = some m.cls := findClass_of_methodNamed B.named
  have hlocks := B.notSynchronized
  subst hsz
  have hD := hD0.self (sz := s.heap.size)
  generalize hAe : va_A [(o, .inr (0, [.ref gm_won, .ref gm_depths, .ref gm_gains, .int gm_isWonKnown, .int gm_isDepthKnown, .int gm_isGainKnown])), (gm_gains, .inl (cS, lg, .inl fg)), (t, .inr (8, [.ref k_name, .ref k_worth, .ref k_times, .ref k_first, .ref k_second, .ref k_beforeLast, .ref k_last, .ref k_errandOf, .ref k_errandAfter, .ref k_sound, .ref k_followers, .ref k_leaders, .int (nI w), .int k_errands, .int k_alikes, .int k_law])), (k_worth, .inl (cI, 24, .inl f_worth))] s.heap.size = A at hD ⊢
  have hA : ∀ q : Nat, s.heap.size ≤ q → A q := fun q h => by rw [← hAe]; exact Or.inr h
  have hS : va_S A s.heap s.heap [] := va_S.rf
  have hP : va_P D vwCl [(o, .inr (0, [.ref gm_won, .ref gm_depths, .ref gm_gains, .int gm_isWonKnown, .int gm_isDepthKnown, .int gm_isGainKnown])), (gm_gains, .inl (cS, lg, .inl fg)), (t, .inr (8, [.ref k_name, .ref k_worth, .ref k_times, .ref k_first, .ref k_second, .ref k_beforeLast, .ref k_last, .ref k_errandOf, .ref k_errandAfter, .ref k_sound, .ref k_followers, .ref k_leaders, .int (nI w), .int k_errands, .int k_alikes, .int k_law])), (k_worth, .inl (cI, 24, .inl f_worth))] s.heap := hP
  have hl := lv_entry ([.ref o, .ref t, .int (nI st), .int (nI mv)]) (n := 8) (Nat.le_of_ble_eq_true rfl)
  rw [lg_entry_eq]
  generalize (lg_sl ([.ref o, .ref t, .int (nI st), .int (nI mv)]) ++ List.replicate (8 - (lg_sl ([.ref o, .ref t, .int (nI st), .int (nI mv)])).length) Slot.unset).toArray = ls at hl ⊢
  have hl : lv_has ls 8 [(0, .ref o), (1, .ref t), (2, .int (nI st)), (3, .int (nI mv))] := hl
  refine lv_iconst (v := 0) hx hb dX0_bestGain_0 (by decide) ?_
  refine lv_istore (lv' := [(4, .int 0), (0, .ref o), (1, .ref t), (2, .int (nI st)), (3, .int (nI mv))]) hx hb dX0_bestGain_1 hl (by decide) rfl (fun ls hl => ?_)
  refine lv_iconst (v := 1) hx hb dX0_bestGain_3 (by decide) ?_
  refine lv_istore (lv' := [(5, .int 1), (4, .int 0), (0, .ref o), (1, .ref t), (2, .int (nI st)), (3, .int (nI mv))]) hx hb dX0_bestGain_4 hl (by decide) rfl (fun ls hl => ?_)
  refine lv_iconst (v := 0) hx hb dX0_bestGain_6 (by decide) ?_
  refine lv_istore (lv' := [(6, .int 0), (5, .int 1), (4, .int 0), (0, .ref o), (1, .ref t), (2, .int (nI st)), (3, .int (nI mv))]) hx hb dX0_bestGain_7 hl (by decide) rfl (fun ls hl => ?_)
  refine xb_wh (fun (n9 : Nat) H locs ls => ∃ i : Nat, ∃ be : Int32, ∃ isf : Int32, (w - i) = n9 ∧ va_P D vwCl [(o, .inr (0, [.ref gm_won, .ref gm_depths, .ref gm_gains, .int gm_isWonKnown, .int gm_isDepthKnown, .int gm_isGainKnown])), (gm_gains, .inl (cS, lg, .inl fg)), (t, .inr (8, [.ref k_name, .ref k_worth, .ref k_times, .ref k_first, .ref k_second, .ref k_beforeLast, .ref k_last, .ref k_errandOf, .ref k_errandAfter, .ref k_sound, .ref k_followers, .ref k_leaders, .int (nI w), .int k_errands, .int k_alikes, .int k_law])), (k_worth, .inl (cI, 24, .inl f_worth))] H ∧ va_D A [(o, .inr (0, [.ref gm_won, .ref gm_depths, .ref gm_gains, .int gm_isWonKnown, .int gm_isDepthKnown, .int gm_isGainKnown])), (gm_gains, .inl (cS, lg, .inl fg)), (t, .inr (8, [.ref k_name, .ref k_worth, .ref k_times, .ref k_first, .ref k_second, .ref k_beforeLast, .ref k_last, .ref k_errandOf, .ref k_errandAfter, .ref k_sound, .ref k_followers, .ref k_leaders, .int (nI w), .int k_errands, .int k_alikes, .int k_law])), (k_worth, .inl (cI, 24, .inl f_worth))] ∧ va_S A s.heap H locs ∧ lv_has ls 8 [(6, .int (nI i)), (5, .int isf), (4, .int be), (0, .ref o), (1, .ref t), (2, .int (nI st)), (3, .int (nI mv))] ∧ (i ≤ w)) ⟨0, 0, 1, rfl, hP, hD, hS, lv_sub hl [0, 1, 2, 3, 4, 5, 6] rfl, (by first | assumption | omega)⟩ (fun n9 H locs ls hI kk_9 => ?_)
  obtain ⟨i, be, isf, hn_9, hP, hD, hS, hl, hF_h_1⟩ := hI
  refine lv_iload hx hb dX0_bestGain_9 (lv_at hl 0 rfl) ?_
  refine lv_aload_n hx hb dX0_bestGain_11 rfl (lv_at hl 4 rfl) ?_
  refine va_getN (D := D) (ci := 8) (v := .int (nI w)) (C := RX8) (T := TX8) (N := 16) hx hb hts (by decide +kernel) hown hK hP 2 rfl rfl 12 (by decide) (va_Nw.use rfl (hN.1 (RX0, 50, RX8, "words", "I", RX10) (by decide +kernel))) (fun _ h9 => h9) rfl dX0_bestGain_12 ?_
  refine lv_icmp_ge (tgt := 88) hx hb dX0_bestGain_15 (by decide) (fun c_2 => ?_) (fun c_2 => ?_)
  · have dc_2 : w ≤ i := (nI_leI (a := w) (b := i) (by omega) (by omega)).mp c_2
    refine lv_iload hx hb dX0_bestGain_88 (lv_at hl 2 rfl) ?_
    have hP9 := hP.sub (ws' := [(o, .inr (0, [.ref gm_won, .ref gm_depths, .ref gm_gains, .int gm_isWonKnown, .int gm_isDepthKnown, .int gm_isGainKnown])), (gm_gains, .inl (cS, lg, .inl fg)), (t, .inr (8, [.ref k_name, .ref k_worth, .ref k_times, .ref k_first, .ref k_second, .ref k_beforeLast, .ref k_last, .ref k_errandOf, .ref k_errandAfter, .ref k_sound, .ref k_followers, .ref k_leaders, .int (nI w), .int k_errands, .int k_alikes, .int k_law])), (k_worth, .inl (cI, 24, .inl f_worth))]) [0, 1, 2, 3] rfl
    have hD9 := hD.sub (ws' := [(o, .inr (0, [.ref gm_won, .ref gm_depths, .ref gm_gains, .int gm_isWonKnown, .int gm_isDepthKnown, .int gm_isGainKnown])), (gm_gains, .inl (cS, lg, .inl fg)), (t, .inr (8, [.ref k_name, .ref k_worth, .ref k_times, .ref k_first, .ref k_second, .ref k_beforeLast, .ref k_last, .ref k_errandOf, .ref k_errandAfter, .ref k_sound, .ref k_followers, .ref k_leaders, .int (nI w), .int k_errands, .int k_alikes, .int k_law])), (k_worth, .inl (cI, 24, .inl f_worth))]) [0, 1, 2, 3] (by decide) rfl
    refine W.widen (k := 0) (n := 0) (Nat.le_of_ble_eq_true rfl) (Nat.le_of_ble_eq_true rfl) ?_
    exact W.iret (v := be) hx hb hr (fun tz htz hWz => ⟨⟨be, [(o, .inr (0, [.ref gm_won, .ref gm_depths, .ref gm_gains, .int gm_isWonKnown, .int gm_isDepthKnown, .int gm_isGainKnown])), (gm_gains, .inl (cS, lg, .inl fg)), (t, .inr (8, [.ref k_name, .ref k_worth, .ref k_times, .ref k_first, .ref k_second, .ref k_beforeLast, .ref k_last, .ref k_errandOf, .ref k_errandAfter, .ref k_sound, .ref k_followers, .ref k_leaders, .int (nI w), .int k_errands, .int k_alikes, .int k_law])), (k_worth, .inl (cI, 24, .inl f_worth))], rfl, rfl, by rw [htz]; exact hP9, va_K.moved hWz.alike hK, hD9⟩, hS.F htz⟩) hS.2.2 dX0_bestGain_90
  · have dc_2 : ¬ w ≤ i := fun h => c_2 ((nI_leI (a := w) (b := i) (by omega) (by omega)).mpr h)
    refine lv_iload_n hx hb dX0_bestGain_18 rfl (lv_at hl 6 rfl) ?_
    refine lv_iload hx hb dX0_bestGain_19 (lv_at hl 0 rfl) ?_
    refine lv_iushr (v := nI (mv / 2 ^ i)) hx hb dX0_bestGain_21 (nb_ushr (a := mv) (i := i) (by omega) (by omega)) ?_
    refine lv_if_eq (tgt := 88) hx hb dX0_bestGain_22 (by decide) (fun c_3 => ?_) (fun c_3 => ?_)
    · refine lv_iload hx hb dX0_bestGain_88 (lv_at hl 2 rfl) ?_
      have hP9 := hP.sub (ws' := [(o, .inr (0, [.ref gm_won, .ref gm_depths, .ref gm_gains, .int gm_isWonKnown, .int gm_isDepthKnown, .int gm_isGainKnown])), (gm_gains, .inl (cS, lg, .inl fg)), (t, .inr (8, [.ref k_name, .ref k_worth, .ref k_times, .ref k_first, .ref k_second, .ref k_beforeLast, .ref k_last, .ref k_errandOf, .ref k_errandAfter, .ref k_sound, .ref k_followers, .ref k_leaders, .int (nI w), .int k_errands, .int k_alikes, .int k_law])), (k_worth, .inl (cI, 24, .inl f_worth))]) [0, 1, 2, 3] rfl
      have hD9 := hD.sub (ws' := [(o, .inr (0, [.ref gm_won, .ref gm_depths, .ref gm_gains, .int gm_isWonKnown, .int gm_isDepthKnown, .int gm_isGainKnown])), (gm_gains, .inl (cS, lg, .inl fg)), (t, .inr (8, [.ref k_name, .ref k_worth, .ref k_times, .ref k_first, .ref k_second, .ref k_beforeLast, .ref k_last, .ref k_errandOf, .ref k_errandAfter, .ref k_sound, .ref k_followers, .ref k_leaders, .int (nI w), .int k_errands, .int k_alikes, .int k_law])), (k_worth, .inl (cI, 24, .inl f_worth))]) [0, 1, 2, 3] (by decide) rfl
      refine W.widen (k := 0) (n := 0) (Nat.le_of_ble_eq_true rfl) (Nat.le_of_ble_eq_true rfl) ?_
      exact W.iret (v := be) hx hb hr (fun tz htz hWz => ⟨⟨be, [(o, .inr (0, [.ref gm_won, .ref gm_depths, .ref gm_gains, .int gm_isWonKnown, .int gm_isDepthKnown, .int gm_isGainKnown])), (gm_gains, .inl (cS, lg, .inl fg)), (t, .inr (8, [.ref k_name, .ref k_worth, .ref k_times, .ref k_first, .ref k_second, .ref k_beforeLast, .ref k_last, .ref k_errandOf, .ref k_errandAfter, .ref k_sound, .ref k_followers, .ref k_leaders, .int (nI w), .int k_errands, .int k_alikes, .int k_law])), (k_worth, .inl (cI, 24, .inl f_worth))], rfl, rfl, by rw [htz]; exact hP9, va_K.moved hWz.alike hK, hD9⟩, hS.F htz⟩) hS.2.2 dX0_bestGain_90
    · refine lv_iload_n hx hb dX0_bestGain_25 rfl (lv_at hl 6 rfl) ?_
      refine lv_iload hx hb dX0_bestGain_26 (lv_at hl 0 rfl) ?_
      refine xCi (wr := [(o, .inr (0, [.ref gm_won, .ref gm_depths, .ref gm_gains, .int gm_isWonKnown, .int gm_isDepthKnown, .int gm_isGainKnown])), (gm_gains, .inl (cS, lg, .inl fg)), (t, .inr (8, [.ref k_name, .ref k_worth, .ref k_times, .ref k_first, .ref k_second, .ref k_beforeLast, .ref k_last, .ref k_errandOf, .ref k_errandAfter, .ref k_sound, .ref k_followers, .ref k_leaders, .int (nI w), .int k_errands, .int k_alikes, .int k_law])), (k_worth, .inl (cI, 24, .inl f_worth))]) (win := []) hP hD hS hA [] [0, 1, 2, 3] rfl rfl (by decide) (by decide) (va_runSN (As := [.int (nI mv), .int (nI i)]) (rest := []) ⟨hx, hb, hml, hown, hts⟩ (c_X10_isIn_n l D cB cI cJ cS cZ cO H.size mv i (by first | assumption | omega | decide) (by first | assumption | omega | decide)) ⟨va_cnB 2 hts gX0_bestGain_X10_isIn_n43 rfl rfl rfl (hN.2.1 (RX0, 43, yX10_isIn, RX10) (by decide +kernel)) (hts (.initialized RX10) (by decide +kernel)) (by decide +kernel) ⟨Nat.le_of_ble_eq_true rfl, Nat.le_of_ble_eq_true rfl⟩, hts (.static yX10_isIn) (by decide +kernel), trivial⟩ (xPreS (win := []) hN hK hP hD [] (by decide) rfl) rfl rfl hl.1 rfl (lv_room (Nat.le_of_ble_eq_true rfl)) dX0_bestGain_28 ⟨Nat.le_of_ble_eq_true rfl, Nat.le_of_ble_eq_true rfl⟩) (fun r_4 w0 H locs hw hP hD hS => ?_)
      obtain ⟨rfl, hf_5⟩ := hw
      have hP : va_P D vwCl [(o, .inr (0, [.ref gm_won, .ref gm_depths, .ref gm_gains, .int gm_isWonKnown, .int gm_isDepthKnown, .int gm_isGainKnown])), (gm_gains, .inl (cS, lg, .inl fg)), (t, .inr (8, [.ref k_name, .ref k_worth, .ref k_times, .ref k_first, .ref k_second, .ref k_beforeLast, .ref k_last, .ref k_errandOf, .ref k_errandAfter, .ref k_sound, .ref k_followers, .ref k_leaders, .int (nI w), .int k_errands, .int k_alikes, .int k_law])), (k_worth, .inl (cI, 24, .inl f_worth))] H := hP
      have hD : va_D A [(o, .inr (0, [.ref gm_won, .ref gm_depths, .ref gm_gains, .int gm_isWonKnown, .int gm_isDepthKnown, .int gm_isGainKnown])), (gm_gains, .inl (cS, lg, .inl fg)), (t, .inr (8, [.ref k_name, .ref k_worth, .ref k_times, .ref k_first, .ref k_second, .ref k_beforeLast, .ref k_last, .ref k_errandOf, .ref k_errandAfter, .ref k_sound, .ref k_followers, .ref k_leaders, .int (nI w), .int k_errands, .int k_alikes, .int k_law])), (k_worth, .inl (cI, 24, .inl f_worth))] := hD
      refine lv_if_eq (tgt := 82) hx hb dX0_bestGain_31 (by decide) (fun c_6 => ?_) (fun c_6 => ?_)
      · refine lv_iinc (v := nI (i + 1)) (lv' := [(6, .int (nI (i + 1))), (5, .int isf), (4, .int be), (0, .ref o), (1, .ref t), (2, .int (nI st)), (3, .int (nI mv))]) hx hb dX0_bestGain_82 hl (k := 0) rfl (nI_1 i) (by decide) rfl (fun ls hl => ?_)
        refine lv_goto (tgt := 9) hx hb dX0_bestGain_85 (by decide) ?_
        exact kk_9 _ _ _ _ (by rw [← hn_9]; omega) ⟨(i + 1), be, isf, rfl, hP, hD, hS, lv_sub hl [0, 1, 2, 3, 4, 5, 6] rfl, (by first | assumption | omega)⟩
      · refine lv_aload_n hx hb dX0_bestGain_34 rfl (lv_at hl 4 rfl) ?_
        refine va_getN (D := D) (ci := 8) (v := .ref k_worth) (C := RX8) (T := TX8) (N := 16) hx hb hts (by decide +kernel) hown hK hP 2 rfl rfl 1 (by decide) (va_Nw.use rfl (hN.1 (RX0, 78, RX8, "worth", "[I", RX10) (by decide +kernel))) (fun _ h9 => h9) rfl dX0_bestGain_35 ?_
        refine lv_iload hx hb dX0_bestGain_38 (lv_at hl 0 rfl) ?_
        refine va_iald hx hb hK hP 3 1 rfl rfl (vp_in_nI (by omega) (by omega)) dX0_bestGain_40 ?_
        refine xb_top (y := f_worth i) (by rw [nI_clamp (by omega)]) ?_
        refine lv_aload_n hx hb dX0_bestGain_41 rfl (lv_at hl 3 rfl) ?_
        refine va_get (D := D) (ci := 0) (v := .ref gm_gains) (C := RX0) (T := TX0) (N := 6) hx hb hts (by decide +kernel) hown hK hP 0 rfl rfl 2 (by decide) (hts (.fieldLink RX0 19 "LastLetter$Games" "gains" "[S") (by decide +kernel)) (fun _ h9 => h9) rfl dX0_bestGain_42 ?_
        refine lv_iload_n hx hb dX0_bestGain_45 rfl (lv_at hl 5 rfl) ?_
        refine lv_iconst (v := 1) hx hb dX0_bestGain_46 (by decide) ?_
        refine lv_iload hx hb dX0_bestGain_47 (lv_at hl 0 rfl) ?_
        refine lv_ishl hx hb dX0_bestGain_49 ?_
        refine xb_top (y := nI (1 * 2 ^ i)) (nb_shl (a := 1) (i := i) (by omega)) ?_
        obtain ⟨q_7, hq_7, eq_7⟩ := set_xor (a := st) (i := i) hs (by omega) (by omega)
        refine lv_ixor hx hb dX0_bestGain_50 ?_
        refine xb_top (y := nI q_7) ((nb_xor st (1 * 2 ^ i)).trans eq_7) ?_
        refine lv_aload_n hx hb dX0_bestGain_51 rfl (lv_at hl 4 rfl) ?_
        refine va_getN (D := D) (ci := 8) (v := .int (nI w)) (C := RX8) (T := TX8) (N := 16) hx hb hts (by decide +kernel) hown hK hP 2 rfl rfl 12 (by decide) (va_Nw.use rfl (hN.1 (RX0, 50, RX8, "words", "I", RX10) (by decide +kernel))) (fun _ h9 => h9) rfl dX0_bestGain_52 ?_
        refine lv_imul hx hb dX0_bestGain_55 ?_
        refine xb_top (y := nI (q_7 * w)) (pk_mul q_7 w) ?_
        refine lv_iload hx hb dX0_bestGain_56 (lv_at hl 0 rfl) ?_
        refine lv_iadd hx hb dX0_bestGain_58 ?_
        refine xb_top (y := nI ((q_7 * w) + i)) (nI_add (q_7 * w) i) ?_
        have hix : (q_7 * w) + i < mN := by rw [hm9]; exact ix_lt (by omega) (by omega)
        refine va_sald hx hb hK hP 1 3 rfl rfl (vp_in_nI (by omega) (by omega)) dX0_bestGain_59 ?_
        refine xb_top (y := fg ((q_7 * w) + i)) (by rw [nI_clamp (by omega)]) ?_
        refine lv_isub hx hb dX0_bestGain_60 ?_
        refine lv_topi (fun v_8 ev_8 => ?_)
        refine lv_istore (lv' := [(7, .int v_8), (6, .int (nI i)), (5, .int isf), (4, .int be), (0, .ref o), (1, .ref t), (2, .int (nI st)), (3, .int (nI mv))]) hx hb dX0_bestGain_61 hl (by decide) rfl (fun ls hl => ?_)
        refine lv_iload hx hb dX0_bestGain_63 (lv_at hl 2 rfl) ?_
        refine lv_if_ne (tgt := 75) hx hb dX0_bestGain_65 (by decide) (fun c_9 => ?_) (fun c_9 => ?_)
        · refine lv_iload hx hb dX0_bestGain_75 (lv_at hl 0 rfl) ?_
          refine lv_istore (lv' := [(4, .int v_8), (7, .int v_8), (6, .int (nI i)), (5, .int isf), (0, .ref o), (1, .ref t), (2, .int (nI st)), (3, .int (nI mv))]) hx hb dX0_bestGain_77 hl (by decide) rfl (fun ls hl => ?_)
          refine lv_iconst (v := 0) hx hb dX0_bestGain_79 (by decide) ?_
          refine lv_istore (lv' := [(5, .int 0), (4, .int v_8), (7, .int v_8), (6, .int (nI i)), (0, .ref o), (1, .ref t), (2, .int (nI st)), (3, .int (nI mv))]) hx hb dX0_bestGain_80 hl (by decide) rfl (fun ls hl => ?_)
          refine lv_iinc (v := nI (i + 1)) (lv' := [(6, .int (nI (i + 1))), (5, .int 0), (4, .int v_8), (7, .int v_8), (0, .ref o), (1, .ref t), (2, .int (nI st)), (3, .int (nI mv))]) hx hb dX0_bestGain_82 hl (k := 3) rfl (nI_1 i) (by decide) rfl (fun ls hl => ?_)
          refine lv_goto (tgt := 9) hx hb dX0_bestGain_85 (by decide) ?_
          exact kk_9 _ _ _ _ (by rw [← hn_9]; omega) ⟨(i + 1), v_8, 0, rfl, hP, hD, hS, lv_sub hl [0, 1, 2, 4, 5, 6, 7] rfl, (by first | assumption | omega)⟩
        · refine lv_iload hx hb dX0_bestGain_68 (lv_at hl 0 rfl) ?_
          refine lv_iload hx hb dX0_bestGain_70 (lv_at hl 3 rfl) ?_
          refine lv_icmp_le (tgt := 82) hx hb dX0_bestGain_72 (by decide) (fun c_10 => ?_) (fun c_10 => ?_)
          · refine lv_iinc (v := nI (i + 1)) (lv' := [(6, .int (nI (i + 1))), (7, .int v_8), (5, .int isf), (4, .int be), (0, .ref o), (1, .ref t), (2, .int (nI st)), (3, .int (nI mv))]) hx hb dX0_bestGain_82 hl (k := 1) rfl (nI_1 i) (by decide) rfl (fun ls hl => ?_)
            refine lv_goto (tgt := 9) hx hb dX0_bestGain_85 (by decide) ?_
            exact kk_9 _ _ _ _ (by rw [← hn_9]; omega) ⟨(i + 1), be, isf, rfl, hP, hD, hS, lv_sub hl [0, 2, 3, 4, 5, 6, 7] rfl, (by first | assumption | omega)⟩
          · refine lv_iload hx hb dX0_bestGain_75 (lv_at hl 0 rfl) ?_
            refine lv_istore (lv' := [(4, .int v_8), (7, .int v_8), (6, .int (nI i)), (5, .int isf), (0, .ref o), (1, .ref t), (2, .int (nI st)), (3, .int (nI mv))]) hx hb dX0_bestGain_77 hl (by decide) rfl (fun ls hl => ?_)
            refine lv_iconst (v := 0) hx hb dX0_bestGain_79 (by decide) ?_
            refine lv_istore (lv' := [(5, .int 0), (4, .int v_8), (7, .int v_8), (6, .int (nI i)), (0, .ref o), (1, .ref t), (2, .int (nI st)), (3, .int (nI mv))]) hx hb dX0_bestGain_80 hl (by decide) rfl (fun ls hl => ?_)
            refine lv_iinc (v := nI (i + 1)) (lv' := [(6, .int (nI (i + 1))), (5, .int 0), (4, .int v_8), (7, .int v_8), (0, .ref o), (1, .ref t), (2, .int (nI st)), (3, .int (nI mv))]) hx hb dX0_bestGain_82 hl (k := 3) rfl (nI_1 i) (by decide) rfl (fun ls hl => ?_)
            refine lv_goto (tgt := 9) hx hb dX0_bestGain_85 (by decide) ?_
            exact kk_9 _ _ _ _ (by rw [← hn_9]; omega) ⟨(i + 1), v_8, 0, rfl, hP, hD, hS, lv_sub hl [0, 1, 2, 4, 5, 6, 7] rfl, (by first | assumption | omega)⟩

set_option maxHeartbeats 4000000 in
set_option maxRecDepth 100000 in
theorem c_X0_learnGains (l : Launch) (D : va_G) (cB cI cJ cS cZ cO : ClassId) (sz : Nat) (o : Nat) (t : Nat) (gm_won : Nat) (gm_depths : Nat) (gm_gains : Nat) (gm_isWonKnown : Int32) (gm_isDepthKnown : Int32) (kg : Int32) (lg : Nat) (fg : Nat → Int32) (k_name : Nat) (k_worth : Nat) (k_times : Nat) (k_first : Nat) (k_second : Nat) (k_beforeLast : Nat) (k_last : Nat) (k_errandOf : Nat) (k_errandAfter : Nat) (k_sound : Nat) (k_followers : Nat) (k_leaders : Nat) (w : Nat) (k_errands : Int32) (k_alikes : Int32) (k_law : Int32) (f_followers : Nat → Int32) (f_worth : Nat → Int32) (sN : Nat) (mN : Nat) (gG : Nat) (hs : sN = 2 ^ w) (hw4 : w ≤ 14) (hs1 : 1 ≤ sN) (hs2 : sN ≤ 16384) (hm9 : mN = sN * w) (hmN : mN ≤ 229376) (hlg : lg ≤ 229376) (hgG : lg < mN → mN ≤ gG) (hkg : (kg = 0 ∨ mN ≤ lg)) : Met l yX0_learnGains wsX0_learnGains ({ frames := 2, cells := 1, slots := gG, locals := 48 }) (xPre D (tyL cB cI cJ cS cZ cO) [(o, .inr (0, [.ref gm_won, .ref gm_depths, .ref gm_gains, .int gm_isWonKnown, .int gm_isDepthKnown, .int kg])), (gm_gains, .inl (cS, lg, .inl fg)), (t, .inr (8, [.ref k_name, .ref k_worth, .ref k_times, .ref k_first, .ref k_second, .ref k_beforeLast, .ref k_last, .ref k_errandOf, .ref k_errandAfter, .ref k_sound, .ref k_followers, .ref k_leaders, .int (nI w), .int k_errands, .int k_alikes, .int k_law])), (k_followers, .inl (cI, 24, .inl f_followers)), (k_worth, .inl (cI, 24, .inl f_worth))] sz [.ref o, .ref t]) (xQv D (tyL cB cI cJ cS cZ cO) (va_A [(o, .inr (0, [.ref gm_won, .ref gm_depths, .ref gm_gains, .int gm_isWonKnown, .int gm_isDepthKnown, .int kg])), (gm_gains, .inl (cS, lg, .inl fg)), (t, .inr (8, [.ref k_name, .ref k_worth, .ref k_times, .ref k_first, .ref k_second, .ref k_beforeLast, .ref k_last, .ref k_errandOf, .ref k_errandAfter, .ref k_sound, .ref k_followers, .ref k_leaders, .int (nI w), .int k_errands, .int k_alikes, .int k_law])), (k_followers, .inl (cI, 24, .inl f_followers)), (k_worth, .inl (cI, 24, .inl f_worth))] sz) (fun u : va_W => ∃ kg2 : Int32, ∃ ga2 : Nat, ∃ lg2 : Nat, ∃ gg : Nat → Int32, u = [(o, .inr (0, [.ref gm_won, .ref gm_depths, .ref ga2, .int gm_isWonKnown, .int gm_isDepthKnown, .int kg2])), (ga2, .inl (cS, lg2, .inl gg)), (t, .inr (8, [.ref k_name, .ref k_worth, .ref k_times, .ref k_first, .ref k_second, .ref k_beforeLast, .ref k_last, .ref k_errandOf, .ref k_errandAfter, .ref k_sound, .ref k_followers, .ref k_leaders, .int (nI w), .int k_errands, .int k_alikes, .int k_law])), (k_followers, .inl (cI, 24, .inl f_followers)), (k_worth, .inl (cI, 24, .inl f_worth))] ∧ mN ≤ lg2 ∧ lg2 ≤ 229376 ∧ (lg2 = lg ∨ (lg < mN ∧ lg2 = mN)) ∧ kg2 ≠ 0)) 1 gG (va_A [(o, .inr (0, [.ref gm_won, .ref gm_depths, .ref gm_gains, .int gm_isWonKnown, .int gm_isDepthKnown, .int kg])), (gm_gains, .inl (cS, lg, .inl fg)), (t, .inr (8, [.ref k_name, .ref k_worth, .ref k_times, .ref k_first, .ref k_second, .ref k_beforeLast, .ref k_last, .ref k_errandOf, .ref k_errandAfter, .ref k_sound, .ref k_followers, .ref k_leaders, .int (nI w), .int k_errands, .int k_alikes, .int k_law])), (k_followers, .inl (cI, 24, .inl f_followers)), (k_worth, .inl (cI, 24, .inl f_worth))] sz) := by
  refine Met.ofW (cc := cX0_learnGains) (maxL := 5) (ret := none) (by decide) rfl ?_
  intro p e s m args below meth c s₁ B hml hv
  obtain ⟨rfl, hsz, hP, hK, hD0, hN⟩ := hv
  have hx := B.exec
  have hb := B.bytes
  have hr := B.returns
  have hts := atoms_spec (ws := wsX0_learnGains) B.pre
  have hown : s.vm.findClass RX0 = some m.cls := findClass_of_methodNamed B.named
  have hlocks := B.notSynchronized
  subst hsz
  have hD := hD0.self (sz := s.heap.size)
  generalize hAe : va_A [(o, .inr (0, [.ref gm_won, .ref gm_depths, .ref gm_gains, .int gm_isWonKnown, .int gm_isDepthKnown, .int kg])), (gm_gains, .inl (cS, lg, .inl fg)), (t, .inr (8, [.ref k_name, .ref k_worth, .ref k_times, .ref k_first, .ref k_second, .ref k_beforeLast, .ref k_last, .ref k_errandOf, .ref k_errandAfter, .ref k_sound, .ref k_followers, .ref k_leaders, .int (nI w), .int k_errands, .int k_alikes, .int k_law])), (k_followers, .inl (cI, 24, .inl f_followers)), (k_worth, .inl (cI, 24, .inl f_worth))] s.heap.size = A at hD ⊢
  have hA : ∀ q : Nat, s.heap.size ≤ q → A q := fun q h => by rw [← hAe]; exact Or.inr h
  have hS : va_S A s.heap s.heap [] := va_S.rf
  have hP : va_P D vwCl [(o, .inr (0, [.ref gm_won, .ref gm_depths, .ref gm_gains, .int gm_isWonKnown, .int gm_isDepthKnown, .int kg])), (gm_gains, .inl (cS, lg, .inl fg)), (t, .inr (8, [.ref k_name, .ref k_worth, .ref k_times, .ref k_first, .ref k_second, .ref k_beforeLast, .ref k_last, .ref k_errandOf, .ref k_errandAfter, .ref k_sound, .ref k_followers, .ref k_leaders, .int (nI w), .int k_errands, .int k_alikes, .int k_law])), (k_followers, .inl (cI, 24, .inl f_followers)), (k_worth, .inl (cI, 24, .inl f_worth))] s.heap := hP
  have hl := lv_entry ([.ref o, .ref t]) (n := 5) (Nat.le_of_ble_eq_true rfl)
  rw [lg_entry_eq]
  generalize (lg_sl ([.ref o, .ref t]) ++ List.replicate (5 - (lg_sl ([.ref o, .ref t])).length) Slot.unset).toArray = ls at hl ⊢
  have hl : lv_has ls 5 [(0, .ref o), (1, .ref t)] := hl
  refine lv_iconst (v := 1) hx hb dX0_learnGains_0 (by decide) ?_
  refine lv_aload_n hx hb dX0_learnGains_1 rfl (lv_at hl 1 rfl) ?_
  refine va_getN (D := D) (ci := 8) (v := .int (nI w)) (C := RX8) (T := TX8) (N := 16) hx hb hts (by decide +kernel) hown hK hP 2 rfl rfl 12 (by decide) (va_Nw.use rfl (hN.1 (RX0, 50, RX8, "words", "I", RX10) (by decide +kernel))) (fun _ h9 => h9) rfl dX0_learnGains_2 ?_
  refine lv_ishl hx hb dX0_learnGains_5 ?_
  refine xb_top (y := nI sN) (by rw [hs]; exact (nb_shl (a := 1) (i := w) (by omega)).trans (by rw [Nat.one_mul])) ?_
  refine lv_istore_n (lv' := [(2, .int (nI sN)), (0, .ref o), (1, .ref t)]) hx hb dX0_learnGains_6 rfl hl (by decide) rfl (fun ls hl => ?_)
  refine lv_aload_n hx hb dX0_learnGains_7 rfl (lv_at hl 1 rfl) ?_
  refine va_get (D := D) (ci := 0) (v := .int kg) (C := RX0) (T := TX0) (N := 6) hx hb hts (by decide +kernel) hown hK hP 0 rfl rfl 5 (by decide) (hts (.fieldLink RX0 30 "LastLetter$Games" "isGainKnown" "Z") (by decide +kernel)) (fun _ h9 => h9) rfl dX0_learnGains_8 ?_
  refine lv_if_eq (tgt := 15) hx hb dX0_learnGains_11 (by decide) (fun c_1 => ?_) (fun c_1 => ?_)
  · refine lv_aload_n hx hb dX0_learnGains_15 rfl (lv_at hl 1 rfl) ?_
    refine va_get (D := D) (ci := 0) (v := .ref gm_gains) (C := RX0) (T := TX0) (N := 6) hx hb hts (by decide +kernel) hown hK hP 0 rfl rfl 2 (by decide) (hts (.fieldLink RX0 19 "LastLetter$Games" "gains" "[S") (by decide +kernel)) (fun _ h9 => h9) rfl dX0_learnGains_16 ?_
    refine va_alen (v := nI lg) hx hb hK hP 1 3 rfl rfl rfl dX0_learnGains_19 ?_
    refine lv_iload_n hx hb dX0_learnGains_20 rfl (lv_at hl 0 rfl) ?_
    refine lv_aload_n hx hb dX0_learnGains_21 rfl (lv_at hl 2 rfl) ?_
    refine va_getN (D := D) (ci := 8) (v := .int (nI w)) (C := RX8) (T := TX8) (N := 16) hx hb hts (by decide +kernel) hown hK hP 2 rfl rfl 12 (by decide) (va_Nw.use rfl (hN.1 (RX0, 50, RX8, "words", "I", RX10) (by decide +kernel))) (fun _ h9 => h9) rfl dX0_learnGains_22 ?_
    refine lv_imul hx hb dX0_learnGains_25 ?_
    refine xb_top (y := nI mN) ((pk_mul sN w).trans (by rw [hm9])) ?_
    refine lv_icmp_ge (tgt := 41) hx hb dX0_learnGains_26 (by decide) (fun c_2 => ?_) (fun c_2 => ?_)
    · have dc_2 : mN ≤ lg := (nI_leI (a := mN) (b := lg) (by omega) (by omega)).mp c_2
      refine lv_iconst (v := 0) hx hb dX0_learnGains_41 (by decide) ?_
      refine lv_istore_n (lv' := [(3, .int 0), (2, .int (nI sN)), (0, .ref o), (1, .ref t)]) hx hb dX0_learnGains_42 rfl hl (by decide) rfl (fun ls hl => ?_)
      refine xb_wh (fun (n9 : Nat) H locs ls => ∃ st : Nat, ∃ gg : Nat → Int32, (sN - st) = n9 ∧ va_P D vwCl [(o, .inr (0, [.ref gm_won, .ref gm_depths, .ref gm_gains, .int gm_isWonKnown, .int gm_isDepthKnown, .int kg])), (gm_gains, .inl (cS, lg, .inl gg)), (t, .inr (8, [.ref k_name, .ref k_worth, .ref k_times, .ref k_first, .ref k_second, .ref k_beforeLast, .ref k_last, .ref k_errandOf, .ref k_errandAfter, .ref k_sound, .ref k_followers, .ref k_leaders, .int (nI w), .int k_errands, .int k_alikes, .int k_law])), (k_followers, .inl (cI, 24, .inl f_followers)), (k_worth, .inl (cI, 24, .inl f_worth))] H ∧ va_D A [(o, .inr (0, [.ref gm_won, .ref gm_depths, .ref gm_gains, .int gm_isWonKnown, .int gm_isDepthKnown, .int kg])), (gm_gains, .inl (cS, lg, .inl gg)), (t, .inr (8, [.ref k_name, .ref k_worth, .ref k_times, .ref k_first, .ref k_second, .ref k_beforeLast, .ref k_last, .ref k_errandOf, .ref k_errandAfter, .ref k_sound, .ref k_followers, .ref k_leaders, .int (nI w), .int k_errands, .int k_alikes, .int k_law])), (k_followers, .inl (cI, 24, .inl f_followers)), (k_worth, .inl (cI, 24, .inl f_worth))] ∧ va_S A s.heap H locs ∧ lv_has ls 5 [(3, .int (nI st)), (2, .int (nI sN)), (0, .ref o), (1, .ref t)] ∧ (st ≤ sN)) ⟨0, fg, rfl, hP, hD, hS, lv_sub hl [0, 1, 2, 3] rfl, (Nat.zero_le _)⟩ (fun n9 H locs ls hI kk_43 => ?_)
      obtain ⟨st, gg, hn_43, hP, hD, hS, hl, hF_h_3⟩ := hI
      refine lv_iload_n hx hb dX0_learnGains_43 rfl (lv_at hl 0 rfl) ?_
      refine lv_iload_n hx hb dX0_learnGains_44 rfl (lv_at hl 1 rfl) ?_
      refine lv_icmp_ge (tgt := 111) hx hb dX0_learnGains_45 (by decide) (fun c_4 => ?_) (fun c_4 => ?_)
      · have dc_4 : sN ≤ st := (nI_leI (a := sN) (b := st) (by omega) (by omega)).mp c_4
        refine lv_aload_n hx hb dX0_learnGains_111 rfl (lv_at hl 2 rfl) ?_
        refine lv_iconst (v := 1) hx hb dX0_learnGains_112 (by decide) ?_
        refine va_put (D := D) (ci := 0) (v := .int 1) (ty := .boolean) (C := RX0) (T := TX0) (N := 6) hx hb hts (by decide +kernel) tyX0 tyX0_ok nmX0 hown hK hP hD hS 0 rfl rfl 5 (by decide) (hts (.fieldLink RX0 30 "LastLetter$Games" "isGainKnown" "Z") (by decide +kernel)) (fun _ h9 => h9) rfl (by decide +kernel) rfl rfl (Nat.le_of_ble_eq_true rfl) dX0_learnGains_113 (fun H locs hP hD hS => ?_)
        have hP : va_P D vwCl [(o, .inr (0, [.ref gm_won, .ref gm_depths, .ref gm_gains, .int gm_isWonKnown, .int gm_isDepthKnown, .int 1])), (gm_gains, .inl (cS, lg, .inl gg)), (t, .inr (8, [.ref k_name, .ref k_worth, .ref k_times, .ref k_first, .ref k_second, .ref k_beforeLast, .ref k_last, .ref k_errandOf, .ref k_errandAfter, .ref k_sound, .ref k_followers, .ref k_leaders, .int (nI w), .int k_errands, .int k_alikes, .int k_law])), (k_followers, .inl (cI, 24, .inl f_followers)), (k_worth, .inl (cI, 24, .inl f_worth))] H := hP
        have hD : va_D A [(o, .inr (0, [.ref gm_won, .ref gm_depths, .ref gm_gains, .int gm_isWonKnown, .int gm_isDepthKnown, .int 1])), (gm_gains, .inl (cS, lg, .inl gg)), (t, .inr (8, [.ref k_name, .ref k_worth, .ref k_times, .ref k_first, .ref k_second, .ref k_beforeLast, .ref k_last, .ref k_errandOf, .ref k_errandAfter, .ref k_sound, .ref k_followers, .ref k_leaders, .int (nI w), .int k_errands, .int k_alikes, .int k_law])), (k_followers, .inl (cI, 24, .inl f_followers)), (k_worth, .inl (cI, 24, .inl f_worth))] := hD
        have hP9 := hP.sub (ws' := [(o, .inr (0, [.ref gm_won, .ref gm_depths, .ref gm_gains, .int gm_isWonKnown, .int gm_isDepthKnown, .int 1])), (gm_gains, .inl (cS, lg, .inl gg)), (t, .inr (8, [.ref k_name, .ref k_worth, .ref k_times, .ref k_first, .ref k_second, .ref k_beforeLast, .ref k_last, .ref k_errandOf, .ref k_errandAfter, .ref k_sound, .ref k_followers, .ref k_leaders, .int (nI w), .int k_errands, .int k_alikes, .int k_law])), (k_followers, .inl (cI, 24, .inl f_followers)), (k_worth, .inl (cI, 24, .inl f_worth))]) [0, 1, 2, 3, 4] rfl
        have hD9 := hD.sub (ws' := [(o, .inr (0, [.ref gm_won, .ref gm_depths, .ref gm_gains, .int gm_isWonKnown, .int gm_isDepthKnown, .int 1])), (gm_gains, .inl (cS, lg, .inl gg)), (t, .inr (8, [.ref k_name, .ref k_worth, .ref k_times, .ref k_first, .ref k_second, .ref k_beforeLast, .ref k_last, .ref k_errandOf, .ref k_errandAfter, .ref k_sound, .ref k_followers, .ref k_leaders, .int (nI w), .int k_errands, .int k_alikes, .int k_law])), (k_followers, .inl (cI, 24, .inl f_followers)), (k_worth, .inl (cI, 24, .inl f_worth))]) [0, 1, 2, 3, 4] (by decide) rfl
        refine W.widen (k := 1) (n := gG) (show 0 ≤ 1 by omega) (show 0 ≤ gG by omega) ?_
        exact W.vret hx hb hr (fun tz htz hWz => ⟨⟨[(o, .inr (0, [.ref gm_won, .ref gm_depths, .ref gm_gains, .int gm_isWonKnown, .int gm_isDepthKnown, .int 1])), (gm_gains, .inl (cS, lg, .inl gg)), (t, .inr (8, [.ref k_name, .ref k_worth, .ref k_times, .ref k_first, .ref k_second, .ref k_beforeLast, .ref k_last, .ref k_errandOf, .ref k_errandAfter, .ref k_sound, .ref k_followers, .ref k_leaders, .int (nI w), .int k_errands, .int k_alikes, .int k_law])), (k_followers, .inl (cI, 24, .inl f_followers)), (k_worth, .inl (cI, 24, .inl f_worth))], rfl, ⟨1, gm_gains, lg, gg, rfl, (by omega), (by omega), (Or.inl rfl), (by decide)⟩, by rw [htz]; exact hP9, va_K.moved hWz.alike hK, hD9⟩, hS.F htz⟩) hS.2.2 dX0_learnGains_116
      · have dc_4 : ¬ sN ≤ st := fun h => c_4 ((nI_leI (a := sN) (b := st) (by omega) (by omega)).mpr h)
        refine lv_iconst (v := 0) hx hb dX0_learnGains_48 (by decide) ?_
        refine lv_istore (lv' := [(4, .int 0), (3, .int (nI st)), (2, .int (nI sN)), (0, .ref o), (1, .ref t)]) hx hb dX0_learnGains_49 hl (by decide) rfl (fun ls hl => ?_)
        refine xb_wh (fun (n9 : Nat) H locs ls => ∃ k : Nat, ∃ gh : Nat → Int32, (w - k) = n9 ∧ va_P D vwCl [(o, .inr (0, [.ref gm_won, .ref gm_depths, .ref gm_gains, .int gm_isWonKnown, .int gm_isDepthKnown, .int kg])), (gm_gains, .inl (cS, lg, .inl gh)), (t, .inr (8, [.ref k_name, .ref k_worth, .ref k_times, .ref k_first, .ref k_second, .ref k_beforeLast, .ref k_last, .ref k_errandOf, .ref k_errandAfter, .ref k_sound, .ref k_followers, .ref k_leaders, .int (nI w), .int k_errands, .int k_alikes, .int k_law])), (k_followers, .inl (cI, 24, .inl f_followers)), (k_worth, .inl (cI, 24, .inl f_worth))] H ∧ va_D A [(o, .inr (0, [.ref gm_won, .ref gm_depths, .ref gm_gains, .int gm_isWonKnown, .int gm_isDepthKnown, .int kg])), (gm_gains, .inl (cS, lg, .inl gh)), (t, .inr (8, [.ref k_name, .ref k_worth, .ref k_times, .ref k_first, .ref k_second, .ref k_beforeLast, .ref k_last, .ref k_errandOf, .ref k_errandAfter, .ref k_sound, .ref k_followers, .ref k_leaders, .int (nI w), .int k_errands, .int k_alikes, .int k_law])), (k_followers, .inl (cI, 24, .inl f_followers)), (k_worth, .inl (cI, 24, .inl f_worth))] ∧ va_S A s.heap H locs ∧ lv_has ls 5 [(4, .int (nI k)), (3, .int (nI st)), (2, .int (nI sN)), (0, .ref o), (1, .ref t)] ∧ (k ≤ w)) ⟨0, gg, rfl, hP, hD, hS, lv_sub hl [0, 1, 2, 3, 4] rfl, (by first | assumption | omega)⟩ (fun n9 H locs ls hI kk_51 => ?_)
        obtain ⟨k, gh, hn_51, hP, hD, hS, hl, hF_h_5⟩ := hI
        refine lv_iload hx hb dX0_learnGains_51 (lv_at hl 0 rfl) ?_
        refine lv_aload_n hx hb dX0_learnGains_53 rfl (lv_at hl 4 rfl) ?_
        refine va_getN (D := D) (ci := 8) (v := .int (nI w)) (C := RX8) (T := TX8) (N := 16) hx hb hts (by decide +kernel) hown hK hP 2 rfl rfl 12 (by decide) (va_Nw.use rfl (hN.1 (RX0, 50, RX8, "words", "I", RX10) (by decide +kernel))) (fun _ h9 => h9) rfl dX0_learnGains_54 ?_
        refine lv_icmp_ge (tgt := 105) hx hb dX0_learnGains_57 (by decide) (fun c_6 => ?_) (fun c_6 => ?_)
        · have dc_6 : w ≤ k := (nI_leI (a := w) (b := k) (by omega) (by omega)).mp c_6
          refine lv_iinc (v := nI (st + 1)) (lv' := [(3, .int (nI (st + 1))), (4, .int (nI k)), (2, .int (nI sN)), (0, .ref o), (1, .ref t)]) hx hb dX0_learnGains_105 hl (k := 1) rfl (nI_1 st) (by decide) rfl (fun ls hl => ?_)
          refine lv_goto (tgt := 43) hx hb dX0_learnGains_108 (by decide) ?_
          exact kk_43 _ _ _ _ (by rw [← hn_43]; omega) ⟨(st + 1), gh, rfl, hP, hD, hS, lv_sub hl [0, 2, 3, 4] rfl, (by first | assumption | omega)⟩
        · have dc_6 : ¬ w ≤ k := fun h => c_6 ((nI_leI (a := w) (b := k) (by omega) (by omega)).mpr h)
          refine lv_iload_n hx hb dX0_learnGains_60 rfl (lv_at hl 1 rfl) ?_
          refine lv_iload hx hb dX0_learnGains_61 (lv_at hl 0 rfl) ?_
          refine xCi (wr := [(o, .inr (0, [.ref gm_won, .ref gm_depths, .ref gm_gains, .int gm_isWonKnown, .int gm_isDepthKnown, .int kg])), (gm_gains, .inl (cS, lg, .inl gh)), (t, .inr (8, [.ref k_name, .ref k_worth, .ref k_times, .ref k_first, .ref k_second, .ref k_beforeLast, .ref k_last, .ref k_errandOf, .ref k_errandAfter, .ref k_sound, .ref k_followers, .ref k_leaders, .int (nI w), .int k_errands, .int k_alikes, .int k_law])), (k_followers, .inl (cI, 24, .inl f_followers)), (k_worth, .inl (cI, 24, .inl f_worth))]) (win := []) hP hD hS hA [] [0, 1, 2, 3, 4] rfl rfl (by decide) (by decide) (va_runSN (As := [.int (nI st), .int (nI k)]) (rest := []) ⟨hx, hb, hml, hown, hts⟩ (c_X10_isIn l D cB cI cJ cS cZ cO H.size (nI st) (nI k) ) ⟨va_cnB 2 hts gX0_learnGains_X10_isIn_n43 rfl rfl rfl (hN.2.1 (RX0, 43, yX10_isIn, RX10) (by decide +kernel)) (hts (.initialized RX10) (by decide +kernel)) (by decide +kernel) ⟨Nat.le_of_ble_eq_true rfl, Nat.le_of_ble_eq_true rfl⟩, hts (.static yX10_isIn) (by decide +kernel), trivial⟩ (xPreS (win := []) hN hK hP hD [] (by decide) rfl) rfl rfl hl.1 rfl (lv_room (Nat.le_of_ble_eq_true rfl)) dX0_learnGains_63 ⟨show 0 + 0 ≤ 1 by omega, show 0 + 0 ≤ gG by omega⟩) (fun r_7 w0 H locs hw hP hD hS => ?_)
          obtain ⟨rfl, hf_8⟩ := hw
          have hP : va_P D vwCl [(o, .inr (0, [.ref gm_won, .ref gm_depths, .ref gm_gains, .int gm_isWonKnown, .int gm_isDepthKnown, .int kg])), (gm_gains, .inl (cS, lg, .inl gh)), (t, .inr (8, [.ref k_name, .ref k_worth, .ref k_times, .ref k_first, .ref k_second, .ref k_beforeLast, .ref k_last, .ref k_errandOf, .ref k_errandAfter, .ref k_sound, .ref k_followers, .ref k_leaders, .int (nI w), .int k_errands, .int k_alikes, .int k_law])), (k_followers, .inl (cI, 24, .inl f_followers)), (k_worth, .inl (cI, 24, .inl f_worth))] H := hP
          have hD : va_D A [(o, .inr (0, [.ref gm_won, .ref gm_depths, .ref gm_gains, .int gm_isWonKnown, .int gm_isDepthKnown, .int kg])), (gm_gains, .inl (cS, lg, .inl gh)), (t, .inr (8, [.ref k_name, .ref k_worth, .ref k_times, .ref k_first, .ref k_second, .ref k_beforeLast, .ref k_last, .ref k_errandOf, .ref k_errandAfter, .ref k_sound, .ref k_followers, .ref k_leaders, .int (nI w), .int k_errands, .int k_alikes, .int k_law])), (k_followers, .inl (cI, 24, .inl f_followers)), (k_worth, .inl (cI, 24, .inl f_worth))] := hD
          refine lv_if_ne (tgt := 99) hx hb dX0_learnGains_66 (by decide) (fun c_9 => ?_) (fun c_9 => ?_)
          · refine lv_iinc (v := nI (k + 1)) (lv' := [(4, .int (nI (k + 1))), (3, .int (nI st)), (2, .int (nI sN)), (0, .ref o), (1, .ref t)]) hx hb dX0_learnGains_99 hl (k := 0) rfl (nI_1 k) (by decide) rfl (fun ls hl => ?_)
            refine lv_goto (tgt := 51) hx hb dX0_learnGains_102 (by decide) ?_
            exact kk_51 _ _ _ _ (by rw [← hn_51]; omega) ⟨(k + 1), gh, rfl, hP, hD, hS, lv_sub hl [0, 1, 2, 3, 4] rfl, (by first | assumption | omega)⟩
          · refine lv_aload_n hx hb dX0_learnGains_69 rfl (lv_at hl 3 rfl) ?_
            refine va_get (D := D) (ci := 0) (v := .ref gm_gains) (C := RX0) (T := TX0) (N := 6) hx hb hts (by decide +kernel) hown hK hP 0 rfl rfl 2 (by decide) (hts (.fieldLink RX0 19 "LastLetter$Games" "gains" "[S") (by decide +kernel)) (fun _ h9 => h9) rfl dX0_learnGains_70 ?_
            refine lv_iload_n hx hb dX0_learnGains_73 rfl (lv_at hl 1 rfl) ?_
            refine lv_aload_n hx hb dX0_learnGains_74 rfl (lv_at hl 4 rfl) ?_
            refine va_getN (D := D) (ci := 8) (v := .int (nI w)) (C := RX8) (T := TX8) (N := 16) hx hb hts (by decide +kernel) hown hK hP 2 rfl rfl 12 (by decide) (va_Nw.use rfl (hN.1 (RX0, 50, RX8, "words", "I", RX10) (by decide +kernel))) (fun _ h9 => h9) rfl dX0_learnGains_75 ?_
            refine lv_imul hx hb dX0_learnGains_78 ?_
            refine xb_top (y := nI (st * w)) (pk_mul st w) ?_
            refine lv_iload hx hb dX0_learnGains_79 (lv_at hl 0 rfl) ?_
            refine lv_iadd hx hb dX0_learnGains_81 ?_
            refine xb_top (y := nI ((st * w) + k)) (nI_add (st * w) k) ?_
            refine lv_aload_n hx hb dX0_learnGains_82 rfl (lv_at hl 3 rfl) ?_
            refine lv_aload_n hx hb dX0_learnGains_83 rfl (lv_at hl 4 rfl) ?_
            refine lv_iload_n hx hb dX0_learnGains_84 rfl (lv_at hl 1 rfl) ?_
            refine lv_aload_n hx hb dX0_learnGains_85 rfl (lv_at hl 4 rfl) ?_
            refine va_getN (D := D) (ci := 8) (v := .ref k_followers) (C := RX8) (T := TX8) (N := 16) hx hb hts (by decide +kernel) hown hK hP 2 rfl rfl 10 (by decide) (va_Nw.use rfl (hN.1 (RX0, 47, RX8, "followers", "[I", RX10) (by decide +kernel))) (fun _ h9 => h9) rfl dX0_learnGains_86 ?_
            refine lv_iload hx hb dX0_learnGains_89 (lv_at hl 0 rfl) ?_
            refine va_iald hx hb hK hP 3 1 rfl rfl (vp_in_nI (by omega) (by omega)) dX0_learnGains_91 ?_
            refine xb_top (y := f_followers k) (by rw [nI_clamp (by omega)]) ?_
            refine lv_iload_n hx hb dX0_learnGains_92 rfl (lv_at hl 1 rfl) ?_
            obtain ⟨q_10, hq_10, eq_10⟩ := any_and st (f_followers k)
            refine lv_iand hx hb dX0_learnGains_93 ?_
            refine xb_top (y := nI q_10) eq_10 ?_
            refine xCi (wr := [(k_followers, .inl (cI, 24, .inl f_followers))]) (win := [(o, .inr (0, [.ref gm_won, .ref gm_depths, .ref gm_gains, .int gm_isWonKnown, .int gm_isDepthKnown, .int kg])), (gm_gains, .inl (cS, lg, .inl gh)), (t, .inr (8, [.ref k_name, .ref k_worth, .ref k_times, .ref k_first, .ref k_second, .ref k_beforeLast, .ref k_last, .ref k_errandOf, .ref k_errandAfter, .ref k_sound, .ref k_followers, .ref k_leaders, .int (nI w), .int k_errands, .int k_alikes, .int k_law])), (k_worth, .inl (cI, 24, .inl f_worth))]) hP hD hS hA [0, 1, 2, 4] [3] rfl rfl (by decide) (by decide) (va_runV (As := [.ref t, .int (nI st), .int (nI q_10)]) (rest := [.int (nI ((st * w) + k)), .ref gm_gains]) ⟨hx, hb, hml, hown, hts⟩ (c_X0_bestGain l D cB cI cJ cS cZ cO H.size o t st q_10 gm_won gm_depths gm_gains gm_isWonKnown gm_isDepthKnown kg lg gh k_name k_worth k_times k_first k_second k_beforeLast k_last k_errandOf k_errandAfter k_sound k_followers k_leaders w k_errands k_alikes k_law f_worth sN mN (by first | assumption | omega | decide) (by first | assumption | omega | decide) (by first | assumption | omega | decide) (by first | assumption | omega | decide) (by first | assumption | omega | decide) (by first | assumption | omega | decide) (by first | assumption | omega | decide) (by first | assumption | omega | decide) (by first | assumption | omega | decide) (by first | assumption | omega | decide)) (cwV 3 hts gX0_learnGains_X0_bestGain rfl rfl rfl (by decide +kernel) ⟨Nat.le_of_ble_eq_true rfl, Nat.le_of_ble_eq_true rfl⟩) (xPreV (win := [(o, .inr (0, [.ref gm_won, .ref gm_depths, .ref gm_gains, .int gm_isWonKnown, .int gm_isDepthKnown, .int kg])), (gm_gains, .inl (cS, lg, .inl gh)), (t, .inr (8, [.ref k_name, .ref k_worth, .ref k_times, .ref k_first, .ref k_second, .ref k_beforeLast, .ref k_last, .ref k_errandOf, .ref k_errandAfter, .ref k_sound, .ref k_followers, .ref k_leaders, .int (nI w), .int k_errands, .int k_alikes, .int k_law])), (k_worth, .inl (cI, 24, .inl f_worth))]) hN hK hP hD [0, 1, 2, 4] (by decide) rfl 0 0 rfl rfl rfl) rfl rfl hl.1 rfl (lv_room (Nat.le_of_ble_eq_true rfl)) dX0_learnGains_94 ⟨show 0 + 0 ≤ 1 by omega, show 0 + 0 ≤ gG by omega⟩) (fun r_11 w0 H locs hw hP hD hS => ?_)
            subst hw
            have hP : va_P D vwCl [(k_followers, .inl (cI, 24, .inl f_followers)), (o, .inr (0, [.ref gm_won, .ref gm_depths, .ref gm_gains, .int gm_isWonKnown, .int gm_isDepthKnown, .int kg])), (gm_gains, .inl (cS, lg, .inl gh)), (t, .inr (8, [.ref k_name, .ref k_worth, .ref k_times, .ref k_first, .ref k_second, .ref k_beforeLast, .ref k_last, .ref k_errandOf, .ref k_errandAfter, .ref k_sound, .ref k_followers, .ref k_leaders, .int (nI w), .int k_errands, .int k_alikes, .int k_law])), (k_worth, .inl (cI, 24, .inl f_worth))] H := hP
            have hD : va_D A [(k_followers, .inl (cI, 24, .inl f_followers)), (o, .inr (0, [.ref gm_won, .ref gm_depths, .ref gm_gains, .int gm_isWonKnown, .int gm_isDepthKnown, .int kg])), (gm_gains, .inl (cS, lg, .inl gh)), (t, .inr (8, [.ref k_name, .ref k_worth, .ref k_times, .ref k_first, .ref k_second, .ref k_beforeLast, .ref k_last, .ref k_errandOf, .ref k_errandAfter, .ref k_sound, .ref k_followers, .ref k_leaders, .int (nI w), .int k_errands, .int k_alikes, .int k_law])), (k_worth, .inl (cI, 24, .inl f_worth))] := hD
            obtain ⟨v_12, ev_12⟩ : ∃ v9 : Int32, Int16.toInt32 (Int32.toInt16 r_11) = v9 := ⟨_, rfl⟩
            refine lv_i2s (v := v_12) hx hb dX0_learnGains_97 ev_12 ?_
            have hix : (st * w) + k < mN := by rw [hm9]; exact ix_lt (by omega) (by omega)
            refine va_sast hx hb hK hP hD hS 2 3 rfl rfl (vp_in_nI (by omega) (by omega)) dX0_learnGains_98 (fun H locs hP hD hS => ?_)
            have hP : va_P D vwCl [(k_followers, .inl (cI, 24, .inl f_followers)), (o, .inr (0, [.ref gm_won, .ref gm_depths, .ref gm_gains, .int gm_isWonKnown, .int gm_isDepthKnown, .int kg])), (gm_gains, .inl (cS, lg, .inl (upd gh (Int32.toNatClampNeg (nI ((st * w) + k))) (vp_nar .short v_12)))), (t, .inr (8, [.ref k_name, .ref k_worth, .ref k_times, .ref k_first, .ref k_second, .ref k_beforeLast, .ref k_last, .ref k_errandOf, .ref k_errandAfter, .ref k_sound, .ref k_followers, .ref k_leaders, .int (nI w), .int k_errands, .int k_alikes, .int k_law])), (k_worth, .inl (cI, 24, .inl f_worth))] H := hP
            have hD : va_D A [(k_followers, .inl (cI, 24, .inl f_followers)), (o, .inr (0, [.ref gm_won, .ref gm_depths, .ref gm_gains, .int gm_isWonKnown, .int gm_isDepthKnown, .int kg])), (gm_gains, .inl (cS, lg, .inl (upd gh (Int32.toNatClampNeg (nI ((st * w) + k))) (vp_nar .short v_12)))), (t, .inr (8, [.ref k_name, .ref k_worth, .ref k_times, .ref k_first, .ref k_second, .ref k_beforeLast, .ref k_last, .ref k_errandOf, .ref k_errandAfter, .ref k_sound, .ref k_followers, .ref k_leaders, .int (nI w), .int k_errands, .int k_alikes, .int k_law])), (k_worth, .inl (cI, 24, .inl f_worth))] := hD
            generalize eg_13 : upd gh (Int32.toNatClampNeg (nI ((st * w) + k))) (vp_nar .short v_12) = g_13 at hP hD
            refine lv_iinc (v := nI (k + 1)) (lv' := [(4, .int (nI (k + 1))), (3, .int (nI st)), (2, .int (nI sN)), (0, .ref o), (1, .ref t)]) hx hb dX0_learnGains_99 hl (k := 0) rfl (nI_1 k) (by decide) rfl (fun ls hl => ?_)
            refine lv_goto (tgt := 51) hx hb dX0_learnGains_102 (by decide) ?_
            exact kk_51 _ _ _ _ (by rw [← hn_51]; omega) ⟨(k + 1), g_13, rfl, hP.sub [1, 2, 3, 0, 4] rfl, hD.sub [1, 2, 3, 0, 4] (by decide) rfl, hS, lv_sub hl [0, 1, 2, 3, 4] rfl, (by first | assumption | omega)⟩
    · have dc_2 : ¬ mN ≤ lg := fun h => c_2 ((nI_leI (a := mN) (b := lg) (by omega) (by omega)).mpr h)
      refine lv_aload_n hx hb dX0_learnGains_29 rfl (lv_at hl 1 rfl) ?_
      refine lv_iload_n hx hb dX0_learnGains_30 rfl (lv_at hl 0 rfl) ?_
      refine lv_aload_n hx hb dX0_learnGains_31 rfl (lv_at hl 2 rfl) ?_
      refine va_getN (D := D) (ci := 8) (v := .int (nI w)) (C := RX8) (T := TX8) (N := 16) hx hb hts (by decide +kernel) hown hK hP 2 rfl rfl 12 (by decide) (va_Nw.use rfl (hN.1 (RX0, 50, RX8, "words", "I", RX10) (by decide +kernel))) (fun _ h9 => h9) rfl dX0_learnGains_32 ?_
      refine lv_imul hx hb dX0_learnGains_35 ?_
      refine xb_top (y := nI mN) ((pk_mul sN w).trans (by rw [hm9])) ?_
      refine xnewa (atype := .short) (a0 := (mN, .inl (fun _ => 0))) (ty := .short) hx hb (hts (.arrayClass .short) (by decide +kernel)) rfl hK 3 rfl hP hD hS hA (fun _ => rfl) (nI_pos (by omega)) (nI_clamp (by omega)) (show mN * 2 ≤ 536870912 by omega) (show 0 + 1 ≤ 1 by omega) (show 0 + mN ≤ gG by omega) dX0_learnGains_36 (fun q_14 H hP hD hS => ?_)
      refine W.widen (k := 1) (n := 0 + mN) (Nat.le_refl _) (Nat.le_refl _) ?_
      have hP : va_P D vwCl [(o, .inr (0, [.ref gm_won, .ref gm_depths, .ref gm_gains, .int gm_isWonKnown, .int gm_isDepthKnown, .int kg])), (gm_gains, .inl (cS, lg, .inl fg)), (t, .inr (8, [.ref k_name, .ref k_worth, .ref k_times, .ref k_first, .ref k_second, .ref k_beforeLast, .ref k_last, .ref k_errandOf, .ref k_errandAfter, .ref k_sound, .ref k_followers, .ref k_leaders, .int (nI w), .int k_errands, .int k_alikes, .int k_law])), (k_followers, .inl (cI, 24, .inl f_followers)), (k_worth, .inl (cI, 24, .inl f_worth)), (q_14, .inl (cS, mN, .inl (fun _ => 0)))] H := hP
      have hD : va_D A [(o, .inr (0, [.ref gm_won, .ref gm_depths, .ref gm_gains, .int gm_isWonKnown, .int gm_isDepthKnown, .int kg])), (gm_gains, .inl (cS, lg, .inl fg)), (t, .inr (8, [.ref k_name, .ref k_worth, .ref k_times, .ref k_first, .ref k_second, .ref k_beforeLast, .ref k_last, .ref k_errandOf, .ref k_errandAfter, .ref k_sound, .ref k_followers, .ref k_leaders, .int (nI w), .int k_errands, .int k_alikes, .int k_law])), (k_followers, .inl (cI, 24, .inl f_followers)), (k_worth, .inl (cI, 24, .inl f_worth)), (q_14, .inl (cS, mN, .inl (fun _ => 0)))] := hD
      refine va_put (D := D) (ci := 0) (v := .ref q_14) (ty := .array .short) (C := RX0) (T := TX0) (N := 6) hx hb hts (by decide +kernel) tyX0 tyX0_ok nmX0 hown hK hP hD hS 0 rfl rfl 2 (by decide) (hts (.fieldLink RX0 19 "LastLetter$Games" "gains" "[S") (by decide +kernel)) (fun _ h9 => h9) rfl (by decide +kernel) rfl rfl (Nat.le_of_ble_eq_true rfl) dX0_learnGains_38 (fun H locs hP hD hS => ?_)
      have hP : va_P D vwCl [(o, .inr (0, [.ref gm_won, .ref gm_depths, .ref q_14, .int gm_isWonKnown, .int gm_isDepthKnown, .int kg])), (gm_gains, .inl (cS, lg, .inl fg)), (t, .inr (8, [.ref k_name, .ref k_worth, .ref k_times, .ref k_first, .ref k_second, .ref k_beforeLast, .ref k_last, .ref k_errandOf, .ref k_errandAfter, .ref k_sound, .ref k_followers, .ref k_leaders, .int (nI w), .int k_errands, .int k_alikes, .int k_law])), (k_followers, .inl (cI, 24, .inl f_followers)), (k_worth, .inl (cI, 24, .inl f_worth)), (q_14, .inl (cS, mN, .inl (fun _ => 0)))] H := hP
      have hD : va_D A [(o, .inr (0, [.ref gm_won, .ref gm_depths, .ref q_14, .int gm_isWonKnown, .int gm_isDepthKnown, .int kg])), (gm_gains, .inl (cS, lg, .inl fg)), (t, .inr (8, [.ref k_name, .ref k_worth, .ref k_times, .ref k_first, .ref k_second, .ref k_beforeLast, .ref k_last, .ref k_errandOf, .ref k_errandAfter, .ref k_sound, .ref k_followers, .ref k_leaders, .int (nI w), .int k_errands, .int k_alikes, .int k_law])), (k_followers, .inl (cI, 24, .inl f_followers)), (k_worth, .inl (cI, 24, .inl f_worth)), (q_14, .inl (cS, mN, .inl (fun _ => 0)))] := hD
      refine lv_iconst (v := 0) hx hb dX0_learnGains_41 (by decide) ?_
      refine lv_istore_n (lv' := [(3, .int 0), (2, .int (nI sN)), (0, .ref o), (1, .ref t)]) hx hb dX0_learnGains_42 rfl hl (by decide) rfl (fun ls hl => ?_)
      refine xb_wh (fun (n9 : Nat) H locs ls => ∃ st : Nat, ∃ gg : Nat → Int32, (sN - st) = n9 ∧ va_P D vwCl [(o, .inr (0, [.ref gm_won, .ref gm_depths, .ref q_14, .int gm_isWonKnown, .int gm_isDepthKnown, .int kg])), (gm_gains, .inl (cS, lg, .inl fg)), (t, .inr (8, [.ref k_name, .ref k_worth, .ref k_times, .ref k_first, .ref k_second, .ref k_beforeLast, .ref k_last, .ref k_errandOf, .ref k_errandAfter, .ref k_sound, .ref k_followers, .ref k_leaders, .int (nI w), .int k_errands, .int k_alikes, .int k_law])), (k_followers, .inl (cI, 24, .inl f_followers)), (k_worth, .inl (cI, 24, .inl f_worth)), (q_14, .inl (cS, mN, .inl gg))] H ∧ va_D A [(o, .inr (0, [.ref gm_won, .ref gm_depths, .ref q_14, .int gm_isWonKnown, .int gm_isDepthKnown, .int kg])), (gm_gains, .inl (cS, lg, .inl fg)), (t, .inr (8, [.ref k_name, .ref k_worth, .ref k_times, .ref k_first, .ref k_second, .ref k_beforeLast, .ref k_last, .ref k_errandOf, .ref k_errandAfter, .ref k_sound, .ref k_followers, .ref k_leaders, .int (nI w), .int k_errands, .int k_alikes, .int k_law])), (k_followers, .inl (cI, 24, .inl f_followers)), (k_worth, .inl (cI, 24, .inl f_worth)), (q_14, .inl (cS, mN, .inl gg))] ∧ va_S A s.heap H locs ∧ lv_has ls 5 [(3, .int (nI st)), (2, .int (nI sN)), (0, .ref o), (1, .ref t)] ∧ (st ≤ sN)) ⟨0, (fun _ => 0), rfl, hP, hD, hS, lv_sub hl [0, 1, 2, 3] rfl, (Nat.zero_le _)⟩ (fun n9 H locs ls hI kk_43 => ?_)
      obtain ⟨st, gg, hn_43, hP, hD, hS, hl, hF_h_15⟩ := hI
      refine lv_iload_n hx hb dX0_learnGains_43 rfl (lv_at hl 0 rfl) ?_
      refine lv_iload_n hx hb dX0_learnGains_44 rfl (lv_at hl 1 rfl) ?_
      refine lv_icmp_ge (tgt := 111) hx hb dX0_learnGains_45 (by decide) (fun c_16 => ?_) (fun c_16 => ?_)
      · have dc_16 : sN ≤ st := (nI_leI (a := sN) (b := st) (by omega) (by omega)).mp c_16
        refine lv_aload_n hx hb dX0_learnGains_111 rfl (lv_at hl 2 rfl) ?_
        refine lv_iconst (v := 1) hx hb dX0_learnGains_112 (by decide) ?_
        refine va_put (D := D) (ci := 0) (v := .int 1) (ty := .boolean) (C := RX0) (T := TX0) (N := 6) hx hb hts (by decide +kernel) tyX0 tyX0_ok nmX0 hown hK hP hD hS 0 rfl rfl 5 (by decide) (hts (.fieldLink RX0 30 "LastLetter$Games" "isGainKnown" "Z") (by decide +kernel)) (fun _ h9 => h9) rfl (by decide +kernel) rfl rfl (Nat.le_of_ble_eq_true rfl) dX0_learnGains_113 (fun H locs hP hD hS => ?_)
        have hP : va_P D vwCl [(o, .inr (0, [.ref gm_won, .ref gm_depths, .ref q_14, .int gm_isWonKnown, .int gm_isDepthKnown, .int 1])), (gm_gains, .inl (cS, lg, .inl fg)), (t, .inr (8, [.ref k_name, .ref k_worth, .ref k_times, .ref k_first, .ref k_second, .ref k_beforeLast, .ref k_last, .ref k_errandOf, .ref k_errandAfter, .ref k_sound, .ref k_followers, .ref k_leaders, .int (nI w), .int k_errands, .int k_alikes, .int k_law])), (k_followers, .inl (cI, 24, .inl f_followers)), (k_worth, .inl (cI, 24, .inl f_worth)), (q_14, .inl (cS, mN, .inl gg))] H := hP
        have hD : va_D A [(o, .inr (0, [.ref gm_won, .ref gm_depths, .ref q_14, .int gm_isWonKnown, .int gm_isDepthKnown, .int 1])), (gm_gains, .inl (cS, lg, .inl fg)), (t, .inr (8, [.ref k_name, .ref k_worth, .ref k_times, .ref k_first, .ref k_second, .ref k_beforeLast, .ref k_last, .ref k_errandOf, .ref k_errandAfter, .ref k_sound, .ref k_followers, .ref k_leaders, .int (nI w), .int k_errands, .int k_alikes, .int k_law])), (k_followers, .inl (cI, 24, .inl f_followers)), (k_worth, .inl (cI, 24, .inl f_worth)), (q_14, .inl (cS, mN, .inl gg))] := hD
        have hP9 := hP.sub (ws' := [(o, .inr (0, [.ref gm_won, .ref gm_depths, .ref q_14, .int gm_isWonKnown, .int gm_isDepthKnown, .int 1])), (q_14, .inl (cS, mN, .inl gg)), (t, .inr (8, [.ref k_name, .ref k_worth, .ref k_times, .ref k_first, .ref k_second, .ref k_beforeLast, .ref k_last, .ref k_errandOf, .ref k_errandAfter, .ref k_sound, .ref k_followers, .ref k_leaders, .int (nI w), .int k_errands, .int k_alikes, .int k_law])), (k_followers, .inl (cI, 24, .inl f_followers)), (k_worth, .inl (cI, 24, .inl f_worth))]) [0, 5, 2, 3, 4] rfl
        have hD9 := hD.sub (ws' := [(o, .inr (0, [.ref gm_won, .ref gm_depths, .ref q_14, .int gm_isWonKnown, .int gm_isDepthKnown, .int 1])), (q_14, .inl (cS, mN, .inl gg)), (t, .inr (8, [.ref k_name, .ref k_worth, .ref k_times, .ref k_first, .ref k_second, .ref k_beforeLast, .ref k_last, .ref k_errandOf, .ref k_errandAfter, .ref k_sound, .ref k_followers, .ref k_leaders, .int (nI w), .int k_errands, .int k_alikes, .int k_law])), (k_followers, .inl (cI, 24, .inl f_followers)), (k_worth, .inl (cI, 24, .inl f_worth))]) [0, 5, 2, 3, 4] (by decide) rfl
        refine W.widen (k := 1) (n := gG) (show 1 ≤ 1 by omega) (show 0 + mN ≤ gG by omega) ?_
        exact W.vret hx hb hr (fun tz htz hWz => ⟨⟨[(o, .inr (0, [.ref gm_won, .ref gm_depths, .ref q_14, .int gm_isWonKnown, .int gm_isDepthKnown, .int 1])), (q_14, .inl (cS, mN, .inl gg)), (t, .inr (8, [.ref k_name, .ref k_worth, .ref k_times, .ref k_first, .ref k_second, .ref k_beforeLast, .ref k_last, .ref k_errandOf, .ref k_errandAfter, .ref k_sound, .ref k_followers, .ref k_leaders, .int (nI w), .int k_errands, .int k_alikes, .int k_law])), (k_followers, .inl (cI, 24, .inl f_followers)), (k_worth, .inl (cI, 24, .inl f_worth))], rfl, ⟨1, q_14, mN, gg, rfl, (by omega), (by omega), (Or.inr ⟨by omega, rfl⟩), (by decide)⟩, by rw [htz]; exact hP9, va_K.moved hWz.alike hK, hD9⟩, hS.F htz⟩) hS.2.2 dX0_learnGains_116
      · have dc_16 : ¬ sN ≤ st := fun h => c_16 ((nI_leI (a := sN) (b := st) (by omega) (by omega)).mpr h)
        refine lv_iconst (v := 0) hx hb dX0_learnGains_48 (by decide) ?_
        refine lv_istore (lv' := [(4, .int 0), (3, .int (nI st)), (2, .int (nI sN)), (0, .ref o), (1, .ref t)]) hx hb dX0_learnGains_49 hl (by decide) rfl (fun ls hl => ?_)
        refine xb_wh (fun (n9 : Nat) H locs ls => ∃ k : Nat, ∃ gh : Nat → Int32, (w - k) = n9 ∧ va_P D vwCl [(o, .inr (0, [.ref gm_won, .ref gm_depths, .ref q_14, .int gm_isWonKnown, .int gm_isDepthKnown, .int kg])), (gm_gains, .inl (cS, lg, .inl fg)), (t, .inr (8, [.ref k_name, .ref k_worth, .ref k_times, .ref k_first, .ref k_second, .ref k_beforeLast, .ref k_last, .ref k_errandOf, .ref k_errandAfter, .ref k_sound, .ref k_followers, .ref k_leaders, .int (nI w), .int k_errands, .int k_alikes, .int k_law])), (k_followers, .inl (cI, 24, .inl f_followers)), (k_worth, .inl (cI, 24, .inl f_worth)), (q_14, .inl (cS, mN, .inl gh))] H ∧ va_D A [(o, .inr (0, [.ref gm_won, .ref gm_depths, .ref q_14, .int gm_isWonKnown, .int gm_isDepthKnown, .int kg])), (gm_gains, .inl (cS, lg, .inl fg)), (t, .inr (8, [.ref k_name, .ref k_worth, .ref k_times, .ref k_first, .ref k_second, .ref k_beforeLast, .ref k_last, .ref k_errandOf, .ref k_errandAfter, .ref k_sound, .ref k_followers, .ref k_leaders, .int (nI w), .int k_errands, .int k_alikes, .int k_law])), (k_followers, .inl (cI, 24, .inl f_followers)), (k_worth, .inl (cI, 24, .inl f_worth)), (q_14, .inl (cS, mN, .inl gh))] ∧ va_S A s.heap H locs ∧ lv_has ls 5 [(4, .int (nI k)), (3, .int (nI st)), (2, .int (nI sN)), (0, .ref o), (1, .ref t)] ∧ (k ≤ w)) ⟨0, gg, rfl, hP, hD, hS, lv_sub hl [0, 1, 2, 3, 4] rfl, (by first | assumption | omega)⟩ (fun n9 H locs ls hI kk_51 => ?_)
        obtain ⟨k, gh, hn_51, hP, hD, hS, hl, hF_h_17⟩ := hI
        refine lv_iload hx hb dX0_learnGains_51 (lv_at hl 0 rfl) ?_
        refine lv_aload_n hx hb dX0_learnGains_53 rfl (lv_at hl 4 rfl) ?_
        refine va_getN (D := D) (ci := 8) (v := .int (nI w)) (C := RX8) (T := TX8) (N := 16) hx hb hts (by decide +kernel) hown hK hP 2 rfl rfl 12 (by decide) (va_Nw.use rfl (hN.1 (RX0, 50, RX8, "words", "I", RX10) (by decide +kernel))) (fun _ h9 => h9) rfl dX0_learnGains_54 ?_
        refine lv_icmp_ge (tgt := 105) hx hb dX0_learnGains_57 (by decide) (fun c_18 => ?_) (fun c_18 => ?_)
        · have dc_18 : w ≤ k := (nI_leI (a := w) (b := k) (by omega) (by omega)).mp c_18
          refine lv_iinc (v := nI (st + 1)) (lv' := [(3, .int (nI (st + 1))), (4, .int (nI k)), (2, .int (nI sN)), (0, .ref o), (1, .ref t)]) hx hb dX0_learnGains_105 hl (k := 1) rfl (nI_1 st) (by decide) rfl (fun ls hl => ?_)
          refine lv_goto (tgt := 43) hx hb dX0_learnGains_108 (by decide) ?_
          exact kk_43 _ _ _ _ (by rw [← hn_43]; omega) ⟨(st + 1), gh, rfl, hP, hD, hS, lv_sub hl [0, 2, 3, 4] rfl, (by first | assumption | omega)⟩
        · have dc_18 : ¬ w ≤ k := fun h => c_18 ((nI_leI (a := w) (b := k) (by omega) (by omega)).mpr h)
          refine lv_iload_n hx hb dX0_learnGains_60 rfl (lv_at hl 1 rfl) ?_
          refine lv_iload hx hb dX0_learnGains_61 (lv_at hl 0 rfl) ?_
          refine xCi (wr := [(o, .inr (0, [.ref gm_won, .ref gm_depths, .ref q_14, .int gm_isWonKnown, .int gm_isDepthKnown, .int kg])), (gm_gains, .inl (cS, lg, .inl fg)), (t, .inr (8, [.ref k_name, .ref k_worth, .ref k_times, .ref k_first, .ref k_second, .ref k_beforeLast, .ref k_last, .ref k_errandOf, .ref k_errandAfter, .ref k_sound, .ref k_followers, .ref k_leaders, .int (nI w), .int k_errands, .int k_alikes, .int k_law])), (k_followers, .inl (cI, 24, .inl f_followers)), (k_worth, .inl (cI, 24, .inl f_worth)), (q_14, .inl (cS, mN, .inl gh))]) (win := []) hP hD hS hA [] [0, 1, 2, 3, 4, 5] rfl rfl (by decide) (by decide) (va_runSN (As := [.int (nI st), .int (nI k)]) (rest := []) ⟨hx, hb, hml, hown, hts⟩ (c_X10_isIn l D cB cI cJ cS cZ cO H.size (nI st) (nI k) ) ⟨va_cnB 2 hts gX0_learnGains_X10_isIn_n43 rfl rfl rfl (hN.2.1 (RX0, 43, yX10_isIn, RX10) (by decide +kernel)) (hts (.initialized RX10) (by decide +kernel)) (by decide +kernel) ⟨Nat.le_of_ble_eq_true rfl, Nat.le_of_ble_eq_true rfl⟩, hts (.static yX10_isIn) (by decide +kernel), trivial⟩ (xPreS (win := []) hN hK hP hD [] (by decide) rfl) rfl rfl hl.1 rfl (lv_room (Nat.le_of_ble_eq_true rfl)) dX0_learnGains_63 ⟨show 1 + 0 ≤ 1 by omega, show 0 + mN + 0 ≤ gG by omega⟩) (fun r_19 w0 H locs hw hP hD hS => ?_)
          obtain ⟨rfl, hf_20⟩ := hw
          have hP : va_P D vwCl [(o, .inr (0, [.ref gm_won, .ref gm_depths, .ref q_14, .int gm_isWonKnown, .int gm_isDepthKnown, .int kg])), (gm_gains, .inl (cS, lg, .inl fg)), (t, .inr (8, [.ref k_name, .ref k_worth, .ref k_times, .ref k_first, .ref k_second, .ref k_beforeLast, .ref k_last, .ref k_errandOf, .ref k_errandAfter, .ref k_sound, .ref k_followers, .ref k_leaders, .int (nI w), .int k_errands, .int k_alikes, .int k_law])), (k_followers, .inl (cI, 24, .inl f_followers)), (k_worth, .inl (cI, 24, .inl f_worth)), (q_14, .inl (cS, mN, .inl gh))] H := hP
          have hD : va_D A [(o, .inr (0, [.ref gm_won, .ref gm_depths, .ref q_14, .int gm_isWonKnown, .int gm_isDepthKnown, .int kg])), (gm_gains, .inl (cS, lg, .inl fg)), (t, .inr (8, [.ref k_name, .ref k_worth, .ref k_times, .ref k_first, .ref k_second, .ref k_beforeLast, .ref k_last, .ref k_errandOf, .ref k_errandAfter, .ref k_sound, .ref k_followers, .ref k_leaders, .int (nI w), .int k_errands, .int k_alikes, .int k_law])), (k_followers, .inl (cI, 24, .inl f_followers)), (k_worth, .inl (cI, 24, .inl f_worth)), (q_14, .inl (cS, mN, .inl gh))] := hD
          refine lv_if_ne (tgt := 99) hx hb dX0_learnGains_66 (by decide) (fun c_21 => ?_) (fun c_21 => ?_)
          · refine lv_iinc (v := nI (k + 1)) (lv' := [(4, .int (nI (k + 1))), (3, .int (nI st)), (2, .int (nI sN)), (0, .ref o), (1, .ref t)]) hx hb dX0_learnGains_99 hl (k := 0) rfl (nI_1 k) (by decide) rfl (fun ls hl => ?_)
            refine lv_goto (tgt := 51) hx hb dX0_learnGains_102 (by decide) ?_
            exact kk_51 _ _ _ _ (by rw [← hn_51]; omega) ⟨(k + 1), gh, rfl, hP, hD, hS, lv_sub hl [0, 1, 2, 3, 4] rfl, (by first | assumption | omega)⟩
          · refine lv_aload_n hx hb dX0_learnGains_69 rfl (lv_at hl 3 rfl) ?_
            refine va_get (D := D) (ci := 0) (v := .ref q_14) (C := RX0) (T := TX0) (N := 6) hx hb hts (by decide +kernel) hown hK hP 0 rfl rfl 2 (by decide) (hts (.fieldLink RX0 19 "LastLetter$Games" "gains" "[S") (by decide +kernel)) (fun _ h9 => h9) rfl dX0_learnGains_70 ?_
            refine lv_iload_n hx hb dX0_learnGains_73 rfl (lv_at hl 1 rfl) ?_
            refine lv_aload_n hx hb dX0_learnGains_74 rfl (lv_at hl 4 rfl) ?_
            refine va_getN (D := D) (ci := 8) (v := .int (nI w)) (C := RX8) (T := TX8) (N := 16) hx hb hts (by decide +kernel) hown hK hP 2 rfl rfl 12 (by decide) (va_Nw.use rfl (hN.1 (RX0, 50, RX8, "words", "I", RX10) (by decide +kernel))) (fun _ h9 => h9) rfl dX0_learnGains_75 ?_
            refine lv_imul hx hb dX0_learnGains_78 ?_
            refine xb_top (y := nI (st * w)) (pk_mul st w) ?_
            refine lv_iload hx hb dX0_learnGains_79 (lv_at hl 0 rfl) ?_
            refine lv_iadd hx hb dX0_learnGains_81 ?_
            refine xb_top (y := nI ((st * w) + k)) (nI_add (st * w) k) ?_
            refine lv_aload_n hx hb dX0_learnGains_82 rfl (lv_at hl 3 rfl) ?_
            refine lv_aload_n hx hb dX0_learnGains_83 rfl (lv_at hl 4 rfl) ?_
            refine lv_iload_n hx hb dX0_learnGains_84 rfl (lv_at hl 1 rfl) ?_
            refine lv_aload_n hx hb dX0_learnGains_85 rfl (lv_at hl 4 rfl) ?_
            refine va_getN (D := D) (ci := 8) (v := .ref k_followers) (C := RX8) (T := TX8) (N := 16) hx hb hts (by decide +kernel) hown hK hP 2 rfl rfl 10 (by decide) (va_Nw.use rfl (hN.1 (RX0, 47, RX8, "followers", "[I", RX10) (by decide +kernel))) (fun _ h9 => h9) rfl dX0_learnGains_86 ?_
            refine lv_iload hx hb dX0_learnGains_89 (lv_at hl 0 rfl) ?_
            refine va_iald hx hb hK hP 3 1 rfl rfl (vp_in_nI (by omega) (by omega)) dX0_learnGains_91 ?_
            refine xb_top (y := f_followers k) (by rw [nI_clamp (by omega)]) ?_
            refine lv_iload_n hx hb dX0_learnGains_92 rfl (lv_at hl 1 rfl) ?_
            obtain ⟨q_22, hq_22, eq_22⟩ := any_and st (f_followers k)
            refine lv_iand hx hb dX0_learnGains_93 ?_
            refine xb_top (y := nI q_22) eq_22 ?_
            refine xCi (wr := [(gm_gains, .inl (cS, lg, .inl fg)), (k_followers, .inl (cI, 24, .inl f_followers))]) (win := [(o, .inr (0, [.ref gm_won, .ref gm_depths, .ref q_14, .int gm_isWonKnown, .int gm_isDepthKnown, .int kg])), (q_14, .inl (cS, mN, .inl gh)), (t, .inr (8, [.ref k_name, .ref k_worth, .ref k_times, .ref k_first, .ref k_second, .ref k_beforeLast, .ref k_last, .ref k_errandOf, .ref k_errandAfter, .ref k_sound, .ref k_followers, .ref k_leaders, .int (nI w), .int k_errands, .int k_alikes, .int k_law])), (k_worth, .inl (cI, 24, .inl f_worth))]) hP hD hS hA [0, 5, 2, 4] [1, 3] rfl rfl (by decide) (by decide) (va_runV (As := [.ref t, .int (nI st), .int (nI q_22)]) (rest := [.int (nI ((st * w) + k)), .ref q_14]) ⟨hx, hb, hml, hown, hts⟩ (c_X0_bestGain l D cB cI cJ cS cZ cO H.size o t st q_22 gm_won gm_depths q_14 gm_isWonKnown gm_isDepthKnown kg mN gh k_name k_worth k_times k_first k_second k_beforeLast k_last k_errandOf k_errandAfter k_sound k_followers k_leaders w k_errands k_alikes k_law f_worth sN mN (by first | assumption | omega | decide) (by first | assumption | omega | decide) (by first | assumption | omega | decide) (by first | assumption | omega | decide) (by first | assumption | omega | decide) (by first | assumption | omega | decide) (by first | assumption | omega | decide) (by first | assumption | omega | decide) (by first | assumption | omega | decide) (by first | assumption | omega | decide)) (cwV 3 hts gX0_learnGains_X0_bestGain rfl rfl rfl (by decide +kernel) ⟨Nat.le_of_ble_eq_true rfl, Nat.le_of_ble_eq_true rfl⟩) (xPreV (win := [(o, .inr (0, [.ref gm_won, .ref gm_depths, .ref q_14, .int gm_isWonKnown, .int gm_isDepthKnown, .int kg])), (q_14, .inl (cS, mN, .inl gh)), (t, .inr (8, [.ref k_name, .ref k_worth, .ref k_times, .ref k_first, .ref k_second, .ref k_beforeLast, .ref k_last, .ref k_errandOf, .ref k_errandAfter, .ref k_sound, .ref k_followers, .ref k_leaders, .int (nI w), .int k_errands, .int k_alikes, .int k_law])), (k_worth, .inl (cI, 24, .inl f_worth))]) hN hK hP hD [0, 5, 2, 4] (by decide) rfl 0 0 rfl rfl rfl) rfl rfl hl.1 rfl (lv_room (Nat.le_of_ble_eq_true rfl)) dX0_learnGains_94 ⟨show 1 + 0 ≤ 1 by omega, show 0 + mN + 0 ≤ gG by omega⟩) (fun r_23 w0 H locs hw hP hD hS => ?_)
            subst hw
            have hP : va_P D vwCl [(gm_gains, .inl (cS, lg, .inl fg)), (k_followers, .inl (cI, 24, .inl f_followers)), (o, .inr (0, [.ref gm_won, .ref gm_depths, .ref q_14, .int gm_isWonKnown, .int gm_isDepthKnown, .int kg])), (q_14, .inl (cS, mN, .inl gh)), (t, .inr (8, [.ref k_name, .ref k_worth, .ref k_times, .ref k_first, .ref k_second, .ref k_beforeLast, .ref k_last, .ref k_errandOf, .ref k_errandAfter, .ref k_sound, .ref k_followers, .ref k_leaders, .int (nI w), .int k_errands, .int k_alikes, .int k_law])), (k_worth, .inl (cI, 24, .inl f_worth))] H := hP
            have hD : va_D A [(gm_gains, .inl (cS, lg, .inl fg)), (k_followers, .inl (cI, 24, .inl f_followers)), (o, .inr (0, [.ref gm_won, .ref gm_depths, .ref q_14, .int gm_isWonKnown, .int gm_isDepthKnown, .int kg])), (q_14, .inl (cS, mN, .inl gh)), (t, .inr (8, [.ref k_name, .ref k_worth, .ref k_times, .ref k_first, .ref k_second, .ref k_beforeLast, .ref k_last, .ref k_errandOf, .ref k_errandAfter, .ref k_sound, .ref k_followers, .ref k_leaders, .int (nI w), .int k_errands, .int k_alikes, .int k_law])), (k_worth, .inl (cI, 24, .inl f_worth))] := hD
            obtain ⟨v_24, ev_24⟩ : ∃ v9 : Int32, Int16.toInt32 (Int32.toInt16 r_23) = v9 := ⟨_, rfl⟩
            refine lv_i2s (v := v_24) hx hb dX0_learnGains_97 ev_24 ?_
            have hix : (st * w) + k < mN := by rw [hm9]; exact ix_lt (by omega) (by omega)
            refine va_sast hx hb hK hP hD hS 3 3 rfl rfl (vp_in_nI (by omega) (by omega)) dX0_learnGains_98 (fun H locs hP hD hS => ?_)
            have hP : va_P D vwCl [(gm_gains, .inl (cS, lg, .inl fg)), (k_followers, .inl (cI, 24, .inl f_followers)), (o, .inr (0, [.ref gm_won, .ref gm_depths, .ref q_14, .int gm_isWonKnown, .int gm_isDepthKnown, .int kg])), (q_14, .inl (cS, mN, .inl (upd gh (Int32.toNatClampNeg (nI ((st * w) + k))) (vp_nar .short v_24)))), (t, .inr (8, [.ref k_name, .ref k_worth, .ref k_times, .ref k_first, .ref k_second, .ref k_beforeLast, .ref k_last, .ref k_errandOf, .ref k_errandAfter, .ref k_sound, .ref k_followers, .ref k_leaders, .int (nI w), .int k_errands, .int k_alikes, .int k_law])), (k_worth, .inl (cI, 24, .inl f_worth))] H := hP
            have hD : va_D A [(gm_gains, .inl (cS, lg, .inl fg)), (k_followers, .inl (cI, 24, .inl f_followers)), (o, .inr (0, [.ref gm_won, .ref gm_depths, .ref q_14, .int gm_isWonKnown, .int gm_isDepthKnown, .int kg])), (q_14, .inl (cS, mN, .inl (upd gh (Int32.toNatClampNeg (nI ((st * w) + k))) (vp_nar .short v_24)))), (t, .inr (8, [.ref k_name, .ref k_worth, .ref k_times, .ref k_first, .ref k_second, .ref k_beforeLast, .ref k_last, .ref k_errandOf, .ref k_errandAfter, .ref k_sound, .ref k_followers, .ref k_leaders, .int (nI w), .int k_errands, .int k_alikes, .int k_law])), (k_worth, .inl (cI, 24, .inl f_worth))] := hD
            generalize eg_25 : upd gh (Int32.toNatClampNeg (nI ((st * w) + k))) (vp_nar .short v_24) = g_25 at hP hD
            refine lv_iinc (v := nI (k + 1)) (lv' := [(4, .int (nI (k + 1))), (3, .int (nI st)), (2, .int (nI sN)), (0, .ref o), (1, .ref t)]) hx hb dX0_learnGains_99 hl (k := 0) rfl (nI_1 k) (by decide) rfl (fun ls hl => ?_)
            refine lv_goto (tgt := 51) hx hb dX0_learnGains_102 (by decide) ?_
            exact kk_51 _ _ _ _ (by rw [← hn_51]; omega) ⟨(k + 1), g_25, rfl, hP.sub [2, 0, 4, 1, 5, 3] rfl, hD.sub [2, 0, 4, 1, 5, 3] (by decide) rfl, hS, lv_sub hl [0, 1, 2, 3, 4] rfl, (by first | assumption | omega)⟩
  · have hP9 := hP.sub (ws' := [(o, .inr (0, [.ref gm_won, .ref gm_depths, .ref gm_gains, .int gm_isWonKnown, .int gm_isDepthKnown, .int kg])), (gm_gains, .inl (cS, lg, .inl fg)), (t, .inr (8, [.ref k_name, .ref k_worth, .ref k_times, .ref k_first, .ref k_second, .ref k_beforeLast, .ref k_last, .ref k_errandOf, .ref k_errandAfter, .ref k_sound, .ref k_followers, .ref k_leaders, .int (nI w), .int k_errands, .int k_alikes, .int k_law])), (k_followers, .inl (cI, 24, .inl f_followers)), (k_worth, .inl (cI, 24, .inl f_worth))]) [0, 1, 2, 3, 4] rfl
    have hD9 := hD.sub (ws' := [(o, .inr (0, [.ref gm_won, .ref gm_depths, .ref gm_gains, .int gm_isWonKnown, .int gm_isDepthKnown, .int kg])), (gm_gains, .inl (cS, lg, .inl fg)), (t, .inr (8, [.ref k_name, .ref k_worth, .ref k_times, .ref k_first, .ref k_second, .ref k_beforeLast, .ref k_last, .ref k_errandOf, .ref k_errandAfter, .ref k_sound, .ref k_followers, .ref k_leaders, .int (nI w), .int k_errands, .int k_alikes, .int k_law])), (k_followers, .inl (cI, 24, .inl f_followers)), (k_worth, .inl (cI, 24, .inl f_worth))]) [0, 1, 2, 3, 4] (by decide) rfl
    refine W.widen (k := 1) (n := gG) (show 0 ≤ 1 by omega) (show 0 ≤ gG by omega) ?_
    exact W.vret hx hb hr (fun tz htz hWz => ⟨⟨[(o, .inr (0, [.ref gm_won, .ref gm_depths, .ref gm_gains, .int gm_isWonKnown, .int gm_isDepthKnown, .int kg])), (gm_gains, .inl (cS, lg, .inl fg)), (t, .inr (8, [.ref k_name, .ref k_worth, .ref k_times, .ref k_first, .ref k_second, .ref k_beforeLast, .ref k_last, .ref k_errandOf, .ref k_errandAfter, .ref k_sound, .ref k_followers, .ref k_leaders, .int (nI w), .int k_errands, .int k_alikes, .int k_law])), (k_followers, .inl (cI, 24, .inl f_followers)), (k_worth, .inl (cI, 24, .inl f_worth))], rfl, ⟨kg, gm_gains, lg, fg, rfl, (hkg.resolve_left c_1), hlg, (Or.inl rfl), c_1⟩, by rw [htz]; exact hP9, va_K.moved hWz.alike hK, hD9⟩, hS.F htz⟩) hS.2.2 dX0_learnGains_14

set_option maxHeartbeats 4000000 in
set_option maxRecDepth 100000 in
theorem c_X0_gainBehind (l : Launch) (D : va_G) (cB cI cJ cS cZ cO : ClassId) (sz : Nat) (o : Nat) (t : Nat) (k : Nat) (gm_won : Nat) (gm_depths : Nat) (gm_gains : Nat) (gm_isWonKnown : Int32) (gm_isDepthKnown : Int32) (kg : Int32) (lg : Nat) (fg : Nat → Int32) (k_name : Nat) (k_worth : Nat) (k_times : Nat) (k_first : Nat) (k_second : Nat) (k_beforeLast : Nat) (k_last : Nat) (k_errandOf : Nat) (k_errandAfter : Nat) (k_sound : Nat) (k_followers : Nat) (k_leaders : Nat) (w : Nat) (k_errands : Int32) (k_alikes : Int32) (k_law : Int32) (f_followers : Nat → Int32) (f_worth : Nat → Int32) (sN : Nat) (mN : Nat) (gG : Nat) (hs : sN = 2 ^ w) (hw4 : w ≤ 14) (hs1 : 1 ≤ sN) (hs2 : sN ≤ 16384) (hm9 : mN = sN * w) (hmN : mN ≤ 229376) (hlg : lg ≤ 229376) (hgG : lg < mN → mN ≤ gG) (hkg : (kg = 0 ∨ mN ≤ lg)) (hk : k < w) : Met l yX0_gainBehind wsX0_gainBehind ({ frames := 3, cells := 1, slots := gG, locals := 72 }) (xPre D (tyL cB cI cJ cS cZ cO) [(o, .inr (0, [.ref gm_won, .ref gm_depths, .ref gm_gains, .int gm_isWonKnown, .int gm_isDepthKnown, .int kg])), (gm_gains, .inl (cS, lg, .inl fg)), (t, .inr (8, [.ref k_name, .ref k_worth, .ref k_times, .ref k_first, .ref k_second, .ref k_beforeLast, .ref k_last, .ref k_errandOf, .ref k_errandAfter, .ref k_sound, .ref k_followers, .ref k_leaders, .int (nI w), .int k_errands, .int k_alikes, .int k_law])), (k_followers, .inl (cI, 24, .inl f_followers)), (k_worth, .inl (cI, 24, .inl f_worth))] sz [.ref o, .ref t, .int (nI k)]) (xQi D (tyL cB cI cJ cS cZ cO) (va_A [(o, .inr (0, [.ref gm_won, .ref gm_depths, .ref gm_gains, .int gm_isWonKnown, .int gm_isDepthKnown, .int kg])), (gm_gains, .inl (cS, lg, .inl fg)), (t, .inr (8, [.ref k_name, .ref k_worth, .ref k_times, .ref k_first, .ref k_second, .ref k_beforeLast, .ref k_last, .ref k_errandOf, .ref k_errandAfter, .ref k_sound, .ref k_followers, .ref k_leaders, .int (nI w), .int k_errands, .int k_alikes, .int k_law])), (k_followers, .inl (cI, 24, .inl f_followers)), (k_worth, .inl (cI, 24, .inl f_worth))] sz) (fun (r : Int32) (u : va_W) => ∃ kg2 : Int32, ∃ ga2 : Nat, ∃ lg2 : Nat, ∃ gg : Nat → Int32, u = [(o, .inr (0, [.ref gm_won, .ref gm_depths, .ref ga2, .int gm_isWonKnown, .int gm_isDepthKnown, .int kg2])), (ga2, .inl (cS, lg2, .inl gg)), (t, .inr (8, [.ref k_name, .ref k_worth, .ref k_times, .ref k_first, .ref k_second, .ref k_beforeLast, .ref k_last, .ref k_errandOf, .ref k_errandAfter, .ref k_sound, .ref k_followers, .ref k_leaders, .int (nI w), .int k_errands, .int k_alikes, .int k_law])), (k_followers, .inl (cI, 24, .inl f_followers)), (k_worth, .inl (cI, 24, .inl f_worth))] ∧ mN ≤ lg2 ∧ lg2 ≤ 229376 ∧ (lg2 = lg ∨ (lg < mN ∧ lg2 = mN)) ∧ kg2 ≠ 0)) 1 gG (va_A [(o, .inr (0, [.ref gm_won, .ref gm_depths, .ref gm_gains, .int gm_isWonKnown, .int gm_isDepthKnown, .int kg])), (gm_gains, .inl (cS, lg, .inl fg)), (t, .inr (8, [.ref k_name, .ref k_worth, .ref k_times, .ref k_first, .ref k_second, .ref k_beforeLast, .ref k_last, .ref k_errandOf, .ref k_errandAfter, .ref k_sound, .ref k_followers, .ref k_leaders, .int (nI w), .int k_errands, .int k_alikes, .int k_law])), (k_followers, .inl (cI, 24, .inl f_followers)), (k_worth, .inl (cI, 24, .inl f_worth))] sz) := by
  refine Met.ofW (cc := cX0_gainBehind) (maxL := 3) (ret := (some .int)) (by decide) rfl ?_
  intro p e s m args below meth c s₁ B hml hv
  obtain ⟨rfl, hsz, hP, hK, hD0, hN⟩ := hv
  have hx := B.exec
  have hb := B.bytes
  have hr := B.returns
  have hts := atoms_spec (ws := wsX0_gainBehind) B.pre
  have hown : s.vm.findClass RX0 = some m.cls := findClass_of_methodNamed B.named
  have hlocks := B.notSynchronized
  subst hsz
  have hD := hD0.self (sz := s.heap.size)
  generalize hAe : va_A [(o, .inr (0, [.ref gm_won, .ref gm_depths, .ref gm_gains, .int gm_isWonKnown, .int gm_isDepthKnown, .int kg])), (gm_gains, .inl (cS, lg, .inl fg)), (t, .inr (8, [.ref k_name, .ref k_worth, .ref k_times, .ref k_first, .ref k_second, .ref k_beforeLast, .ref k_last, .ref k_errandOf, .ref k_errandAfter, .ref k_sound, .ref k_followers, .ref k_leaders, .int (nI w), .int k_errands, .int k_alikes, .int k_law])), (k_followers, .inl (cI, 24, .inl f_followers)), (k_worth, .inl (cI, 24, .inl f_worth))] s.heap.size = A at hD ⊢
  have hA : ∀ q : Nat, s.heap.size ≤ q → A q := fun q h => by rw [← hAe]; exact Or.inr h
  have hS : va_S A s.heap s.heap [] := va_S.rf
  have hP : va_P D vwCl [(o, .inr (0, [.ref gm_won, .ref gm_depths, .ref gm_gains, .int gm_isWonKnown, .int gm_isDepthKnown, .int kg])), (gm_gains, .inl (cS, lg, .inl fg)), (t, .inr (8, [.ref k_name, .ref k_worth, .ref k_times, .ref k_first, .ref k_second, .ref k_beforeLast, .ref k_last, .ref k_errandOf, .ref k_errandAfter, .ref k_sound, .ref k_followers, .ref k_leaders, .int (nI w), .int k_errands, .int k_alikes, .int k_law])), (k_followers, .inl (cI, 24, .inl f_followers)), (k_worth, .inl (cI, 24, .inl f_worth))] s.heap := hP
  have hl := lv_entry ([.ref o, .ref t, .int (nI k)]) (n := 3) (Nat.le_of_ble_eq_true rfl)
  rw [lg_entry_eq]
  generalize (lg_sl ([.ref o, .ref t, .int (nI k)]) ++ List.replicate (3 - (lg_sl ([.ref o, .ref t, .int (nI k)])).length) Slot.unset).toArray = ls at hl ⊢
  have hl : lv_has ls 3 [(0, .ref o), (1, .ref t), (2, .int (nI k))] := hl
  refine lv_aload_n hx hb dX0_gainBehind_0 rfl (lv_at hl 0 rfl) ?_
  refine lv_aload_n hx hb dX0_gainBehind_1 rfl (lv_at hl 1 rfl) ?_
  refine xCv (wr := []) (win := [(o, .inr (0, [.ref gm_won, .ref gm_depths, .ref gm_gains, .int gm_isWonKnown, .int gm_isDepthKnown, .int kg])), (gm_gains, .inl (cS, lg, .inl fg)), (t, .inr (8, [.ref k_name, .ref k_worth, .ref k_times, .ref k_first, .ref k_second, .ref k_beforeLast, .ref k_last, .ref k_errandOf, .ref k_errandAfter, .ref k_sound, .ref k_followers, .ref k_leaders, .int (nI w), .int k_errands, .int k_alikes, .int k_law])), (k_followers, .inl (cI, 24, .inl f_followers)), (k_worth, .inl (cI, 24, .inl f_worth))]) hP hD hS hA [0, 1, 2, 3, 4] [] rfl rfl (by decide) (by decide) (va_runV (As := [.ref t]) (rest := []) ⟨hx, hb, hml, hown, hts⟩ (c_X0_learnGains l D cB cI cJ cS cZ cO s.heap.size o t gm_won gm_depths gm_gains gm_isWonKnown gm_isDepthKnown kg lg fg k_name k_worth k_times k_first k_second k_beforeLast k_last k_errandOf k_errandAfter k_sound k_followers k_leaders w k_errands k_alikes k_law f_followers f_worth sN mN gG (by first | assumption | omega | decide) (by first | assumption | omega | decide) (by first | assumption | omega | decide) (by first | assumption | omega | decide) (by first | assumption | omega | decide) (by first | assumption | omega | decide) (by first | assumption | omega | decide) (by first | assumption | omega | decide) (by first | assumption | omega | decide)) (cwV 1 hts gX0_gainBehind_X0_learnGains rfl rfl rfl (by decide +kernel) ⟨Nat.le_of_ble_eq_true rfl, Nat.le_of_ble_eq_true rfl⟩) (xPreV (win := [(o, .inr (0, [.ref gm_won, .ref gm_depths, .ref gm_gains, .int gm_isWonKnown, .int gm_isDepthKnown, .int kg])), (gm_gains, .inl (cS, lg, .inl fg)), (t, .inr (8, [.ref k_name, .ref k_worth, .ref k_times, .ref k_first, .ref k_second, .ref k_beforeLast, .ref k_last, .ref k_errandOf, .ref k_errandAfter, .ref k_sound, .ref k_followers, .ref k_leaders, .int (nI w), .int k_errands, .int k_alikes, .int k_law])), (k_followers, .inl (cI, 24, .inl f_followers)), (k_worth, .inl (cI, 24, .inl f_worth))]) hN hK hP hD [0, 1, 2, 3, 4] (by decide) rfl 0 0 rfl rfl rfl) rfl rfl hl.1 rfl (lv_room (Nat.le_of_ble_eq_true rfl)) dX0_gainBehind_2 ⟨show 0 + 1 ≤ 1 by omega, show 0 + (gG) ≤ gG by omega⟩) (fun w0 H locs hw hP hD hS => ?_)
  obtain ⟨kg2_1, ga2_2, lg2_3, gg_4, rfl, hf_5, hf_6, hf_7, hf_8⟩ := hw
  refine W.widen (k := 1) (n := (gG)) (by omega) (by omega) ?_
  have hP : va_P D vwCl [(o, .inr (0, [.ref gm_won, .ref gm_depths, .ref ga2_2, .int gm_isWonKnown, .int gm_isDepthKnown, .int kg2_1])), (ga2_2, .inl (cS, lg2_3, .inl gg_4)), (t, .inr (8, [.ref k_name, .ref k_worth, .ref k_times, .ref k_first, .ref k_second, .ref k_beforeLast, .ref k_last, .ref k_errandOf, .ref k_errandAfter, .ref k_sound, .ref k_followers, .ref k_leaders, .int (nI w), .int k_errands, .int k_alikes, .int k_law])), (k_followers, .inl (cI, 24, .inl f_followers)), (k_worth, .inl (cI, 24, .inl f_worth))] H := hP
  have hD : va_D A [(o, .inr (0, [.ref gm_won, .ref gm_depths, .ref ga2_2, .int gm_isWonKnown, .int gm_isDepthKnown, .int kg2_1])), (ga2_2, .inl (cS, lg2_3, .inl gg_4)), (t, .inr (8, [.ref k_name, .ref k_worth, .ref k_times, .ref k_first, .ref k_second, .ref k_beforeLast, .ref k_last, .ref k_errandOf, .ref k_errandAfter, .ref k_sound, .ref k_followers, .ref k_leaders, .int (nI w), .int k_errands, .int k_alikes, .int k_law])), (k_followers, .inl (cI, 24, .inl f_followers)), (k_worth, .inl (cI, 24, .inl f_worth))] := hD
  refine lv_aload_n hx hb dX0_gainBehind_5 rfl (lv_at hl 0 rfl) ?_
  refine va_get (D := D) (ci := 0) (v := .ref ga2_2) (C := RX0) (T := TX0) (N := 6) hx hb hts (by decide +kernel) hown hK hP 0 rfl rfl 2 (by decide) (hts (.fieldLink RX0 19 "LastLetter$Games" "gains" "[S") (by decide +kernel)) (fun _ h9 => h9) rfl dX0_gainBehind_6 ?_
  refine lv_aload_n hx hb dX0_gainBehind_9 rfl (lv_at hl 1 rfl) ?_
  refine xCi (wr := [(o, .inr (0, [.ref gm_won, .ref gm_depths, .ref ga2_2, .int gm_isWonKnown, .int gm_isDepthKnown, .int kg2_1])), (ga2_2, .inl (cS, lg2_3, .inl gg_4)), (k_followers, .inl (cI, 24, .inl f_followers)), (k_worth, .inl (cI, 24, .inl f_worth))]) (win := [(t, .inr (8, [.ref k_name, .ref k_worth, .ref k_times, .ref k_first, .ref k_second, .ref k_beforeLast, .ref k_last, .ref k_errandOf, .ref k_errandAfter, .ref k_sound, .ref k_followers, .ref k_leaders, .int (nI w), .int k_errands, .int k_alikes, .int k_law]))]) hP hD hS hA [2] [0, 1, 3, 4] rfl rfl (by decide) (by decide) (va_runV (As := []) (rest := [.ref ga2_2]) ⟨hx, hb, hml, hown, hts⟩ (c_X8_everyWord l D cB cI cJ cS cZ cO H.size t k_name k_worth k_times k_first k_second k_beforeLast k_last k_errandOf k_errandAfter k_sound k_followers k_leaders w k_errands k_alikes k_law (by first | assumption | omega | decide)) (cwV 0 hts gX0_gainBehind_X8_everyWord rfl rfl rfl (by decide +kernel) ⟨Nat.le_of_ble_eq_true rfl, Nat.le_of_ble_eq_true rfl⟩) (xPreV (win := [(t, .inr (8, [.ref k_name, .ref k_worth, .ref k_times, .ref k_first, .ref k_second, .ref k_beforeLast, .ref k_last, .ref k_errandOf, .ref k_errandAfter, .ref k_sound, .ref k_followers, .ref k_leaders, .int (nI w), .int k_errands, .int k_alikes, .int k_law]))]) hN hK hP hD [2] (by decide) rfl 2 8 rfl rfl rfl) rfl rfl hl.1 rfl (lv_room (Nat.le_of_ble_eq_true rfl)) dX0_gainBehind_10 ⟨show 1 + 0 ≤ 1 by omega, show (gG) + 0 ≤ gG by omega⟩) (fun r0 w0 H locs hw hP hD hS => ?_)
  obtain ⟨rfl, rfl⟩ := hw
  have hP : va_P D vwCl [(o, .inr (0, [.ref gm_won, .ref gm_depths, .ref ga2_2, .int gm_isWonKnown, .int gm_isDepthKnown, .int kg2_1])), (ga2_2, .inl (cS, lg2_3, .inl gg_4)), (k_followers, .inl (cI, 24, .inl f_followers)), (k_worth, .inl (cI, 24, .inl f_worth)), (t, .inr (8, [.ref k_name, .ref k_worth, .ref k_times, .ref k_first, .ref k_second, .ref k_beforeLast, .ref k_last, .ref k_errandOf, .ref k_errandAfter, .ref k_sound, .ref k_followers, .ref k_leaders, .int (nI w), .int k_errands, .int k_alikes, .int k_law]))] H := hP
  have hD : va_D A [(o, .inr (0, [.ref gm_won, .ref gm_depths, .ref ga2_2, .int gm_isWonKnown, .int gm_isDepthKnown, .int kg2_1])), (ga2_2, .inl (cS, lg2_3, .inl gg_4)), (k_followers, .inl (cI, 24, .inl f_followers)), (k_worth, .inl (cI, 24, .inl f_worth)), (t, .inr (8, [.ref k_name, .ref k_worth, .ref k_times, .ref k_first, .ref k_second, .ref k_beforeLast, .ref k_last, .ref k_errandOf, .ref k_errandAfter, .ref k_sound, .ref k_followers, .ref k_leaders, .int (nI w), .int k_errands, .int k_alikes, .int k_law]))] := hD
  refine xb_top (y := nI (sN - 1)) (by rw [hs]) ?_
  refine lv_iconst (v := 1) hx hb dX0_gainBehind_13 (by decide) ?_
  refine lv_iload_n hx hb dX0_gainBehind_14 rfl (lv_at hl 2 rfl) ?_
  refine lv_ishl hx hb dX0_gainBehind_15 ?_
  refine xb_top (y := nI (1 * 2 ^ k)) (nb_shl (a := 1) (i := k) (by omega)) ?_
  obtain ⟨q_9, hq_9, eq_9⟩ := set_xor (a := sN - 1) (i := k) hs (by omega) (by omega)
  refine lv_ixor hx hb dX0_gainBehind_16 ?_
  refine xb_top (y := nI q_9) ((nb_xor (sN - 1) (1 * 2 ^ k)).trans eq_9) ?_
  refine lv_aload_n hx hb dX0_gainBehind_17 rfl (lv_at hl 1 rfl) ?_
  refine va_getN (D := D) (ci := 8) (v := .int (nI w)) (C := RX8) (T := TX8) (N := 16) hx hb hts (by decide +kernel) hown hK hP 4 rfl rfl 12 (by decide) (va_Nw.use rfl (hN.1 (RX0, 50, RX8, "words", "I", RX10) (by decide +kernel))) (fun _ h9 => h9) rfl dX0_gainBehind_18 ?_
  refine lv_imul hx hb dX0_gainBehind_21 ?_
  refine xb_top (y := nI (q_9 * w)) (pk_mul q_9 w) ?_
  refine lv_iload_n hx hb dX0_gainBehind_22 rfl (lv_at hl 2 rfl) ?_
  refine lv_iadd hx hb dX0_gainBehind_23 ?_
  refine xb_top (y := nI ((q_9 * w) + k)) (nI_add (q_9 * w) k) ?_
  have hix : (q_9 * w) + k < mN := by rw [hm9]; exact ix_lt (by omega) (by omega)
  refine va_sald hx hb hK hP 1 3 rfl rfl (vp_in_nI (by omega) (by omega)) dX0_gainBehind_24 ?_
  refine xb_top (y := gg_4 ((q_9 * w) + k)) (by rw [nI_clamp (by omega)]) ?_
  have hP9 := hP.sub (ws' := [(o, .inr (0, [.ref gm_won, .ref gm_depths, .ref ga2_2, .int gm_isWonKnown, .int gm_isDepthKnown, .int kg2_1])), (ga2_2, .inl (cS, lg2_3, .inl gg_4)), (t, .inr (8, [.ref k_name, .ref k_worth, .ref k_times, .ref k_first, .ref k_second, .ref k_beforeLast, .ref k_last, .ref k_errandOf, .ref k_errandAfter, .ref k_sound, .ref k_followers, .ref k_leaders, .int (nI w), .int k_errands, .int k_alikes, .int k_law])), (k_followers, .inl (cI, 24, .inl f_followers)), (k_worth, .inl (cI, 24, .inl f_worth))]) [0, 1, 4, 2, 3] rfl
  have hD9 := hD.sub (ws' := [(o, .inr (0, [.ref gm_won, .ref gm_depths, .ref ga2_2, .int gm_isWonKnown, .int gm_isDepthKnown, .int kg2_1])), (ga2_2, .inl (cS, lg2_3, .inl gg_4)), (t, .inr (8, [.ref k_name, .ref k_worth, .ref k_times, .ref k_first, .ref k_second, .ref k_beforeLast, .ref k_last, .ref k_errandOf, .ref k_errandAfter, .ref k_sound, .ref k_followers, .ref k_leaders, .int (nI w), .int k_errands, .int k_alikes, .int k_law])), (k_followers, .inl (cI, 24, .inl f_followers)), (k_worth, .inl (cI, 24, .inl f_worth))]) [0, 1, 4, 2, 3] (by decide) rfl
  refine W.widen (k := 1) (n := gG) (show 1 ≤ 1 by omega) (show (gG) ≤ gG by omega) ?_
  exact W.iret (v := gg_4 ((q_9 * w) + k)) hx hb hr (fun tz htz hWz => ⟨⟨gg_4 ((q_9 * w) + k), [(o, .inr (0, [.ref gm_won, .ref gm_depths, .ref ga2_2, .int gm_isWonKnown, .int gm_isDepthKnown, .int kg2_1])), (ga2_2, .inl (cS, lg2_3, .inl gg_4)), (t, .inr (8, [.ref k_name, .ref k_worth, .ref k_times, .ref k_first, .ref k_second, .ref k_beforeLast, .ref k_last, .ref k_errandOf, .ref k_errandAfter, .ref k_sound, .ref k_followers, .ref k_leaders, .int (nI w), .int k_errands, .int k_alikes, .int k_law])), (k_followers, .inl (cI, 24, .inl f_followers)), (k_worth, .inl (cI, 24, .inl f_worth))], rfl, ⟨kg2_1, ga2_2, lg2_3, gg_4, rfl, hf_5, hf_6, hf_7, hf_8⟩, by rw [htz]; exact hP9, va_K.moved hWz.alike hK, hD9⟩, hS.F htz⟩) hS.2.2 dX0_gainBehind_25
