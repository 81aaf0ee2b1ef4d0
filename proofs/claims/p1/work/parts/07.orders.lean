theorem dX0_forget_0 : decode cX0_forget 0 = .ok (.aload_n 0, 1) := by decide +kernel
theorem dX0_forget_1 : decode cX0_forget 1 = .ok (.iconst 0, 1) := by decide +kernel
theorem dX0_forget_2 : decode cX0_forget 2 = .ok (.putfield 23, 3) := by decide +kernel
theorem dX0_forget_5 : decode cX0_forget 5 = .ok (.aload_n 0, 1) := by decide +kernel
theorem dX0_forget_6 : decode cX0_forget 6 = .ok (.iconst 0, 1) := by decide +kernel
theorem dX0_forget_7 : decode cX0_forget 7 = .ok (.putfield 27, 3) := by decide +kernel
theorem dX0_forget_10 : decode cX0_forget 10 = .ok (.aload_n 0, 1) := by decide +kernel
theorem dX0_forget_11 : decode cX0_forget 11 = .ok (.iconst 0, 1) := by decide +kernel
theorem dX0_forget_12 : decode cX0_forget 12 = .ok (.putfield 30, 3) := by decide +kernel
theorem dX0_forget_15 : decode cX0_forget 15 = .ok (.return_, 1) := by decide +kernel
theorem dX2_forget_0 : decode cX2_forget 0 = .ok (.aload_n 0, 1) := by decide +kernel
theorem dX2_forget_1 : decode cX2_forget 1 = .ok (.iconst 0, 1) := by decide +kernel
theorem dX2_forget_2 : decode cX2_forget 2 = .ok (.putfield 25, 3) := by decide +kernel
theorem dX2_forget_5 : decode cX2_forget 5 = .ok (.aload_n 0, 1) := by decide +kernel
theorem dX2_forget_6 : decode cX2_forget 6 = .ok (.iconst 0, 1) := by decide +kernel
theorem dX2_forget_7 : decode cX2_forget 7 = .ok (.putfield 29, 3) := by decide +kernel
theorem dX2_forget_10 : decode cX2_forget 10 = .ok (.return_, 1) := by decide +kernel
theorem dX2_layMost_0 : decode cX2_layMost 0 = .ok (.aload_n 0, 1) := by decide +kernel
theorem dX2_layMost_1 : decode cX2_layMost 1 = .ok (.aload_n 1, 1) := by decide +kernel
theorem dX2_layMost_2 : decode cX2_layMost 2 = .ok (.invokevirtual 32, 3) := by decide +kernel
theorem dX2_layMost_5 : decode cX2_layMost 5 = .ok (.aload_n 1, 1) := by decide +kernel
theorem dX2_layMost_6 : decode cX2_layMost 6 = .ok (.invokevirtual 36, 3) := by decide +kernel
theorem dX2_layMost_9 : decode cX2_layMost 9 = .ok (.istore 4, 2) := by decide +kernel
theorem dX2_layMost_11 : decode cX2_layMost 11 = .ok (.iload 4, 2) := by decide +kernel
theorem dX2_layMost_13 : decode cX2_layMost 13 = .ok (.istore 5, 2) := by decide +kernel
theorem dX2_layMost_15 : decode cX2_layMost 15 = .ok (.aload_n 0, 1) := by decide +kernel
theorem dX2_layMost_16 : decode cX2_layMost 16 = .ok (.iload 4, 2) := by decide +kernel
theorem dX2_layMost_18 : decode cX2_layMost 18 = .ok (.iload_n 3, 1) := by decide +kernel
theorem dX2_layMost_19 : decode cX2_layMost 19 = .ok (.invokevirtual 71, 3) := by decide +kernel
theorem dX2_layMost_22 : decode cX2_layMost 22 = .ok (.istore 6, 2) := by decide +kernel
theorem dX2_layMost_24 : decode cX2_layMost 24 = .ok (.iload 6, 2) := by decide +kernel
theorem dX2_layMost_26 : decode cX2_layMost 26 = .ok (.istore 7, 2) := by decide +kernel
theorem dX2_layMost_28 : decode cX2_layMost 28 = .ok (.iconst 0, 1) := by decide +kernel
theorem dX2_layMost_29 : decode cX2_layMost 29 = .ok (.istore 8, 2) := by decide +kernel
theorem dX2_layMost_31 : decode cX2_layMost 31 = .ok (.iload 8, 2) := by decide +kernel
theorem dX2_layMost_33 : decode cX2_layMost 33 = .ok (.aload_n 1, 1) := by decide +kernel
theorem dX2_layMost_34 : decode cX2_layMost 34 = .ok (.getfield 46, 3) := by decide +kernel
theorem dX2_layMost_37 : decode cX2_layMost 37 = .ok (.if_icmp .ge 81, 3) := by decide +kernel
theorem dX2_layMost_118 : decode cX2_layMost 118 = .ok (.iload 6, 2) := by decide +kernel
theorem dX2_layMost_120 : decode cX2_layMost 120 = .ok (.ireturn, 1) := by decide +kernel
theorem dX2_layParts_0 : decode cX2_layParts 0 = .ok (.aload_n 0, 1) := by decide +kernel
theorem dX2_layParts_1 : decode cX2_layParts 1 = .ok (.aload_n 1, 1) := by decide +kernel
theorem dX2_layParts_2 : decode cX2_layParts 2 = .ok (.invokevirtual 32, 3) := by decide +kernel
theorem dX2_layParts_5 : decode cX2_layParts 5 = .ok (.aload_n 1, 1) := by decide +kernel
theorem dX2_layParts_6 : decode cX2_layParts 6 = .ok (.invokevirtual 36, 3) := by decide +kernel
theorem dX2_layParts_9 : decode cX2_layParts 9 = .ok (.istore_n 3, 1) := by decide +kernel
theorem dX2_layParts_10 : decode cX2_layParts 10 = .ok (.iload_n 3, 1) := by decide +kernel
theorem dX2_layParts_11 : decode cX2_layParts 11 = .ok (.istore 4, 2) := by decide +kernel
theorem dX2_layParts_13 : decode cX2_layParts 13 = .ok (.aload_n 0, 1) := by decide +kernel
theorem dX2_layParts_14 : decode cX2_layParts 14 = .ok (.getfield 9, 3) := by decide +kernel
theorem dX2_layParts_17 : decode cX2_layParts 17 = .ok (.iload_n 3, 1) := by decide +kernel
theorem dX2_layParts_18 : decode cX2_layParts 18 = .ok (.baload, 1) := by decide +kernel
theorem dX2_layParts_19 : decode cX2_layParts 19 = .ok (.istore 5, 2) := by decide +kernel
theorem dX2_layParts_21 : decode cX2_layParts 21 = .ok (.iload_n 3, 1) := by decide +kernel
theorem dX2_layParts_22 : decode cX2_layParts 22 = .ok (.ifCond .ne 7, 3) := by decide +kernel
theorem dX2_layParts_25 : decode cX2_layParts 25 = .ok (.iconst 0, 1) := by decide +kernel
theorem dX2_layParts_26 : decode cX2_layParts 26 = .ok (.goto 7, 3) := by decide +kernel
theorem dX2_layParts_33 : decode cX2_layParts 33 = .ok (.istore 6, 2) := by decide +kernel
theorem dX2_layParts_35 : decode cX2_layParts 35 = .ok (.iconst 0, 1) := by decide +kernel
theorem dX2_layParts_36 : decode cX2_layParts 36 = .ok (.istore 7, 2) := by decide +kernel
theorem dX2_layParts_38 : decode cX2_layParts 38 = .ok (.iload 7, 2) := by decide +kernel
theorem dX2_layParts_40 : decode cX2_layParts 40 = .ok (.aload_n 1, 1) := by decide +kernel
theorem dX2_layParts_41 : decode cX2_layParts 41 = .ok (.getfield 46, 3) := by decide +kernel
theorem dX2_layParts_44 : decode cX2_layParts 44 = .ok (.if_icmp .ge 65, 3) := by decide +kernel
theorem dX2_layParts_109 : decode cX2_layParts 109 = .ok (.iload 6, 2) := by decide +kernel
theorem dX2_layParts_111 : decode cX2_layParts 111 = .ok (.ireturn, 1) := by decide +kernel
theorem dX2_layRound_0 : decode cX2_layRound 0 = .ok (.aload_n 1, 1) := by decide +kernel
theorem dX2_layRound_1 : decode cX2_layRound 1 = .ok (.getfield 46, 3) := by decide +kernel
theorem dX2_layRound_4 : decode cX2_layRound 4 = .ok (.ifCond .ne 5, 3) := by decide +kernel
theorem dX2_layRound_7 : decode cX2_layRound 7 = .ok (.iconst 1, 1) := by decide +kernel
theorem dX2_layRound_8 : decode cX2_layRound 8 = .ok (.ireturn, 1) := by decide +kernel
theorem dX2_layWhole_0 : decode cX2_layWhole 0 = .ok (.aload_n 0, 1) := by decide +kernel
theorem dX2_layWhole_1 : decode cX2_layWhole 1 = .ok (.aload_n 1, 1) := by decide +kernel
theorem dX2_layWhole_2 : decode cX2_layWhole 2 = .ok (.invokevirtual 32, 3) := by decide +kernel
theorem dX2_layWhole_5 : decode cX2_layWhole 5 = .ok (.aload_n 0, 1) := by decide +kernel
theorem dX2_layWhole_6 : decode cX2_layWhole 6 = .ok (.getfield 9, 3) := by decide +kernel
theorem dX2_layWhole_9 : decode cX2_layWhole 9 = .ok (.aload_n 1, 1) := by decide +kernel
theorem dX2_layWhole_10 : decode cX2_layWhole 10 = .ok (.invokevirtual 36, 3) := by decide +kernel
theorem dX2_layWhole_13 : decode cX2_layWhole 13 = .ok (.baload, 1) := by decide +kernel
theorem dX2_layWhole_14 : decode cX2_layWhole 14 = .ok (.ifCond .eq 5, 3) := by decide +kernel
theorem dX2_layWhole_19 : decode cX2_layWhole 19 = .ok (.aload_n 0, 1) := by decide +kernel
theorem dX2_layWhole_20 : decode cX2_layWhole 20 = .ok (.aload_n 1, 1) := by decide +kernel
theorem dX2_layWhole_21 : decode cX2_layWhole 21 = .ok (.aload_n 2, 1) := by decide +kernel
theorem dX2_layWhole_22 : decode cX2_layWhole 22 = .ok (.invokevirtual 42, 3) := by decide +kernel
theorem dX2_layWhole_25 : decode cX2_layWhole 25 = .ok (.pop, 1) := by decide +kernel
theorem dX2_layWhole_26 : decode cX2_layWhole 26 = .ok (.iconst 1, 1) := by decide +kernel
theorem dX2_layWhole_27 : decode cX2_layWhole 27 = .ok (.ireturn, 1) := by decide +kernel
theorem dX2_learn_0 : decode cX2_learn 0 = .ok (.iconst 1, 1) := by decide +kernel
theorem dX2_learn_1 : decode cX2_learn 1 = .ok (.aload_n 1, 1) := by decide +kernel
theorem dX2_learn_2 : decode cX2_learn 2 = .ok (.getfield 46, 3) := by decide +kernel
theorem dX2_learn_5 : decode cX2_learn 5 = .ok (.ishl, 1) := by decide +kernel
theorem dX2_learn_6 : decode cX2_learn 6 = .ok (.istore_n 2, 1) := by decide +kernel
theorem dX2_learn_7 : decode cX2_learn 7 = .ok (.aload_n 0, 1) := by decide +kernel
theorem dX2_learn_8 : decode cX2_learn 8 = .ok (.getfield 25, 3) := by decide +kernel
theorem dX2_learn_11 : decode cX2_learn 11 = .ok (.ifCond .eq 4, 3) := by decide +kernel
theorem dX2_learn_14 : decode cX2_learn 14 = .ok (.return_, 1) := by decide +kernel
theorem dX2_learn_15 : decode cX2_learn 15 = .ok (.aload_n 0, 1) := by decide +kernel
theorem dX2_learn_16 : decode cX2_learn 16 = .ok (.getfield 9, 3) := by decide +kernel
theorem dX2_learn_19 : decode cX2_learn 19 = .ok (.arraylength, 1) := by decide +kernel
theorem dX2_learn_20 : decode cX2_learn 20 = .ok (.iload_n 2, 1) := by decide +kernel
theorem dX2_learn_21 : decode cX2_learn 21 = .ok (.if_icmp .ge 24, 3) := by decide +kernel
theorem dX2_learn_45 : decode cX2_learn 45 = .ok (.aload_n 0, 1) := by decide +kernel
theorem dX2_learn_46 : decode cX2_learn 46 = .ok (.getfield 9, 3) := by decide +kernel
theorem dX2_learn_49 : decode cX2_learn 49 = .ok (.iconst 0, 1) := by decide +kernel
theorem dX2_learn_50 : decode cX2_learn 50 = .ok (.iconst 0, 1) := by decide +kernel
theorem dX2_learn_51 : decode cX2_learn 51 = .ok (.bastore, 1) := by decide +kernel
theorem dX2_learn_52 : decode cX2_learn 52 = .ok (.aload_n 0, 1) := by decide +kernel
theorem dX2_learn_53 : decode cX2_learn 53 = .ok (.getfield 19, 3) := by decide +kernel
theorem dX2_learn_56 : decode cX2_learn 56 = .ok (.iconst 0, 1) := by decide +kernel
theorem dX2_learn_57 : decode cX2_learn 57 = .ok (.iconst 0, 1) := by decide +kernel
theorem dX2_learn_58 : decode cX2_learn 58 = .ok (.iastore, 1) := by decide +kernel
theorem dX2_learn_59 : decode cX2_learn 59 = .ok (.iconst 1, 1) := by decide +kernel
theorem dX2_learn_60 : decode cX2_learn 60 = .ok (.istore_n 3, 1) := by decide +kernel
theorem dX2_learn_61 : decode cX2_learn 61 = .ok (.iload_n 3, 1) := by decide +kernel
theorem dX2_learn_62 : decode cX2_learn 62 = .ok (.iload_n 2, 1) := by decide +kernel
theorem dX2_learn_63 : decode cX2_learn 63 = .ok (.if_icmp .ge 15, 3) := by decide +kernel
theorem dX2_learn_78 : decode cX2_learn 78 = .ok (.aload_n 0, 1) := by decide +kernel
theorem dX2_learn_79 : decode cX2_learn 79 = .ok (.iconst 1, 1) := by decide +kernel
theorem dX2_learn_80 : decode cX2_learn 80 = .ok (.putfield 25, 3) := by decide +kernel
theorem dX2_learn_83 : decode cX2_learn 83 = .ok (.return_, 1) := by decide +kernel
theorem dX2_mostWithin_0 : decode cX2_mostWithin 0 = .ok (.iconst 0, 1) := by decide +kernel
theorem dX2_mostWithin_1 : decode cX2_mostWithin 1 = .ok (.istore_n 3, 1) := by decide +kernel
theorem dX2_mostWithin_2 : decode cX2_mostWithin 2 = .ok (.iload_n 1, 1) := by decide +kernel
theorem dX2_mostWithin_3 : decode cX2_mostWithin 3 = .ok (.istore 4, 2) := by decide +kernel
theorem dX2_mostWithin_5 : decode cX2_mostWithin 5 = .ok (.iload 4, 2) := by decide +kernel
theorem dX2_mostWithin_7 : decode cX2_mostWithin 7 = .ok (.ifCond .le 36, 3) := by decide +kernel
theorem dX2_mostWithin_43 : decode cX2_mostWithin 43 = .ok (.iload_n 3, 1) := by decide +kernel
theorem dX2_mostWithin_44 : decode cX2_mostWithin 44 = .ok (.ireturn, 1) := by decide +kernel
theorem dX3_reads_0 : decode cX3_reads 0 = .ok (.aload_n 1, 1) := by decide +kernel
theorem dX3_reads_1 : decode cX3_reads 1 = .ok (.invokevirtual 19, 3) := by decide +kernel
theorem dX3_reads_4 : decode cX3_reads 4 = .ok (.aload_n 0, 1) := by decide +kernel
theorem dX3_reads_5 : decode cX3_reads 5 = .ok (.iconst 0, 1) := by decide +kernel
theorem dX3_reads_6 : decode cX3_reads 6 = .ok (.putfield 24, 3) := by decide +kernel
theorem dX3_reads_9 : decode cX3_reads 9 = .ok (.aload_n 0, 1) := by decide +kernel
theorem dX3_reads_10 : decode cX3_reads 10 = .ok (.iconst (-1), 1) := by decide +kernel
theorem dX3_reads_11 : decode cX3_reads 11 = .ok (.putfield 9, 3) := by decide +kernel
theorem dX3_reads_14 : decode cX3_reads 14 = .ok (.aload_n 0, 1) := by decide +kernel
theorem dX3_reads_15 : decode cX3_reads 15 = .ok (.iconst 0, 1) := by decide +kernel
theorem dX3_reads_16 : decode cX3_reads 16 = .ok (.putfield 27, 3) := by decide +kernel
theorem dX3_reads_19 : decode cX3_reads 19 = .ok (.aload_n 0, 1) := by decide +kernel
theorem dX3_reads_20 : decode cX3_reads 20 = .ok (.invokevirtual 30, 3) := by decide +kernel
theorem dX3_reads_23 : decode cX3_reads 23 = .ok (.iconst 0, 1) := by decide +kernel
theorem dX3_reads_24 : decode cX3_reads 24 = .ok (.istore_n 2, 1) := by decide +kernel
theorem dX3_reads_25 : decode cX3_reads 25 = .ok (.iload_n 2, 1) := by decide +kernel
theorem dX3_reads_26 : decode cX3_reads 26 = .ok (.sipush 1600, 3) := by decide +kernel
theorem dX3_reads_29 : decode cX3_reads 29 = .ok (.if_icmp .ge 29, 3) := by decide +kernel
theorem dX3_reads_32 : decode cX3_reads 32 = .ok (.aload_n 0, 1) := by decide +kernel
theorem dX3_reads_33 : decode cX3_reads 33 = .ok (.getfield 33, 3) := by decide +kernel
theorem dX3_reads_36 : decode cX3_reads 36 = .ok (.iconst 1, 1) := by decide +kernel
theorem dX3_reads_37 : decode cX3_reads 37 = .ok (.if_icmp .eq 21, 3) := by decide +kernel
theorem dX3_reads_58 : decode cX3_reads 58 = .ok (.aload_n 0, 1) := by decide +kernel
theorem dX3_reads_59 : decode cX3_reads 59 = .ok (.getfield 24, 3) := by decide +kernel
theorem dX3_reads_62 : decode cX3_reads 62 = .ok (.ifCond .ne 7, 3) := by decide +kernel
theorem dX3_reads_65 : decode cX3_reads 65 = .ok (.iconst 1, 1) := by decide +kernel
theorem dX3_reads_66 : decode cX3_reads 66 = .ok (.goto 4, 3) := by decide +kernel
theorem dX3_reads_70 : decode cX3_reads 70 = .ok (.ireturn, 1) := by decide +kernel
theorem dX3_step_0 : decode cX3_step 0 = .ok (.aload_n 0, 1) := by decide +kernel
theorem dX3_step_1 : decode cX3_step 1 = .ok (.getfield 24, 3) := by decide +kernel
theorem dX3_step_4 : decode cX3_step 4 = .ok (.ifCond .eq 4, 3) := by decide +kernel
theorem dX3_step_8 : decode cX3_step 8 = .ok (.aload_n 0, 1) := by decide +kernel
theorem dX3_step_9 : decode cX3_step 9 = .ok (.aload_n 0, 1) := by decide +kernel
theorem dX3_step_10 : decode cX3_step 10 = .ok (.getfield 27, 3) := by decide +kernel
theorem dX3_step_13 : decode cX3_step 13 = .ok (.putfield 87, 3) := by decide +kernel
theorem dX3_step_16 : decode cX3_step 16 = .ok (.aload_n 0, 1) := by decide +kernel
theorem dX3_step_17 : decode cX3_step 17 = .ok (.getfield 87, 3) := by decide +kernel
theorem dX3_step_20 : decode cX3_step 20 = .ok (.aload_n 0, 1) := by decide +kernel
theorem dX3_step_21 : decode cX3_step 21 = .ok (.getfield 15, 3) := by decide +kernel
theorem dX3_step_24 : decode cX3_step 24 = .ok (.getfield 132, 3) := by decide +kernel
theorem dX3_step_27 : decode cX3_step 27 = .ok (.if_icmp .ge 33, 3) := by decide +kernel
theorem dX3_step_60 : decode cX3_step 60 = .ok (.aload_n 0, 1) := by decide +kernel
theorem dX3_step_61 : decode cX3_step 61 = .ok (.aload_n 0, 1) := by decide +kernel
theorem dX3_step_62 : decode cX3_step 62 = .ok (.getfield 87, 3) := by decide +kernel
theorem dX3_step_65 : decode cX3_step 65 = .ok (.putfield 27, 3) := by decide +kernel
theorem dX3_step_68 : decode cX3_step 68 = .ok (.aload_n 0, 1) := by decide +kernel
theorem dX3_step_69 : decode cX3_step 69 = .ok (.getfield 15, 3) := by decide +kernel
theorem dX3_step_72 : decode cX3_step 72 = .ok (.aload_n 0, 1) := by decide +kernel
theorem dX3_step_73 : decode cX3_step 73 = .ok (.getfield 87, 3) := by decide +kernel
theorem dX3_step_76 : decode cX3_step 76 = .ok (.invokevirtual 137, 3) := by decide +kernel
theorem dX3_step_79 : decode cX3_step 79 = .ok (.istore_n 1, 1) := by decide +kernel
theorem dX3_step_80 : decode cX3_step 80 = .ok (.iload_n 1, 1) := by decide +kernel
theorem dX3_step_81 : decode cX3_step 81 = .ok (.iconst (-1), 1) := by decide +kernel
theorem dX3_step_82 : decode cX3_step 82 = .ok (.if_icmp .ne 11, 3) := by decide +kernel
theorem dX3_step_85 : decode cX3_step 85 = .ok (.aload_n 0, 1) := by decide +kernel
theorem dX3_step_86 : decode cX3_step 86 = .ok (.iconst 1, 1) := by decide +kernel
theorem dX3_step_87 : decode cX3_step 87 = .ok (.putfield 33, 3) := by decide +kernel
theorem dX3_step_90 : decode cX3_step 90 = .ok (.goto 65, 3) := by decide +kernel
theorem dX3_step_155 : decode cX3_step 155 = .ok (.return_, 1) := by decide +kernel
theorem dX8_link_0 : decode cX8_link 0 = .ok (.aload_n 0, 1) := by decide +kernel
theorem dX8_link_1 : decode cX8_link 1 = .ok (.getfield 43, 3) := by decide +kernel
theorem dX8_link_4 : decode cX8_link 4 = .ok (.iconst 0, 1) := by decide +kernel
theorem dX8_link_5 : decode cX8_link 5 = .ok (.invokestatic 65, 3) := by decide +kernel
theorem dX8_link_8 : decode cX8_link 8 = .ok (.aload_n 0, 1) := by decide +kernel
theorem dX8_link_9 : decode cX8_link 9 = .ok (.getfield 46, 3) := by decide +kernel
theorem dX8_link_12 : decode cX8_link 12 = .ok (.iconst 0, 1) := by decide +kernel
theorem dX8_link_13 : decode cX8_link 13 = .ok (.invokestatic 65, 3) := by decide +kernel
theorem dX8_link_16 : decode cX8_link 16 = .ok (.iconst 0, 1) := by decide +kernel
theorem dX8_link_17 : decode cX8_link 17 = .ok (.istore_n 1, 1) := by decide +kernel
theorem dX8_link_18 : decode cX8_link 18 = .ok (.iload_n 1, 1) := by decide +kernel
theorem dX8_link_19 : decode cX8_link 19 = .ok (.aload_n 0, 1) := by decide +kernel
theorem dX8_link_20 : decode cX8_link 20 = .ok (.getfield 52, 3) := by decide +kernel
theorem dX8_link_23 : decode cX8_link 23 = .ok (.if_icmp .ge 58, 3) := by decide +kernel
theorem dX8_link_81 : decode cX8_link 81 = .ok (.return_, 1) := by decide +kernel
set_option maxRecDepth 20000 in
theorem ggX2_layMost_X2_learn : GoodIn wsX2_layMost wsX2_learn := goodIn_r _ [5, 6, 7, 8, 9, 10, 11, 12, 13, 14, 4, 15, 16, 17, 18, 19, 20, 21, 22, 23, 24, 25, 26, 27, 28, 29, 65, 66, 67, 68, 69, 70, 71, 72, 73, 74, 75, 76, 77, 78, 79, 80, 81, 82, 83, 84, 85, 86] (by decide +kernel) (by decide +kernel)
set_option maxRecDepth 20000 in
theorem gX2_layMost_X2_learn : GoodIn wsX2_layMost (wsV RX2 32 RX2 yX2_learn wsX2_learn) := goodIn_app (goodIn_of _ (by decide +kernel)) ggX2_layMost_X2_learn
set_option maxRecDepth 20000 in
theorem ggX2_layMost_X2_mostWithin : GoodIn wsX2_layMost wsX2_mostWithin := goodIn_r _ [39, 7, 40, 41, 42, 43, 44, 45, 46, 4, 47, 11, 48, 49, 27, 50, 51, 52, 53, 81, 82, 83, 84, 85, 86] (by decide +kernel) (by decide +kernel)
set_option maxRecDepth 20000 in
theorem gX2_layMost_X2_mostWithin : GoodIn wsX2_layMost (wsV RX2 71 RX2 yX2_mostWithin wsX2_mostWithin) := goodIn_app (goodIn_of _ (by decide +kernel)) ggX2_layMost_X2_mostWithin
set_option maxRecDepth 20000 in
theorem ggX2_layMost_X8_everyWord : GoodIn wsX2_layMost wsX8_everyWord := goodIn_r _ [34, 35, 65, 66, 67, 68, 69, 70, 71, 72, 73, 74, 75, 76, 77, 78, 79, 80] (by decide +kernel) (by decide +kernel)
set_option maxRecDepth 20000 in
theorem gX2_layMost_X8_everyWord : GoodIn wsX2_layMost (wsV RX2 36 RX8 yX8_everyWord wsX8_everyWord) := goodIn_app (goodIn_of _ (by decide +kernel)) ggX2_layMost_X8_everyWord
set_option maxRecDepth 20000 in
theorem ggX2_layParts_X2_learn : GoodIn wsX2_layParts wsX2_learn := goodIn_r _ [6, 7, 1, 8, 9, 10, 11, 12, 13, 14, 5, 15, 16, 17, 18, 19, 20, 21, 22, 23, 24, 25, 26, 27, 28, 29, 53, 54, 55, 56, 57, 58, 59, 60, 61, 62, 63, 64, 65, 66, 67, 68, 47, 48, 49, 50, 51, 52] (by decide +kernel) (by decide +kernel)
set_option maxRecDepth 20000 in
theorem gX2_layParts_X2_learn : GoodIn wsX2_layParts (wsV RX2 32 RX2 yX2_learn wsX2_learn) := goodIn_app (goodIn_of _ (by decide +kernel)) ggX2_layParts_X2_learn
set_option maxRecDepth 20000 in
theorem ggX2_layParts_X8_everyWord : GoodIn wsX2_layParts wsX8_everyWord := goodIn_r _ [34, 35, 53, 54, 55, 56, 57, 58, 59, 60, 61, 62, 63, 64, 65, 66, 67, 68] (by decide +kernel) (by decide +kernel)
set_option maxRecDepth 20000 in
theorem gX2_layParts_X8_everyWord : GoodIn wsX2_layParts (wsV RX2 36 RX8 yX8_everyWord wsX8_everyWord) := goodIn_app (goodIn_of _ (by decide +kernel)) ggX2_layParts_X8_everyWord
set_option maxRecDepth 20000 in
theorem ggX2_layWhole_X2_layParts : GoodIn wsX2_layWhole wsX2_layParts := goodIn_r _ [39, 1, 2, 3, 4, 5, 6, 7, 8, 9, 10, 11, 12, 13, 14, 15, 16, 17, 18, 19, 20, 21, 22, 23, 24, 25, 26, 27, 28, 29, 30, 31, 32, 33, 34, 35, 40, 41, 42, 43, 44, 45, 46, 47, 48, 49, 50, 51, 52, 53, 54, 55, 56, 57, 58, 59, 60, 61, 62, 63, 64, 65, 66, 67, 68, 69, 70, 71, 72, 73, 74] (by decide +kernel) (by decide +kernel)
set_option maxRecDepth 20000 in
theorem gX2_layWhole_X2_layParts : GoodIn wsX2_layWhole (wsV RX2 42 RX2 yX2_layParts wsX2_layParts) := goodIn_app (goodIn_of _ (by decide +kernel)) ggX2_layWhole_X2_layParts
set_option maxRecDepth 20000 in
theorem ggX2_layWhole_X2_learn : GoodIn wsX2_layWhole wsX2_learn := goodIn_r _ [6, 7, 1, 8, 9, 10, 11, 12, 13, 14, 5, 15, 16, 17, 18, 19, 20, 21, 22, 23, 24, 25, 26, 27, 28, 29, 57, 58, 59, 60, 61, 62, 63, 64, 65, 66, 67, 68, 69, 70, 71, 72, 51, 52, 53, 54, 55, 56] (by decide +kernel) (by decide +kernel)
set_option maxRecDepth 20000 in
theorem gX2_layWhole_X2_learn : GoodIn wsX2_layWhole (wsV RX2 32 RX2 yX2_learn wsX2_learn) := goodIn_app (goodIn_of _ (by decide +kernel)) ggX2_layWhole_X2_learn
set_option maxRecDepth 20000 in
theorem ggX2_layWhole_X8_everyWord : GoodIn wsX2_layWhole wsX8_everyWord := goodIn_r _ [34, 35, 57, 58, 59, 60, 61, 62, 63, 64, 65, 66, 67, 68, 69, 70, 71, 72] (by decide +kernel) (by decide +kernel)
set_option maxRecDepth 20000 in
theorem gX2_layWhole_X8_everyWord : GoodIn wsX2_layWhole (wsV RX2 36 RX8 yX8_everyWord wsX8_everyWord) := goodIn_app (goodIn_of _ (by decide +kernel)) ggX2_layWhole_X8_everyWord
set_option maxRecDepth 20000 in
theorem ggX3_reads_X3_step : GoodIn wsX3_reads wsX3_step := goodIn_r _ [23, 1, 3, 24, 25, 4, 26, 27, 28, 29, 30, 31, 32, 33, 34, 22, 35, 36, 37, 38, 39, 40, 41, 42, 43, 44, 45, 46, 2, 47, 48, 49, 50, 51, 52, 53, 184, 185, 186, 187, 188, 189, 206, 207] (by decide +kernel) (by decide +kernel)
set_option maxRecDepth 20000 in
theorem gX3_reads_X3_step : GoodIn wsX3_reads (wsV RX3 30 RX3 yX3_step wsX3_step) := goodIn_app (goodIn_of _ (by decide +kernel)) ggX3_reads_X3_step
set_option maxRecDepth 20000 in
theorem ggX3_reads_X8_clear : GoodIn wsX3_reads wsX8_clear := goodIn_r _ [8, 9, 10, 11, 12, 13, 14, 15, 16, 17, 18, 190, 191, 192, 193, 194, 195, 196, 197, 198, 199, 200, 201, 202, 203, 204, 205] (by decide +kernel) (by decide +kernel)
set_option maxRecDepth 20000 in
theorem gX3_reads_X8_clear_n19 : GoodIn wsX3_reads (wsX8_clear) := ggX3_reads_X8_clear
set_option maxRecDepth 20000 in
theorem ggX3_step_X7_at : GoodIn wsX3_step wsX7_at := goodIn_r _ [10, 11, 12, 42, 43] (by decide +kernel) (by decide +kernel)
set_option maxRecDepth 20000 in
theorem gX3_step_X7_at : GoodIn wsX3_step (wsV RX3 137 RX7 yX7_at wsX7_at) := goodIn_app (goodIn_of _ (by decide +kernel)) ggX3_step_X7_at
set_option maxRecDepth 20000 in
theorem ggX8_link_J7_fill_53178 : GoodIn wsX8_link wsJ7_fill_53178 := goodIn_r _ [7] (by decide +kernel) (by decide +kernel)
set_option maxRecDepth 20000 in
theorem gX8_link_J7_fill_53178 : GoodIn wsX8_link (va_wsS RX8 65 yJ7_fill_53178 wsJ7_fill_53178) := goodIn_app (goodIn_of _ (by decide +kernel)) ggX8_link_J7_fill_53178
set_option maxHeartbeats 4000000 in
set_option maxRecDepth 100000 in
theorem c_X3_step (l : Launch) (D : va_G) (cB cI cJ cS cZ cO : ClassId) (sz : Nat) (o : Nat) (p_tape : Nat) (p_kind : Int32) (p_start : Int32) (p_place : Int32) (tp_bytes : Nat) : Met l yX3_step wsX3_step ({ frames := 1, cells := 0, slots := 0, locals := 21 }) (xPre D (tyL cB cI cJ cS cZ cO) [(o, .inr (3, [.ref p_tape, .int 0, .int p_kind, .int p_start, .int 0, .int p_place])), (p_tape, .inr (7, [.ref tp_bytes, .int 0]))] sz [.ref o]) (xQv D (tyL cB cI cJ cS cZ cO) (va_A [(o, .inr (3, [.ref p_tape, .int 0, .int p_kind, .int p_start, .int 0, .int p_place])), (p_tape, .inr (7, [.ref tp_bytes, .int 0]))] sz) (fun u : va_W => u = [(o, .inr (3, [.ref p_tape, .int 0, .int 1, .int 0, .int 0, .int p_place])), (p_tape, .inr (7, [.ref tp_bytes, .int 0]))])) 0 0 (va_A [(o, .inr (3, [.ref p_tape, .int 0, .int p_kind, .int p_start, .int 0, .int p_place])), (p_tape, .inr (7, [.ref tp_bytes, .int 0]))] sz) := by
  refine Met.ofW (cc := cX3_step) (maxL := 2) (ret := none) (by decide) rfl ?_
  intro p e s m args below meth c s₁ B hml hv
  obtain ⟨rfl, hsz, hP, hK, hD0, hN⟩ := hv
  have hx := B.exec
  have hb := B.bytes
  have hr := B.returns
  have hts := atoms_spec (ws := wsX3_step) B.pre
  have hown : s.vm.findClass RX3 = some m.cls := findClass_of_methodNamed B.named
  have hlocks := B.notSynchronized
  subst hsz
  have hD := hD0.self (sz := s.heap.size)
  generalize hAe : va_A [(o, .inr (3, [.ref p_tape, .int 0, .int p_kind, .int p_start, .int 0, .int p_place])), (p_tape, .inr (7, [.ref tp_bytes, .int 0]))] s.heap.size = A at hD ⊢
  have hA : ∀ q : Nat, s.heap.size ≤ q → A q := fun q h => by rw [← hAe]; exact Or.inr h
  have hS : va_S A s.heap s.heap [] := va_S.rf
  have hP : va_P D vwCl [(o, .inr (3, [.ref p_tape, .int 0, .int p_kind, .int p_start, .int 0, .int p_place])), (p_tape, .inr (7, [.ref tp_bytes, .int 0]))] s.heap := hP
  have hl := lv_entry ([.ref o]) (n := 2) (Nat.le_of_ble_eq_true rfl)
  rw [lg_entry_eq]
  generalize (lg_sl ([.ref o]) ++ List.replicate (2 - (lg_sl ([.ref o])).length) Slot.unset).toArray = ls at hl ⊢
  have hl : lv_has ls 2 [(0, .ref o)] := hl
  refine lv_aload_n hx hb dX3_step_0 rfl (lv_at hl 0 rfl) ?_
  refine va_get (D := D) (ci := 3) (v := .int 0) (C := RX3) (T := TX3) (N := 6) hx hb hts (by decide +kernel) hown hK hP 0 rfl rfl 4 (by decide) (hts (.fieldLink RX3 24 "LastLetter$Reader" "fault" "I") (by decide +kernel)) (fun _ h9 => h9) rfl dX3_step_1 ?_
  refine lv_if_eq (tgt := 8) hx hb dX3_step_4 (by decide) (fun c_1 => ?_) (fun c_1 => absurd (by decide) c_1)
  refine lv_aload_n hx hb dX3_step_8 rfl (lv_at hl 0 rfl) ?_
  refine lv_aload_n hx hb dX3_step_9 rfl (lv_at hl 0 rfl) ?_
  refine va_get (D := D) (ci := 3) (v := .int 0) (C := RX3) (T := TX3) (N := 6) hx hb hts (by decide +kernel) hown hK hP 0 rfl rfl 1 (by decide) (hts (.fieldLink RX3 27 "LastLetter$Reader" "behind" "I") (by decide +kernel)) (fun _ h9 => h9) rfl dX3_step_10 ?_
  refine va_put (D := D) (ci := 3) (v := .int 0) (ty := .int) (C := RX3) (T := TX3) (N := 6) hx hb hts (by decide +kernel) tyX3 tyX3_ok nmX3 hown hK hP hD hS 0 rfl rfl 3 (by decide) (hts (.fieldLink RX3 87 "LastLetter$Reader" "start" "I") (by decide +kernel)) (fun _ h9 => h9) rfl (by decide +kernel) rfl rfl (Nat.le_of_ble_eq_true rfl) dX3_step_13 (fun H locs hP hD hS => ?_)
  have hP : va_P D vwCl [(o, .inr (3, [.ref p_tape, .int 0, .int p_kind, .int 0, .int 0, .int p_place])), (p_tape, .inr (7, [.ref tp_bytes, .int 0]))] H := hP
  have hD : va_D A [(o, .inr (3, [.ref p_tape, .int 0, .int p_kind, .int 0, .int 0, .int p_place])), (p_tape, .inr (7, [.ref tp_bytes, .int 0]))] := hD
  refine lv_aload_n hx hb dX3_step_16 rfl (lv_at hl 0 rfl) ?_
  refine va_get (D := D) (ci := 3) (v := .int 0) (C := RX3) (T := TX3) (N := 6) hx hb hts (by decide +kernel) hown hK hP 0 rfl rfl 3 (by decide) (hts (.fieldLink RX3 87 "LastLetter$Reader" "start" "I") (by decide +kernel)) (fun _ h9 => h9) rfl dX3_step_17 ?_
  refine lv_aload_n hx hb dX3_step_20 rfl (lv_at hl 0 rfl) ?_
  refine va_get (D := D) (ci := 3) (v := .ref p_tape) (C := RX3) (T := TX3) (N := 6) hx hb hts (by decide +kernel) hown hK hP 0 rfl rfl 0 (by decide) (hts (.fieldLink RX3 15 "LastLetter$Reader" "tape" "LLastLetter$Tape;") (by decide +kernel)) (fun _ h9 => h9) rfl dX3_step_21 ?_
  refine va_getN (D := D) (ci := 7) (v := .int 0) (C := RX7) (T := TX7) (N := 2) hx hb hts (by decide +kernel) hown hK hP 1 rfl rfl 1 (by decide) (va_Nw.use rfl (hN.1 (RX3, 132, RX7, "size", "I", RX10) (by decide +kernel))) (fun _ h9 => h9) rfl dX3_step_24 ?_
  refine lv_icmp_ge (tgt := 60) hx hb dX3_step_27 (by decide) (fun c_2 => ?_) (fun c_2 => absurd (by decide) c_2)
  refine lv_aload_n hx hb dX3_step_60 rfl (lv_at hl 0 rfl) ?_
  refine lv_aload_n hx hb dX3_step_61 rfl (lv_at hl 0 rfl) ?_
  refine va_get (D := D) (ci := 3) (v := .int 0) (C := RX3) (T := TX3) (N := 6) hx hb hts (by decide +kernel) hown hK hP 0 rfl rfl 3 (by decide) (hts (.fieldLink RX3 87 "LastLetter$Reader" "start" "I") (by decide +kernel)) (fun _ h9 => h9) rfl dX3_step_62 ?_
  refine va_put (D := D) (ci := 3) (v := .int 0) (ty := .int) (C := RX3) (T := TX3) (N := 6) hx hb hts (by decide +kernel) tyX3 tyX3_ok nmX3 hown hK hP hD hS 0 rfl rfl 1 (by decide) (hts (.fieldLink RX3 27 "LastLetter$Reader" "behind" "I") (by decide +kernel)) (fun _ h9 => h9) rfl (by decide +kernel) rfl rfl (Nat.le_of_ble_eq_true rfl) dX3_step_65 (fun H locs hP hD hS => ?_)
  have hP : va_P D vwCl [(o, .inr (3, [.ref p_tape, .int 0, .int p_kind, .int 0, .int 0, .int p_place])), (p_tape, .inr (7, [.ref tp_bytes, .int 0]))] H := hP
  have hD : va_D A [(o, .inr (3, [.ref p_tape, .int 0, .int p_kind, .int 0, .int 0, .int p_place])), (p_tape, .inr (7, [.ref tp_bytes, .int 0]))] := hD
  refine lv_aload_n hx hb dX3_step_68 rfl (lv_at hl 0 rfl) ?_
  refine va_get (D := D) (ci := 3) (v := .ref p_tape) (C := RX3) (T := TX3) (N := 6) hx hb hts (by decide +kernel) hown hK hP 0 rfl rfl 0 (by decide) (hts (.fieldLink RX3 15 "LastLetter$Reader" "tape" "LLastLetter$Tape;") (by decide +kernel)) (fun _ h9 => h9) rfl dX3_step_69 ?_
  refine lv_aload_n hx hb dX3_step_72 rfl (lv_at hl 0 rfl) ?_
  refine va_get (D := D) (ci := 3) (v := .int 0) (C := RX3) (T := TX3) (N := 6) hx hb hts (by decide +kernel) hown hK hP 0 rfl rfl 3 (by decide) (hts (.fieldLink RX3 87 "LastLetter$Reader" "start" "I") (by decide +kernel)) (fun _ h9 => h9) rfl dX3_step_73 ?_
  refine xCi (wr := [(o, .inr (3, [.ref p_tape, .int 0, .int p_kind, .int 0, .int 0, .int p_place]))]) (win := [(p_tape, .inr (7, [.ref tp_bytes, .int 0]))]) hP hD hS hA [1] [0] rfl rfl (by decide) (by decide) (va_runV (As := [.int 0]) (rest := []) ⟨hx, hb, hml, hown, hts⟩ (c_X7_at l D cB cI cJ cS cZ cO H.size p_tape 0 tp_bytes ) (cwV 1 hts gX3_step_X7_at rfl rfl rfl (by decide +kernel) ⟨Nat.le_of_ble_eq_true rfl, Nat.le_of_ble_eq_true rfl⟩) (xPreV (win := [(p_tape, .inr (7, [.ref tp_bytes, .int 0]))]) hN hK hP hD [1] (by decide) rfl 1 7 rfl rfl rfl) rfl rfl hl.1 rfl (lv_room (Nat.le_of_ble_eq_true rfl)) dX3_step_76 ⟨Nat.le_of_ble_eq_true rfl, Nat.le_of_ble_eq_true rfl⟩) (fun r0 w0 H locs hw hP hD hS => ?_)
  obtain ⟨rfl, rfl⟩ := hw
  have hP : va_P D vwCl [(o, .inr (3, [.ref p_tape, .int 0, .int p_kind, .int 0, .int 0, .int p_place])), (p_tape, .inr (7, [.ref tp_bytes, .int 0]))] H := hP
  have hD : va_D A [(o, .inr (3, [.ref p_tape, .int 0, .int p_kind, .int 0, .int 0, .int p_place])), (p_tape, .inr (7, [.ref tp_bytes, .int 0]))] := hD
  refine lv_istore_n (lv' := [(1, .int (-1)), (0, .ref o)]) hx hb dX3_step_79 rfl hl (by decide) rfl (fun ls hl => ?_)
  refine lv_iload_n hx hb dX3_step_80 rfl (lv_at hl 0 rfl) ?_
  refine lv_iconst (v := (-1)) hx hb dX3_step_81 (by decide) ?_
  refine lv_icmp_ne (tgt := 93) hx hb dX3_step_82 (by decide) (fun c_3 => absurd c_3 (by decide)) (fun c_3 => ?_)
  refine lv_aload_n hx hb dX3_step_85 rfl (lv_at hl 1 rfl) ?_
  refine lv_iconst (v := 1) hx hb dX3_step_86 (by decide) ?_
  refine va_put (D := D) (ci := 3) (v := .int 1) (ty := .int) (C := RX3) (T := TX3) (N := 6) hx hb hts (by decide +kernel) tyX3 tyX3_ok nmX3 hown hK hP hD hS 0 rfl rfl 2 (by decide) (hts (.fieldLink RX3 33 "LastLetter$Reader" "kind" "I") (by decide +kernel)) (fun _ h9 => h9) rfl (by decide +kernel) rfl rfl (Nat.le_of_ble_eq_true rfl) dX3_step_87 (fun H locs hP hD hS => ?_)
  have hP : va_P D vwCl [(o, .inr (3, [.ref p_tape, .int 0, .int 1, .int 0, .int 0, .int p_place])), (p_tape, .inr (7, [.ref tp_bytes, .int 0]))] H := hP
  have hD : va_D A [(o, .inr (3, [.ref p_tape, .int 0, .int 1, .int 0, .int 0, .int p_place])), (p_tape, .inr (7, [.ref tp_bytes, .int 0]))] := hD
  refine lv_goto (tgt := 155) hx hb dX3_step_90 (by decide) ?_
  have hP9 := hP.sub (ws' := [(o, .inr (3, [.ref p_tape, .int 0, .int 1, .int 0, .int 0, .int p_place])), (p_tape, .inr (7, [.ref tp_bytes, .int 0]))]) [0, 1] rfl
  have hD9 := hD.sub (ws' := [(o, .inr (3, [.ref p_tape, .int 0, .int 1, .int 0, .int 0, .int p_place])), (p_tape, .inr (7, [.ref tp_bytes, .int 0]))]) [0, 1] (by decide) rfl
  refine W.widen (k := 0) (n := 0) (Nat.le_of_ble_eq_true rfl) (Nat.le_of_ble_eq_true rfl) ?_
  exact W.vret hx hb hr (fun tz htz hWz => ⟨⟨[(o, .inr (3, [.ref p_tape, .int 0, .int 1, .int 0, .int 0, .int p_place])), (p_tape, .inr (7, [.ref tp_bytes, .int 0]))], rfl, rfl, by rw [htz]; exact hP9, va_K.moved hWz.alike hK, hD9⟩, hS.F htz⟩) hS.2.2 dX3_step_155

set_option maxHeartbeats 4000000 in
set_option maxRecDepth 100000 in
theorem c_X3_reads (l : Launch) (D : va_G) (cB cI cJ cS cZ cO : ClassId) (sz : Nat) (o : Nat) (t : Nat) (p_tape : Nat) (p_behind : Int32) (p_kind : Int32) (p_start : Int32) (p_fault : Int32) (p_place : Int32) (tp_bytes : Nat) (k_name : Nat) (k_worth : Nat) (k_times : Nat) (k_first : Nat) (k_second : Nat) (k_beforeLast : Nat) (k_last : Nat) (k_errandOf : Nat) (k_errandAfter : Nat) (k_sound : Nat) (k_followers : Nat) (k_leaders : Nat) (k_words : Int32) (k_errands : Int32) (k_alikes : Int32) (k_law : Int32) (fe : Nat → Int32) (fs : Nat → Int32) : Met l yX3_reads wsX3_reads ({ frames := 2, cells := 0, slots := 0, locals := 44 }) (xPre D (tyL cB cI cJ cS cZ cO) [(o, .inr (3, [.ref p_tape, .int p_behind, .int p_kind, .int p_start, .int p_fault, .int p_place])), (p_tape, .inr (7, [.ref tp_bytes, .int 0])), (t, .inr (8, [.ref k_name, .ref k_worth, .ref k_times, .ref k_first, .ref k_second, .ref k_beforeLast, .ref k_last, .ref k_errandOf, .ref k_errandAfter, .ref k_sound, .ref k_followers, .ref k_leaders, .int k_words, .int k_errands, .int k_alikes, .int k_law])), (k_errandOf, .inl (cI, 24, .inl fe)), (k_sound, .inl (cI, 26, .inl fs))] sz [.ref o, .ref t]) (xQi D (tyL cB cI cJ cS cZ cO) (va_A [(o, .inr (3, [.ref p_tape, .int p_behind, .int p_kind, .int p_start, .int p_fault, .int p_place])), (p_tape, .inr (7, [.ref tp_bytes, .int 0])), (t, .inr (8, [.ref k_name, .ref k_worth, .ref k_times, .ref k_first, .ref k_second, .ref k_beforeLast, .ref k_last, .ref k_errandOf, .ref k_errandAfter, .ref k_sound, .ref k_followers, .ref k_leaders, .int k_words, .int k_errands, .int k_alikes, .int k_law])), (k_errandOf, .inl (cI, 24, .inl fe)), (k_sound, .inl (cI, 26, .inl fs))] sz) (fun (r : Int32) (u : va_W) => ∃ ge : Nat → Int32, ∃ gz : Nat → Int32, u = [(o, .inr (3, [.ref p_tape, .int 0, .int 1, .int 0, .int 0, .int (-1)])), (p_tape, .inr (7, [.ref tp_bytes, .int 0])), (t, .inr (8, [.ref k_name, .ref k_worth, .ref k_times, .ref k_first, .ref k_second, .ref k_beforeLast, .ref k_last, .ref k_errandOf, .ref k_errandAfter, .ref k_sound, .ref k_followers, .ref k_leaders, .int 0, .int 0, .int 0, .int (-1)])), (k_errandOf, .inl (cI, 24, .inl ge)), (k_sound, .inl (cI, 26, .inl gz))] ∧ r = 1)) 0 0 (va_A [(o, .inr (3, [.ref p_tape, .int p_behind, .int p_kind, .int p_start, .int p_fault, .int p_place])), (p_tape, .inr (7, [.ref tp_bytes, .int 0])), (t, .inr (8, [.ref k_name, .ref k_worth, .ref k_times, .ref k_first, .ref k_second, .ref k_beforeLast, .ref k_last, .ref k_errandOf, .ref k_errandAfter, .ref k_sound, .ref k_followers, .ref k_leaders, .int k_words, .int k_errands, .int k_alikes, .int k_law])), (k_errandOf, .inl (cI, 24, .inl fe)), (k_sound, .inl (cI, 26, .inl fs))] sz) := by
  refine Met.ofW (cc := cX3_reads) (maxL := 3) (ret := (some .boolean)) (by decide) rfl ?_
  intro p e s m args below meth c s₁ B hml hv
  obtain ⟨rfl, hsz, hP, hK, hD0, hN⟩ := hv
  have hx := B.exec
  have hb := B.bytes
  have hr := B.returns
  have hts := atoms_spec (ws := wsX3_reads) B.pre
  have hown : s.vm.findClass RX3 = some m.cls := findClass_of_methodNamed B.named
  have hlocks := B.notSynchronized
  subst hsz
  have hD := hD0.self (sz := s.heap.size)
  generalize hAe : va_A [(o, .inr (3, [.ref p_tape, .int p_behind, .int p_kind, .int p_start, .int p_fault, .int p_place])), (p_tape, .inr (7, [.ref tp_bytes, .int 0])), (t, .inr (8, [.ref k_name, .ref k_worth, .ref k_times, .ref k_first, .ref k_second, .ref k_beforeLast, .ref k_last, .ref k_errandOf, .ref k_errandAfter, .ref k_sound, .ref k_followers, .ref k_leaders, .int k_words, .int k_errands, .int k_alikes, .int k_law])), (k_errandOf, .inl (cI, 24, .inl fe)), (k_sound, .inl (cI, 26, .inl fs))] s.heap.size = A at hD ⊢
  have hA : ∀ q : Nat, s.heap.size ≤ q → A q := fun q h => by rw [← hAe]; exact Or.inr h
  have hS : va_S A s.heap s.heap [] := va_S.rf
  have hP : va_P D vwCl [(o, .inr (3, [.ref p_tape, .int p_behind, .int p_kind, .int p_start, .int p_fault, .int p_place])), (p_tape, .inr (7, [.ref tp_bytes, .int 0])), (t, .inr (8, [.ref k_name, .ref k_worth, .ref k_times, .ref k_first, .ref k_second, .ref k_beforeLast, .ref k_last, .ref k_errandOf, .ref k_errandAfter, .ref k_sound, .ref k_followers, .ref k_leaders, .int k_words, .int k_errands, .int k_alikes, .int k_law])), (k_errandOf, .inl (cI, 24, .inl fe)), (k_sound, .inl (cI, 26, .inl fs))] s.heap := hP
  have hl := lv_entry ([.ref o, .ref t]) (n := 3) (Nat.le_of_ble_eq_true rfl)
  rw [lg_entry_eq]
  generalize (lg_sl ([.ref o, .ref t]) ++ List.replicate (3 - (lg_sl ([.ref o, .ref t])).length) Slot.unset).toArray = ls at hl ⊢
  have hl : lv_has ls 3 [(0, .ref o), (1, .ref t)] := hl
  refine lv_aload_n hx hb dX3_reads_0 rfl (lv_at hl 1 rfl) ?_
  refine xCv (wr := [(o, .inr (3, [.ref p_tape, .int p_behind, .int p_kind, .int p_start, .int p_fault, .int p_place])), (p_tape, .inr (7, [.ref tp_bytes, .int 0]))]) (win := [(t, .inr (8, [.ref k_name, .ref k_worth, .ref k_times, .ref k_first, .ref k_second, .ref k_beforeLast, .ref k_last, .ref k_errandOf, .ref k_errandAfter, .ref k_sound, .ref k_followers, .ref k_leaders, .int k_words, .int k_errands, .int k_alikes, .int k_law])), (k_errandOf, .inl (cI, 24, .inl fe)), (k_sound, .inl (cI, 26, .inl fs))]) hP hD hS hA [2, 3, 4] [0, 1] rfl rfl (by decide) (by decide) (va_runVN (As := []) (rest := []) ⟨hx, hb, hml, hown, hts⟩ (c_X8_clear l D cB cI cJ cS cZ cO s.heap.size t k_name k_worth k_times k_first k_second k_beforeLast k_last k_errandOf k_errandAfter k_sound k_followers k_leaders k_words k_errands k_alikes k_law fe fs ) ⟨va_cnB 0 hts gX3_reads_X8_clear_n19 rfl rfl rfl (hN.2.1 (RX3, 19, yX8_clear, RX10) (by decide +kernel)) (hts (.initialized RX8) (by decide +kernel)) (by decide +kernel) ⟨Nat.le_of_ble_eq_true rfl, Nat.le_of_ble_eq_true rfl⟩, hts (.instanceMethod yX8_clear) (by decide +kernel), hts (.selects RX8 yX8_clear yX8_clear) (by decide +kernel)⟩ (xPreV (win := [(t, .inr (8, [.ref k_name, .ref k_worth, .ref k_times, .ref k_first, .ref k_second, .ref k_beforeLast, .ref k_last, .ref k_errandOf, .ref k_errandAfter, .ref k_sound, .ref k_followers, .ref k_leaders, .int k_words, .int k_errands, .int k_alikes, .int k_law])), (k_errandOf, .inl (cI, 24, .inl fe)), (k_sound, .inl (cI, 26, .inl fs))]) hN hK hP hD [2, 3, 4] (by decide) rfl 2 8 rfl rfl rfl) rfl rfl hl.1 rfl (lv_room (Nat.le_of_ble_eq_true rfl)) dX3_reads_1 ⟨Nat.le_of_ble_eq_true rfl, Nat.le_of_ble_eq_true rfl⟩) (fun w0 H locs hw hP hD hS => ?_)
  obtain ⟨ge_1, gz_2, rfl⟩ := hw
  have hP : va_P D vwCl [(o, .inr (3, [.ref p_tape, .int p_behind, .int p_kind, .int p_start, .int p_fault, .int p_place])), (p_tape, .inr (7, [.ref tp_bytes, .int 0])), (t, .inr (8, [.ref k_name, .ref k_worth, .ref k_times, .ref k_first, .ref k_second, .ref k_beforeLast, .ref k_last, .ref k_errandOf, .ref k_errandAfter, .ref k_sound, .ref k_followers, .ref k_leaders, .int 0, .int 0, .int 0, .int (-1)])), (k_errandOf, .inl (cI, 24, .inl ge_1)), (k_sound, .inl (cI, 26, .inl gz_2))] H := hP
  have hD : va_D A [(o, .inr (3, [.ref p_tape, .int p_behind, .int p_kind, .int p_start, .int p_fault, .int p_place])), (p_tape, .inr (7, [.ref tp_bytes, .int 0])), (t, .inr (8, [.ref k_name, .ref k_worth, .ref k_times, .ref k_first, .ref k_second, .ref k_beforeLast, .ref k_last, .ref k_errandOf, .ref k_errandAfter, .ref k_sound, .ref k_followers, .ref k_leaders, .int 0, .int 0, .int 0, .int (-1)])), (k_errandOf, .inl (cI, 24, .inl ge_1)), (k_sound, .inl (cI, 26, .inl gz_2))] := hD
  refine lv_aload_n hx hb dX3_reads_4 rfl (lv_at hl 0 rfl) ?_
  refine lv_iconst (v := 0) hx hb dX3_reads_5 (by decide) ?_
  refine va_put (D := D) (ci := 3) (v := .int 0) (ty := .int) (C := RX3) (T := TX3) (N := 6) hx hb hts (by decide +kernel) tyX3 tyX3_ok nmX3 hown hK hP hD hS 0 rfl rfl 4 (by decide) (hts (.fieldLink RX3 24 "LastLetter$Reader" "fault" "I") (by decide +kernel)) (fun _ h9 => h9) rfl (by decide +kernel) rfl rfl (Nat.le_of_ble_eq_true rfl) dX3_reads_6 (fun H locs hP hD hS => ?_)
  have hP : va_P D vwCl [(o, .inr (3, [.ref p_tape, .int p_behind, .int p_kind, .int p_start, .int 0, .int p_place])), (p_tape, .inr (7, [.ref tp_bytes, .int 0])), (t, .inr (8, [.ref k_name, .ref k_worth, .ref k_times, .ref k_first, .ref k_second, .ref k_beforeLast, .ref k_last, .ref k_errandOf, .ref k_errandAfter, .ref k_sound, .ref k_followers, .ref k_leaders, .int 0, .int 0, .int 0, .int (-1)])), (k_errandOf, .inl (cI, 24, .inl ge_1)), (k_sound, .inl (cI, 26, .inl gz_2))] H := hP
  have hD : va_D A [(o, .inr (3, [.ref p_tape, .int p_behind, .int p_kind, .int p_start, .int 0, .int p_place])), (p_tape, .inr (7, [.ref tp_bytes, .int 0])), (t, .inr (8, [.ref k_name, .ref k_worth, .ref k_times, .ref k_first, .ref k_second, .ref k_beforeLast, .ref k_last, .ref k_errandOf, .ref k_errandAfter, .ref k_sound, .ref k_followers, .ref k_leaders, .int 0, .int 0, .int 0, .int (-1)])), (k_errandOf, .inl (cI, 24, .inl ge_1)), (k_sound, .inl (cI, 26, .inl gz_2))] := hD
  refine lv_aload_n hx hb dX3_reads_9 rfl (lv_at hl 0 rfl) ?_
  refine lv_iconst (v := (-1)) hx hb dX3_reads_10 (by decide) ?_
  refine va_put (D := D) (ci := 3) (v := .int (-1)) (ty := .int) (C := RX3) (T := TX3) (N := 6) hx hb hts (by decide +kernel) tyX3 tyX3_ok nmX3 hown hK hP hD hS 0 rfl rfl 5 (by decide) (hts (.fieldLink RX3 9 "LastLetter$Reader" "place" "I") (by decide +kernel)) (fun _ h9 => h9) rfl (by decide +kernel) rfl rfl (Nat.le_of_ble_eq_true rfl) dX3_reads_11 (fun H locs hP hD hS => ?_)
  have hP : va_P D vwCl [(o, .inr (3, [.ref p_tape, .int p_behind, .int p_kind, .int p_start, .int 0, .int (-1)])), (p_tape, .inr (7, [.ref tp_bytes, .int 0])), (t, .inr (8, [.ref k_name, .ref k_worth, .ref k_times, .ref k_first, .ref k_second, .ref k_beforeLast, .ref k_last, .ref k_errandOf, .ref k_errandAfter, .ref k_sound, .ref k_followers, .ref k_leaders, .int 0, .int 0, .int 0, .int (-1)])), (k_errandOf, .inl (cI, 24, .inl ge_1)), (k_sound, .inl (cI, 26, .inl gz_2))] H := hP
  have hD : va_D A [(o, .inr (3, [.ref p_tape, .int p_behind, .int p_kind, .int p_start, .int 0, .int (-1)])), (p_tape, .inr (7, [.ref tp_bytes, .int 0])), (t, .inr (8, [.ref k_name, .ref k_worth, .ref k_times, .ref k_first, .ref k_second, .ref k_beforeLast, .ref k_last, .ref k_errandOf, .ref k_errandAfter, .ref k_sound, .ref k_followers, .ref k_leaders, .int 0, .int 0, .int 0, .int (-1)])), (k_errandOf, .inl (cI, 24, .inl ge_1)), (k_sound, .inl (cI, 26, .inl gz_2))] := hD
  refine lv_aload_n hx hb dX3_reads_14 rfl (lv_at hl 0 rfl) ?_
  refine lv_iconst (v := 0) hx hb dX3_reads_15 (by decide) ?_
  refine va_put (D := D) (ci := 3) (v := .int 0) (ty := .int) (C := RX3) (T := TX3) (N := 6) hx hb hts (by decide +kernel) tyX3 tyX3_ok nmX3 hown hK hP hD hS 0 rfl rfl 1 (by decide) (hts (.fieldLink RX3 27 "LastLetter$Reader" "behind" "I") (by decide +kernel)) (fun _ h9 => h9) rfl (by decide +kernel) rfl rfl (Nat.le_of_ble_eq_true rfl) dX3_reads_16 (fun H locs hP hD hS => ?_)
  have hP : va_P D vwCl [(o, .inr (3, [.ref p_tape, .int 0, .int p_kind, .int p_start, .int 0, .int (-1)])), (p_tape, .inr (7, [.ref tp_bytes, .int 0])), (t, .inr (8, [.ref k_name, .ref k_worth, .ref k_times, .ref k_first, .ref k_second, .ref k_beforeLast, .ref k_last, .ref k_errandOf, .ref k_errandAfter, .ref k_sound, .ref k_followers, .ref k_leaders, .int 0, .int 0, .int 0, .int (-1)])), (k_errandOf, .inl (cI, 24, .inl ge_1)), (k_sound, .inl (cI, 26, .inl gz_2))] H := hP
  have hD : va_D A [(o, .inr (3, [.ref p_tape, .int 0, .int p_kind, .int p_start, .int 0, .int (-1)])), (p_tape, .inr (7, [.ref tp_bytes, .int 0])), (t, .inr (8, [.ref k_name, .ref k_worth, .ref k_times, .ref k_first, .ref k_second, .ref k_beforeLast, .ref k_last, .ref k_errandOf, .ref k_errandAfter, .ref k_sound, .ref k_followers, .ref k_leaders, .int 0, .int 0, .int 0, .int (-1)])), (k_errandOf, .inl (cI, 24, .inl ge_1)), (k_sound, .inl (cI, 26, .inl gz_2))] := hD
  refine lv_aload_n hx hb dX3_reads_19 rfl (lv_at hl 0 rfl) ?_
  refine xCv (wr := [(t, .inr (8, [.ref k_name, .ref k_worth, .ref k_times, .ref k_first, .ref k_second, .ref k_beforeLast, .ref k_last, .ref k_errandOf, .ref k_errandAfter, .ref k_sound, .ref k_followers, .ref k_leaders, .int 0, .int 0, .int 0, .int (-1)])), (k_errandOf, .inl (cI, 24, .inl ge_1)), (k_sound, .inl (cI, 26, .inl gz_2))]) (win := [(o, .inr (3, [.ref p_tape, .int 0, .int p_kind, .int p_start, .int 0, .int (-1)])), (p_tape, .inr (7, [.ref tp_bytes, .int 0]))]) hP hD hS hA [0, 1] [2, 3, 4] rfl rfl (by decide) (by decide) (va_runV (As := []) (rest := []) ⟨hx, hb, hml, hown, hts⟩ (c_X3_step l D cB cI cJ cS cZ cO H.size o p_tape p_kind p_start (-1) tp_bytes ) (cwV 0 hts gX3_reads_X3_step rfl rfl rfl (by decide +kernel) ⟨Nat.le_of_ble_eq_true rfl, Nat.le_of_ble_eq_true rfl⟩) (xPreV (win := [(o, .inr (3, [.ref p_tape, .int 0, .int p_kind, .int p_start, .int 0, .int (-1)])), (p_tape, .inr (7, [.ref tp_bytes, .int 0]))]) hN hK hP hD [0, 1] (by decide) rfl 0 3 rfl rfl rfl) rfl rfl hl.1 rfl (lv_room (Nat.le_of_ble_eq_true rfl)) dX3_reads_20 ⟨Nat.le_of_ble_eq_true rfl, Nat.le_of_ble_eq_true rfl⟩) (fun w0 H locs hw hP hD hS => ?_)
  subst hw
  have hP : va_P D vwCl [(t, .inr (8, [.ref k_name, .ref k_worth, .ref k_times, .ref k_first, .ref k_second, .ref k_beforeLast, .ref k_last, .ref k_errandOf, .ref k_errandAfter, .ref k_sound, .ref k_followers, .ref k_leaders, .int 0, .int 0, .int 0, .int (-1)])), (k_errandOf, .inl (cI, 24, .inl ge_1)), (k_sound, .inl (cI, 26, .inl gz_2)), (o, .inr (3, [.ref p_tape, .int 0, .int 1, .int 0, .int 0, .int (-1)])), (p_tape, .inr (7, [.ref tp_bytes, .int 0]))] H := hP
  have hD : va_D A [(t, .inr (8, [.ref k_name, .ref k_worth, .ref k_times, .ref k_first, .ref k_second, .ref k_beforeLast, .ref k_last, .ref k_errandOf, .ref k_errandAfter, .ref k_sound, .ref k_followers, .ref k_leaders, .int 0, .int 0, .int 0, .int (-1)])), (k_errandOf, .inl (cI, 24, .inl ge_1)), (k_sound, .inl (cI, 26, .inl gz_2)), (o, .inr (3, [.ref p_tape, .int 0, .int 1, .int 0, .int 0, .int (-1)])), (p_tape, .inr (7, [.ref tp_bytes, .int 0]))] := hD
  refine lv_iconst (v := 0) hx hb dX3_reads_23 (by decide) ?_
  refine lv_istore_n (lv' := [(2, .int 0), (0, .ref o), (1, .ref t)]) hx hb dX3_reads_24 rfl hl (by decide) rfl (fun ls hl => ?_)
  refine lv_iload_n hx hb dX3_reads_25 rfl (lv_at hl 0 rfl) ?_
  refine lv_sipush (v := 1600) hx hb dX3_reads_26 (by decide) ?_
  refine lv_icmp_ge (tgt := 58) hx hb dX3_reads_29 (by decide) (fun c_3 => absurd c_3 (by decide)) (fun c_3 => ?_)
  refine lv_aload_n hx hb dX3_reads_32 rfl (lv_at hl 1 rfl) ?_
  refine va_get (D := D) (ci := 3) (v := .int 1) (C := RX3) (T := TX3) (N := 6) hx hb hts (by decide +kernel) hown hK hP 3 rfl rfl 2 (by decide) (hts (.fieldLink RX3 33 "LastLetter$Reader" "kind" "I") (by decide +kernel)) (fun _ h9 => h9) rfl dX3_reads_33 ?_
  refine lv_iconst (v := 1) hx hb dX3_reads_36 (by decide) ?_
  refine lv_icmp_eq (tgt := 58) hx hb dX3_reads_37 (by decide) (fun c_4 => ?_) (fun c_4 => absurd (by decide) c_4)
  refine lv_aload_n hx hb dX3_reads_58 rfl (lv_at hl 1 rfl) ?_
  refine va_get (D := D) (ci := 3) (v := .int 0) (C := RX3) (T := TX3) (N := 6) hx hb hts (by decide +kernel) hown hK hP 3 rfl rfl 4 (by decide) (hts (.fieldLink RX3 24 "LastLetter$Reader" "fault" "I") (by decide +kernel)) (fun _ h9 => h9) rfl dX3_reads_59 ?_
  refine lv_if_ne (tgt := 69) hx hb dX3_reads_62 (by decide) (fun c_5 => absurd c_5 (by decide)) (fun c_5 => ?_)
  refine lv_iconst (v := 1) hx hb dX3_reads_65 (by decide) ?_
  refine lv_goto (tgt := 70) hx hb dX3_reads_66 (by decide) ?_
  have hP9 := hP.sub (ws' := [(o, .inr (3, [.ref p_tape, .int 0, .int 1, .int 0, .int 0, .int (-1)])), (p_tape, .inr (7, [.ref tp_bytes, .int 0])), (t, .inr (8, [.ref k_name, .ref k_worth, .ref k_times, .ref k_first, .ref k_second, .ref k_beforeLast, .ref k_last, .ref k_errandOf, .ref k_errandAfter, .ref k_sound, .ref k_followers, .ref k_leaders, .int 0, .int 0, .int 0, .int (-1)])), (k_errandOf, .inl (cI, 24, .inl ge_1)), (k_sound, .inl (cI, 26, .inl gz_2))]) [3, 4, 0, 1, 2] rfl
  have hD9 := hD.sub (ws' := [(o, .inr (3, [.ref p_tape, .int 0, .int 1, .int 0, .int 0, .int (-1)])), (p_tape, .inr (7, [.ref tp_bytes, .int 0])), (t, .inr (8, [.ref k_name, .ref k_worth, .ref k_times, .ref k_first, .ref k_second, .ref k_beforeLast, .ref k_last, .ref k_errandOf, .ref k_errandAfter, .ref k_sound, .ref k_followers, .ref k_leaders, .int 0, .int 0, .int 0, .int (-1)])), (k_errandOf, .inl (cI, 24, .inl ge_1)), (k_sound, .inl (cI, 26, .inl gz_2))]) [3, 4, 0, 1, 2] (by decide) rfl
  refine W.widen (k := 0) (n := 0) (Nat.le_of_ble_eq_true rfl) (Nat.le_of_ble_eq_true rfl) ?_
  exact W.zret (v := 1) hx hb hr (by decide) (fun tz htz hWz => ⟨⟨1, [(o, .inr (3, [.ref p_tape, .int 0, .int 1, .int 0, .int 0, .int (-1)])), (p_tape, .inr (7, [.ref tp_bytes, .int 0])), (t, .inr (8, [.ref k_name, .ref k_worth, .ref k_times, .ref k_first, .ref k_second, .ref k_beforeLast, .ref k_last, .ref k_errandOf, .ref k_errandAfter, .ref k_sound, .ref k_followers, .ref k_leaders, .int 0, .int 0, .int 0, .int (-1)])), (k_errandOf, .inl (cI, 24, .inl ge_1)), (k_sound, .inl (cI, 26, .inl gz_2))], rfl, ⟨ge_1, gz_2, rfl, rfl⟩, by rw [htz]; exact hP9, va_K.moved hWz.alike hK, hD9⟩, hS.F htz⟩) hS.2.2 dX3_reads_70

set_option maxHeartbeats 4000000 in
set_option maxRecDepth 100000 in
theorem c_X8_link (l : Launch) (D : va_G) (cB cI cJ cS cZ cO : ClassId) (sz : Nat) (o : Nat) (k_name : Nat) (k_worth : Nat) (k_times : Nat) (k_first : Nat) (k_second : Nat) (k_beforeLast : Nat) (k_last : Nat) (k_errandOf : Nat) (k_errandAfter : Nat) (k_sound : Nat) (k_followers : Nat) (k_leaders : Nat) (k_errands : Int32) (k_alikes : Int32) (k_law : Int32) (f1 : Nat → Int32) (f2 : Nat → Int32) : Met l yX8_link wsX8_link ({ frames := 1, cells := 0, slots := 0, locals := 23 }) (xPre D (tyL cB cI cJ cS cZ cO) [(o, .inr (8, [.ref k_name, .ref k_worth, .ref k_times, .ref k_first, .ref k_second, .ref k_beforeLast, .ref k_last, .ref k_errandOf, .ref k_errandAfter, .ref k_sound, .ref k_followers, .ref k_leaders, .int 0, .int k_errands, .int k_alikes, .int k_law])), (k_followers, .inl (cI, 24, .inl f1)), (k_leaders, .inl (cI, 24, .inl f2))] sz [.ref o]) (xQv D (tyL cB cI cJ cS cZ cO) (va_A [(o, .inr (8, [.ref k_name, .ref k_worth, .ref k_times, .ref k_first, .ref k_second, .ref k_beforeLast, .ref k_last, .ref k_errandOf, .ref k_errandAfter, .ref k_sound, .ref k_followers, .ref k_leaders, .int 0, .int k_errands, .int k_alikes, .int k_law])), (k_followers, .inl (cI, 24, .inl f1)), (k_leaders, .inl (cI, 24, .inl f2))] sz) (fun u : va_W => u = [(o, .inr (8, [.ref k_name, .ref k_worth, .ref k_times, .ref k_first, .ref k_second, .ref k_beforeLast, .ref k_last, .ref k_errandOf, .ref k_errandAfter, .ref k_sound, .ref k_followers, .ref k_leaders, .int 0, .int k_errands, .int k_alikes, .int k_law]))])) 0 0 (va_A [(o, .inr (8, [.ref k_name, .ref k_worth, .ref k_times, .ref k_first, .ref k_second, .ref k_beforeLast, .ref k_last, .ref k_errandOf, .ref k_errandAfter, .ref k_sound, .ref k_followers, .ref k_leaders, .int 0, .int k_errands, .int k_alikes, .int k_law])), (k_followers, .inl (cI, 24, .inl f1)), (k_leaders, .inl (cI, 24, .inl f2))] sz) := by
  refine Met.ofW (cc := cX8_link) (maxL := 3) (ret := none) (by decide) rfl ?_
  intro p e s m args below meth c s₁ B hml hv
  obtain ⟨rfl, hsz, hP, hK, hD0, hN⟩ := hv
  have hx := B.exec
  have hb := B.bytes
  have hr := B.returns
  have hts := atoms_spec (ws := wsX8_link) B.pre
  have hown : s.vm.findClass RX8 = some m.cls := findClass_of_methodNamed B.named
  have hlocks := B.notSynchronized
  subst hsz
  have hD := hD0.self (sz := s.heap.size)
  generalize hAe : va_A [(o, .inr (8, [.ref k_name, .ref k_worth, .ref k_times, .ref k_first, .ref k_second, .ref k_beforeLast, .ref k_last, .ref k_errandOf, .ref k_errandAfter, .ref k_sound, .ref k_followers, .ref k_leaders, .int 0, .int k_errands, .int k_alikes, .int k_law])), (k_followers, .inl (cI, 24, .inl f1)), (k_leaders, .inl (cI, 24, .inl f2))] s.heap.size = A at hD ⊢
  have hA : ∀ q : Nat, s.heap.size ≤ q → A q := fun q h => by rw [← hAe]; exact Or.inr h
  have hS : va_S A s.heap s.heap [] := va_S.rf
  have hP : va_P D vwCl [(o, .inr (8, [.ref k_name, .ref k_worth, .ref k_times, .ref k_first, .ref k_second, .ref k_beforeLast, .ref k_last, .ref k_errandOf, .ref k_errandAfter, .ref k_sound, .ref k_followers, .ref k_leaders, .int 0, .int k_errands, .int k_alikes, .int k_law])), (k_followers, .inl (cI, 24, .inl f1)), (k_leaders, .inl (cI, 24, .inl f2))] s.heap := hP
  have hl := lv_entry ([.ref o]) (n := 3) (Nat.le_of_ble_eq_true rfl)
  rw [lg_entry_eq]
  generalize (lg_sl ([.ref o]) ++ List.replicate (3 - (lg_sl ([.ref o])).length) Slot.unset).toArray = ls at hl ⊢
  have hl : lv_has ls 3 [(0, .ref o)] := hl
  refine lv_aload_n hx hb dX8_link_0 rfl (lv_at hl 0 rfl) ?_
  refine va_get (D := D) (ci := 8) (v := .ref k_followers) (C := RX8) (T := TX8) (N := 16) hx hb hts (by decide +kernel) hown hK hP 0 rfl rfl 10 (by decide) (hts (.fieldLink RX8 43 "LastLetter$Tongue" "followers" "[I") (by decide +kernel)) (fun _ h9 => h9) rfl dX8_link_1 ?_
  refine lv_iconst (v := 0) hx hb dX8_link_4 (by decide) ?_
  refine xCv (wr := [(o, .inr (8, [.ref k_name, .ref k_worth, .ref k_times, .ref k_first, .ref k_second, .ref k_beforeLast, .ref k_last, .ref k_errandOf, .ref k_errandAfter, .ref k_sound, .ref k_followers, .ref k_leaders, .int 0, .int k_errands, .int k_alikes, .int k_law])), (k_leaders, .inl (cI, 24, .inl f2))]) (win := [(k_followers, .inl (cI, 24, .inl f1))]) hP hD hS hA [1] [0, 2] rfl rfl (by decide) (by decide) (va_runS (As := [.ref k_followers, .int 0]) (rest := []) ⟨hx, hb, hml, hown, hts⟩ (c_J7_fill_53178 l D cB cI cJ cS cZ cO s.heap.size k_followers 0 24 f1 (by decide)) (va_cwS 2 hts gX8_link_J7_fill_53178 rfl rfl rfl (by decide +kernel) ⟨Nat.le_of_ble_eq_true rfl, Nat.le_of_ble_eq_true rfl⟩) (xPreS (win := [(k_followers, .inl (cI, 24, .inl f1))]) hN hK hP hD [1] (by decide) rfl) rfl rfl hl.1 rfl (lv_room (Nat.le_of_ble_eq_true rfl)) dX8_link_5 ⟨Nat.le_of_ble_eq_true rfl, Nat.le_of_ble_eq_true rfl⟩) (fun w0 H locs hw hP hD hS => ?_)
  obtain ⟨g_1, rfl, hf_2⟩ := hw
  have hP : va_P D vwCl [(o, .inr (8, [.ref k_name, .ref k_worth, .ref k_times, .ref k_first, .ref k_second, .ref k_beforeLast, .ref k_last, .ref k_errandOf, .ref k_errandAfter, .ref k_sound, .ref k_followers, .ref k_leaders, .int 0, .int k_errands, .int k_alikes, .int k_law])), (k_leaders, .inl (cI, 24, .inl f2)), (k_followers, .inl (cI, 24, .inl g_1))] H := hP
  have hD : va_D A [(o, .inr (8, [.ref k_name, .ref k_worth, .ref k_times, .ref k_first, .ref k_second, .ref k_beforeLast, .ref k_last, .ref k_errandOf, .ref k_errandAfter, .ref k_sound, .ref k_followers, .ref k_leaders, .int 0, .int k_errands, .int k_alikes, .int k_law])), (k_leaders, .inl (cI, 24, .inl f2)), (k_followers, .inl (cI, 24, .inl g_1))] := hD
  refine lv_aload_n hx hb dX8_link_8 rfl (lv_at hl 0 rfl) ?_
  refine va_get (D := D) (ci := 8) (v := .ref k_leaders) (C := RX8) (T := TX8) (N := 16) hx hb hts (by decide +kernel) hown hK hP 0 rfl rfl 11 (by decide) (hts (.fieldLink RX8 46 "LastLetter$Tongue" "leaders" "[I") (by decide +kernel)) (fun _ h9 => h9) rfl dX8_link_9 ?_
  refine lv_iconst (v := 0) hx hb dX8_link_12 (by decide) ?_
  refine xCv (wr := [(o, .inr (8, [.ref k_name, .ref k_worth, .ref k_times, .ref k_first, .ref k_second, .ref k_beforeLast, .ref k_last, .ref k_errandOf, .ref k_errandAfter, .ref k_sound, .ref k_followers, .ref k_leaders, .int 0, .int k_errands, .int k_alikes, .int k_law])), (k_followers, .inl (cI, 24, .inl g_1))]) (win := [(k_leaders, .inl (cI, 24, .inl f2))]) hP hD hS hA [1] [0, 2] rfl rfl (by decide) (by decide) (va_runS (As := [.ref k_leaders, .int 0]) (rest := []) ⟨hx, hb, hml, hown, hts⟩ (c_J7_fill_53178 l D cB cI cJ cS cZ cO H.size k_leaders 0 24 f2 (by decide)) (va_cwS 2 hts gX8_link_J7_fill_53178 rfl rfl rfl (by decide +kernel) ⟨Nat.le_of_ble_eq_true rfl, Nat.le_of_ble_eq_true rfl⟩) (xPreS (win := [(k_leaders, .inl (cI, 24, .inl f2))]) hN hK hP hD [1] (by decide) rfl) rfl rfl hl.1 rfl (lv_room (Nat.le_of_ble_eq_true rfl)) dX8_link_13 ⟨Nat.le_of_ble_eq_true rfl, Nat.le_of_ble_eq_true rfl⟩) (fun w0 H locs hw hP hD hS => ?_)
  obtain ⟨g_3, rfl, hf_4⟩ := hw
  have hP : va_P D vwCl [(o, .inr (8, [.ref k_name, .ref k_worth, .ref k_times, .ref k_first, .ref k_second, .ref k_beforeLast, .ref k_last, .ref k_errandOf, .ref k_errandAfter, .ref k_sound, .ref k_followers, .ref k_leaders, .int 0, .int k_errands, .int k_alikes, .int k_law])), (k_followers, .inl (cI, 24, .inl g_1)), (k_leaders, .inl (cI, 24, .inl g_3))] H := hP
  have hD : va_D A [(o, .inr (8, [.ref k_name, .ref k_worth, .ref k_times, .ref k_first, .ref k_second, .ref k_beforeLast, .ref k_last, .ref k_errandOf, .ref k_errandAfter, .ref k_sound, .ref k_followers, .ref k_leaders, .int 0, .int k_errands, .int k_alikes, .int k_law])), (k_followers, .inl (cI, 24, .inl g_1)), (k_leaders, .inl (cI, 24, .inl g_3))] := hD
  refine lv_iconst (v := 0) hx hb dX8_link_16 (by decide) ?_
  refine lv_istore_n (lv' := [(1, .int 0), (0, .ref o)]) hx hb dX8_link_17 rfl hl (by decide) rfl (fun ls hl => ?_)
  refine lv_iload_n hx hb dX8_link_18 rfl (lv_at hl 0 rfl) ?_
  refine lv_aload_n hx hb dX8_link_19 rfl (lv_at hl 1 rfl) ?_
  refine va_get (D := D) (ci := 8) (v := .int 0) (C := RX8) (T := TX8) (N := 16) hx hb hts (by decide +kernel) hown hK hP 0 rfl rfl 12 (by decide) (hts (.fieldLink RX8 52 "LastLetter$Tongue" "words" "I") (by decide +kernel)) (fun _ h9 => h9) rfl dX8_link_20 ?_
  refine lv_icmp_ge (tgt := 81) hx hb dX8_link_23 (by decide) (fun c_5 => ?_) (fun c_5 => absurd (by decide) c_5)
  have hP9 := hP.sub (ws' := [(o, .inr (8, [.ref k_name, .ref k_worth, .ref k_times, .ref k_first, .ref k_second, .ref k_beforeLast, .ref k_last, .ref k_errandOf, .ref k_errandAfter, .ref k_sound, .ref k_followers, .ref k_leaders, .int 0, .int k_errands, .int k_alikes, .int k_law]))]) [0] rfl
  have hD9 := hD.sub (ws' := [(o, .inr (8, [.ref k_name, .ref k_worth, .ref k_times, .ref k_first, .ref k_second, .ref k_beforeLast, .ref k_last, .ref k_errandOf, .ref k_errandAfter, .ref k_sound, .ref k_followers, .ref k_leaders, .int 0, .int k_errands, .int k_alikes, .int k_law]))]) [0] (by decide) rfl
  refine W.widen (k := 0) (n := 0) (Nat.le_of_ble_eq_true rfl) (Nat.le_of_ble_eq_true rfl) ?_
  exact W.vret hx hb hr (fun tz htz hWz => ⟨⟨[(o, .inr (8, [.ref k_name, .ref k_worth, .ref k_times, .ref k_first, .ref k_second, .ref k_beforeLast, .ref k_last, .ref k_errandOf, .ref k_errandAfter, .ref k_sound, .ref k_followers, .ref k_leaders, .int 0, .int k_errands, .int k_alikes, .int k_law]))], rfl, rfl, by rw [htz]; exact hP9, va_K.moved hWz.alike hK, hD9⟩, hS.F htz⟩) hS.2.2 dX8_link_81

set_option maxHeartbeats 4000000 in
set_option maxRecDepth 100000 in
theorem c_X2_forget (l : Launch) (D : va_G) (cB cI cJ cS cZ cO : ClassId) (sz : Nat) (o : Nat) (p_breaks : Nat) (p_starts : Nat) (p_worths : Nat) (p_closing : Nat) (p_isKnown : Int32) (p_isClosingKnown : Int32) : Met l yX2_forget wsX2_forget ({ frames := 0, cells := 0, slots := 0, locals := 0 }) (xPre D (tyL cB cI cJ cS cZ cO) [(o, .inr (2, [.ref p_breaks, .ref p_starts, .ref p_worths, .ref p_closing, .int p_isKnown, .int p_isClosingKnown]))] sz [.ref o]) (xQv D (tyL cB cI cJ cS cZ cO) (va_A [(o, .inr (2, [.ref p_breaks, .ref p_starts, .ref p_worths, .ref p_closing, .int p_isKnown, .int p_isClosingKnown]))] sz) (fun u : va_W => u = [(o, .inr (2, [.ref p_breaks, .ref p_starts, .ref p_worths, .ref p_closing, .int 0, .int 0]))])) 0 0 (va_A [(o, .inr (2, [.ref p_breaks, .ref p_starts, .ref p_worths, .ref p_closing, .int p_isKnown, .int p_isClosingKnown]))] sz) := by
  refine Met.ofW (cc := cX2_forget) (maxL := 1) (ret := none) (by decide) rfl ?_
  intro p e s m args below meth c s₁ B hml hv
  obtain ⟨rfl, hsz, hP, hK, hD0, hN⟩ := hv
  have hx := B.exec
  have hb := B.bytes
  have hr := B.returns
  have hts := atoms_spec (ws := wsX2_forget) B.pre
  have hown : s.vm.findClass RX2 = some m.cls := findClass_of_methodNamed B.named
  have hlocks := B.notSynchronized
  subst hsz
  have hD := hD0.self (sz := s.heap.size)
  generalize hAe : va_A [(o, .inr (2, [.ref p_breaks, .ref p_starts, .ref p_worths, .ref p_closing, .int p_isKnown, .int p_isClosingKnown]))] s.heap.size = A at hD ⊢
  have hA : ∀ q : Nat, s.heap.size ≤ q → A q := fun q h => by rw [← hAe]; exact Or.inr h
  have hS : va_S A s.heap s.heap [] := va_S.rf
  have hP : va_P D vwCl [(o, .inr (2, [.ref p_breaks, .ref p_starts, .ref p_worths, .ref p_closing, .int p_isKnown, .int p_isClosingKnown]))] s.heap := hP
  have hl := lv_entry ([.ref o]) (n := 1) (Nat.le_of_ble_eq_true rfl)
  rw [lg_entry_eq]
  generalize (lg_sl ([.ref o]) ++ List.replicate (1 - (lg_sl ([.ref o])).length) Slot.unset).toArray = ls at hl ⊢
  have hl : lv_has ls 1 [(0, .ref o)] := hl
  refine lv_aload_n hx hb dX2_forget_0 rfl (lv_at hl 0 rfl) ?_
  refine lv_iconst (v := 0) hx hb dX2_forget_1 (by decide) ?_
  refine va_put (D := D) (ci := 2) (v := .int 0) (ty := .boolean) (C := RX2) (T := TX2) (N := 6) hx hb hts (by decide +kernel) tyX2 tyX2_ok nmX2 hown hK hP hD hS 0 rfl rfl 4 (by decide) (hts (.fieldLink RX2 25 "LastLetter$Orders" "isKnown" "Z") (by decide +kernel)) (fun _ h9 => h9) rfl (by decide +kernel) rfl rfl (Nat.le_of_ble_eq_true rfl) dX2_forget_2 (fun H locs hP hD hS => ?_)
  have hP : va_P D vwCl [(o, .inr (2, [.ref p_breaks, .ref p_starts, .ref p_worths, .ref p_closing, .int 0, .int p_isClosingKnown]))] H := hP
  have hD : va_D A [(o, .inr (2, [.ref p_breaks, .ref p_starts, .ref p_worths, .ref p_closing, .int 0, .int p_isClosingKnown]))] := hD
  refine lv_aload_n hx hb dX2_forget_5 rfl (lv_at hl 0 rfl) ?_
  refine lv_iconst (v := 0) hx hb dX2_forget_6 (by decide) ?_
  refine va_put (D := D) (ci := 2) (v := .int 0) (ty := .boolean) (C := RX2) (T := TX2) (N := 6) hx hb hts (by decide +kernel) tyX2 tyX2_ok nmX2 hown hK hP hD hS 0 rfl rfl 5 (by decide) (hts (.fieldLink RX2 29 "LastLetter$Orders" "isClosingKnown" "Z") (by decide +kernel)) (fun _ h9 => h9) rfl (by decide +kernel) rfl rfl (Nat.le_of_ble_eq_true rfl) dX2_forget_7 (fun H locs hP hD hS => ?_)
  have hP : va_P D vwCl [(o, .inr (2, [.ref p_breaks, .ref p_starts, .ref p_worths, .ref p_closing, .int 0, .int 0]))] H := hP
  have hD : va_D A [(o, .inr (2, [.ref p_breaks, .ref p_starts, .ref p_worths, .ref p_closing, .int 0, .int 0]))] := hD
  have hP9 := hP.sub (ws' := [(o, .inr (2, [.ref p_breaks, .ref p_starts, .ref p_worths, .ref p_closing, .int 0, .int 0]))]) [0] rfl
  have hD9 := hD.sub (ws' := [(o, .inr (2, [.ref p_breaks, .ref p_starts, .ref p_worths, .ref p_closing, .int 0, .int 0]))]) [0] (by decide) rfl
  refine W.widen (k := 0) (n := 0) (Nat.le_of_ble_eq_true rfl) (Nat.le_of_ble_eq_true rfl) ?_
  exact W.vret hx hb hr (fun tz htz hWz => ⟨⟨[(o, .inr (2, [.ref p_breaks, .ref p_starts, .ref p_worths, .ref p_closing, .int 0, .int 0]))], rfl, rfl, by rw [htz]; exact hP9, va_K.moved hWz.alike hK, hD9⟩, hS.F htz⟩) hS.2.2 dX2_forget_10

set_option maxHeartbeats 4000000 in
set_option maxRecDepth 100000 in
theorem c_X0_forget (l : Launch) (D : va_G) (cB cI cJ cS cZ cO : ClassId) (sz : Nat) (o : Nat) (p_won : Nat) (p_depths : Nat) (p_gains : Nat) (p_isWonKnown : Int32) (p_isDepthKnown : Int32) (p_isGainKnown : Int32) : Met l yX0_forget wsX0_forget ({ frames := 0, cells := 0, slots := 0, locals := 0 }) (xPre D (tyL cB cI cJ cS cZ cO) [(o, .inr (0, [.ref p_won, .ref p_depths, .ref p_gains, .int p_isWonKnown, .int p_isDepthKnown, .int p_isGainKnown]))] sz [.ref o]) (xQv D (tyL cB cI cJ cS cZ cO) (va_A [(o, .inr (0, [.ref p_won, .ref p_depths, .ref p_gains, .int p_isWonKnown, .int p_isDepthKnown, .int p_isGainKnown]))] sz) (fun u : va_W => u = [(o, .inr (0, [.ref p_won, .ref p_depths, .ref p_gains, .int 0, .int 0, .int 0]))])) 0 0 (va_A [(o, .inr (0, [.ref p_won, .ref p_depths, .ref p_gains, .int p_isWonKnown, .int p_isDepthKnown, .int p_isGainKnown]))] sz) := by
  refine Met.ofW (cc := cX0_forget) (maxL := 1) (ret := none) (by decide) rfl ?_
  intro p e s m args below meth c s₁ B hml hv
  obtain ⟨rfl, hsz, hP, hK, hD0, hN⟩ := hv
  have hx := B.exec
  have hb := B.bytes
  have hr := B.returns
  have hts := atoms_spec (ws := wsX0_forget) B.pre
  have hown : s.vm.findClass RX0 = some m.cls := findClass_of_methodNamed B.named
  have hlocks := B.notSynchronized
  subst hsz
  have hD := hD0.self (sz := s.heap.size)
  generalize hAe : va_A [(o, .inr (0, [.ref p_won, .ref p_depths, .ref p_gains, .int p_isWonKnown, .int p_isDepthKnown, .int p_isGainKnown]))] s.heap.size = A at hD ⊢
  have hA : ∀ q : Nat, s.heap.size ≤ q → A q := fun q h => by rw [← hAe]; exact Or.inr h
  have hS : va_S A s.heap s.heap [] := va_S.rf
  have hP : va_P D vwCl [(o, .inr (0, [.ref p_won, .ref p_depths, .ref p_gains, .int p_isWonKnown, .int p_isDepthKnown, .int p_isGainKnown]))] s.heap := hP
  have hl := lv_entry ([.ref o]) (n := 1) (Nat.le_of_ble_eq_true rfl)
  rw [lg_entry_eq]
  generalize (lg_sl ([.ref o]) ++ List.replicate (1 - (lg_sl ([.ref o])).length) Slot.unset).toArray = ls at hl ⊢
  have hl : lv_has ls 1 [(0, .ref o)] := hl
  refine lv_aload_n hx hb dX0_forget_0 rfl (lv_at hl 0 rfl) ?_
  refine lv_iconst (v := 0) hx hb dX0_forget_1 (by decide) ?_
  refine va_put (D := D) (ci := 0) (v := .int 0) (ty := .boolean) (C := RX0) (T := TX0) (N := 6) hx hb hts (by decide +kernel) tyX0 tyX0_ok nmX0 hown hK hP hD hS 0 rfl rfl 3 (by decide) (hts (.fieldLink RX0 23 "LastLetter$Games" "isWonKnown" "Z") (by decide +kernel)) (fun _ h9 => h9) rfl (by decide +kernel) rfl rfl (Nat.le_of_ble_eq_true rfl) dX0_forget_2 (fun H locs hP hD hS => ?_)
  have hP : va_P D vwCl [(o, .inr (0, [.ref p_won, .ref p_depths, .ref p_gains, .int 0, .int p_isDepthKnown, .int p_isGainKnown]))] H := hP
  have hD : va_D A [(o, .inr (0, [.ref p_won, .ref p_depths, .ref p_gains, .int 0, .int p_isDepthKnown, .int p_isGainKnown]))] := hD
  refine lv_aload_n hx hb dX0_forget_5 rfl (lv_at hl 0 rfl) ?_
  refine lv_iconst (v := 0) hx hb dX0_forget_6 (by decide) ?_
  refine va_put (D := D) (ci := 0) (v := .int 0) (ty := .boolean) (C := RX0) (T := TX0) (N := 6) hx hb hts (by decide +kernel) tyX0 tyX0_ok nmX0 hown hK hP hD hS 0 rfl rfl 4 (by decide) (hts (.fieldLink RX0 27 "LastLetter$Games" "isDepthKnown" "Z") (by decide +kernel)) (fun _ h9 => h9) rfl (by decide +kernel) rfl rfl (Nat.le_of_ble_eq_true rfl) dX0_forget_7 (fun H locs hP hD hS => ?_)
  have hP : va_P D vwCl [(o, .inr (0, [.ref p_won, .ref p_depths, .ref p_gains, .int 0, .int 0, .int p_isGainKnown]))] H := hP
  have hD : va_D A [(o, .inr (0, [.ref p_won, .ref p_depths, .ref p_gains, .int 0, .int 0, .int p_isGainKnown]))] := hD
  refine lv_aload_n hx hb dX0_forget_10 rfl (lv_at hl 0 rfl) ?_
  refine lv_iconst (v := 0) hx hb dX0_forget_11 (by decide) ?_
  refine va_put (D := D) (ci := 0) (v := .int 0) (ty := .boolean) (C := RX0) (T := TX0) (N := 6) hx hb hts (by decide +kernel) tyX0 tyX0_ok nmX0 hown hK hP hD hS 0 rfl rfl 5 (by decide) (hts (.fieldLink RX0 30 "LastLetter$Games" "isGainKnown" "Z") (by decide +kernel)) (fun _ h9 => h9) rfl (by decide +kernel) rfl rfl (Nat.le_of_ble_eq_true rfl) dX0_forget_12 (fun H locs hP hD hS => ?_)
  have hP : va_P D vwCl [(o, .inr (0, [.ref p_won, .ref p_depths, .ref p_gains, .int 0, .int 0, .int 0]))] H := hP
  have hD : va_D A [(o, .inr (0, [.ref p_won, .ref p_depths, .ref p_gains, .int 0, .int 0, .int 0]))] := hD
  have hP9 := hP.sub (ws' := [(o, .inr (0, [.ref p_won, .ref p_depths, .ref p_gains, .int 0, .int 0, .int 0]))]) [0] rfl
  have hD9 := hD.sub (ws' := [(o, .inr (0, [.ref p_won, .ref p_depths, .ref p_gains, .int 0, .int 0, .int 0]))]) [0] (by decide) rfl
  refine W.widen (k := 0) (n := 0) (Nat.le_of_ble_eq_true rfl) (Nat.le_of_ble_eq_true rfl) ?_
  exact W.vret hx hb hr (fun tz htz hWz => ⟨⟨[(o, .inr (0, [.ref p_won, .ref p_depths, .ref p_gains, .int 0, .int 0, .int 0]))], rfl, rfl, by rw [htz]; exact hP9, va_K.moved hWz.alike hK, hD9⟩, hS.F htz⟩) hS.2.2 dX0_forget_15

set_option maxHeartbeats 4000000 in
set_option maxRecDepth 100000 in
theorem c_X2_learn_0 (l : Launch) (D : va_G) (cB cI cJ cS cZ cO : ClassId) (sz : Nat) (o : Nat) (t : Nat) (p_breaks : Nat) (p_starts : Nat) (p_worths : Nat) (p_closing : Nat) (p_isClosingKnown : Int32) (k_name : Nat) (k_worth : Nat) (k_times : Nat) (k_first : Nat) (k_second : Nat) (k_beforeLast : Nat) (k_last : Nat) (k_errandOf : Nat) (k_errandAfter : Nat) (k_sound : Nat) (k_followers : Nat) (k_leaders : Nat) (k_errands : Int32) (k_alikes : Int32) (k_law : Int32) (f1 : Nat → Int32) (f2 : Nat → Int32) : Met l yX2_learn wsX2_learn ({ frames := 0, cells := 0, slots := 0, locals := 0 }) (xPre D (tyL cB cI cJ cS cZ cO) [(o, .inr (2, [.ref p_breaks, .ref p_starts, .ref p_worths, .ref p_closing, .int 0, .int p_isClosingKnown])), (t, .inr (8, [.ref k_name, .ref k_worth, .ref k_times, .ref k_first, .ref k_second, .ref k_beforeLast, .ref k_last, .ref k_errandOf, .ref k_errandAfter, .ref k_sound, .ref k_followers, .ref k_leaders, .int 0, .int k_errands, .int k_alikes, .int k_law])), (p_breaks, .inl (cB, 1, .inl f1)), (p_worths, .inl (cI, 1, .inl f2))] sz [.ref o, .ref t]) (xQv D (tyL cB cI cJ cS cZ cO) (va_A [(o, .inr (2, [.ref p_breaks, .ref p_starts, .ref p_worths, .ref p_closing, .int 0, .int p_isClosingKnown])), (t, .inr (8, [.ref k_name, .ref k_worth, .ref k_times, .ref k_first, .ref k_second, .ref k_beforeLast, .ref k_last, .ref k_errandOf, .ref k_errandAfter, .ref k_sound, .ref k_followers, .ref k_leaders, .int 0, .int k_errands, .int k_alikes, .int k_law])), (p_breaks, .inl (cB, 1, .inl f1)), (p_worths, .inl (cI, 1, .inl f2))] sz) (fun u : va_W => ∃ g1 : Nat → Int32, ∃ g2 : Nat → Int32, u = [(o, .inr (2, [.ref p_breaks, .ref p_starts, .ref p_worths, .ref p_closing, .int 1, .int p_isClosingKnown])), (t, .inr (8, [.ref k_name, .ref k_worth, .ref k_times, .ref k_first, .ref k_second, .ref k_beforeLast, .ref k_last, .ref k_errandOf, .ref k_errandAfter, .ref k_sound, .ref k_followers, .ref k_leaders, .int 0, .int k_errands, .int k_alikes, .int k_law])), (p_breaks, .inl (cB, 1, .inl g1)), (p_worths, .inl (cI, 1, .inl g2))] ∧ g1 0 = 0)) 0 0 (va_A [(o, .inr (2, [.ref p_breaks, .ref p_starts, .ref p_worths, .ref p_closing, .int 0, .int p_isClosingKnown])), (t, .inr (8, [.ref k_name, .ref k_worth, .ref k_times, .ref k_first, .ref k_second, .ref k_beforeLast, .ref k_last, .ref k_errandOf, .ref k_errandAfter, .ref k_sound, .ref k_followers, .ref k_leaders, .int 0, .int k_errands, .int k_alikes, .int k_law])), (p_breaks, .inl (cB, 1, .inl f1)), (p_worths, .inl (cI, 1, .inl f2))] sz) := by
  refine Met.ofW (cc := cX2_learn) (maxL := 4) (ret := none) (by decide) rfl ?_
  intro p e s m args below meth c s₁ B hml hv
  obtain ⟨rfl, hsz, hP, hK, hD0, hN⟩ := hv
  have hx := B.exec
  have hb := B.bytes
  have hr := B.returns
  have hts := atoms_spec (ws := wsX2_learn) B.pre
  have hown : s.vm.findClass RX2 = some m.cls := findClass_of_methodNamed B.named
  have hlocks := B.notSynchronized
  subst hsz
  have hD := hD0.self (sz := s.heap.size)
  generalize hAe : va_A [(o, .inr (2, [.ref p_breaks, .ref p_starts, .ref p_worths, .ref p_closing, .int 0, .int p_isClosingKnown])), (t, .inr (8, [.ref k_name, .ref k_worth, .ref k_times, .ref k_first, .ref k_second, .ref k_beforeLast, .ref k_last, .ref k_errandOf, .ref k_errandAfter, .ref k_sound, .ref k_followers, .ref k_leaders, .int 0, .int k_errands, .int k_alikes, .int k_law])), (p_breaks, .inl (cB, 1, .inl f1)), (p_worths, .inl (cI, 1, .inl f2))] s.heap.size = A at hD ⊢
  have hA : ∀ q : Nat, s.heap.size ≤ q → A q := fun q h => by rw [← hAe]; exact Or.inr h
  have hS : va_S A s.heap s.heap [] := va_S.rf
  have hP : va_P D vwCl [(o, .inr (2, [.ref p_breaks, .ref p_starts, .ref p_worths, .ref p_closing, .int 0, .int p_isClosingKnown])), (t, .inr (8, [.ref k_name, .ref k_worth, .ref k_times, .ref k_first, .ref k_second, .ref k_beforeLast, .ref k_last, .ref k_errandOf, .ref k_errandAfter, .ref k_sound, .ref k_followers, .ref k_leaders, .int 0, .int k_errands, .int k_alikes, .int k_law])), (p_breaks, .inl (cB, 1, .inl f1)), (p_worths, .inl (cI, 1, .inl f2))] s.heap := hP
  have hl := lv_entry ([.ref o, .ref t]) (n := 4) (Nat.le_of_ble_eq_true rfl)
  rw [lg_entry_eq]
  generalize (lg_sl ([.ref o, .ref t]) ++ List.replicate (4 - (lg_sl ([.ref o, .ref t])).length) Slot.unset).toArray = ls at hl ⊢
  have hl : lv_has ls 4 [(0, .ref o), (1, .ref t)] := hl
  refine lv_iconst (v := 1) hx hb dX2_learn_0 (by decide) ?_
  refine lv_aload_n hx hb dX2_learn_1 rfl (lv_at hl 1 rfl) ?_
  refine va_getN (D := D) (ci := 8) (v := .int 0) (C := RX8) (T := TX8) (N := 16) hx hb hts (by decide +kernel) hown hK hP 1 rfl rfl 12 (by decide) (va_Nw.use rfl (hN.1 (RX2, 46, RX8, "words", "I", RX10) (by decide +kernel))) (fun _ h9 => h9) rfl dX2_learn_2 ?_
  refine lv_ishl hx hb dX2_learn_5 ?_
  refine xb_top (y := 1) (by decide) ?_
  refine lv_istore_n (lv' := [(2, .int 1), (0, .ref o), (1, .ref t)]) hx hb dX2_learn_6 rfl hl (by decide) rfl (fun ls hl => ?_)
  refine lv_aload_n hx hb dX2_learn_7 rfl (lv_at hl 1 rfl) ?_
  refine va_get (D := D) (ci := 2) (v := .int 0) (C := RX2) (T := TX2) (N := 6) hx hb hts (by decide +kernel) hown hK hP 0 rfl rfl 4 (by decide) (hts (.fieldLink RX2 25 "LastLetter$Orders" "isKnown" "Z") (by decide +kernel)) (fun _ h9 => h9) rfl dX2_learn_8 ?_
  refine lv_if_eq (tgt := 15) hx hb dX2_learn_11 (by decide) (fun c_1 => ?_) (fun c_1 => absurd (by decide) c_1)
  refine lv_aload_n hx hb dX2_learn_15 rfl (lv_at hl 1 rfl) ?_
  refine va_get (D := D) (ci := 2) (v := .ref p_breaks) (C := RX2) (T := TX2) (N := 6) hx hb hts (by decide +kernel) hown hK hP 0 rfl rfl 0 (by decide) (hts (.fieldLink RX2 9 "LastLetter$Orders" "breaks" "[B") (by decide +kernel)) (fun _ h9 => h9) rfl dX2_learn_16 ?_
  refine va_alen (v := 1) hx hb hK hP 2 0 rfl rfl rfl dX2_learn_19 ?_
  refine lv_iload_n hx hb dX2_learn_20 rfl (lv_at hl 0 rfl) ?_
  refine lv_icmp_ge (tgt := 45) hx hb dX2_learn_21 (by decide) (fun c_2 => ?_) (fun c_2 => absurd (by decide) c_2)
  refine lv_aload_n hx hb dX2_learn_45 rfl (lv_at hl 1 rfl) ?_
  refine va_get (D := D) (ci := 2) (v := .ref p_breaks) (C := RX2) (T := TX2) (N := 6) hx hb hts (by decide +kernel) hown hK hP 0 rfl rfl 0 (by decide) (hts (.fieldLink RX2 9 "LastLetter$Orders" "breaks" "[B") (by decide +kernel)) (fun _ h9 => h9) rfl dX2_learn_46 ?_
  refine lv_iconst (v := 0) hx hb dX2_learn_49 (by decide) ?_
  refine lv_iconst (v := 0) hx hb dX2_learn_50 (by decide) ?_
  refine va_bast hx hb hK hP hD hS 2 0 rfl rfl (by unfold vp_in; decide) dX2_learn_51 (fun H locs hP hD hS => ?_)
  have hP : va_P D vwCl [(o, .inr (2, [.ref p_breaks, .ref p_starts, .ref p_worths, .ref p_closing, .int 0, .int p_isClosingKnown])), (t, .inr (8, [.ref k_name, .ref k_worth, .ref k_times, .ref k_first, .ref k_second, .ref k_beforeLast, .ref k_last, .ref k_errandOf, .ref k_errandAfter, .ref k_sound, .ref k_followers, .ref k_leaders, .int 0, .int k_errands, .int k_alikes, .int k_law])), (p_breaks, .inl (cB, 1, .inl (upd f1 (Int32.toNatClampNeg 0) (vp_nar .byte 0)))), (p_worths, .inl (cI, 1, .inl f2))] H := hP
  have hD : va_D A [(o, .inr (2, [.ref p_breaks, .ref p_starts, .ref p_worths, .ref p_closing, .int 0, .int p_isClosingKnown])), (t, .inr (8, [.ref k_name, .ref k_worth, .ref k_times, .ref k_first, .ref k_second, .ref k_beforeLast, .ref k_last, .ref k_errandOf, .ref k_errandAfter, .ref k_sound, .ref k_followers, .ref k_leaders, .int 0, .int k_errands, .int k_alikes, .int k_law])), (p_breaks, .inl (cB, 1, .inl (upd f1 (Int32.toNatClampNeg 0) (vp_nar .byte 0)))), (p_worths, .inl (cI, 1, .inl f2))] := hD
  generalize eg_3 : upd f1 (Int32.toNatClampNeg 0) (vp_nar .byte 0) = g_3 at hP hD
  refine lv_aload_n hx hb dX2_learn_52 rfl (lv_at hl 1 rfl) ?_
  refine va_get (D := D) (ci := 2) (v := .ref p_worths) (C := RX2) (T := TX2) (N := 6) hx hb hts (by decide +kernel) hown hK hP 0 rfl rfl 2 (by decide) (hts (.fieldLink RX2 19 "LastLetter$Orders" "worths" "[I") (by decide +kernel)) (fun _ h9 => h9) rfl dX2_learn_53 ?_
  refine lv_iconst (v := 0) hx hb dX2_learn_56 (by decide) ?_
  refine lv_iconst (v := 0) hx hb dX2_learn_57 (by decide) ?_
  refine va_iast hx hb hK hP hD hS 3 1 rfl rfl (by unfold vp_in; decide) dX2_learn_58 (fun H locs hP hD hS => ?_)
  have hP : va_P D vwCl [(o, .inr (2, [.ref p_breaks, .ref p_starts, .ref p_worths, .ref p_closing, .int 0, .int p_isClosingKnown])), (t, .inr (8, [.ref k_name, .ref k_worth, .ref k_times, .ref k_first, .ref k_second, .ref k_beforeLast, .ref k_last, .ref k_errandOf, .ref k_errandAfter, .ref k_sound, .ref k_followers, .ref k_leaders, .int 0, .int k_errands, .int k_alikes, .int k_law])), (p_breaks, .inl (cB, 1, .inl g_3)), (p_worths, .inl (cI, 1, .inl (upd f2 (Int32.toNatClampNeg 0) 0)))] H := hP
  have hD : va_D A [(o, .inr (2, [.ref p_breaks, .ref p_starts, .ref p_worths, .ref p_closing, .int 0, .int p_isClosingKnown])), (t, .inr (8, [.ref k_name, .ref k_worth, .ref k_times, .ref k_first, .ref k_second, .ref k_beforeLast, .ref k_last, .ref k_errandOf, .ref k_errandAfter, .ref k_sound, .ref k_followers, .ref k_leaders, .int 0, .int k_errands, .int k_alikes, .int k_law])), (p_breaks, .inl (cB, 1, .inl g_3)), (p_worths, .inl (cI, 1, .inl (upd f2 (Int32.toNatClampNeg 0) 0)))] := hD
  generalize eg_4 : upd f2 (Int32.toNatClampNeg 0) 0 = g_4 at hP hD
  refine lv_iconst (v := 1) hx hb dX2_learn_59 (by decide) ?_
  refine lv_istore_n (lv' := [(3, .int 1), (2, .int 1), (0, .ref o), (1, .ref t)]) hx hb dX2_learn_60 rfl hl (by decide) rfl (fun ls hl => ?_)
  refine lv_iload_n hx hb dX2_learn_61 rfl (lv_at hl 0 rfl) ?_
  refine lv_iload_n hx hb dX2_learn_62 rfl (lv_at hl 1 rfl) ?_
  refine lv_icmp_ge (tgt := 78) hx hb dX2_learn_63 (by decide) (fun c_5 => ?_) (fun c_5 => absurd (by decide) c_5)
  refine lv_aload_n hx hb dX2_learn_78 rfl (lv_at hl 2 rfl) ?_
  refine lv_iconst (v := 1) hx hb dX2_learn_79 (by decide) ?_
  refine va_put (D := D) (ci := 2) (v := .int 1) (ty := .boolean) (C := RX2) (T := TX2) (N := 6) hx hb hts (by decide +kernel) tyX2 tyX2_ok nmX2 hown hK hP hD hS 0 rfl rfl 4 (by decide) (hts (.fieldLink RX2 25 "LastLetter$Orders" "isKnown" "Z") (by decide +kernel)) (fun _ h9 => h9) rfl (by decide +kernel) rfl rfl (Nat.le_of_ble_eq_true rfl) dX2_learn_80 (fun H locs hP hD hS => ?_)
  have hP : va_P D vwCl [(o, .inr (2, [.ref p_breaks, .ref p_starts, .ref p_worths, .ref p_closing, .int 1, .int p_isClosingKnown])), (t, .inr (8, [.ref k_name, .ref k_worth, .ref k_times, .ref k_first, .ref k_second, .ref k_beforeLast, .ref k_last, .ref k_errandOf, .ref k_errandAfter, .ref k_sound, .ref k_followers, .ref k_leaders, .int 0, .int k_errands, .int k_alikes, .int k_law])), (p_breaks, .inl (cB, 1, .inl g_3)), (p_worths, .inl (cI, 1, .inl g_4))] H := hP
  have hD : va_D A [(o, .inr (2, [.ref p_breaks, .ref p_starts, .ref p_worths, .ref p_closing, .int 1, .int p_isClosingKnown])), (t, .inr (8, [.ref k_name, .ref k_worth, .ref k_times, .ref k_first, .ref k_second, .ref k_beforeLast, .ref k_last, .ref k_errandOf, .ref k_errandAfter, .ref k_sound, .ref k_followers, .ref k_leaders, .int 0, .int k_errands, .int k_alikes, .int k_law])), (p_breaks, .inl (cB, 1, .inl g_3)), (p_worths, .inl (cI, 1, .inl g_4))] := hD
  have hP9 := hP.sub (ws' := [(o, .inr (2, [.ref p_breaks, .ref p_starts, .ref p_worths, .ref p_closing, .int 1, .int p_isClosingKnown])), (t, .inr (8, [.ref k_name, .ref k_worth, .ref k_times, .ref k_first, .ref k_second, .ref k_beforeLast, .ref k_last, .ref k_errandOf, .ref k_errandAfter, .ref k_sound, .ref k_followers, .ref k_leaders, .int 0, .int k_errands, .int k_alikes, .int k_law])), (p_breaks, .inl (cB, 1, .inl g_3)), (p_worths, .inl (cI, 1, .inl g_4))]) [0, 1, 2, 3] rfl
  have hD9 := hD.sub (ws' := [(o, .inr (2, [.ref p_breaks, .ref p_starts, .ref p_worths, .ref p_closing, .int 1, .int p_isClosingKnown])), (t, .inr (8, [.ref k_name, .ref k_worth, .ref k_times, .ref k_first, .ref k_second, .ref k_beforeLast, .ref k_last, .ref k_errandOf, .ref k_errandAfter, .ref k_sound, .ref k_followers, .ref k_leaders, .int 0, .int k_errands, .int k_alikes, .int k_law])), (p_breaks, .inl (cB, 1, .inl g_3)), (p_worths, .inl (cI, 1, .inl g_4))]) [0, 1, 2, 3] (by decide) rfl
  refine W.widen (k := 0) (n := 0) (Nat.le_of_ble_eq_true rfl) (Nat.le_of_ble_eq_true rfl) ?_
  exact W.vret hx hb hr (fun tz htz hWz => ⟨⟨[(o, .inr (2, [.ref p_breaks, .ref p_starts, .ref p_worths, .ref p_closing, .int 1, .int p_isClosingKnown])), (t, .inr (8, [.ref k_name, .ref k_worth, .ref k_times, .ref k_first, .ref k_second, .ref k_beforeLast, .ref k_last, .ref k_errandOf, .ref k_errandAfter, .ref k_sound, .ref k_followers, .ref k_leaders, .int 0, .int k_errands, .int k_alikes, .int k_law])), (p_breaks, .inl (cB, 1, .inl g_3)), (p_worths, .inl (cI, 1, .inl g_4))], rfl, ⟨g_3, g_4, rfl, (by rw [← eg_3]; rfl)⟩, by rw [htz]; exact hP9, va_K.moved hWz.alike hK, hD9⟩, hS.F htz⟩) hS.2.2 dX2_learn_83

set_option maxHeartbeats 4000000 in
set_option maxRecDepth 100000 in
theorem c_X2_learn_1 (l : Launch) (D : va_G) (cB cI cJ cS cZ cO : ClassId) (sz : Nat) (o : Nat) (t : Nat) (p_breaks : Nat) (p_starts : Nat) (p_worths : Nat) (p_closing : Nat) (p_isClosingKnown : Int32) (k_name : Nat) (k_worth : Nat) (k_times : Nat) (k_first : Nat) (k_second : Nat) (k_beforeLast : Nat) (k_last : Nat) (k_errandOf : Nat) (k_errandAfter : Nat) (k_sound : Nat) (k_followers : Nat) (k_leaders : Nat) (k_errands : Int32) (k_alikes : Int32) (k_law : Int32) (f1 : Nat → Int32) (f2 : Nat → Int32) : Met l yX2_learn wsX2_learn ({ frames := 0, cells := 0, slots := 0, locals := 0 }) (xPre D (tyL cB cI cJ cS cZ cO) [(o, .inr (2, [.ref p_breaks, .ref p_starts, .ref p_worths, .ref p_closing, .int 1, .int p_isClosingKnown])), (t, .inr (8, [.ref k_name, .ref k_worth, .ref k_times, .ref k_first, .ref k_second, .ref k_beforeLast, .ref k_last, .ref k_errandOf, .ref k_errandAfter, .ref k_sound, .ref k_followers, .ref k_leaders, .int 0, .int k_errands, .int k_alikes, .int k_law])), (p_breaks, .inl (cB, 1, .inl f1)), (p_worths, .inl (cI, 1, .inl f2))] sz [.ref o, .ref t]) (xQv D (tyL cB cI cJ cS cZ cO) (va_A [(o, .inr (2, [.ref p_breaks, .ref p_starts, .ref p_worths, .ref p_closing, .int 1, .int p_isClosingKnown])), (t, .inr (8, [.ref k_name, .ref k_worth, .ref k_times, .ref k_first, .ref k_second, .ref k_beforeLast, .ref k_last, .ref k_errandOf, .ref k_errandAfter, .ref k_sound, .ref k_followers, .ref k_leaders, .int 0, .int k_errands, .int k_alikes, .int k_law])), (p_breaks, .inl (cB, 1, .inl f1)), (p_worths, .inl (cI, 1, .inl f2))] sz) (fun u : va_W => u = [(o, .inr (2, [.ref p_breaks, .ref p_starts, .ref p_worths, .ref p_closing, .int 1, .int p_isClosingKnown])), (t, .inr (8, [.ref k_name, .ref k_worth, .ref k_times, .ref k_first, .ref k_second, .ref k_beforeLast, .ref k_last, .ref k_errandOf, .ref k_errandAfter, .ref k_sound, .ref k_followers, .ref k_leaders, .int 0, .int k_errands, .int k_alikes, .int k_law])), (p_breaks, .inl (cB, 1, .inl f1)), (p_worths, .inl (cI, 1, .inl f2))])) 0 0 (va_A [(o, .inr (2, [.ref p_breaks, .ref p_starts, .ref p_worths, .ref p_closing, .int 1, .int p_isClosingKnown])), (t, .inr (8, [.ref k_name, .ref k_worth, .ref k_times, .ref k_first, .ref k_second, .ref k_beforeLast, .ref k_last, .ref k_errandOf, .ref k_errandAfter, .ref k_sound, .ref k_followers, .ref k_leaders, .int 0, .int k_errands, .int k_alikes, .int k_law])), (p_breaks, .inl (cB, 1, .inl f1)), (p_worths, .inl (cI, 1, .inl f2))] sz) := by
  refine Met.ofW (cc := cX2_learn) (maxL := 4) (ret := none) (by decide) rfl ?_
  intro p e s m args below meth c s₁ B hml hv
  obtain ⟨rfl, hsz, hP, hK, hD0, hN⟩ := hv
  have hx := B.exec
  have hb := B.bytes
  have hr := B.returns
  have hts := atoms_spec (ws := wsX2_learn) B.pre
  have hown : s.vm.findClass RX2 = some m.cls := findClass_of_methodNamed B.named
  have hlocks := B.notSynchronized
  subst hsz
  have hD := hD0.self (sz := s.heap.size)
  generalize hAe : va_A [(o, .inr (2, [.ref p_breaks, .ref p_starts, .ref p_worths, .ref p_closing, .int 1, .int p_isClosingKnown])), (t, .inr (8, [.ref k_name, .ref k_worth, .ref k_times, .ref k_first, .ref k_second, .ref k_beforeLast, .ref k_last, .ref k_errandOf, .ref k_errandAfter, .ref k_sound, .ref k_followers, .ref k_leaders, .int 0, .int k_errands, .int k_alikes, .int k_law])), (p_breaks, .inl (cB, 1, .inl f1)), (p_worths, .inl (cI, 1, .inl f2))] s.heap.size = A at hD ⊢
  have hA : ∀ q : Nat, s.heap.size ≤ q → A q := fun q h => by rw [← hAe]; exact Or.inr h
  have hS : va_S A s.heap s.heap [] := va_S.rf
  have hP : va_P D vwCl [(o, .inr (2, [.ref p_breaks, .ref p_starts, .ref p_worths, .ref p_closing, .int 1, .int p_isClosingKnown])), (t, .inr (8, [.ref k_name, .ref k_worth, .ref k_times, .ref k_first, .ref k_second, .ref k_beforeLast, .ref k_last, .ref k_errandOf, .ref k_errandAfter, .ref k_sound, .ref k_followers, .ref k_leaders, .int 0, .int k_errands, .int k_alikes, .int k_law])), (p_breaks, .inl (cB, 1, .inl f1)), (p_worths, .inl (cI, 1, .inl f2))] s.heap := hP
  have hl := lv_entry ([.ref o, .ref t]) (n := 4) (Nat.le_of_ble_eq_true rfl)
  rw [lg_entry_eq]
  generalize (lg_sl ([.ref o, .ref t]) ++ List.replicate (4 - (lg_sl ([.ref o, .ref t])).length) Slot.unset).toArray = ls at hl ⊢
  have hl : lv_has ls 4 [(0, .ref o), (1, .ref t)] := hl
  refine lv_iconst (v := 1) hx hb dX2_learn_0 (by decide) ?_
  refine lv_aload_n hx hb dX2_learn_1 rfl (lv_at hl 1 rfl) ?_
  refine va_getN (D := D) (ci := 8) (v := .int 0) (C := RX8) (T := TX8) (N := 16) hx hb hts (by decide +kernel) hown hK hP 1 rfl rfl 12 (by decide) (va_Nw.use rfl (hN.1 (RX2, 46, RX8, "words", "I", RX10) (by decide +kernel))) (fun _ h9 => h9) rfl dX2_learn_2 ?_
  refine lv_ishl hx hb dX2_learn_5 ?_
  refine xb_top (y := 1) (by decide) ?_
  refine lv_istore_n (lv' := [(2, .int 1), (0, .ref o), (1, .ref t)]) hx hb dX2_learn_6 rfl hl (by decide) rfl (fun ls hl => ?_)
  refine lv_aload_n hx hb dX2_learn_7 rfl (lv_at hl 1 rfl) ?_
  refine va_get (D := D) (ci := 2) (v := .int 1) (C := RX2) (T := TX2) (N := 6) hx hb hts (by decide +kernel) hown hK hP 0 rfl rfl 4 (by decide) (hts (.fieldLink RX2 25 "LastLetter$Orders" "isKnown" "Z") (by decide +kernel)) (fun _ h9 => h9) rfl dX2_learn_8 ?_
  refine lv_if_eq (tgt := 15) hx hb dX2_learn_11 (by decide) (fun c_1 => absurd c_1 (by decide)) (fun c_1 => ?_)
  have hP9 := hP.sub (ws' := [(o, .inr (2, [.ref p_breaks, .ref p_starts, .ref p_worths, .ref p_closing, .int 1, .int p_isClosingKnown])), (t, .inr (8, [.ref k_name, .ref k_worth, .ref k_times, .ref k_first, .ref k_second, .ref k_beforeLast, .ref k_last, .ref k_errandOf, .ref k_errandAfter, .ref k_sound, .ref k_followers, .ref k_leaders, .int 0, .int k_errands, .int k_alikes, .int k_law])), (p_breaks, .inl (cB, 1, .inl f1)), (p_worths, .inl (cI, 1, .inl f2))]) [0, 1, 2, 3] rfl
  have hD9 := hD.sub (ws' := [(o, .inr (2, [.ref p_breaks, .ref p_starts, .ref p_worths, .ref p_closing, .int 1, .int p_isClosingKnown])), (t, .inr (8, [.ref k_name, .ref k_worth, .ref k_times, .ref k_first, .ref k_second, .ref k_beforeLast, .ref k_last, .ref k_errandOf, .ref k_errandAfter, .ref k_sound, .ref k_followers, .ref k_leaders, .int 0, .int k_errands, .int k_alikes, .int k_law])), (p_breaks, .inl (cB, 1, .inl f1)), (p_worths, .inl (cI, 1, .inl f2))]) [0, 1, 2, 3] (by decide) rfl
  refine W.widen (k := 0) (n := 0) (Nat.le_of_ble_eq_true rfl) (Nat.le_of_ble_eq_true rfl) ?_
  exact W.vret hx hb hr (fun tz htz hWz => ⟨⟨[(o, .inr (2, [.ref p_breaks, .ref p_starts, .ref p_worths, .ref p_closing, .int 1, .int p_isClosingKnown])), (t, .inr (8, [.ref k_name, .ref k_worth, .ref k_times, .ref k_first, .ref k_second, .ref k_beforeLast, .ref k_last, .ref k_errandOf, .ref k_errandAfter, .ref k_sound, .ref k_followers, .ref k_leaders, .int 0, .int k_errands, .int k_alikes, .int k_law])), (p_breaks, .inl (cB, 1, .inl f1)), (p_worths, .inl (cI, 1, .inl f2))], rfl, rfl, by rw [htz]; exact hP9, va_K.moved hWz.alike hK, hD9⟩, hS.F htz⟩) hS.2.2 dX2_learn_14

set_option maxHeartbeats 4000000 in
set_option maxRecDepth 100000 in
theorem c_X2_layParts_0 (l : Launch) (D : va_G) (cB cI cJ cS cZ cO : ClassId) (sz : Nat) (o : Nat) (t : Nat) (r : Nat) (p_breaks : Nat) (p_starts : Nat) (p_worths : Nat) (p_closing : Nat) (p_isClosingKnown : Int32) (k_name : Nat) (k_worth : Nat) (k_times : Nat) (k_first : Nat) (k_second : Nat) (k_beforeLast : Nat) (k_last : Nat) (k_errandOf : Nat) (k_errandAfter : Nat) (k_sound : Nat) (k_followers : Nat) (k_leaders : Nat) (k_errands : Int32) (k_alikes : Int32) (k_law : Int32) (f1 : Nat → Int32) (f2 : Nat → Int32) : Met l yX2_layParts wsX2_layParts ({ frames := 1, cells := 0, slots := 0, locals := 23 }) (xPre D (tyL cB cI cJ cS cZ cO) [(o, .inr (2, [.ref p_breaks, .ref p_starts, .ref p_worths, .ref p_closing, .int 0, .int p_isClosingKnown])), (t, .inr (8, [.ref k_name, .ref k_worth, .ref k_times, .ref k_first, .ref k_second, .ref k_beforeLast, .ref k_last, .ref k_errandOf, .ref k_errandAfter, .ref k_sound, .ref k_followers, .ref k_leaders, .int 0, .int k_errands, .int k_alikes, .int k_law])), (p_breaks, .inl (cB, 1, .inl f1)), (p_worths, .inl (cI, 1, .inl f2))] sz [.ref o, .ref t, .ref r]) (xQi D (tyL cB cI cJ cS cZ cO) (va_A [(o, .inr (2, [.ref p_breaks, .ref p_starts, .ref p_worths, .ref p_closing, .int 0, .int p_isClosingKnown])), (t, .inr (8, [.ref k_name, .ref k_worth, .ref k_times, .ref k_first, .ref k_second, .ref k_beforeLast, .ref k_last, .ref k_errandOf, .ref k_errandAfter, .ref k_sound, .ref k_followers, .ref k_leaders, .int 0, .int k_errands, .int k_alikes, .int k_law])), (p_breaks, .inl (cB, 1, .inl f1)), (p_worths, .inl (cI, 1, .inl f2))] sz) (fun (r : Int32) (u : va_W) => ∃ g1 : Nat → Int32, ∃ g2 : Nat → Int32, u = [(o, .inr (2, [.ref p_breaks, .ref p_starts, .ref p_worths, .ref p_closing, .int 1, .int p_isClosingKnown])), (t, .inr (8, [.ref k_name, .ref k_worth, .ref k_times, .ref k_first, .ref k_second, .ref k_beforeLast, .ref k_last, .ref k_errandOf, .ref k_errandAfter, .ref k_sound, .ref k_followers, .ref k_leaders, .int 0, .int k_errands, .int k_alikes, .int k_law])), (p_breaks, .inl (cB, 1, .inl g1)), (p_worths, .inl (cI, 1, .inl g2))] ∧ r = 0)) 0 0 (va_A [(o, .inr (2, [.ref p_breaks, .ref p_starts, .ref p_worths, .ref p_closing, .int 0, .int p_isClosingKnown])), (t, .inr (8, [.ref k_name, .ref k_worth, .ref k_times, .ref k_first, .ref k_second, .ref k_beforeLast, .ref k_last, .ref k_errandOf, .ref k_errandAfter, .ref k_sound, .ref k_followers, .ref k_leaders, .int 0, .int k_errands, .int k_alikes, .int k_law])), (p_breaks, .inl (cB, 1, .inl f1)), (p_worths, .inl (cI, 1, .inl f2))] sz) := by
  refine Met.ofW (cc := cX2_layParts) (maxL := 9) (ret := (some .int)) (by decide) rfl ?_
  intro p e s m args below meth c s₁ B hml hv
  obtain ⟨rfl, hsz, hP, hK, hD0, hN⟩ := hv
  have hx := B.exec
  have hb := B.bytes
  have hr := B.returns
  have hts := atoms_spec (ws := wsX2_layParts) B.pre
  have hown : s.vm.findClass RX2 = some m.cls := findClass_of_methodNamed B.named
  have hlocks := B.notSynchronized
  subst hsz
  have hD := hD0.self (sz := s.heap.size)
  generalize hAe : va_A [(o, .inr (2, [.ref p_breaks, .ref p_starts, .ref p_worths, .ref p_closing, .int 0, .int p_isClosingKnown])), (t, .inr (8, [.ref k_name, .ref k_worth, .ref k_times, .ref k_first, .ref k_second, .ref k_beforeLast, .ref k_last, .ref k_errandOf, .ref k_errandAfter, .ref k_sound, .ref k_followers, .ref k_leaders, .int 0, .int k_errands, .int k_alikes, .int k_law])), (p_breaks, .inl (cB, 1, .inl f1)), (p_worths, .inl (cI, 1, .inl f2))] s.heap.size = A at hD ⊢
  have hA : ∀ q : Nat, s.heap.size ≤ q → A q := fun q h => by rw [← hAe]; exact Or.inr h
  have hS : va_S A s.heap s.heap [] := va_S.rf
  have hP : va_P D vwCl [(o, .inr (2, [.ref p_breaks, .ref p_starts, .ref p_worths, .ref p_closing, .int 0, .int p_isClosingKnown])), (t, .inr (8, [.ref k_name, .ref k_worth, .ref k_times, .ref k_first, .ref k_second, .ref k_beforeLast, .ref k_last, .ref k_errandOf, .ref k_errandAfter, .ref k_sound, .ref k_followers, .ref k_leaders, .int 0, .int k_errands, .int k_alikes, .int k_law])), (p_breaks, .inl (cB, 1, .inl f1)), (p_worths, .inl (cI, 1, .inl f2))] s.heap := hP
  have hl := lv_entry ([.ref o, .ref t, .ref r]) (n := 9) (Nat.le_of_ble_eq_true rfl)
  rw [lg_entry_eq]
  generalize (lg_sl ([.ref o, .ref t, .ref r]) ++ List.replicate (9 - (lg_sl ([.ref o, .ref t, .ref r])).length) Slot.unset).toArray = ls at hl ⊢
  have hl : lv_has ls 9 [(0, .ref o), (1, .ref t), (2, .ref r)] := hl
  refine lv_aload_n hx hb dX2_layParts_0 rfl (lv_at hl 0 rfl) ?_
  refine lv_aload_n hx hb dX2_layParts_1 rfl (lv_at hl 1 rfl) ?_
  refine xCv (wr := []) (win := [(o, .inr (2, [.ref p_breaks, .ref p_starts, .ref p_worths, .ref p_closing, .int 0, .int p_isClosingKnown])), (t, .inr (8, [.ref k_name, .ref k_worth, .ref k_times, .ref k_first, .ref k_second, .ref k_beforeLast, .ref k_last, .ref k_errandOf, .ref k_errandAfter, .ref k_sound, .ref k_followers, .ref k_leaders, .int 0, .int k_errands, .int k_alikes, .int k_law])), (p_breaks, .inl (cB, 1, .inl f1)), (p_worths, .inl (cI, 1, .inl f2))]) hP hD hS hA [0, 1, 2, 3] [] rfl rfl (by decide) (by decide) (va_runV (As := [.ref t]) (rest := []) ⟨hx, hb, hml, hown, hts⟩ (c_X2_learn_0 l D cB cI cJ cS cZ cO s.heap.size o t p_breaks p_starts p_worths p_closing p_isClosingKnown k_name k_worth k_times k_first k_second k_beforeLast k_last k_errandOf k_errandAfter k_sound k_followers k_leaders k_errands k_alikes k_law f1 f2 ) (cwV 1 hts gX2_layParts_X2_learn rfl rfl rfl (by decide +kernel) ⟨Nat.le_of_ble_eq_true rfl, Nat.le_of_ble_eq_true rfl⟩) (xPreV (win := [(o, .inr (2, [.ref p_breaks, .ref p_starts, .ref p_worths, .ref p_closing, .int 0, .int p_isClosingKnown])), (t, .inr (8, [.ref k_name, .ref k_worth, .ref k_times, .ref k_first, .ref k_second, .ref k_beforeLast, .ref k_last, .ref k_errandOf, .ref k_errandAfter, .ref k_sound, .ref k_followers, .ref k_leaders, .int 0, .int k_errands, .int k_alikes, .int k_law])), (p_breaks, .inl (cB, 1, .inl f1)), (p_worths, .inl (cI, 1, .inl f2))]) hN hK hP hD [0, 1, 2, 3] (by decide) rfl 0 2 rfl rfl rfl) rfl rfl hl.1 rfl (lv_room (Nat.le_of_ble_eq_true rfl)) dX2_layParts_2 ⟨Nat.le_of_ble_eq_true rfl, Nat.le_of_ble_eq_true rfl⟩) (fun w0 H locs hw hP hD hS => ?_)
  obtain ⟨g1_1, g2_2, rfl, hf_3⟩ := hw
  have hP : va_P D vwCl [(o, .inr (2, [.ref p_breaks, .ref p_starts, .ref p_worths, .ref p_closing, .int 1, .int p_isClosingKnown])), (t, .inr (8, [.ref k_name, .ref k_worth, .ref k_times, .ref k_first, .ref k_second, .ref k_beforeLast, .ref k_last, .ref k_errandOf, .ref k_errandAfter, .ref k_sound, .ref k_followers, .ref k_leaders, .int 0, .int k_errands, .int k_alikes, .int k_law])), (p_breaks, .inl (cB, 1, .inl g1_1)), (p_worths, .inl (cI, 1, .inl g2_2))] H := hP
  have hD : va_D A [(o, .inr (2, [.ref p_breaks, .ref p_starts, .ref p_worths, .ref p_closing, .int 1, .int p_isClosingKnown])), (t, .inr (8, [.ref k_name, .ref k_worth, .ref k_times, .ref k_first, .ref k_second, .ref k_beforeLast, .ref k_last, .ref k_errandOf, .ref k_errandAfter, .ref k_sound, .ref k_followers, .ref k_leaders, .int 0, .int k_errands, .int k_alikes, .int k_law])), (p_breaks, .inl (cB, 1, .inl g1_1)), (p_worths, .inl (cI, 1, .inl g2_2))] := hD
  refine lv_aload_n hx hb dX2_layParts_5 rfl (lv_at hl 1 rfl) ?_
  refine xCi (wr := [(o, .inr (2, [.ref p_breaks, .ref p_starts, .ref p_worths, .ref p_closing, .int 1, .int p_isClosingKnown])), (p_breaks, .inl (cB, 1, .inl g1_1)), (p_worths, .inl (cI, 1, .inl g2_2))]) (win := [(t, .inr (8, [.ref k_name, .ref k_worth, .ref k_times, .ref k_first, .ref k_second, .ref k_beforeLast, .ref k_last, .ref k_errandOf, .ref k_errandAfter, .ref k_sound, .ref k_followers, .ref k_leaders, .int 0, .int k_errands, .int k_alikes, .int k_law]))]) hP hD hS hA [1] [0, 2, 3] rfl rfl (by decide) (by decide) (va_runV (As := []) (rest := []) ⟨hx, hb, hml, hown, hts⟩ (c_X8_everyWord l D cB cI cJ cS cZ cO H.size t k_name k_worth k_times k_first k_second k_beforeLast k_last k_errandOf k_errandAfter k_sound k_followers k_leaders k_errands k_alikes k_law ) (cwV 0 hts gX2_layParts_X8_everyWord rfl rfl rfl (by decide +kernel) ⟨Nat.le_of_ble_eq_true rfl, Nat.le_of_ble_eq_true rfl⟩) (xPreV (win := [(t, .inr (8, [.ref k_name, .ref k_worth, .ref k_times, .ref k_first, .ref k_second, .ref k_beforeLast, .ref k_last, .ref k_errandOf, .ref k_errandAfter, .ref k_sound, .ref k_followers, .ref k_leaders, .int 0, .int k_errands, .int k_alikes, .int k_law]))]) hN hK hP hD [1] (by decide) rfl 1 8 rfl rfl rfl) rfl rfl hl.1 rfl (lv_room (Nat.le_of_ble_eq_true rfl)) dX2_layParts_6 ⟨Nat.le_of_ble_eq_true rfl, Nat.le_of_ble_eq_true rfl⟩) (fun r0 w0 H locs hw hP hD hS => ?_)
  obtain ⟨rfl, rfl⟩ := hw
  have hP : va_P D vwCl [(o, .inr (2, [.ref p_breaks, .ref p_starts, .ref p_worths, .ref p_closing, .int 1, .int p_isClosingKnown])), (p_breaks, .inl (cB, 1, .inl g1_1)), (p_worths, .inl (cI, 1, .inl g2_2)), (t, .inr (8, [.ref k_name, .ref k_worth, .ref k_times, .ref k_first, .ref k_second, .ref k_beforeLast, .ref k_last, .ref k_errandOf, .ref k_errandAfter, .ref k_sound, .ref k_followers, .ref k_leaders, .int 0, .int k_errands, .int k_alikes, .int k_law]))] H := hP
  have hD : va_D A [(o, .inr (2, [.ref p_breaks, .ref p_starts, .ref p_worths, .ref p_closing, .int 1, .int p_isClosingKnown])), (p_breaks, .inl (cB, 1, .inl g1_1)), (p_worths, .inl (cI, 1, .inl g2_2)), (t, .inr (8, [.ref k_name, .ref k_worth, .ref k_times, .ref k_first, .ref k_second, .ref k_beforeLast, .ref k_last, .ref k_errandOf, .ref k_errandAfter, .ref k_sound, .ref k_followers, .ref k_leaders, .int 0, .int k_errands, .int k_alikes, .int k_law]))] := hD
  refine lv_istore_n (lv' := [(3, .int 0), (0, .ref o), (1, .ref t), (2, .ref r)]) hx hb dX2_layParts_9 rfl hl (by decide) rfl (fun ls hl => ?_)
  refine lv_iload_n hx hb dX2_layParts_10 rfl (lv_at hl 0 rfl) ?_
  refine lv_istore (lv' := [(4, .int 0), (3, .int 0), (0, .ref o), (1, .ref t), (2, .ref r)]) hx hb dX2_layParts_11 hl (by decide) rfl (fun ls hl => ?_)
  refine lv_aload_n hx hb dX2_layParts_13 rfl (lv_at hl 2 rfl) ?_
  refine va_get (D := D) (ci := 2) (v := .ref p_breaks) (C := RX2) (T := TX2) (N := 6) hx hb hts (by decide +kernel) hown hK hP 0 rfl rfl 0 (by decide) (hts (.fieldLink RX2 9 "LastLetter$Orders" "breaks" "[B") (by decide +kernel)) (fun _ h9 => h9) rfl dX2_layParts_14 ?_
  refine lv_iload_n hx hb dX2_layParts_17 rfl (lv_at hl 1 rfl) ?_
  refine va_bald hx hb hK hP 1 0 rfl rfl (by unfold vp_in; decide) dX2_layParts_18 ?_
  refine lv_istore (lv' := [(5, .int (g1_1 (Int32.toNatClampNeg 0))), (4, .int 0), (3, .int 0), (0, .ref o), (1, .ref t), (2, .ref r)]) hx hb dX2_layParts_19 hl (by decide) rfl (fun ls hl => ?_)
  refine lv_iload_n hx hb dX2_layParts_21 rfl (lv_at hl 2 rfl) ?_
  refine lv_if_ne (tgt := 29) hx hb dX2_layParts_22 (by decide) (fun c_4 => absurd c_4 (by decide)) (fun c_4 => ?_)
  refine lv_iconst (v := 0) hx hb dX2_layParts_25 (by decide) ?_
  refine lv_goto (tgt := 33) hx hb dX2_layParts_26 (by decide) ?_
  refine lv_istore (lv' := [(6, .int 0), (5, .int (g1_1 (Int32.toNatClampNeg 0))), (4, .int 0), (3, .int 0), (0, .ref o), (1, .ref t), (2, .ref r)]) hx hb dX2_layParts_33 hl (by decide) rfl (fun ls hl => ?_)
  refine lv_iconst (v := 0) hx hb dX2_layParts_35 (by decide) ?_
  refine lv_istore (lv' := [(7, .int 0), (6, .int 0), (5, .int (g1_1 (Int32.toNatClampNeg 0))), (4, .int 0), (3, .int 0), (0, .ref o), (1, .ref t), (2, .ref r)]) hx hb dX2_layParts_36 hl (by decide) rfl (fun ls hl => ?_)
  refine lv_iload hx hb dX2_layParts_38 (lv_at hl 0 rfl) ?_
  refine lv_aload_n hx hb dX2_layParts_40 rfl (lv_at hl 6 rfl) ?_
  refine va_getN (D := D) (ci := 8) (v := .int 0) (C := RX8) (T := TX8) (N := 16) hx hb hts (by decide +kernel) hown hK hP 3 rfl rfl 12 (by decide) (va_Nw.use rfl (hN.1 (RX2, 46, RX8, "words", "I", RX10) (by decide +kernel))) (fun _ h9 => h9) rfl dX2_layParts_41 ?_
  refine lv_icmp_ge (tgt := 109) hx hb dX2_layParts_44 (by decide) (fun c_5 => ?_) (fun c_5 => absurd (by decide) c_5)
  refine lv_iload hx hb dX2_layParts_109 (lv_at hl 1 rfl) ?_
  have hP9 := hP.sub (ws' := [(o, .inr (2, [.ref p_breaks, .ref p_starts, .ref p_worths, .ref p_closing, .int 1, .int p_isClosingKnown])), (t, .inr (8, [.ref k_name, .ref k_worth, .ref k_times, .ref k_first, .ref k_second, .ref k_beforeLast, .ref k_last, .ref k_errandOf, .ref k_errandAfter, .ref k_sound, .ref k_followers, .ref k_leaders, .int 0, .int k_errands, .int k_alikes, .int k_law])), (p_breaks, .inl (cB, 1, .inl g1_1)), (p_worths, .inl (cI, 1, .inl g2_2))]) [0, 3, 1, 2] rfl
  have hD9 := hD.sub (ws' := [(o, .inr (2, [.ref p_breaks, .ref p_starts, .ref p_worths, .ref p_closing, .int 1, .int p_isClosingKnown])), (t, .inr (8, [.ref k_name, .ref k_worth, .ref k_times, .ref k_first, .ref k_second, .ref k_beforeLast, .ref k_last, .ref k_errandOf, .ref k_errandAfter, .ref k_sound, .ref k_followers, .ref k_leaders, .int 0, .int k_errands, .int k_alikes, .int k_law])), (p_breaks, .inl (cB, 1, .inl g1_1)), (p_worths, .inl (cI, 1, .inl g2_2))]) [0, 3, 1, 2] (by decide) rfl
  refine W.widen (k := 0) (n := 0) (Nat.le_of_ble_eq_true rfl) (Nat.le_of_ble_eq_true rfl) ?_
  exact W.iret (v := 0) hx hb hr (fun tz htz hWz => ⟨⟨0, [(o, .inr (2, [.ref p_breaks, .ref p_starts, .ref p_worths, .ref p_closing, .int 1, .int p_isClosingKnown])), (t, .inr (8, [.ref k_name, .ref k_worth, .ref k_times, .ref k_first, .ref k_second, .ref k_beforeLast, .ref k_last, .ref k_errandOf, .ref k_errandAfter, .ref k_sound, .ref k_followers, .ref k_leaders, .int 0, .int k_errands, .int k_alikes, .int k_law])), (p_breaks, .inl (cB, 1, .inl g1_1)), (p_worths, .inl (cI, 1, .inl g2_2))], rfl, ⟨g1_1, g2_2, rfl, rfl⟩, by rw [htz]; exact hP9, va_K.moved hWz.alike hK, hD9⟩, hS.F htz⟩) hS.2.2 dX2_layParts_111

set_option maxHeartbeats 4000000 in
set_option maxRecDepth 100000 in
theorem c_X2_layParts_1 (l : Launch) (D : va_G) (cB cI cJ cS cZ cO : ClassId) (sz : Nat) (o : Nat) (t : Nat) (r : Nat) (p_breaks : Nat) (p_starts : Nat) (p_worths : Nat) (p_closing : Nat) (p_isClosingKnown : Int32) (k_name : Nat) (k_worth : Nat) (k_times : Nat) (k_first : Nat) (k_second : Nat) (k_beforeLast : Nat) (k_last : Nat) (k_errandOf : Nat) (k_errandAfter : Nat) (k_sound : Nat) (k_followers : Nat) (k_leaders : Nat) (k_errands : Int32) (k_alikes : Int32) (k_law : Int32) (f1 : Nat → Int32) (f2 : Nat → Int32) : Met l yX2_layParts wsX2_layParts ({ frames := 1, cells := 0, slots := 0, locals := 23 }) (xPre D (tyL cB cI cJ cS cZ cO) [(o, .inr (2, [.ref p_breaks, .ref p_starts, .ref p_worths, .ref p_closing, .int 1, .int p_isClosingKnown])), (t, .inr (8, [.ref k_name, .ref k_worth, .ref k_times, .ref k_first, .ref k_second, .ref k_beforeLast, .ref k_last, .ref k_errandOf, .ref k_errandAfter, .ref k_sound, .ref k_followers, .ref k_leaders, .int 0, .int k_errands, .int k_alikes, .int k_law])), (p_breaks, .inl (cB, 1, .inl f1)), (p_worths, .inl (cI, 1, .inl f2))] sz [.ref o, .ref t, .ref r]) (xQi D (tyL cB cI cJ cS cZ cO) (va_A [(o, .inr (2, [.ref p_breaks, .ref p_starts, .ref p_worths, .ref p_closing, .int 1, .int p_isClosingKnown])), (t, .inr (8, [.ref k_name, .ref k_worth, .ref k_times, .ref k_first, .ref k_second, .ref k_beforeLast, .ref k_last, .ref k_errandOf, .ref k_errandAfter, .ref k_sound, .ref k_followers, .ref k_leaders, .int 0, .int k_errands, .int k_alikes, .int k_law])), (p_breaks, .inl (cB, 1, .inl f1)), (p_worths, .inl (cI, 1, .inl f2))] sz) (fun (r : Int32) (u : va_W) => ∃ g1 : Nat → Int32, ∃ g2 : Nat → Int32, u = [(o, .inr (2, [.ref p_breaks, .ref p_starts, .ref p_worths, .ref p_closing, .int 1, .int p_isClosingKnown])), (t, .inr (8, [.ref k_name, .ref k_worth, .ref k_times, .ref k_first, .ref k_second, .ref k_beforeLast, .ref k_last, .ref k_errandOf, .ref k_errandAfter, .ref k_sound, .ref k_followers, .ref k_leaders, .int 0, .int k_errands, .int k_alikes, .int k_law])), (p_breaks, .inl (cB, 1, .inl g1)), (p_worths, .inl (cI, 1, .inl g2))] ∧ r = 0)) 0 0 (va_A [(o, .inr (2, [.ref p_breaks, .ref p_starts, .ref p_worths, .ref p_closing, .int 1, .int p_isClosingKnown])), (t, .inr (8, [.ref k_name, .ref k_worth, .ref k_times, .ref k_first, .ref k_second, .ref k_beforeLast, .ref k_last, .ref k_errandOf, .ref k_errandAfter, .ref k_sound, .ref k_followers, .ref k_leaders, .int 0, .int k_errands, .int k_alikes, .int k_law])), (p_breaks, .inl (cB, 1, .inl f1)), (p_worths, .inl (cI, 1, .inl f2))] sz) := by
  refine Met.ofW (cc := cX2_layParts) (maxL := 9) (ret := (some .int)) (by decide) rfl ?_
  intro p e s m args below meth c s₁ B hml hv
  obtain ⟨rfl, hsz, hP, hK, hD0, hN⟩ := hv
  have hx := B.exec
  have hb := B.bytes
  have hr := B.returns
  have hts := atoms_spec (ws := wsX2_layParts) B.pre
  have hown : s.vm.findClass RX2 = some m.cls := findClass_of_methodNamed B.named
  have hlocks := B.notSynchronized
  subst hsz
  have hD := hD0.self (sz := s.heap.size)
  generalize hAe : va_A [(o, .inr (2, [.ref p_breaks, .ref p_starts, .ref p_worths, .ref p_closing, .int 1, .int p_isClosingKnown])), (t, .inr (8, [.ref k_name, .ref k_worth, .ref k_times, .ref k_first, .ref k_second, .ref k_beforeLast, .ref k_last, .ref k_errandOf, .ref k_errandAfter, .ref k_sound, .ref k_followers, .ref k_leaders, .int 0, .int k_errands, .int k_alikes, .int k_law])), (p_breaks, .inl (cB, 1, .inl f1)), (p_worths, .inl (cI, 1, .inl f2))] s.heap.size = A at hD ⊢
  have hA : ∀ q : Nat, s.heap.size ≤ q → A q := fun q h => by rw [← hAe]; exact Or.inr h
  have hS : va_S A s.heap s.heap [] := va_S.rf
  have hP : va_P D vwCl [(o, .inr (2, [.ref p_breaks, .ref p_starts, .ref p_worths, .ref p_closing, .int 1, .int p_isClosingKnown])), (t, .inr (8, [.ref k_name, .ref k_worth, .ref k_times, .ref k_first, .ref k_second, .ref k_beforeLast, .ref k_last, .ref k_errandOf, .ref k_errandAfter, .ref k_sound, .ref k_followers, .ref k_leaders, .int 0, .int k_errands, .int k_alikes, .int k_law])), (p_breaks, .inl (cB, 1, .inl f1)), (p_worths, .inl (cI, 1, .inl f2))] s.heap := hP
  have hl := lv_entry ([.ref o, .ref t, .ref r]) (n := 9) (Nat.le_of_ble_eq_true rfl)
  rw [lg_entry_eq]
  generalize (lg_sl ([.ref o, .ref t, .ref r]) ++ List.replicate (9 - (lg_sl ([.ref o, .ref t, .ref r])).length) Slot.unset).toArray = ls at hl ⊢
  have hl : lv_has ls 9 [(0, .ref o), (1, .ref t), (2, .ref r)] := hl
  refine lv_aload_n hx hb dX2_layParts_0 rfl (lv_at hl 0 rfl) ?_
  refine lv_aload_n hx hb dX2_layParts_1 rfl (lv_at hl 1 rfl) ?_
  refine xCv (wr := []) (win := [(o, .inr (2, [.ref p_breaks, .ref p_starts, .ref p_worths, .ref p_closing, .int 1, .int p_isClosingKnown])), (t, .inr (8, [.ref k_name, .ref k_worth, .ref k_times, .ref k_first, .ref k_second, .ref k_beforeLast, .ref k_last, .ref k_errandOf, .ref k_errandAfter, .ref k_sound, .ref k_followers, .ref k_leaders, .int 0, .int k_errands, .int k_alikes, .int k_law])), (p_breaks, .inl (cB, 1, .inl f1)), (p_worths, .inl (cI, 1, .inl f2))]) hP hD hS hA [0, 1, 2, 3] [] rfl rfl (by decide) (by decide) (va_runV (As := [.ref t]) (rest := []) ⟨hx, hb, hml, hown, hts⟩ (c_X2_learn_1 l D cB cI cJ cS cZ cO s.heap.size o t p_breaks p_starts p_worths p_closing p_isClosingKnown k_name k_worth k_times k_first k_second k_beforeLast k_last k_errandOf k_errandAfter k_sound k_followers k_leaders k_errands k_alikes k_law f1 f2 ) (cwV 1 hts gX2_layParts_X2_learn rfl rfl rfl (by decide +kernel) ⟨Nat.le_of_ble_eq_true rfl, Nat.le_of_ble_eq_true rfl⟩) (xPreV (win := [(o, .inr (2, [.ref p_breaks, .ref p_starts, .ref p_worths, .ref p_closing, .int 1, .int p_isClosingKnown])), (t, .inr (8, [.ref k_name, .ref k_worth, .ref k_times, .ref k_first, .ref k_second, .ref k_beforeLast, .ref k_last, .ref k_errandOf, .ref k_errandAfter, .ref k_sound, .ref k_followers, .ref k_leaders, .int 0, .int k_errands, .int k_alikes, .int k_law])), (p_breaks, .inl (cB, 1, .inl f1)), (p_worths, .inl (cI, 1, .inl f2))]) hN hK hP hD [0, 1, 2, 3] (by decide) rfl 0 2 rfl rfl rfl) rfl rfl hl.1 rfl (lv_room (Nat.le_of_ble_eq_true rfl)) dX2_layParts_2 ⟨Nat.le_of_ble_eq_true rfl, Nat.le_of_ble_eq_true rfl⟩) (fun w0 H locs hw hP hD hS => ?_)
  subst hw
  have hP : va_P D vwCl [(o, .inr (2, [.ref p_breaks, .ref p_starts, .ref p_worths, .ref p_closing, .int 1, .int p_isClosingKnown])), (t, .inr (8, [.ref k_name, .ref k_worth, .ref k_times, .ref k_first, .ref k_second, .ref k_beforeLast, .ref k_last, .ref k_errandOf, .ref k_errandAfter, .ref k_sound, .ref k_followers, .ref k_leaders, .int 0, .int k_errands, .int k_alikes, .int k_law])), (p_breaks, .inl (cB, 1, .inl f1)), (p_worths, .inl (cI, 1, .inl f2))] H := hP
  have hD : va_D A [(o, .inr (2, [.ref p_breaks, .ref p_starts, .ref p_worths, .ref p_closing, .int 1, .int p_isClosingKnown])), (t, .inr (8, [.ref k_name, .ref k_worth, .ref k_times, .ref k_first, .ref k_second, .ref k_beforeLast, .ref k_last, .ref k_errandOf, .ref k_errandAfter, .ref k_sound, .ref k_followers, .ref k_leaders, .int 0, .int k_errands, .int k_alikes, .int k_law])), (p_breaks, .inl (cB, 1, .inl f1)), (p_worths, .inl (cI, 1, .inl f2))] := hD
  refine lv_aload_n hx hb dX2_layParts_5 rfl (lv_at hl 1 rfl) ?_
  refine xCi (wr := [(o, .inr (2, [.ref p_breaks, .ref p_starts, .ref p_worths, .ref p_closing, .int 1, .int p_isClosingKnown])), (p_breaks, .inl (cB, 1, .inl f1)), (p_worths, .inl (cI, 1, .inl f2))]) (win := [(t, .inr (8, [.ref k_name, .ref k_worth, .ref k_times, .ref k_first, .ref k_second, .ref k_beforeLast, .ref k_last, .ref k_errandOf, .ref k_errandAfter, .ref k_sound, .ref k_followers, .ref k_leaders, .int 0, .int k_errands, .int k_alikes, .int k_law]))]) hP hD hS hA [1] [0, 2, 3] rfl rfl (by decide) (by decide) (va_runV (As := []) (rest := []) ⟨hx, hb, hml, hown, hts⟩ (c_X8_everyWord l D cB cI cJ cS cZ cO H.size t k_name k_worth k_times k_first k_second k_beforeLast k_last k_errandOf k_errandAfter k_sound k_followers k_leaders k_errands k_alikes k_law ) (cwV 0 hts gX2_layParts_X8_everyWord rfl rfl rfl (by decide +kernel) ⟨Nat.le_of_ble_eq_true rfl, Nat.le_of_ble_eq_true rfl⟩) (xPreV (win := [(t, .inr (8, [.ref k_name, .ref k_worth, .ref k_times, .ref k_first, .ref k_second, .ref k_beforeLast, .ref k_last, .ref k_errandOf, .ref k_errandAfter, .ref k_sound, .ref k_followers, .ref k_leaders, .int 0, .int k_errands, .int k_alikes, .int k_law]))]) hN hK hP hD [1] (by decide) rfl 1 8 rfl rfl rfl) rfl rfl hl.1 rfl (lv_room (Nat.le_of_ble_eq_true rfl)) dX2_layParts_6 ⟨Nat.le_of_ble_eq_true rfl, Nat.le_of_ble_eq_true rfl⟩) (fun r0 w0 H locs hw hP hD hS => ?_)
  obtain ⟨rfl, rfl⟩ := hw
  have hP : va_P D vwCl [(o, .inr (2, [.ref p_breaks, .ref p_starts, .ref p_worths, .ref p_closing, .int 1, .int p_isClosingKnown])), (p_breaks, .inl (cB, 1, .inl f1)), (p_worths, .inl (cI, 1, .inl f2)), (t, .inr (8, [.ref k_name, .ref k_worth, .ref k_times, .ref k_first, .ref k_second, .ref k_beforeLast, .ref k_last, .ref k_errandOf, .ref k_errandAfter, .ref k_sound, .ref k_followers, .ref k_leaders, .int 0, .int k_errands, .int k_alikes, .int k_law]))] H := hP
  have hD : va_D A [(o, .inr (2, [.ref p_breaks, .ref p_starts, .ref p_worths, .ref p_closing, .int 1, .int p_isClosingKnown])), (p_breaks, .inl (cB, 1, .inl f1)), (p_worths, .inl (cI, 1, .inl f2)), (t, .inr (8, [.ref k_name, .ref k_worth, .ref k_times, .ref k_first, .ref k_second, .ref k_beforeLast, .ref k_last, .ref k_errandOf, .ref k_errandAfter, .ref k_sound, .ref k_followers, .ref k_leaders, .int 0, .int k_errands, .int k_alikes, .int k_law]))] := hD
  refine lv_istore_n (lv' := [(3, .int 0), (0, .ref o), (1, .ref t), (2, .ref r)]) hx hb dX2_layParts_9 rfl hl (by decide) rfl (fun ls hl => ?_)
  refine lv_iload_n hx hb dX2_layParts_10 rfl (lv_at hl 0 rfl) ?_
  refine lv_istore (lv' := [(4, .int 0), (3, .int 0), (0, .ref o), (1, .ref t), (2, .ref r)]) hx hb dX2_layParts_11 hl (by decide) rfl (fun ls hl => ?_)
  refine lv_aload_n hx hb dX2_layParts_13 rfl (lv_at hl 2 rfl) ?_
  refine va_get (D := D) (ci := 2) (v := .ref p_breaks) (C := RX2) (T := TX2) (N := 6) hx hb hts (by decide +kernel) hown hK hP 0 rfl rfl 0 (by decide) (hts (.fieldLink RX2 9 "LastLetter$Orders" "breaks" "[B") (by decide +kernel)) (fun _ h9 => h9) rfl dX2_layParts_14 ?_
  refine lv_iload_n hx hb dX2_layParts_17 rfl (lv_at hl 1 rfl) ?_
  refine va_bald hx hb hK hP 1 0 rfl rfl (by unfold vp_in; decide) dX2_layParts_18 ?_
  refine lv_istore (lv' := [(5, .int (f1 (Int32.toNatClampNeg 0))), (4, .int 0), (3, .int 0), (0, .ref o), (1, .ref t), (2, .ref r)]) hx hb dX2_layParts_19 hl (by decide) rfl (fun ls hl => ?_)
  refine lv_iload_n hx hb dX2_layParts_21 rfl (lv_at hl 2 rfl) ?_
  refine lv_if_ne (tgt := 29) hx hb dX2_layParts_22 (by decide) (fun c_1 => absurd c_1 (by decide)) (fun c_1 => ?_)
  refine lv_iconst (v := 0) hx hb dX2_layParts_25 (by decide) ?_
  refine lv_goto (tgt := 33) hx hb dX2_layParts_26 (by decide) ?_
  refine lv_istore (lv' := [(6, .int 0), (5, .int (f1 (Int32.toNatClampNeg 0))), (4, .int 0), (3, .int 0), (0, .ref o), (1, .ref t), (2, .ref r)]) hx hb dX2_layParts_33 hl (by decide) rfl (fun ls hl => ?_)
  refine lv_iconst (v := 0) hx hb dX2_layParts_35 (by decide) ?_
  refine lv_istore (lv' := [(7, .int 0), (6, .int 0), (5, .int (f1 (Int32.toNatClampNeg 0))), (4, .int 0), (3, .int 0), (0, .ref o), (1, .ref t), (2, .ref r)]) hx hb dX2_layParts_36 hl (by decide) rfl (fun ls hl => ?_)
  refine lv_iload hx hb dX2_layParts_38 (lv_at hl 0 rfl) ?_
  refine lv_aload_n hx hb dX2_layParts_40 rfl (lv_at hl 6 rfl) ?_
  refine va_getN (D := D) (ci := 8) (v := .int 0) (C := RX8) (T := TX8) (N := 16) hx hb hts (by decide +kernel) hown hK hP 3 rfl rfl 12 (by decide) (va_Nw.use rfl (hN.1 (RX2, 46, RX8, "words", "I", RX10) (by decide +kernel))) (fun _ h9 => h9) rfl dX2_layParts_41 ?_
  refine lv_icmp_ge (tgt := 109) hx hb dX2_layParts_44 (by decide) (fun c_2 => ?_) (fun c_2 => absurd (by decide) c_2)
  refine lv_iload hx hb dX2_layParts_109 (lv_at hl 1 rfl) ?_
  have hP9 := hP.sub (ws' := [(o, .inr (2, [.ref p_breaks, .ref p_starts, .ref p_worths, .ref p_closing, .int 1, .int p_isClosingKnown])), (t, .inr (8, [.ref k_name, .ref k_worth, .ref k_times, .ref k_first, .ref k_second, .ref k_beforeLast, .ref k_last, .ref k_errandOf, .ref k_errandAfter, .ref k_sound, .ref k_followers, .ref k_leaders, .int 0, .int k_errands, .int k_alikes, .int k_law])), (p_breaks, .inl (cB, 1, .inl f1)), (p_worths, .inl (cI, 1, .inl f2))]) [0, 3, 1, 2] rfl
  have hD9 := hD.sub (ws' := [(o, .inr (2, [.ref p_breaks, .ref p_starts, .ref p_worths, .ref p_closing, .int 1, .int p_isClosingKnown])), (t, .inr (8, [.ref k_name, .ref k_worth, .ref k_times, .ref k_first, .ref k_second, .ref k_beforeLast, .ref k_last, .ref k_errandOf, .ref k_errandAfter, .ref k_sound, .ref k_followers, .ref k_leaders, .int 0, .int k_errands, .int k_alikes, .int k_law])), (p_breaks, .inl (cB, 1, .inl f1)), (p_worths, .inl (cI, 1, .inl f2))]) [0, 3, 1, 2] (by decide) rfl
  refine W.widen (k := 0) (n := 0) (Nat.le_of_ble_eq_true rfl) (Nat.le_of_ble_eq_true rfl) ?_
  exact W.iret (v := 0) hx hb hr (fun tz htz hWz => ⟨⟨0, [(o, .inr (2, [.ref p_breaks, .ref p_starts, .ref p_worths, .ref p_closing, .int 1, .int p_isClosingKnown])), (t, .inr (8, [.ref k_name, .ref k_worth, .ref k_times, .ref k_first, .ref k_second, .ref k_beforeLast, .ref k_last, .ref k_errandOf, .ref k_errandAfter, .ref k_sound, .ref k_followers, .ref k_leaders, .int 0, .int k_errands, .int k_alikes, .int k_law])), (p_breaks, .inl (cB, 1, .inl f1)), (p_worths, .inl (cI, 1, .inl f2))], rfl, ⟨f1, f2, rfl, rfl⟩, by rw [htz]; exact hP9, va_K.moved hWz.alike hK, hD9⟩, hS.F htz⟩) hS.2.2 dX2_layParts_111

set_option maxHeartbeats 4000000 in
set_option maxRecDepth 100000 in
theorem c_X2_layWhole (l : Launch) (D : va_G) (cB cI cJ cS cZ cO : ClassId) (sz : Nat) (o : Nat) (t : Nat) (r : Nat) (p_breaks : Nat) (p_starts : Nat) (p_worths : Nat) (p_closing : Nat) (p_isClosingKnown : Int32) (k_name : Nat) (k_worth : Nat) (k_times : Nat) (k_first : Nat) (k_second : Nat) (k_beforeLast : Nat) (k_last : Nat) (k_errandOf : Nat) (k_errandAfter : Nat) (k_sound : Nat) (k_followers : Nat) (k_leaders : Nat) (k_errands : Int32) (k_alikes : Int32) (k_law : Int32) (f1 : Nat → Int32) (f2 : Nat → Int32) : Met l yX2_layWhole wsX2_layWhole ({ frames := 2, cells := 0, slots := 0, locals := 51 }) (xPre D (tyL cB cI cJ cS cZ cO) [(o, .inr (2, [.ref p_breaks, .ref p_starts, .ref p_worths, .ref p_closing, .int 0, .int p_isClosingKnown])), (t, .inr (8, [.ref k_name, .ref k_worth, .ref k_times, .ref k_first, .ref k_second, .ref k_beforeLast, .ref k_last, .ref k_errandOf, .ref k_errandAfter, .ref k_sound, .ref k_followers, .ref k_leaders, .int 0, .int k_errands, .int k_alikes, .int k_law])), (p_breaks, .inl (cB, 1, .inl f1)), (p_worths, .inl (cI, 1, .inl f2))] sz [.ref o, .ref t, .ref r]) (xQi D (tyL cB cI cJ cS cZ cO) (va_A [(o, .inr (2, [.ref p_breaks, .ref p_starts, .ref p_worths, .ref p_closing, .int 0, .int p_isClosingKnown])), (t, .inr (8, [.ref k_name, .ref k_worth, .ref k_times, .ref k_first, .ref k_second, .ref k_beforeLast, .ref k_last, .ref k_errandOf, .ref k_errandAfter, .ref k_sound, .ref k_followers, .ref k_leaders, .int 0, .int k_errands, .int k_alikes, .int k_law])), (p_breaks, .inl (cB, 1, .inl f1)), (p_worths, .inl (cI, 1, .inl f2))] sz) (fun (r : Int32) (u : va_W) => ∃ g1 : Nat → Int32, ∃ g2 : Nat → Int32, u = [(o, .inr (2, [.ref p_breaks, .ref p_starts, .ref p_worths, .ref p_closing, .int 1, .int p_isClosingKnown])), (t, .inr (8, [.ref k_name, .ref k_worth, .ref k_times, .ref k_first, .ref k_second, .ref k_beforeLast, .ref k_last, .ref k_errandOf, .ref k_errandAfter, .ref k_sound, .ref k_followers, .ref k_leaders, .int 0, .int k_errands, .int k_alikes, .int k_law])), (p_breaks, .inl (cB, 1, .inl g1)), (p_worths, .inl (cI, 1, .inl g2))] ∧ r = 1)) 0 0 (va_A [(o, .inr (2, [.ref p_breaks, .ref p_starts, .ref p_worths, .ref p_closing, .int 0, .int p_isClosingKnown])), (t, .inr (8, [.ref k_name, .ref k_worth, .ref k_times, .ref k_first, .ref k_second, .ref k_beforeLast, .ref k_last, .ref k_errandOf, .ref k_errandAfter, .ref k_sound, .ref k_followers, .ref k_leaders, .int 0, .int k_errands, .int k_alikes, .int k_law])), (p_breaks, .inl (cB, 1, .inl f1)), (p_worths, .inl (cI, 1, .inl f2))] sz) := by
  refine Met.ofW (cc := cX2_layWhole) (maxL := 3) (ret := (some .boolean)) (by decide) rfl ?_
  intro p e s m args below meth c s₁ B hml hv
  obtain ⟨rfl, hsz, hP, hK, hD0, hN⟩ := hv
  have hx := B.exec
  have hb := B.bytes
  have hr := B.returns
  have hts := atoms_spec (ws := wsX2_layWhole) B.pre
  have hown : s.vm.findClass RX2 = some m.cls := findClass_of_methodNamed B.named
  have hlocks := B.notSynchronized
  subst hsz
  have hD := hD0.self (sz := s.heap.size)
  generalize hAe : va_A [(o, .inr (2, [.ref p_breaks, .ref p_starts, .ref p_worths, .ref p_closing, .int 0, .int p_isClosingKnown])), (t, .inr (8, [.ref k_name, .ref k_worth, .ref k_times, .ref k_first, .ref k_second, .ref k_beforeLast, .ref k_last, .ref k_errandOf, .ref k_errandAfter, .ref k_sound, .ref k_followers, .ref k_leaders, .int 0, .int k_errands, .int k_alikes, .int k_law])), (p_breaks, .inl (cB, 1, .inl f1)), (p_worths, .inl (cI, 1, .inl f2))] s.heap.size = A at hD ⊢
  have hA : ∀ q : Nat, s.heap.size ≤ q → A q := fun q h => by rw [← hAe]; exact Or.inr h
  have hS : va_S A s.heap s.heap [] := va_S.rf
  have hP : va_P D vwCl [(o, .inr (2, [.ref p_breaks, .ref p_starts, .ref p_worths, .ref p_closing, .int 0, .int p_isClosingKnown])), (t, .inr (8, [.ref k_name, .ref k_worth, .ref k_times, .ref k_first, .ref k_second, .ref k_beforeLast, .ref k_last, .ref k_errandOf, .ref k_errandAfter, .ref k_sound, .ref k_followers, .ref k_leaders, .int 0, .int k_errands, .int k_alikes, .int k_law])), (p_breaks, .inl (cB, 1, .inl f1)), (p_worths, .inl (cI, 1, .inl f2))] s.heap := hP
  have hl := lv_entry ([.ref o, .ref t, .ref r]) (n := 3) (Nat.le_of_ble_eq_true rfl)
  rw [lg_entry_eq]
  generalize (lg_sl ([.ref o, .ref t, .ref r]) ++ List.replicate (3 - (lg_sl ([.ref o, .ref t, .ref r])).length) Slot.unset).toArray = ls at hl ⊢
  have hl : lv_has ls 3 [(0, .ref o), (1, .ref t), (2, .ref r)] := hl
  refine lv_aload_n hx hb dX2_layWhole_0 rfl (lv_at hl 0 rfl) ?_
  refine lv_aload_n hx hb dX2_layWhole_1 rfl (lv_at hl 1 rfl) ?_
  refine xCv (wr := []) (win := [(o, .inr (2, [.ref p_breaks, .ref p_starts, .ref p_worths, .ref p_closing, .int 0, .int p_isClosingKnown])), (t, .inr (8, [.ref k_name, .ref k_worth, .ref k_times, .ref k_first, .ref k_second, .ref k_beforeLast, .ref k_last, .ref k_errandOf, .ref k_errandAfter, .ref k_sound, .ref k_followers, .ref k_leaders, .int 0, .int k_errands, .int k_alikes, .int k_law])), (p_breaks, .inl (cB, 1, .inl f1)), (p_worths, .inl (cI, 1, .inl f2))]) hP hD hS hA [0, 1, 2, 3] [] rfl rfl (by decide) (by decide) (va_runV (As := [.ref t]) (rest := []) ⟨hx, hb, hml, hown, hts⟩ (c_X2_learn_0 l D cB cI cJ cS cZ cO s.heap.size o t p_breaks p_starts p_worths p_closing p_isClosingKnown k_name k_worth k_times k_first k_second k_beforeLast k_last k_errandOf k_errandAfter k_sound k_followers k_leaders k_errands k_alikes k_law f1 f2 ) (cwV 1 hts gX2_layWhole_X2_learn rfl rfl rfl (by decide +kernel) ⟨Nat.le_of_ble_eq_true rfl, Nat.le_of_ble_eq_true rfl⟩) (xPreV (win := [(o, .inr (2, [.ref p_breaks, .ref p_starts, .ref p_worths, .ref p_closing, .int 0, .int p_isClosingKnown])), (t, .inr (8, [.ref k_name, .ref k_worth, .ref k_times, .ref k_first, .ref k_second, .ref k_beforeLast, .ref k_last, .ref k_errandOf, .ref k_errandAfter, .ref k_sound, .ref k_followers, .ref k_leaders, .int 0, .int k_errands, .int k_alikes, .int k_law])), (p_breaks, .inl (cB, 1, .inl f1)), (p_worths, .inl (cI, 1, .inl f2))]) hN hK hP hD [0, 1, 2, 3] (by decide) rfl 0 2 rfl rfl rfl) rfl rfl hl.1 rfl (lv_room (Nat.le_of_ble_eq_true rfl)) dX2_layWhole_2 ⟨Nat.le_of_ble_eq_true rfl, Nat.le_of_ble_eq_true rfl⟩) (fun w0 H locs hw hP hD hS => ?_)
  obtain ⟨g1_1, g2_2, rfl, hf_3⟩ := hw
  have hP : va_P D vwCl [(o, .inr (2, [.ref p_breaks, .ref p_starts, .ref p_worths, .ref p_closing, .int 1, .int p_isClosingKnown])), (t, .inr (8, [.ref k_name, .ref k_worth, .ref k_times, .ref k_first, .ref k_second, .ref k_beforeLast, .ref k_last, .ref k_errandOf, .ref k_errandAfter, .ref k_sound, .ref k_followers, .ref k_leaders, .int 0, .int k_errands, .int k_alikes, .int k_law])), (p_breaks, .inl (cB, 1, .inl g1_1)), (p_worths, .inl (cI, 1, .inl g2_2))] H := hP
  have hD : va_D A [(o, .inr (2, [.ref p_breaks, .ref p_starts, .ref p_worths, .ref p_closing, .int 1, .int p_isClosingKnown])), (t, .inr (8, [.ref k_name, .ref k_worth, .ref k_times, .ref k_first, .ref k_second, .ref k_beforeLast, .ref k_last, .ref k_errandOf, .ref k_errandAfter, .ref k_sound, .ref k_followers, .ref k_leaders, .int 0, .int k_errands, .int k_alikes, .int k_law])), (p_breaks, .inl (cB, 1, .inl g1_1)), (p_worths, .inl (cI, 1, .inl g2_2))] := hD
  refine lv_aload_n hx hb dX2_layWhole_5 rfl (lv_at hl 0 rfl) ?_
  refine va_get (D := D) (ci := 2) (v := .ref p_breaks) (C := RX2) (T := TX2) (N := 6) hx hb hts (by decide +kernel) hown hK hP 0 rfl rfl 0 (by decide) (hts (.fieldLink RX2 9 "LastLetter$Orders" "breaks" "[B") (by decide +kernel)) (fun _ h9 => h9) rfl dX2_layWhole_6 ?_
  refine lv_aload_n hx hb dX2_layWhole_9 rfl (lv_at hl 1 rfl) ?_
  refine xCi (wr := [(o, .inr (2, [.ref p_breaks, .ref p_starts, .ref p_worths, .ref p_closing, .int 1, .int p_isClosingKnown])), (p_breaks, .inl (cB, 1, .inl g1_1)), (p_worths, .inl (cI, 1, .inl g2_2))]) (win := [(t, .inr (8, [.ref k_name, .ref k_worth, .ref k_times, .ref k_first, .ref k_second, .ref k_beforeLast, .ref k_last, .ref k_errandOf, .ref k_errandAfter, .ref k_sound, .ref k_followers, .ref k_leaders, .int 0, .int k_errands, .int k_alikes, .int k_law]))]) hP hD hS hA [1] [0, 2, 3] rfl rfl (by decide) (by decide) (va_runV (As := []) (rest := [.ref p_breaks]) ⟨hx, hb, hml, hown, hts⟩ (c_X8_everyWord l D cB cI cJ cS cZ cO H.size t k_name k_worth k_times k_first k_second k_beforeLast k_last k_errandOf k_errandAfter k_sound k_followers k_leaders k_errands k_alikes k_law ) (cwV 0 hts gX2_layWhole_X8_everyWord rfl rfl rfl (by decide +kernel) ⟨Nat.le_of_ble_eq_true rfl, Nat.le_of_ble_eq_true rfl⟩) (xPreV (win := [(t, .inr (8, [.ref k_name, .ref k_worth, .ref k_times, .ref k_first, .ref k_second, .ref k_beforeLast, .ref k_last, .ref k_errandOf, .ref k_errandAfter, .ref k_sound, .ref k_followers, .ref k_leaders, .int 0, .int k_errands, .int k_alikes, .int k_law]))]) hN hK hP hD [1] (by decide) rfl 1 8 rfl rfl rfl) rfl rfl hl.1 rfl (lv_room (Nat.le_of_ble_eq_true rfl)) dX2_layWhole_10 ⟨Nat.le_of_ble_eq_true rfl, Nat.le_of_ble_eq_true rfl⟩) (fun r0 w0 H locs hw hP hD hS => ?_)
  obtain ⟨rfl, rfl⟩ := hw
  have hP : va_P D vwCl [(o, .inr (2, [.ref p_breaks, .ref p_starts, .ref p_worths, .ref p_closing, .int 1, .int p_isClosingKnown])), (p_breaks, .inl (cB, 1, .inl g1_1)), (p_worths, .inl (cI, 1, .inl g2_2)), (t, .inr (8, [.ref k_name, .ref k_worth, .ref k_times, .ref k_first, .ref k_second, .ref k_beforeLast, .ref k_last, .ref k_errandOf, .ref k_errandAfter, .ref k_sound, .ref k_followers, .ref k_leaders, .int 0, .int k_errands, .int k_alikes, .int k_law]))] H := hP
  have hD : va_D A [(o, .inr (2, [.ref p_breaks, .ref p_starts, .ref p_worths, .ref p_closing, .int 1, .int p_isClosingKnown])), (p_breaks, .inl (cB, 1, .inl g1_1)), (p_worths, .inl (cI, 1, .inl g2_2)), (t, .inr (8, [.ref k_name, .ref k_worth, .ref k_times, .ref k_first, .ref k_second, .ref k_beforeLast, .ref k_last, .ref k_errandOf, .ref k_errandAfter, .ref k_sound, .ref k_followers, .ref k_leaders, .int 0, .int k_errands, .int k_alikes, .int k_law]))] := hD
  refine va_bald hx hb hK hP 1 0 rfl rfl (by unfold vp_in; decide) dX2_layWhole_13 ?_
  refine xb_top (y := 0) hf_3 ?_
  refine lv_if_eq (tgt := 19) hx hb dX2_layWhole_14 (by decide) (fun c_4 => ?_) (fun c_4 => absurd (by decide) c_4)
  refine lv_aload_n hx hb dX2_layWhole_19 rfl (lv_at hl 0 rfl) ?_
  refine lv_aload_n hx hb dX2_layWhole_20 rfl (lv_at hl 1 rfl) ?_
  refine lv_aload_n hx hb dX2_layWhole_21 rfl (lv_at hl 2 rfl) ?_
  refine xCi (wr := []) (win := [(o, .inr (2, [.ref p_breaks, .ref p_starts, .ref p_worths, .ref p_closing, .int 1, .int p_isClosingKnown])), (t, .inr (8, [.ref k_name, .ref k_worth, .ref k_times, .ref k_first, .ref k_second, .ref k_beforeLast, .ref k_last, .ref k_errandOf, .ref k_errandAfter, .ref k_sound, .ref k_followers, .ref k_leaders, .int 0, .int k_errands, .int k_alikes, .int k_law])), (p_breaks, .inl (cB, 1, .inl g1_1)), (p_worths, .inl (cI, 1, .inl g2_2))]) hP hD hS hA [0, 3, 1, 2] [] rfl rfl (by decide) (by decide) (va_runV (As := [.ref t, .ref r]) (rest := []) ⟨hx, hb, hml, hown, hts⟩ (c_X2_layParts_1 l D cB cI cJ cS cZ cO H.size o t r p_breaks p_starts p_worths p_closing p_isClosingKnown k_name k_worth k_times k_first k_second k_beforeLast k_last k_errandOf k_errandAfter k_sound k_followers k_leaders k_errands k_alikes k_law g1_1 g2_2 ) (cwV 2 hts gX2_layWhole_X2_layParts rfl rfl rfl (by decide +kernel) ⟨Nat.le_of_ble_eq_true rfl, Nat.le_of_ble_eq_true rfl⟩) (xPreV (win := [(o, .inr (2, [.ref p_breaks, .ref p_starts, .ref p_worths, .ref p_closing, .int 1, .int p_isClosingKnown])), (t, .inr (8, [.ref k_name, .ref k_worth, .ref k_times, .ref k_first, .ref k_second, .ref k_beforeLast, .ref k_last, .ref k_errandOf, .ref k_errandAfter, .ref k_sound, .ref k_followers, .ref k_leaders, .int 0, .int k_errands, .int k_alikes, .int k_law])), (p_breaks, .inl (cB, 1, .inl g1_1)), (p_worths, .inl (cI, 1, .inl g2_2))]) hN hK hP hD [0, 3, 1, 2] (by decide) rfl 0 2 rfl rfl rfl) rfl rfl hl.1 rfl (lv_room (Nat.le_of_ble_eq_true rfl)) dX2_layWhole_22 ⟨Nat.le_of_ble_eq_true rfl, Nat.le_of_ble_eq_true rfl⟩) (fun r0 w0 H locs hw hP hD hS => ?_)
  obtain ⟨g1_5, g2_6, rfl, rfl⟩ := hw
  have hP : va_P D vwCl [(o, .inr (2, [.ref p_breaks, .ref p_starts, .ref p_worths, .ref p_closing, .int 1, .int p_isClosingKnown])), (t, .inr (8, [.ref k_name, .ref k_worth, .ref k_times, .ref k_first, .ref k_second, .ref k_beforeLast, .ref k_last, .ref k_errandOf, .ref k_errandAfter, .ref k_sound, .ref k_followers, .ref k_leaders, .int 0, .int k_errands, .int k_alikes, .int k_law])), (p_breaks, .inl (cB, 1, .inl g1_5)), (p_worths, .inl (cI, 1, .inl g2_6))] H := hP
  have hD : va_D A [(o, .inr (2, [.ref p_breaks, .ref p_starts, .ref p_worths, .ref p_closing, .int 1, .int p_isClosingKnown])), (t, .inr (8, [.ref k_name, .ref k_worth, .ref k_times, .ref k_first, .ref k_second, .ref k_beforeLast, .ref k_last, .ref k_errandOf, .ref k_errandAfter, .ref k_sound, .ref k_followers, .ref k_leaders, .int 0, .int k_errands, .int k_alikes, .int k_law])), (p_breaks, .inl (cB, 1, .inl g1_5)), (p_worths, .inl (cI, 1, .inl g2_6))] := hD
  refine lv_pop hx hb dX2_layWhole_25 rfl ?_
  refine lv_iconst (v := 1) hx hb dX2_layWhole_26 (by decide) ?_
  have hP9 := hP.sub (ws' := [(o, .inr (2, [.ref p_breaks, .ref p_starts, .ref p_worths, .ref p_closing, .int 1, .int p_isClosingKnown])), (t, .inr (8, [.ref k_name, .ref k_worth, .ref k_times, .ref k_first, .ref k_second, .ref k_beforeLast, .ref k_last, .ref k_errandOf, .ref k_errandAfter, .ref k_sound, .ref k_followers, .ref k_leaders, .int 0, .int k_errands, .int k_alikes, .int k_law])), (p_breaks, .inl (cB, 1, .inl g1_5)), (p_worths, .inl (cI, 1, .inl g2_6))]) [0, 1, 2, 3] rfl
  have hD9 := hD.sub (ws' := [(o, .inr (2, [.ref p_breaks, .ref p_starts, .ref p_worths, .ref p_closing, .int 1, .int p_isClosingKnown])), (t, .inr (8, [.ref k_name, .ref k_worth, .ref k_times, .ref k_first, .ref k_second, .ref k_beforeLast, .ref k_last, .ref k_errandOf, .ref k_errandAfter, .ref k_sound, .ref k_followers, .ref k_leaders, .int 0, .int k_errands, .int k_alikes, .int k_law])), (p_breaks, .inl (cB, 1, .inl g1_5)), (p_worths, .inl (cI, 1, .inl g2_6))]) [0, 1, 2, 3] (by decide) rfl
  refine W.widen (k := 0) (n := 0) (Nat.le_of_ble_eq_true rfl) (Nat.le_of_ble_eq_true rfl) ?_
  exact W.zret (v := 1) hx hb hr (by decide) (fun tz htz hWz => ⟨⟨1, [(o, .inr (2, [.ref p_breaks, .ref p_starts, .ref p_worths, .ref p_closing, .int 1, .int p_isClosingKnown])), (t, .inr (8, [.ref k_name, .ref k_worth, .ref k_times, .ref k_first, .ref k_second, .ref k_beforeLast, .ref k_last, .ref k_errandOf, .ref k_errandAfter, .ref k_sound, .ref k_followers, .ref k_leaders, .int 0, .int k_errands, .int k_alikes, .int k_law])), (p_breaks, .inl (cB, 1, .inl g1_5)), (p_worths, .inl (cI, 1, .inl g2_6))], rfl, ⟨g1_5, g2_6, rfl, rfl⟩, by rw [htz]; exact hP9, va_K.moved hWz.alike hK, hD9⟩, hS.F htz⟩) hS.2.2 dX2_layWhole_27

set_option maxHeartbeats 4000000 in
set_option maxRecDepth 100000 in
theorem c_X2_layRound (l : Launch) (D : va_G) (cB cI cJ cS cZ cO : ClassId) (sz : Nat) (o : Nat) (t : Nat) (r : Nat) (k_name : Nat) (k_worth : Nat) (k_times : Nat) (k_first : Nat) (k_second : Nat) (k_beforeLast : Nat) (k_last : Nat) (k_errandOf : Nat) (k_errandAfter : Nat) (k_sound : Nat) (k_followers : Nat) (k_leaders : Nat) (k_errands : Int32) (k_alikes : Int32) (k_law : Int32) : Met l yX2_layRound wsX2_layRound ({ frames := 0, cells := 0, slots := 0, locals := 0 }) (xPre D (tyL cB cI cJ cS cZ cO) [(t, .inr (8, [.ref k_name, .ref k_worth, .ref k_times, .ref k_first, .ref k_second, .ref k_beforeLast, .ref k_last, .ref k_errandOf, .ref k_errandAfter, .ref k_sound, .ref k_followers, .ref k_leaders, .int 0, .int k_errands, .int k_alikes, .int k_law]))] sz [.ref o, .ref t, .ref r]) (xQi D (tyL cB cI cJ cS cZ cO) (va_A [(t, .inr (8, [.ref k_name, .ref k_worth, .ref k_times, .ref k_first, .ref k_second, .ref k_beforeLast, .ref k_last, .ref k_errandOf, .ref k_errandAfter, .ref k_sound, .ref k_followers, .ref k_leaders, .int 0, .int k_errands, .int k_alikes, .int k_law]))] sz) (fun (r : Int32) (u : va_W) => u = [(t, .inr (8, [.ref k_name, .ref k_worth, .ref k_times, .ref k_first, .ref k_second, .ref k_beforeLast, .ref k_last, .ref k_errandOf, .ref k_errandAfter, .ref k_sound, .ref k_followers, .ref k_leaders, .int 0, .int k_errands, .int k_alikes, .int k_law]))] ∧ r = 1)) 0 0 (va_A [(t, .inr (8, [.ref k_name, .ref k_worth, .ref k_times, .ref k_first, .ref k_second, .ref k_beforeLast, .ref k_last, .ref k_errandOf, .ref k_errandAfter, .ref k_sound, .ref k_followers, .ref k_leaders, .int 0, .int k_errands, .int k_alikes, .int k_law]))] sz) := by
  refine Met.ofW (cc := cX2_layRound) (maxL := 7) (ret := (some .boolean)) (by decide) rfl ?_
  intro p e s m args below meth c s₁ B hml hv
  obtain ⟨rfl, hsz, hP, hK, hD0, hN⟩ := hv
  have hx := B.exec
  have hb := B.bytes
  have hr := B.returns
  have hts := atoms_spec (ws := wsX2_layRound) B.pre
  have hown : s.vm.findClass RX2 = some m.cls := findClass_of_methodNamed B.named
  have hlocks := B.notSynchronized
  subst hsz
  have hD := hD0.self (sz := s.heap.size)
  generalize hAe : va_A [(t, .inr (8, [.ref k_name, .ref k_worth, .ref k_times, .ref k_first, .ref k_second, .ref k_beforeLast, .ref k_last, .ref k_errandOf, .ref k_errandAfter, .ref k_sound, .ref k_followers, .ref k_leaders, .int 0, .int k_errands, .int k_alikes, .int k_law]))] s.heap.size = A at hD ⊢
  have hA : ∀ q : Nat, s.heap.size ≤ q → A q := fun q h => by rw [← hAe]; exact Or.inr h
  have hS : va_S A s.heap s.heap [] := va_S.rf
  have hP : va_P D vwCl [(t, .inr (8, [.ref k_name, .ref k_worth, .ref k_times, .ref k_first, .ref k_second, .ref k_beforeLast, .ref k_last, .ref k_errandOf, .ref k_errandAfter, .ref k_sound, .ref k_followers, .ref k_leaders, .int 0, .int k_errands, .int k_alikes, .int k_law]))] s.heap := hP
  have hl := lv_entry ([.ref o, .ref t, .ref r]) (n := 7) (Nat.le_of_ble_eq_true rfl)
  rw [lg_entry_eq]
  generalize (lg_sl ([.ref o, .ref t, .ref r]) ++ List.replicate (7 - (lg_sl ([.ref o, .ref t, .ref r])).length) Slot.unset).toArray = ls at hl ⊢
  have hl : lv_has ls 7 [(0, .ref o), (1, .ref t), (2, .ref r)] := hl
  refine lv_aload_n hx hb dX2_layRound_0 rfl (lv_at hl 1 rfl) ?_
  refine va_getN (D := D) (ci := 8) (v := .int 0) (C := RX8) (T := TX8) (N := 16) hx hb hts (by decide +kernel) hown hK hP 0 rfl rfl 12 (by decide) (va_Nw.use rfl (hN.1 (RX2, 46, RX8, "words", "I", RX10) (by decide +kernel))) (fun _ h9 => h9) rfl dX2_layRound_1 ?_
  refine lv_if_ne (tgt := 9) hx hb dX2_layRound_4 (by decide) (fun c_1 => absurd c_1 (by decide)) (fun c_1 => ?_)
  refine lv_iconst (v := 1) hx hb dX2_layRound_7 (by decide) ?_
  have hP9 := hP.sub (ws' := [(t, .inr (8, [.ref k_name, .ref k_worth, .ref k_times, .ref k_first, .ref k_second, .ref k_beforeLast, .ref k_last, .ref k_errandOf, .ref k_errandAfter, .ref k_sound, .ref k_followers, .ref k_leaders, .int 0, .int k_errands, .int k_alikes, .int k_law]))]) [0] rfl
  have hD9 := hD.sub (ws' := [(t, .inr (8, [.ref k_name, .ref k_worth, .ref k_times, .ref k_first, .ref k_second, .ref k_beforeLast, .ref k_last, .ref k_errandOf, .ref k_errandAfter, .ref k_sound, .ref k_followers, .ref k_leaders, .int 0, .int k_errands, .int k_alikes, .int k_law]))]) [0] (by decide) rfl
  refine W.widen (k := 0) (n := 0) (Nat.le_of_ble_eq_true rfl) (Nat.le_of_ble_eq_true rfl) ?_
  exact W.zret (v := 1) hx hb hr (by decide) (fun tz htz hWz => ⟨⟨1, [(t, .inr (8, [.ref k_name, .ref k_worth, .ref k_times, .ref k_first, .ref k_second, .ref k_beforeLast, .ref k_last, .ref k_errandOf, .ref k_errandAfter, .ref k_sound, .ref k_followers, .ref k_leaders, .int 0, .int k_errands, .int k_alikes, .int k_law]))], rfl, ⟨rfl, rfl⟩, by rw [htz]; exact hP9, va_K.moved hWz.alike hK, hD9⟩, hS.F htz⟩) hS.2.2 dX2_layRound_8

set_option maxHeartbeats 4000000 in
set_option maxRecDepth 100000 in
theorem c_X2_mostWithin (l : Launch) (D : va_G) (cB cI cJ cS cZ cO : ClassId) (sz : Nat) (o : Nat) (x : Int32) : Met l yX2_mostWithin wsX2_mostWithin ({ frames := 0, cells := 0, slots := 0, locals := 0 }) (xPre D (tyL cB cI cJ cS cZ cO) [] sz [.ref o, .int 0, .int x]) (xQi D (tyL cB cI cJ cS cZ cO) (va_A [] sz) (fun (r : Int32) (u : va_W) => u = [] ∧ r = 0)) 0 0 (va_A [] sz) := by
  refine Met.ofW (cc := cX2_mostWithin) (maxL := 5) (ret := (some .int)) (by decide) rfl ?_
  intro p e s m args below meth c s₁ B hml hv
  obtain ⟨rfl, hsz, hP, hK, hD0, hN⟩ := hv
  have hx := B.exec
  have hb := B.bytes
  have hr := B.returns
  have hts := atoms_spec (ws := wsX2_mostWithin) B.pre
  have hown : s.vm.findClass RX2 = some m.cls := findClass_of_methodNamed B.named
  have hlocks := B.notSynchronized
  subst hsz
  have hD := hD0.self (sz := s.heap.size)
  generalize hAe : va_A [] s.heap.size = A at hD ⊢
  have hA : ∀ q : Nat, s.heap.size ≤ q → A q := fun q h => by rw [← hAe]; exact Or.inr h
  have hS : va_S A s.heap s.heap [] := va_S.rf
  have hP : va_P D vwCl [] s.heap := hP
  have hl := lv_entry ([.ref o, .int 0, .int x]) (n := 5) (Nat.le_of_ble_eq_true rfl)
  rw [lg_entry_eq]
  generalize (lg_sl ([.ref o, .int 0, .int x]) ++ List.replicate (5 - (lg_sl ([.ref o, .int 0, .int x])).length) Slot.unset).toArray = ls at hl ⊢
  have hl : lv_has ls 5 [(0, .ref o), (1, .int 0), (2, .int x)] := hl
  refine lv_iconst (v := 0) hx hb dX2_mostWithin_0 (by decide) ?_
  refine lv_istore_n (lv' := [(3, .int 0), (0, .ref o), (1, .int 0), (2, .int x)]) hx hb dX2_mostWithin_1 rfl hl (by decide) rfl (fun ls hl => ?_)
  refine lv_iload_n hx hb dX2_mostWithin_2 rfl (lv_at hl 2 rfl) ?_
  refine lv_istore (lv' := [(4, .int 0), (3, .int 0), (0, .ref o), (1, .int 0), (2, .int x)]) hx hb dX2_mostWithin_3 hl (by decide) rfl (fun ls hl => ?_)
  refine lv_iload hx hb dX2_mostWithin_5 (lv_at hl 0 rfl) ?_
  refine lv_if_le (tgt := 43) hx hb dX2_mostWithin_7 (by decide) (fun c_1 => ?_) (fun c_1 => absurd (by decide) c_1)
  refine lv_iload_n hx hb dX2_mostWithin_43 rfl (lv_at hl 1 rfl) ?_
  have hP9 := hP.sub (ws' := []) [] rfl
  have hD9 := hD.sub (ws' := []) [] (by decide) rfl
  refine W.widen (k := 0) (n := 0) (Nat.le_of_ble_eq_true rfl) (Nat.le_of_ble_eq_true rfl) ?_
  exact W.iret (v := 0) hx hb hr (fun tz htz hWz => ⟨⟨0, [], rfl, ⟨rfl, rfl⟩, by rw [htz]; exact hP9, va_K.moved hWz.alike hK, hD9⟩, hS.F htz⟩) hS.2.2 dX2_mostWithin_44

set_option maxHeartbeats 4000000 in
set_option maxRecDepth 100000 in
theorem c_X2_layMost (l : Launch) (D : va_G) (cB cI cJ cS cZ cO : ClassId) (sz : Nat) (o : Nat) (t : Nat) (r : Nat) (x : Int32) (p_breaks : Nat) (p_starts : Nat) (p_worths : Nat) (p_closing : Nat) (p_isClosingKnown : Int32) (k_name : Nat) (k_worth : Nat) (k_times : Nat) (k_first : Nat) (k_second : Nat) (k_beforeLast : Nat) (k_last : Nat) (k_errandOf : Nat) (k_errandAfter : Nat) (k_sound : Nat) (k_followers : Nat) (k_leaders : Nat) (k_errands : Int32) (k_alikes : Int32) (k_law : Int32) (f1 : Nat → Int32) (f2 : Nat → Int32) : Met l yX2_layMost wsX2_layMost ({ frames := 1, cells := 0, slots := 0, locals := 24 }) (xPre D (tyL cB cI cJ cS cZ cO) [(o, .inr (2, [.ref p_breaks, .ref p_starts, .ref p_worths, .ref p_closing, .int 0, .int p_isClosingKnown])), (t, .inr (8, [.ref k_name, .ref k_worth, .ref k_times, .ref k_first, .ref k_second, .ref k_beforeLast, .ref k_last, .ref k_errandOf, .ref k_errandAfter, .ref k_sound, .ref k_followers, .ref k_leaders, .int 0, .int k_errands, .int k_alikes, .int k_law])), (p_breaks, .inl (cB, 1, .inl f1)), (p_worths, .inl (cI, 1, .inl f2))] sz [.ref o, .ref t, .ref r, .int x]) (xQi D (tyL cB cI cJ cS cZ cO) (va_A [(o, .inr (2, [.ref p_breaks, .ref p_starts, .ref p_worths, .ref p_closing, .int 0, .int p_isClosingKnown])), (t, .inr (8, [.ref k_name, .ref k_worth, .ref k_times, .ref k_first, .ref k_second, .ref k_beforeLast, .ref k_last, .ref k_errandOf, .ref k_errandAfter, .ref k_sound, .ref k_followers, .ref k_leaders, .int 0, .int k_errands, .int k_alikes, .int k_law])), (p_breaks, .inl (cB, 1, .inl f1)), (p_worths, .inl (cI, 1, .inl f2))] sz) (fun (r : Int32) (u : va_W) => ∃ g1 : Nat → Int32, ∃ g2 : Nat → Int32, u = [(o, .inr (2, [.ref p_breaks, .ref p_starts, .ref p_worths, .ref p_closing, .int 1, .int p_isClosingKnown])), (t, .inr (8, [.ref k_name, .ref k_worth, .ref k_times, .ref k_first, .ref k_second, .ref k_beforeLast, .ref k_last, .ref k_errandOf, .ref k_errandAfter, .ref k_sound, .ref k_followers, .ref k_leaders, .int 0, .int k_errands, .int k_alikes, .int k_law])), (p_breaks, .inl (cB, 1, .inl g1)), (p_worths, .inl (cI, 1, .inl g2))] ∧ r = 0)) 0 0 (va_A [(o, .inr (2, [.ref p_breaks, .ref p_starts, .ref p_worths, .ref p_closing, .int 0, .int p_isClosingKnown])), (t, .inr (8, [.ref k_name, .ref k_worth, .ref k_times, .ref k_first, .ref k_second, .ref k_beforeLast, .ref k_last, .ref k_errandOf, .ref k_errandAfter, .ref k_sound, .ref k_followers, .ref k_leaders, .int 0, .int k_errands, .int k_alikes, .int k_law])), (p_breaks, .inl (cB, 1, .inl f1)), (p_worths, .inl (cI, 1, .inl f2))] sz) := by
  refine Met.ofW (cc := cX2_layMost) (maxL := 10) (ret := (some .int)) (by decide) rfl ?_
  intro p e s m args below meth c s₁ B hml hv
  obtain ⟨rfl, hsz, hP, hK, hD0, hN⟩ := hv
  have hx := B.exec
  have hb := B.bytes
  have hr := B.returns
  have hts := atoms_spec (ws := wsX2_layMost) B.pre
  have hown : s.vm.findClass RX2 = some m.cls := findClass_of_methodNamed B.named
  have hlocks := B.notSynchronized
  subst hsz
  have hD := hD0.self (sz := s.heap.size)
  generalize hAe : va_A [(o, .inr (2, [.ref p_breaks, .ref p_starts, .ref p_worths, .ref p_closing, .int 0, .int p_isClosingKnown])), (t, .inr (8, [.ref k_name, .ref k_worth, .ref k_times, .ref k_first, .ref k_second, .ref k_beforeLast, .ref k_last, .ref k_errandOf, .ref k_errandAfter, .ref k_sound, .ref k_followers, .ref k_leaders, .int 0, .int k_errands, .int k_alikes, .int k_law])), (p_breaks, .inl (cB, 1, .inl f1)), (p_worths, .inl (cI, 1, .inl f2))] s.heap.size = A at hD ⊢
  have hA : ∀ q : Nat, s.heap.size ≤ q → A q := fun q h => by rw [← hAe]; exact Or.inr h
  have hS : va_S A s.heap s.heap [] := va_S.rf
  have hP : va_P D vwCl [(o, .inr (2, [.ref p_breaks, .ref p_starts, .ref p_worths, .ref p_closing, .int 0, .int p_isClosingKnown])), (t, .inr (8, [.ref k_name, .ref k_worth, .ref k_times, .ref k_first, .ref k_second, .ref k_beforeLast, .ref k_last, .ref k_errandOf, .ref k_errandAfter, .ref k_sound, .ref k_followers, .ref k_leaders, .int 0, .int k_errands, .int k_alikes, .int k_law])), (p_breaks, .inl (cB, 1, .inl f1)), (p_worths, .inl (cI, 1, .inl f2))] s.heap := hP
  have hl := lv_entry ([.ref o, .ref t, .ref r, .int x]) (n := 10) (Nat.le_of_ble_eq_true rfl)
  rw [lg_entry_eq]
  generalize (lg_sl ([.ref o, .ref t, .ref r, .int x]) ++ List.replicate (10 - (lg_sl ([.ref o, .ref t, .ref r, .int x])).length) Slot.unset).toArray = ls at hl ⊢
  have hl : lv_has ls 10 [(0, .ref o), (1, .ref t), (2, .ref r), (3, .int x)] := hl
  refine lv_aload_n hx hb dX2_layMost_0 rfl (lv_at hl 0 rfl) ?_
  refine lv_aload_n hx hb dX2_layMost_1 rfl (lv_at hl 1 rfl) ?_
  refine xCv (wr := []) (win := [(o, .inr (2, [.ref p_breaks, .ref p_starts, .ref p_worths, .ref p_closing, .int 0, .int p_isClosingKnown])), (t, .inr (8, [.ref k_name, .ref k_worth, .ref k_times, .ref k_first, .ref k_second, .ref k_beforeLast, .ref k_last, .ref k_errandOf, .ref k_errandAfter, .ref k_sound, .ref k_followers, .ref k_leaders, .int 0, .int k_errands, .int k_alikes, .int k_law])), (p_breaks, .inl (cB, 1, .inl f1)), (p_worths, .inl (cI, 1, .inl f2))]) hP hD hS hA [0, 1, 2, 3] [] rfl rfl (by decide) (by decide) (va_runV (As := [.ref t]) (rest := []) ⟨hx, hb, hml, hown, hts⟩ (c_X2_learn_0 l D cB cI cJ cS cZ cO s.heap.size o t p_breaks p_starts p_worths p_closing p_isClosingKnown k_name k_worth k_times k_first k_second k_beforeLast k_last k_errandOf k_errandAfter k_sound k_followers k_leaders k_errands k_alikes k_law f1 f2 ) (cwV 1 hts gX2_layMost_X2_learn rfl rfl rfl (by decide +kernel) ⟨Nat.le_of_ble_eq_true rfl, Nat.le_of_ble_eq_true rfl⟩) (xPreV (win := [(o, .inr (2, [.ref p_breaks, .ref p_starts, .ref p_worths, .ref p_closing, .int 0, .int p_isClosingKnown])), (t, .inr (8, [.ref k_name, .ref k_worth, .ref k_times, .ref k_first, .ref k_second, .ref k_beforeLast, .ref k_last, .ref k_errandOf, .ref k_errandAfter, .ref k_sound, .ref k_followers, .ref k_leaders, .int 0, .int k_errands, .int k_alikes, .int k_law])), (p_breaks, .inl (cB, 1, .inl f1)), (p_worths, .inl (cI, 1, .inl f2))]) hN hK hP hD [0, 1, 2, 3] (by decide) rfl 0 2 rfl rfl rfl) rfl rfl hl.1 rfl (lv_room (Nat.le_of_ble_eq_true rfl)) dX2_layMost_2 ⟨Nat.le_of_ble_eq_true rfl, Nat.le_of_ble_eq_true rfl⟩) (fun w0 H locs hw hP hD hS => ?_)
  obtain ⟨g1_1, g2_2, rfl, hf_3⟩ := hw
  have hP : va_P D vwCl [(o, .inr (2, [.ref p_breaks, .ref p_starts, .ref p_worths, .ref p_closing, .int 1, .int p_isClosingKnown])), (t, .inr (8, [.ref k_name, .ref k_worth, .ref k_times, .ref k_first, .ref k_second, .ref k_beforeLast, .ref k_last, .ref k_errandOf, .ref k_errandAfter, .ref k_sound, .ref k_followers, .ref k_leaders, .int 0, .int k_errands, .int k_alikes, .int k_law])), (p_breaks, .inl (cB, 1, .inl g1_1)), (p_worths, .inl (cI, 1, .inl g2_2))] H := hP
  have hD : va_D A [(o, .inr (2, [.ref p_breaks, .ref p_starts, .ref p_worths, .ref p_closing, .int 1, .int p_isClosingKnown])), (t, .inr (8, [.ref k_name, .ref k_worth, .ref k_times, .ref k_first, .ref k_second, .ref k_beforeLast, .ref k_last, .ref k_errandOf, .ref k_errandAfter, .ref k_sound, .ref k_followers, .ref k_leaders, .int 0, .int k_errands, .int k_alikes, .int k_law])), (p_breaks, .inl (cB, 1, .inl g1_1)), (p_worths, .inl (cI, 1, .inl g2_2))] := hD
  refine lv_aload_n hx hb dX2_layMost_5 rfl (lv_at hl 1 rfl) ?_
  refine xCi (wr := [(o, .inr (2, [.ref p_breaks, .ref p_starts, .ref p_worths, .ref p_closing, .int 1, .int p_isClosingKnown])), (p_breaks, .inl (cB, 1, .inl g1_1)), (p_worths, .inl (cI, 1, .inl g2_2))]) (win := [(t, .inr (8, [.ref k_name, .ref k_worth, .ref k_times, .ref k_first, .ref k_second, .ref k_beforeLast, .ref k_last, .ref k_errandOf, .ref k_errandAfter, .ref k_sound, .ref k_followers, .ref k_leaders, .int 0, .int k_errands, .int k_alikes, .int k_law]))]) hP hD hS hA [1] [0, 2, 3] rfl rfl (by decide) (by decide) (va_runV (As := []) (rest := []) ⟨hx, hb, hml, hown, hts⟩ (c_X8_everyWord l D cB cI cJ cS cZ cO H.size t k_name k_worth k_times k_first k_second k_beforeLast k_last k_errandOf k_errandAfter k_sound k_followers k_leaders k_errands k_alikes k_law ) (cwV 0 hts gX2_layMost_X8_everyWord rfl rfl rfl (by decide +kernel) ⟨Nat.le_of_ble_eq_true rfl, Nat.le_of_ble_eq_true rfl⟩) (xPreV (win := [(t, .inr (8, [.ref k_name, .ref k_worth, .ref k_times, .ref k_first, .ref k_second, .ref k_beforeLast, .ref k_last, .ref k_errandOf, .ref k_errandAfter, .ref k_sound, .ref k_followers, .ref k_leaders, .int 0, .int k_errands, .int k_alikes, .int k_law]))]) hN hK hP hD [1] (by decide) rfl 1 8 rfl rfl rfl) rfl rfl hl.1 rfl (lv_room (Nat.le_of_ble_eq_true rfl)) dX2_layMost_6 ⟨Nat.le_of_ble_eq_true rfl, Nat.le_of_ble_eq_true rfl⟩) (fun r0 w0 H locs hw hP hD hS => ?_)
  obtain ⟨rfl, rfl⟩ := hw
  have hP : va_P D vwCl [(o, .inr (2, [.ref p_breaks, .ref p_starts, .ref p_worths, .ref p_closing, .int 1, .int p_isClosingKnown])), (p_breaks, .inl (cB, 1, .inl g1_1)), (p_worths, .inl (cI, 1, .inl g2_2)), (t, .inr (8, [.ref k_name, .ref k_worth, .ref k_times, .ref k_first, .ref k_second, .ref k_beforeLast, .ref k_last, .ref k_errandOf, .ref k_errandAfter, .ref k_sound, .ref k_followers, .ref k_leaders, .int 0, .int k_errands, .int k_alikes, .int k_law]))] H := hP
  have hD : va_D A [(o, .inr (2, [.ref p_breaks, .ref p_starts, .ref p_worths, .ref p_closing, .int 1, .int p_isClosingKnown])), (p_breaks, .inl (cB, 1, .inl g1_1)), (p_worths, .inl (cI, 1, .inl g2_2)), (t, .inr (8, [.ref k_name, .ref k_worth, .ref k_times, .ref k_first, .ref k_second, .ref k_beforeLast, .ref k_last, .ref k_errandOf, .ref k_errandAfter, .ref k_sound, .ref k_followers, .ref k_leaders, .int 0, .int k_errands, .int k_alikes, .int k_law]))] := hD
  refine lv_istore (lv' := [(4, .int 0), (0, .ref o), (1, .ref t), (2, .ref r), (3, .int x)]) hx hb dX2_layMost_9 hl (by decide) rfl (fun ls hl => ?_)
  refine lv_iload hx hb dX2_layMost_11 (lv_at hl 0 rfl) ?_
  refine lv_istore (lv' := [(5, .int 0), (4, .int 0), (0, .ref o), (1, .ref t), (2, .ref r), (3, .int x)]) hx hb dX2_layMost_13 hl (by decide) rfl (fun ls hl => ?_)
  refine lv_aload_n hx hb dX2_layMost_15 rfl (lv_at hl 2 rfl) ?_
  refine lv_iload hx hb dX2_layMost_16 (lv_at hl 1 rfl) ?_
  refine lv_iload_n hx hb dX2_layMost_18 rfl (lv_at hl 5 rfl) ?_
  refine xCi (wr := [(o, .inr (2, [.ref p_breaks, .ref p_starts, .ref p_worths, .ref p_closing, .int 1, .int p_isClosingKnown])), (p_breaks, .inl (cB, 1, .inl g1_1)), (p_worths, .inl (cI, 1, .inl g2_2)), (t, .inr (8, [.ref k_name, .ref k_worth, .ref k_times, .ref k_first, .ref k_second, .ref k_beforeLast, .ref k_last, .ref k_errandOf, .ref k_errandAfter, .ref k_sound, .ref k_followers, .ref k_leaders, .int 0, .int k_errands, .int k_alikes, .int k_law]))]) (win := []) hP hD hS hA [] [0, 1, 2, 3] rfl rfl (by decide) (by decide) (va_runV (As := [.int 0, .int x]) (rest := []) ⟨hx, hb, hml, hown, hts⟩ (c_X2_mostWithin l D cB cI cJ cS cZ cO H.size o x ) (cwV 2 hts gX2_layMost_X2_mostWithin rfl rfl rfl (by decide +kernel) ⟨Nat.le_of_ble_eq_true rfl, Nat.le_of_ble_eq_true rfl⟩) (xPreV (win := []) hN hK hP hD [] (by decide) rfl 0 2 rfl rfl rfl) rfl rfl hl.1 rfl (lv_room (Nat.le_of_ble_eq_true rfl)) dX2_layMost_19 ⟨Nat.le_of_ble_eq_true rfl, Nat.le_of_ble_eq_true rfl⟩) (fun r0 w0 H locs hw hP hD hS => ?_)
  obtain ⟨rfl, rfl⟩ := hw
  have hP : va_P D vwCl [(o, .inr (2, [.ref p_breaks, .ref p_starts, .ref p_worths, .ref p_closing, .int 1, .int p_isClosingKnown])), (p_breaks, .inl (cB, 1, .inl g1_1)), (p_worths, .inl (cI, 1, .inl g2_2)), (t, .inr (8, [.ref k_name, .ref k_worth, .ref k_times, .ref k_first, .ref k_second, .ref k_beforeLast, .ref k_last, .ref k_errandOf, .ref k_errandAfter, .ref k_sound, .ref k_followers, .ref k_leaders, .int 0, .int k_errands, .int k_alikes, .int k_law]))] H := hP
  have hD : va_D A [(o, .inr (2, [.ref p_breaks, .ref p_starts, .ref p_worths, .ref p_closing, .int 1, .int p_isClosingKnown])), (p_breaks, .inl (cB, 1, .inl g1_1)), (p_worths, .inl (cI, 1, .inl g2_2)), (t, .inr (8, [.ref k_name, .ref k_worth, .ref k_times, .ref k_first, .ref k_second, .ref k_beforeLast, .ref k_last, .ref k_errandOf, .ref k_errandAfter, .ref k_sound, .ref k_followers, .ref k_leaders, .int 0, .int k_errands, .int k_alikes, .int k_law]))] := hD
  refine lv_istore (lv' := [(6, .int 0), (5, .int 0), (4, .int 0), (0, .ref o), (1, .ref t), (2, .ref r), (3, .int x)]) hx hb dX2_layMost_22 hl (by decide) rfl (fun ls hl => ?_)
  refine lv_iload hx hb dX2_layMost_24 (lv_at hl 0 rfl) ?_
  refine lv_istore (lv' := [(7, .int 0), (6, .int 0), (5, .int 0), (4, .int 0), (0, .ref o), (1, .ref t), (2, .ref r), (3, .int x)]) hx hb dX2_layMost_26 hl (by decide) rfl (fun ls hl => ?_)
  refine lv_iconst (v := 0) hx hb dX2_layMost_28 (by decide) ?_
  refine lv_istore (lv' := [(8, .int 0), (7, .int 0), (6, .int 0), (5, .int 0), (4, .int 0), (0, .ref o), (1, .ref t), (2, .ref r), (3, .int x)]) hx hb dX2_layMost_29 hl (by decide) rfl (fun ls hl => ?_)
  refine lv_iload hx hb dX2_layMost_31 (lv_at hl 0 rfl) ?_
  refine lv_aload_n hx hb dX2_layMost_33 rfl (lv_at hl 6 rfl) ?_
  refine va_getN (D := D) (ci := 8) (v := .int 0) (C := RX8) (T := TX8) (N := 16) hx hb hts (by decide +kernel) hown hK hP 3 rfl rfl 12 (by decide) (va_Nw.use rfl (hN.1 (RX2, 46, RX8, "words", "I", RX10) (by decide +kernel))) (fun _ h9 => h9) rfl dX2_layMost_34 ?_
  refine lv_icmp_ge (tgt := 118) hx hb dX2_layMost_37 (by decide) (fun c_4 => ?_) (fun c_4 => absurd (by decide) c_4)
  refine lv_iload hx hb dX2_layMost_118 (lv_at hl 2 rfl) ?_
  have hP9 := hP.sub (ws' := [(o, .inr (2, [.ref p_breaks, .ref p_starts, .ref p_worths, .ref p_closing, .int 1, .int p_isClosingKnown])), (t, .inr (8, [.ref k_name, .ref k_worth, .ref k_times, .ref k_first, .ref k_second, .ref k_beforeLast, .ref k_last, .ref k_errandOf, .ref k_errandAfter, .ref k_sound, .ref k_followers, .ref k_leaders, .int 0, .int k_errands, .int k_alikes, .int k_law])), (p_breaks, .inl (cB, 1, .inl g1_1)), (p_worths, .inl (cI, 1, .inl g2_2))]) [0, 3, 1, 2] rfl
  have hD9 := hD.sub (ws' := [(o, .inr (2, [.ref p_breaks, .ref p_starts, .ref p_worths, .ref p_closing, .int 1, .int p_isClosingKnown])), (t, .inr (8, [.ref k_name, .ref k_worth, .ref k_times, .ref k_first, .ref k_second, .ref k_beforeLast, .ref k_last, .ref k_errandOf, .ref k_errandAfter, .ref k_sound, .ref k_followers, .ref k_leaders, .int 0, .int k_errands, .int k_alikes, .int k_law])), (p_breaks, .inl (cB, 1, .inl g1_1)), (p_worths, .inl (cI, 1, .inl g2_2))]) [0, 3, 1, 2] (by decide) rfl
  refine W.widen (k := 0) (n := 0) (Nat.le_of_ble_eq_true rfl) (Nat.le_of_ble_eq_true rfl) ?_
  exact W.iret (v := 0) hx hb hr (fun tz htz hWz => ⟨⟨0, [(o, .inr (2, [.ref p_breaks, .ref p_starts, .ref p_worths, .ref p_closing, .int 1, .int p_isClosingKnown])), (t, .inr (8, [.ref k_name, .ref k_worth, .ref k_times, .ref k_first, .ref k_second, .ref k_beforeLast, .ref k_last, .ref k_errandOf, .ref k_errandAfter, .ref k_sound, .ref k_followers, .ref k_leaders, .int 0, .int k_errands, .int k_alikes, .int k_law])), (p_breaks, .inl (cB, 1, .inl g1_1)), (p_worths, .inl (cI, 1, .inl g2_2))], rfl, ⟨g1_1, g2_2, rfl, rfl⟩, by rw [htz]; exact hP9, va_K.moved hWz.alike hK, hD9⟩, hS.F htz⟩) hS.2.2 dX2_layMost_120
