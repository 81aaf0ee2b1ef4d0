theorem dX4_turn_0 : decode cX4_turn 0 = .ok (.iconst 0, 1) := by decide +kernel
theorem dX4_turn_1 : decode cX4_turn 1 = .ok (.istore_n 1, 1) := by decide +kernel
theorem dX4_turn_2 : decode cX4_turn 2 = .ok (.aload_n 0, 1) := by decide +kernel
theorem dX4_turn_3 : decode cX4_turn 3 = .ok (.getfield 15, 3) := by decide +kernel
theorem dX4_turn_6 : decode cX4_turn 6 = .ok (.iconst 1, 1) := by decide +kernel
theorem dX4_turn_7 : decode cX4_turn 7 = .ok (.isub, 1) := by decide +kernel
theorem dX4_turn_8 : decode cX4_turn 8 = .ok (.istore_n 2, 1) := by decide +kernel
theorem dX4_turn_9 : decode cX4_turn 9 = .ok (.iload_n 1, 1) := by decide +kernel
theorem dX4_turn_10 : decode cX4_turn 10 = .ok (.iload_n 2, 1) := by decide +kernel
theorem dX4_turn_11 : decode cX4_turn 11 = .ok (.if_icmp .ge 38, 3) := by decide +kernel
theorem dX4_turn_14 : decode cX4_turn 14 = .ok (.aload_n 0, 1) := by decide +kernel
theorem dX4_turn_15 : decode cX4_turn 15 = .ok (.getfield 9, 3) := by decide +kernel
theorem dX4_turn_18 : decode cX4_turn 18 = .ok (.iload_n 1, 1) := by decide +kernel
theorem dX4_turn_19 : decode cX4_turn 19 = .ok (.iaload, 1) := by decide +kernel
theorem dX4_turn_20 : decode cX4_turn 20 = .ok (.istore_n 3, 1) := by decide +kernel
theorem dX4_turn_21 : decode cX4_turn 21 = .ok (.aload_n 0, 1) := by decide +kernel
theorem dX4_turn_22 : decode cX4_turn 22 = .ok (.getfield 9, 3) := by decide +kernel
theorem dX4_turn_25 : decode cX4_turn 25 = .ok (.iload_n 1, 1) := by decide +kernel
theorem dX4_turn_26 : decode cX4_turn 26 = .ok (.aload_n 0, 1) := by decide +kernel
theorem dX4_turn_27 : decode cX4_turn 27 = .ok (.getfield 9, 3) := by decide +kernel
theorem dX4_turn_30 : decode cX4_turn 30 = .ok (.iload_n 2, 1) := by decide +kernel
theorem dX4_turn_31 : decode cX4_turn 31 = .ok (.iaload, 1) := by decide +kernel
theorem dX4_turn_32 : decode cX4_turn 32 = .ok (.iastore, 1) := by decide +kernel
theorem dX4_turn_33 : decode cX4_turn 33 = .ok (.aload_n 0, 1) := by decide +kernel
theorem dX4_turn_34 : decode cX4_turn 34 = .ok (.getfield 9, 3) := by decide +kernel
theorem dX4_turn_37 : decode cX4_turn 37 = .ok (.iload_n 2, 1) := by decide +kernel
theorem dX4_turn_38 : decode cX4_turn 38 = .ok (.iload_n 3, 1) := by decide +kernel
theorem dX4_turn_39 : decode cX4_turn 39 = .ok (.iastore, 1) := by decide +kernel
theorem dX4_turn_40 : decode cX4_turn 40 = .ok (.iinc 1 1, 3) := by decide +kernel
theorem dX4_turn_43 : decode cX4_turn 43 = .ok (.iinc 2 (-1), 3) := by decide +kernel
theorem dX4_turn_46 : decode cX4_turn 46 = .ok (.goto (-37), 3) := by decide +kernel
theorem dX4_turn_49 : decode cX4_turn 49 = .ok (.return_, 1) := by decide +kernel
theorem dX5_begin_0 : decode cX5_begin 0 = .ok (.aload_n 0, 1) := by decide +kernel
theorem dX5_begin_1 : decode cX5_begin 1 = .ok (.getfield 9, 3) := by decide +kernel
theorem dX5_begin_4 : decode cX5_begin 4 = .ok (.bipush (-2), 2) := by decide +kernel
theorem dX5_begin_6 : decode cX5_begin 6 = .ok (.invokestatic 45, 3) := by decide +kernel
theorem dX5_begin_9 : decode cX5_begin 9 = .ok (.aload_n 0, 1) := by decide +kernel
theorem dX5_begin_10 : decode cX5_begin 10 = .ok (.iconst 0, 1) := by decide +kernel
theorem dX5_begin_11 : decode cX5_begin 11 = .ok (.putfield 25, 3) := by decide +kernel
theorem dX5_begin_14 : decode cX5_begin 14 = .ok (.return_, 1) := by decide +kernel
theorem dX5_enter_0 : decode cX5_enter 0 = .ok (.iload_n 3, 1) := by decide +kernel
theorem dX5_enter_1 : decode cX5_enter 1 = .ok (.iconst (-1), 1) := by decide +kernel
theorem dX5_enter_2 : decode cX5_enter 2 = .ok (.if_icmp .ne 7, 3) := by decide +kernel
theorem dX5_enter_5 : decode cX5_enter 5 = .ok (.iconst 0, 1) := by decide +kernel
theorem dX5_enter_6 : decode cX5_enter 6 = .ok (.goto 7, 3) := by decide +kernel
theorem dX5_enter_9 : decode cX5_enter 9 = .ok (.iload_n 3, 1) := by decide +kernel
theorem dX5_enter_10 : decode cX5_enter 10 = .ok (.bipush 24, 2) := by decide +kernel
theorem dX5_enter_12 : decode cX5_enter 12 = .ok (.idiv, 1) := by decide +kernel
theorem dX5_enter_13 : decode cX5_enter 13 = .ok (.istore 5, 2) := by decide +kernel
theorem dX5_enter_15 : decode cX5_enter 15 = .ok (.iconst 0, 1) := by decide +kernel
theorem dX5_enter_16 : decode cX5_enter 16 = .ok (.istore 6, 2) := by decide +kernel
theorem dX5_enter_18 : decode cX5_enter 18 = .ok (.iload 6, 2) := by decide +kernel
theorem dX5_enter_20 : decode cX5_enter 20 = .ok (.aload_n 1, 1) := by decide +kernel
theorem dX5_enter_21 : decode cX5_enter 21 = .ok (.getfield 51, 3) := by decide +kernel
theorem dX5_enter_24 : decode cX5_enter 24 = .ok (.if_icmp .ge 98, 3) := by decide +kernel
theorem dX5_enter_27 : decode cX5_enter 27 = .ok (.iload_n 2, 1) := by decide +kernel
theorem dX5_enter_28 : decode cX5_enter 28 = .ok (.iload 6, 2) := by decide +kernel
theorem dX5_enter_30 : decode cX5_enter 30 = .ok (.invokestatic 54, 3) := by decide +kernel
theorem dX5_enter_33 : decode cX5_enter 33 = .ok (.ifCond .eq 83, 3) := by decide +kernel
theorem dX5_enter_36 : decode cX5_enter 36 = .ok (.iload 4, 2) := by decide +kernel
theorem dX5_enter_38 : decode cX5_enter 38 = .ok (.ifCond .eq 14, 3) := by decide +kernel
theorem dX5_enter_41 : decode cX5_enter 41 = .ok (.aload_n 1, 1) := by decide +kernel
theorem dX5_enter_42 : decode cX5_enter 42 = .ok (.iload 5, 2) := by decide +kernel
theorem dX5_enter_44 : decode cX5_enter 44 = .ok (.iload 6, 2) := by decide +kernel
theorem dX5_enter_46 : decode cX5_enter 46 = .ok (.invokevirtual 58, 3) := by decide +kernel
theorem dX5_enter_49 : decode cX5_enter 49 = .ok (.goto 4, 3) := by decide +kernel
theorem dX5_enter_52 : decode cX5_enter 52 = .ok (.iconst 0, 1) := by decide +kernel
theorem dX5_enter_53 : decode cX5_enter 53 = .ok (.istore 7, 2) := by decide +kernel
theorem dX5_enter_55 : decode cX5_enter 55 = .ok (.iload 7, 2) := by decide +kernel
theorem dX5_enter_57 : decode cX5_enter 57 = .ok (.bipush 24, 2) := by decide +kernel
theorem dX5_enter_59 : decode cX5_enter 59 = .ok (.imul, 1) := by decide +kernel
theorem dX5_enter_60 : decode cX5_enter 60 = .ok (.iload 6, 2) := by decide +kernel
theorem dX5_enter_62 : decode cX5_enter 62 = .ok (.iadd, 1) := by decide +kernel
theorem dX5_enter_63 : decode cX5_enter 63 = .ok (.istore 8, 2) := by decide +kernel
theorem dX5_enter_65 : decode cX5_enter 65 = .ok (.aload_n 0, 1) := by decide +kernel
theorem dX5_enter_66 : decode cX5_enter 66 = .ok (.getfield 9, 3) := by decide +kernel
theorem dX5_enter_69 : decode cX5_enter 69 = .ok (.iload 8, 2) := by decide +kernel
theorem dX5_enter_71 : decode cX5_enter 71 = .ok (.iaload, 1) := by decide +kernel
theorem dX5_enter_72 : decode cX5_enter 72 = .ok (.bipush (-2), 2) := by decide +kernel
theorem dX5_enter_74 : decode cX5_enter 74 = .ok (.if_icmp .ne 42, 3) := by decide +kernel
theorem dX5_enter_77 : decode cX5_enter 77 = .ok (.aload_n 0, 1) := by decide +kernel
theorem dX5_enter_78 : decode cX5_enter 78 = .ok (.getfield 25, 3) := by decide +kernel
theorem dX5_enter_81 : decode cX5_enter 81 = .ok (.sipush 1536, 3) := by decide +kernel
theorem dX5_enter_84 : decode cX5_enter 84 = .ok (.if_icmp .ge 32, 3) := by decide +kernel
theorem dX5_enter_87 : decode cX5_enter 87 = .ok (.aload_n 0, 1) := by decide +kernel
theorem dX5_enter_88 : decode cX5_enter 88 = .ok (.getfield 9, 3) := by decide +kernel
theorem dX5_enter_91 : decode cX5_enter 91 = .ok (.iload 8, 2) := by decide +kernel
theorem dX5_enter_93 : decode cX5_enter 93 = .ok (.iload_n 3, 1) := by decide +kernel
theorem dX5_enter_94 : decode cX5_enter 94 = .ok (.iastore, 1) := by decide +kernel
theorem dX5_enter_95 : decode cX5_enter 95 = .ok (.aload_n 0, 1) := by decide +kernel
theorem dX5_enter_96 : decode cX5_enter 96 = .ok (.getfield 15, 3) := by decide +kernel
theorem dX5_enter_99 : decode cX5_enter 99 = .ok (.aload_n 0, 1) := by decide +kernel
theorem dX5_enter_100 : decode cX5_enter 100 = .ok (.getfield 25, 3) := by decide +kernel
theorem dX5_enter_103 : decode cX5_enter 103 = .ok (.iload 8, 2) := by decide +kernel
theorem dX5_enter_105 : decode cX5_enter 105 = .ok (.iastore, 1) := by decide +kernel
theorem dX5_enter_106 : decode cX5_enter 106 = .ok (.aload_n 0, 1) := by decide +kernel
theorem dX5_enter_107 : decode cX5_enter 107 = .ok (.dup, 1) := by decide +kernel
theorem dX5_enter_108 : decode cX5_enter 108 = .ok (.getfield 25, 3) := by decide +kernel
theorem dX5_enter_111 : decode cX5_enter 111 = .ok (.iconst 1, 1) := by decide +kernel
theorem dX5_enter_112 : decode cX5_enter 112 = .ok (.iadd, 1) := by decide +kernel
theorem dX5_enter_113 : decode cX5_enter 113 = .ok (.putfield 25, 3) := by decide +kernel
theorem dX5_enter_116 : decode cX5_enter 116 = .ok (.iinc 6 1, 3) := by decide +kernel
theorem dX5_enter_119 : decode cX5_enter 119 = .ok (.goto (-101), 3) := by decide +kernel
theorem dX5_enter_122 : decode cX5_enter 122 = .ok (.return_, 1) := by decide +kernel
theorem dX5_lay_0 : decode cX5_lay 0 = .ok (.iload_n 2, 1) := by decide +kernel
theorem dX5_lay_1 : decode cX5_lay 1 = .ok (.istore_n 3, 1) := by decide +kernel
theorem dX5_lay_2 : decode cX5_lay 2 = .ok (.iconst 0, 1) := by decide +kernel
theorem dX5_lay_3 : decode cX5_lay 3 = .ok (.istore 4, 2) := by decide +kernel
theorem dX5_lay_5 : decode cX5_lay 5 = .ok (.iload 4, 2) := by decide +kernel
theorem dX5_lay_7 : decode cX5_lay 7 = .ok (.sipush 160, 3) := by decide +kernel
theorem dX5_lay_10 : decode cX5_lay 10 = .ok (.if_icmp .ge 28, 3) := by decide +kernel
theorem dX5_lay_13 : decode cX5_lay 13 = .ok (.iload_n 3, 1) := by decide +kernel
theorem dX5_lay_14 : decode cX5_lay 14 = .ok (.ifCond .lt 24, 3) := by decide +kernel
theorem dX5_lay_17 : decode cX5_lay 17 = .ok (.aload_n 1, 1) := by decide +kernel
theorem dX5_lay_18 : decode cX5_lay 18 = .ok (.iload_n 3, 1) := by decide +kernel
theorem dX5_lay_19 : decode cX5_lay 19 = .ok (.bipush 24, 2) := by decide +kernel
theorem dX5_lay_21 : decode cX5_lay 21 = .ok (.irem, 1) := by decide +kernel
theorem dX5_lay_22 : decode cX5_lay 22 = .ok (.invokevirtual 62, 3) := by decide +kernel
theorem dX5_lay_25 : decode cX5_lay 25 = .ok (.aload_n 0, 1) := by decide +kernel
theorem dX5_lay_26 : decode cX5_lay 26 = .ok (.getfield 9, 3) := by decide +kernel
theorem dX5_lay_29 : decode cX5_lay 29 = .ok (.iload_n 3, 1) := by decide +kernel
theorem dX5_lay_30 : decode cX5_lay 30 = .ok (.iaload, 1) := by decide +kernel
theorem dX5_lay_31 : decode cX5_lay 31 = .ok (.istore_n 3, 1) := by decide +kernel
theorem dX5_lay_32 : decode cX5_lay 32 = .ok (.iinc 4 1, 3) := by decide +kernel
theorem dX5_lay_35 : decode cX5_lay 35 = .ok (.goto (-30), 3) := by decide +kernel
theorem dX5_lay_38 : decode cX5_lay 38 = .ok (.aload_n 1, 1) := by decide +kernel
theorem dX5_lay_39 : decode cX5_lay 39 = .ok (.invokevirtual 68, 3) := by decide +kernel
theorem dX5_lay_42 : decode cX5_lay 42 = .ok (.aload_n 1, 1) := by decide +kernel
theorem dX5_lay_43 : decode cX5_lay 43 = .ok (.getfield 71, 3) := by decide +kernel
theorem dX5_lay_46 : decode cX5_lay 46 = .ok (.ireturn, 1) := by decide +kernel
theorem dX5_layJoin_0 : decode cX5_layJoin 0 = .ok (.aload_n 0, 1) := by decide +kernel
theorem dX5_layJoin_1 : decode cX5_layJoin 1 = .ok (.invokevirtual 18, 3) := by decide +kernel
theorem dX5_layJoin_4 : decode cX5_layJoin 4 = .ok (.aload_n 0, 1) := by decide +kernel
theorem dX5_layJoin_5 : decode cX5_layJoin 5 = .ok (.aload_n 1, 1) := by decide +kernel
theorem dX5_layJoin_6 : decode cX5_layJoin 6 = .ok (.iconst 1, 1) := by decide +kernel
theorem dX5_layJoin_7 : decode cX5_layJoin 7 = .ok (.iload_n 3, 1) := by decide +kernel
theorem dX5_layJoin_8 : decode cX5_layJoin 8 = .ok (.ishl, 1) := by decide +kernel
theorem dX5_layJoin_9 : decode cX5_layJoin 9 = .ok (.iconst (-1), 1) := by decide +kernel
theorem dX5_layJoin_10 : decode cX5_layJoin 10 = .ok (.iconst 0, 1) := by decide +kernel
theorem dX5_layJoin_11 : decode cX5_layJoin 11 = .ok (.invokevirtual 21, 3) := by decide +kernel
theorem dX5_layJoin_14 : decode cX5_layJoin 14 = .ok (.iconst 0, 1) := by decide +kernel
theorem dX5_layJoin_15 : decode cX5_layJoin 15 = .ok (.istore 5, 2) := by decide +kernel
theorem dX5_layJoin_17 : decode cX5_layJoin 17 = .ok (.iload 5, 2) := by decide +kernel
theorem dX5_layJoin_19 : decode cX5_layJoin 19 = .ok (.aload_n 0, 1) := by decide +kernel
theorem dX5_layJoin_20 : decode cX5_layJoin 20 = .ok (.getfield 25, 3) := by decide +kernel
theorem dX5_layJoin_23 : decode cX5_layJoin 23 = .ok (.if_icmp .ge 62, 3) := by decide +kernel
theorem dX5_layJoin_26 : decode cX5_layJoin 26 = .ok (.iload 5, 2) := by decide +kernel
theorem dX5_layJoin_28 : decode cX5_layJoin 28 = .ok (.sipush 1536, 3) := by decide +kernel
theorem dX5_layJoin_31 : decode cX5_layJoin 31 = .ok (.if_icmp .ge 54, 3) := by decide +kernel
theorem dX5_layJoin_34 : decode cX5_layJoin 34 = .ok (.aload_n 0, 1) := by decide +kernel
theorem dX5_layJoin_35 : decode cX5_layJoin 35 = .ok (.getfield 15, 3) := by decide +kernel
theorem dX5_layJoin_38 : decode cX5_layJoin 38 = .ok (.iload 5, 2) := by decide +kernel
theorem dX5_layJoin_40 : decode cX5_layJoin 40 = .ok (.iaload, 1) := by decide +kernel
theorem dX5_layJoin_41 : decode cX5_layJoin 41 = .ok (.iload 4, 2) := by decide +kernel
theorem dX5_layJoin_43 : decode cX5_layJoin 43 = .ok (.if_icmp .ne 11, 3) := by decide +kernel
theorem dX5_layJoin_46 : decode cX5_layJoin 46 = .ok (.aload_n 0, 1) := by decide +kernel
theorem dX5_layJoin_47 : decode cX5_layJoin 47 = .ok (.aload_n 2, 1) := by decide +kernel
theorem dX5_layJoin_48 : decode cX5_layJoin 48 = .ok (.iload 4, 2) := by decide +kernel
theorem dX5_layJoin_50 : decode cX5_layJoin 50 = .ok (.invokevirtual 29, 3) := by decide +kernel
theorem dX5_layJoin_53 : decode cX5_layJoin 53 = .ok (.ireturn, 1) := by decide +kernel
theorem dX5_layJoin_54 : decode cX5_layJoin 54 = .ok (.aload_n 0, 1) := by decide +kernel
theorem dX5_layJoin_55 : decode cX5_layJoin 55 = .ok (.aload_n 1, 1) := by decide +kernel
theorem dX5_layJoin_56 : decode cX5_layJoin 56 = .ok (.aload_n 1, 1) := by decide +kernel
theorem dX5_layJoin_57 : decode cX5_layJoin 57 = .ok (.getfield 33, 3) := by decide +kernel
theorem dX5_layJoin_60 : decode cX5_layJoin 60 = .ok (.aload_n 0, 1) := by decide +kernel
theorem dX5_layJoin_61 : decode cX5_layJoin 61 = .ok (.getfield 15, 3) := by decide +kernel
theorem dX5_layJoin_64 : decode cX5_layJoin 64 = .ok (.iload 5, 2) := by decide +kernel
theorem dX5_layJoin_66 : decode cX5_layJoin 66 = .ok (.iaload, 1) := by decide +kernel
theorem dX5_layJoin_67 : decode cX5_layJoin 67 = .ok (.iaload, 1) := by decide +kernel
theorem dX5_layJoin_68 : decode cX5_layJoin 68 = .ok (.aload_n 0, 1) := by decide +kernel
theorem dX5_layJoin_69 : decode cX5_layJoin 69 = .ok (.getfield 15, 3) := by decide +kernel
theorem dX5_layJoin_72 : decode cX5_layJoin 72 = .ok (.iload 5, 2) := by decide +kernel
theorem dX5_layJoin_74 : decode cX5_layJoin 74 = .ok (.iaload, 1) := by decide +kernel
theorem dX5_layJoin_75 : decode cX5_layJoin 75 = .ok (.iconst 0, 1) := by decide +kernel
theorem dX5_layJoin_76 : decode cX5_layJoin 76 = .ok (.invokevirtual 21, 3) := by decide +kernel
theorem dX5_layJoin_79 : decode cX5_layJoin 79 = .ok (.iinc 5 1, 3) := by decide +kernel
theorem dX5_layJoin_82 : decode cX5_layJoin 82 = .ok (.goto (-65), 3) := by decide +kernel
theorem dX5_layJoin_85 : decode cX5_layJoin 85 = .ok (.iconst (-1), 1) := by decide +kernel
theorem dX5_layJoin_86 : decode cX5_layJoin 86 = .ok (.ireturn, 1) := by decide +kernel
theorem dX5_layTelling_0 : decode cX5_layTelling 0 = .ok (.iconst 1, 1) := by decide +kernel
theorem dX5_layTelling_1 : decode cX5_layTelling 1 = .ok (.aload_n 1, 1) := by decide +kernel
theorem dX5_layTelling_2 : decode cX5_layTelling 2 = .ok (.getfield 38, 3) := by decide +kernel
theorem dX5_layTelling_5 : decode cX5_layTelling 5 = .ok (.ishl, 1) := by decide +kernel
theorem dX5_layTelling_6 : decode cX5_layTelling 6 = .ok (.iconst 1, 1) := by decide +kernel
theorem dX5_layTelling_7 : decode cX5_layTelling 7 = .ok (.isub, 1) := by decide +kernel
theorem dX5_layTelling_8 : decode cX5_layTelling 8 = .ok (.istore_n 3, 1) := by decide +kernel
theorem dX5_layTelling_9 : decode cX5_layTelling 9 = .ok (.aload_n 0, 1) := by decide +kernel
theorem dX5_layTelling_10 : decode cX5_layTelling 10 = .ok (.invokevirtual 18, 3) := by decide +kernel
theorem dX5_layTelling_13 : decode cX5_layTelling 13 = .ok (.aload_n 0, 1) := by decide +kernel
theorem dX5_layTelling_14 : decode cX5_layTelling 14 = .ok (.aload_n 1, 1) := by decide +kernel
theorem dX5_layTelling_15 : decode cX5_layTelling 15 = .ok (.aload_n 1, 1) := by decide +kernel
theorem dX5_layTelling_16 : decode cX5_layTelling 16 = .ok (.invokevirtual 41, 3) := by decide +kernel
theorem dX5_layTelling_19 : decode cX5_layTelling 19 = .ok (.iconst (-1), 1) := by decide +kernel
theorem dX5_layTelling_20 : decode cX5_layTelling 20 = .ok (.iconst 1, 1) := by decide +kernel
theorem dX5_layTelling_21 : decode cX5_layTelling 21 = .ok (.invokevirtual 21, 3) := by decide +kernel
theorem dX5_layTelling_24 : decode cX5_layTelling 24 = .ok (.iconst 0, 1) := by decide +kernel
theorem dX5_layTelling_25 : decode cX5_layTelling 25 = .ok (.istore 4, 2) := by decide +kernel
theorem dX5_layTelling_27 : decode cX5_layTelling 27 = .ok (.iload 4, 2) := by decide +kernel
theorem dX5_layTelling_29 : decode cX5_layTelling 29 = .ok (.aload_n 0, 1) := by decide +kernel
theorem dX5_layTelling_30 : decode cX5_layTelling 30 = .ok (.getfield 25, 3) := by decide +kernel
theorem dX5_layTelling_33 : decode cX5_layTelling 33 = .ok (.if_icmp .ge 72, 3) := by decide +kernel
theorem dX5_layTelling_36 : decode cX5_layTelling 36 = .ok (.iload 4, 2) := by decide +kernel
theorem dX5_layTelling_38 : decode cX5_layTelling 38 = .ok (.sipush 1536, 3) := by decide +kernel
theorem dX5_layTelling_41 : decode cX5_layTelling 41 = .ok (.if_icmp .ge 64, 3) := by decide +kernel
theorem dX5_layTelling_44 : decode cX5_layTelling 44 = .ok (.aload_n 0, 1) := by decide +kernel
theorem dX5_layTelling_45 : decode cX5_layTelling 45 = .ok (.getfield 15, 3) := by decide +kernel
theorem dX5_layTelling_48 : decode cX5_layTelling 48 = .ok (.iload 4, 2) := by decide +kernel
theorem dX5_layTelling_50 : decode cX5_layTelling 50 = .ok (.iaload, 1) := by decide +kernel
theorem dX5_layTelling_51 : decode cX5_layTelling 51 = .ok (.bipush 24, 2) := by decide +kernel
theorem dX5_layTelling_53 : decode cX5_layTelling 53 = .ok (.idiv, 1) := by decide +kernel
theorem dX5_layTelling_54 : decode cX5_layTelling 54 = .ok (.iload_n 3, 1) := by decide +kernel
theorem dX5_layTelling_55 : decode cX5_layTelling 55 = .ok (.if_icmp .ne 16, 3) := by decide +kernel
theorem dX5_layTelling_58 : decode cX5_layTelling 58 = .ok (.aload_n 0, 1) := by decide +kernel
theorem dX5_layTelling_59 : decode cX5_layTelling 59 = .ok (.aload_n 2, 1) := by decide +kernel
theorem dX5_layTelling_60 : decode cX5_layTelling 60 = .ok (.aload_n 0, 1) := by decide +kernel
theorem dX5_layTelling_61 : decode cX5_layTelling 61 = .ok (.getfield 15, 3) := by decide +kernel
theorem dX5_layTelling_64 : decode cX5_layTelling 64 = .ok (.iload 4, 2) := by decide +kernel
theorem dX5_layTelling_66 : decode cX5_layTelling 66 = .ok (.iaload, 1) := by decide +kernel
theorem dX5_layTelling_67 : decode cX5_layTelling 67 = .ok (.invokevirtual 29, 3) := by decide +kernel
theorem dX5_layTelling_70 : decode cX5_layTelling 70 = .ok (.ireturn, 1) := by decide +kernel
theorem dX5_layTelling_71 : decode cX5_layTelling 71 = .ok (.aload_n 0, 1) := by decide +kernel
theorem dX5_layTelling_72 : decode cX5_layTelling 72 = .ok (.aload_n 1, 1) := by decide +kernel
theorem dX5_layTelling_73 : decode cX5_layTelling 73 = .ok (.aload_n 1, 1) := by decide +kernel
theorem dX5_layTelling_74 : decode cX5_layTelling 74 = .ok (.getfield 33, 3) := by decide +kernel
theorem dX5_layTelling_77 : decode cX5_layTelling 77 = .ok (.aload_n 0, 1) := by decide +kernel
theorem dX5_layTelling_78 : decode cX5_layTelling 78 = .ok (.getfield 15, 3) := by decide +kernel
theorem dX5_layTelling_81 : decode cX5_layTelling 81 = .ok (.iload 4, 2) := by decide +kernel
theorem dX5_layTelling_83 : decode cX5_layTelling 83 = .ok (.iaload, 1) := by decide +kernel
theorem dX5_layTelling_84 : decode cX5_layTelling 84 = .ok (.bipush 24, 2) := by decide +kernel
theorem dX5_layTelling_86 : decode cX5_layTelling 86 = .ok (.irem, 1) := by decide +kernel
theorem dX5_layTelling_87 : decode cX5_layTelling 87 = .ok (.iaload, 1) := by decide +kernel
theorem dX5_layTelling_88 : decode cX5_layTelling 88 = .ok (.aload_n 0, 1) := by decide +kernel
theorem dX5_layTelling_89 : decode cX5_layTelling 89 = .ok (.getfield 15, 3) := by decide +kernel
theorem dX5_layTelling_92 : decode cX5_layTelling 92 = .ok (.iload 4, 2) := by decide +kernel
theorem dX5_layTelling_94 : decode cX5_layTelling 94 = .ok (.iaload, 1) := by decide +kernel
theorem dX5_layTelling_95 : decode cX5_layTelling 95 = .ok (.iconst 1, 1) := by decide +kernel
theorem dX5_layTelling_96 : decode cX5_layTelling 96 = .ok (.invokevirtual 21, 3) := by decide +kernel
theorem dX5_layTelling_99 : decode cX5_layTelling 99 = .ok (.iinc 4 1, 3) := by decide +kernel
theorem dX5_layTelling_102 : decode cX5_layTelling 102 = .ok (.goto (-75), 3) := by decide +kernel
theorem dX5_layTelling_105 : decode cX5_layTelling 105 = .ok (.iconst (-1), 1) := by decide +kernel
theorem dX5_layTelling_106 : decode cX5_layTelling 106 = .ok (.ireturn, 1) := by decide +kernel
set_option maxRecDepth 20000 in
theorem ggX5_begin_J7_fill_53178 : GoodIn wsX5_begin wsJ7_fill_53178 := goodIn_r _ [6] (by decide +kernel) (by decide +kernel)
set_option maxRecDepth 20000 in
theorem gX5_begin_J7_fill_53178 : GoodIn wsX5_begin (va_wsS RX5 45 yJ7_fill_53178 wsJ7_fill_53178) := goodIn_app (goodIn_of _ (by decide +kernel)) ggX5_begin_J7_fill_53178
set_option maxRecDepth 20000 in
theorem ggX5_enter_X10_isIn : GoodIn wsX5_enter wsX10_isIn := goodIn_r _ [6] (by decide +kernel) (by decide +kernel)
set_option maxRecDepth 20000 in
theorem gX5_enter_X10_isIn_n54 : GoodIn wsX5_enter (wsX10_isIn) := ggX5_enter_X10_isIn
set_option maxRecDepth 20000 in
theorem ggX5_enter_X8_doneBehind : GoodIn wsX5_enter wsX8_doneBehind := goodIn_r _ [11, 12, 13, 4, 5, 6, 14, 15, 16, 17, 18, 19, 20, 21, 22, 23, 24, 25, 26, 27, 28, 29] (by decide +kernel) (by decide +kernel)
set_option maxRecDepth 20000 in
theorem gX5_enter_X8_doneBehind : GoodIn wsX5_enter (wsV RX5 58 RX8 yX8_doneBehind wsX8_doneBehind) := goodIn_app (goodIn_of _ (by decide +kernel)) ggX5_enter_X8_doneBehind
set_option maxRecDepth 20000 in
theorem ggX5_layJoin_X5_begin : GoodIn wsX5_layJoin wsX5_begin := goodIn_r _ [7, 8, 1, 9, 10, 11, 12, 42, 43, 44] (by decide +kernel) (by decide +kernel)
set_option maxRecDepth 20000 in
theorem gX5_layJoin_X5_begin : GoodIn wsX5_layJoin (wsV RX5 18 RX5 yX5_begin wsX5_begin) := goodIn_app (goodIn_of _ (by decide +kernel)) ggX5_layJoin_X5_begin
set_option maxRecDepth 20000 in
theorem ggX5_layJoin_X5_enter : GoodIn wsX5_layJoin wsX5_enter := goodIn_r _ [16, 8, 1, 2, 17, 18, 19, 20, 21, 22, 23, 24, 25, 26, 45, 46, 47, 48, 49, 50, 51, 52, 53, 54, 55, 56, 57, 58, 59, 60, 42, 43, 44] (by decide +kernel) (by decide +kernel)
set_option maxRecDepth 20000 in
theorem gX5_layJoin_X5_enter : GoodIn wsX5_layJoin (wsV RX5 21 RX5 yX5_enter wsX5_enter) := goodIn_app (goodIn_of _ (by decide +kernel)) ggX5_layJoin_X5_enter
set_option maxRecDepth 20000 in
theorem ggX5_layJoin_X5_lay : GoodIn wsX5_layJoin wsX5_lay := goodIn_r _ [30, 8, 31, 32, 33, 34, 35, 36, 37, 38, 39, 40, 41, 42, 43, 44, 61, 62] (by decide +kernel) (by decide +kernel)
set_option maxRecDepth 20000 in
theorem gX5_layJoin_X5_lay : GoodIn wsX5_layJoin (wsV RX5 29 RX5 yX5_lay wsX5_lay) := goodIn_app (goodIn_of _ (by decide +kernel)) ggX5_layJoin_X5_lay
set_option maxRecDepth 20000 in
theorem ggX5_layTelling_X5_begin : GoodIn wsX5_layTelling wsX5_begin := goodIn_r _ [7, 8, 1, 9, 10, 11, 12, 63, 64, 65] (by decide +kernel) (by decide +kernel)
set_option maxRecDepth 20000 in
theorem gX5_layTelling_X5_begin : GoodIn wsX5_layTelling (wsV RX5 18 RX5 yX5_begin wsX5_begin) := goodIn_app (goodIn_of _ (by decide +kernel)) ggX5_layTelling_X5_begin
set_option maxRecDepth 20000 in
theorem ggX5_layTelling_X5_enter : GoodIn wsX5_layTelling wsX5_enter := goodIn_r _ [22, 8, 1, 2, 23, 24, 25, 26, 27, 28, 16, 29, 30, 31, 47, 48, 49, 50, 51, 52, 53, 54, 55, 56, 57, 58, 59, 60, 61, 62, 63, 64, 65] (by decide +kernel) (by decide +kernel)
set_option maxRecDepth 20000 in
theorem gX5_layTelling_X5_enter : GoodIn wsX5_layTelling (wsV RX5 21 RX5 yX5_enter wsX5_enter) := goodIn_app (goodIn_of _ (by decide +kernel)) ggX5_layTelling_X5_enter
set_option maxRecDepth 20000 in
theorem ggX5_layTelling_X5_lay : GoodIn wsX5_layTelling wsX5_lay := goodIn_r _ [35, 8, 36, 37, 38, 39, 40, 41, 42, 43, 44, 45, 46, 63, 64, 65, 66, 67] (by decide +kernel) (by decide +kernel)
set_option maxRecDepth 20000 in
theorem gX5_layTelling_X5_lay : GoodIn wsX5_layTelling (wsV RX5 29 RX5 yX5_lay wsX5_lay) := goodIn_app (goodIn_of _ (by decide +kernel)) ggX5_layTelling_X5_lay
set_option maxRecDepth 20000 in
theorem ggX5_layTelling_X8_everyWord : GoodIn wsX5_layTelling wsX8_everyWord := goodIn_r _ [17, 18, 47, 48, 49, 50, 51, 52, 53, 54, 55, 56, 57, 58, 59, 60, 61, 62] (by decide +kernel) (by decide +kernel)
set_option maxRecDepth 20000 in
theorem gX5_layTelling_X8_everyWord : GoodIn wsX5_layTelling (wsV RX5 41 RX8 yX8_everyWord wsX8_everyWord) := goodIn_app (goodIn_of _ (by decide +kernel)) ggX5_layTelling_X8_everyWord
set_option maxRecDepth 20000 in
theorem ggX5_lay_X4_add : GoodIn wsX5_lay wsX4_add := goodIn_r _ [6, 7, 8, 16, 17] (by decide +kernel) (by decide +kernel)
set_option maxRecDepth 20000 in
theorem gX5_lay_X4_add : GoodIn wsX5_lay (wsV RX5 62 RX4 yX4_add wsX4_add) := goodIn_app (goodIn_of _ (by decide +kernel)) ggX5_lay_X4_add
set_option maxRecDepth 20000 in
theorem ggX5_lay_X4_turn : GoodIn wsX5_lay wsX4_turn := goodIn_r _ [12, 7, 8, 16, 17] (by decide +kernel) (by decide +kernel)
set_option maxRecDepth 20000 in
theorem gX5_lay_X4_turn : GoodIn wsX5_lay (wsV RX5 68 RX4 yX4_turn wsX4_turn) := goodIn_app (goodIn_of _ (by decide +kernel)) ggX5_lay_X4_turn
set_option maxHeartbeats 4000000 in
set_option maxRecDepth 100000 in
theorem c_X5_begin (l : Launch) (D : va_G) (cB cI cJ cS cZ cO : ClassId) (sz : Nat) (o : Nat) (se_ahead : Nat) (se_queue : Nat) (se_queued : Int32) (fa : Nat → Int32) : Met l yX5_begin wsX5_begin ({ frames := 1, cells := 0, slots := 0, locals := 23 }) (xPre D (tyL cB cI cJ cS cZ cO) [(o, .inr (5, [.ref se_ahead, .ref se_queue, .int se_queued])), (se_ahead, .inl (cI, 1536, .inl fa))] sz [.ref o]) (xQv D (tyL cB cI cJ cS cZ cO) (va_A [(o, .inr (5, [.ref se_ahead, .ref se_queue, .int se_queued])), (se_ahead, .inl (cI, 1536, .inl fa))] sz) (fun u : va_W => ∃ ga : Nat → Int32, u = [(o, .inr (5, [.ref se_ahead, .ref se_queue, .int 0])), (se_ahead, .inl (cI, 1536, .inl ga))] ∧ rgS ga 1536 1536)) 0 0 (va_A [(o, .inr (5, [.ref se_ahead, .ref se_queue, .int se_queued])), (se_ahead, .inl (cI, 1536, .inl fa))] sz) := by
  refine Met.ofW (cc := cX5_begin) (maxL := 1) (ret := none) (by decide) rfl ?_
  intro p e s m args below meth c s₁ B hml hv
  obtain ⟨rfl, hsz, hP, hK, hD0, hN⟩ := hv
  have hx := B.exec
  have hb := B.bytes
  have hr := B.returns
  have hts := atoms_spec (ws := wsX5_begin) B.pre
  have hown : s.vm.findClass RX5 = some m.cls := findClass_of_methodNamed B.named
  have hlocks := B.notSynchronized
  subst hsz
  have hD := hD0.self (sz := s.heap.size)
  generalize hAe : va_A [(o, .inr (5, [.ref se_ahead, .ref se_queue, .int se_queued])), (se_ahead, .inl (cI, 1536, .inl fa))] s.heap.size = A at hD ⊢
  have hA : ∀ q : Nat, s.heap.size ≤ q → A q := fun q h => by rw [← hAe]; exact Or.inr h
  have hS : va_S A s.heap s.heap [] := va_S.rf
  have hP : va_P D vwCl [(o, .inr (5, [.ref se_ahead, .ref se_queue, .int se_queued])), (se_ahead, .inl (cI, 1536, .inl fa))] s.heap := hP
  have hl := lv_entry ([.ref o]) (n := 1) (Nat.le_of_ble_eq_true rfl)
  rw [lg_entry_eq]
  generalize (lg_sl ([.ref o]) ++ List.replicate (1 - (lg_sl ([.ref o])).length) Slot.unset).toArray = ls at hl ⊢
  have hl : lv_has ls 1 [(0, .ref o)] := hl
  refine lv_aload_n hx hb dX5_begin_0 rfl (lv_at hl 0 rfl) ?_
  refine va_get (D := D) (ci := 5) (v := .ref se_ahead) (C := RX5) (T := TX5) (N := 3) hx hb hts (by decide +kernel) hown hK hP 0 rfl rfl 0 (by decide) (hts (.fieldLink RX5 9 "LastLetter$Search" "ahead" "[I") (by decide +kernel)) (fun _ h9 => h9) rfl dX5_begin_1 ?_
  refine lv_bipush (v := (-2)) hx hb dX5_begin_4 (by decide) ?_
  refine xCv (wr := [(o, .inr (5, [.ref se_ahead, .ref se_queue, .int se_queued]))]) (win := [(se_ahead, .inl (cI, 1536, .inl fa))]) hP hD hS hA [1] [0] rfl rfl (by decide) (by decide) (va_runS (As := [.ref se_ahead, .int (-2)]) (rest := []) ⟨hx, hb, hml, hown, hts⟩ (c_J7_fill_53178 l D cB cI cJ cS cZ cO s.heap.size se_ahead (-2) 1536 fa (by first | assumption | omega | decide)) (va_cwS 2 hts gX5_begin_J7_fill_53178 rfl rfl rfl (by decide +kernel) ⟨Nat.le_of_ble_eq_true rfl, Nat.le_of_ble_eq_true rfl⟩) (xPreS (win := [(se_ahead, .inl (cI, 1536, .inl fa))]) hN hK hP hD [1] (by decide) rfl) rfl rfl hl.1 rfl (lv_room (Nat.le_of_ble_eq_true rfl)) dX5_begin_6 ⟨Nat.le_of_ble_eq_true rfl, Nat.le_of_ble_eq_true rfl⟩) (fun w0 H locs hw hP hD hS => ?_)
  obtain ⟨g_1, rfl, hf_2⟩ := hw
  have hP : va_P D vwCl [(o, .inr (5, [.ref se_ahead, .ref se_queue, .int se_queued])), (se_ahead, .inl (cI, 1536, .inl g_1))] H := hP
  have hD : va_D A [(o, .inr (5, [.ref se_ahead, .ref se_queue, .int se_queued])), (se_ahead, .inl (cI, 1536, .inl g_1))] := hD
  refine lv_aload_n hx hb dX5_begin_9 rfl (lv_at hl 0 rfl) ?_
  refine lv_iconst (v := 0) hx hb dX5_begin_10 (by decide) ?_
  refine va_put (D := D) (ci := 5) (v := .int 0) (ty := .int) (C := RX5) (T := TX5) (N := 3) hx hb hts (by decide +kernel) tyX5 tyX5_ok nmX5 hown hK hP hD hS 0 rfl rfl 2 (by decide) (hts (.fieldLink RX5 25 "LastLetter$Search" "queued" "I") (by decide +kernel)) (fun _ h9 => h9) rfl (by decide +kernel) rfl rfl (Nat.le_of_ble_eq_true rfl) dX5_begin_11 (fun H locs hP hD hS => ?_)
  have hP : va_P D vwCl [(o, .inr (5, [.ref se_ahead, .ref se_queue, .int 0])), (se_ahead, .inl (cI, 1536, .inl g_1))] H := hP
  have hD : va_D A [(o, .inr (5, [.ref se_ahead, .ref se_queue, .int 0])), (se_ahead, .inl (cI, 1536, .inl g_1))] := hD
  have hP9 := hP.sub (ws' := [(o, .inr (5, [.ref se_ahead, .ref se_queue, .int 0])), (se_ahead, .inl (cI, 1536, .inl g_1))]) [0, 1] rfl
  have hD9 := hD.sub (ws' := [(o, .inr (5, [.ref se_ahead, .ref se_queue, .int 0])), (se_ahead, .inl (cI, 1536, .inl g_1))]) [0, 1] (by decide) rfl
  refine W.widen (k := 0) (n := 0) (Nat.le_of_ble_eq_true rfl) (Nat.le_of_ble_eq_true rfl) ?_
  exact W.vret hx hb hr (fun tz htz hWz => ⟨⟨[(o, .inr (5, [.ref se_ahead, .ref se_queue, .int 0])), (se_ahead, .inl (cI, 1536, .inl g_1))], rfl, ⟨g_1, rfl, (fun j hj => Or.inl (by rw [hf_2 j hj]; decide))⟩, by rw [htz]; exact hP9, va_K.moved hWz.alike hK, hD9⟩, hS.F htz⟩) hS.2.2 dX5_begin_14

set_option maxHeartbeats 4000000 in
set_option maxRecDepth 100000 in
theorem c_X5_enter_0 (l : Launch) (D : va_G) (cB cI cJ cS cZ cO : ClassId) (sz : Nat) (o : Nat) (t : Nat) (y : Int32) (x : Int32) (se_ahead : Nat) (se_queue : Nat) (qd : Nat) (fa : Nat → Int32) (fq : Nat → Int32) (k_name : Nat) (k_worth : Nat) (k_times : Nat) (k_first : Nat) (k_second : Nat) (k_beforeLast : Nat) (k_last : Nat) (k_errandOf : Nat) (k_errandAfter : Nat) (k_sound : Nat) (k_followers : Nat) (k_leaders : Nat) (w : Nat) (k_errands : Int32) (k_alikes : Int32) (k_law : Int32) (hw : w ≤ 24) (hqd : qd ≤ 1536) (hq : rgN fq qd 24) (ha : rgS fa 1536 1536) (hx1 : x = -1 ∨ ∃ q, q < 1536 ∧ x = nI q) : Met l yX5_enter wsX5_enter ({ frames := 1, cells := 0, slots := 0, locals := 21 }) (xPre D (tyL cB cI cJ cS cZ cO) [(o, .inr (5, [.ref se_ahead, .ref se_queue, .int (nI qd)])), (se_ahead, .inl (cI, 1536, .inl fa)), (se_queue, .inl (cI, 1536, .inl fq)), (t, .inr (8, [.ref k_name, .ref k_worth, .ref k_times, .ref k_first, .ref k_second, .ref k_beforeLast, .ref k_last, .ref k_errandOf, .ref k_errandAfter, .ref k_sound, .ref k_followers, .ref k_leaders, .int (nI w), .int k_errands, .int k_alikes, .int k_law]))] sz [.ref o, .ref t, .int y, .int x, .int 0]) (xQv D (tyL cB cI cJ cS cZ cO) (va_A [(o, .inr (5, [.ref se_ahead, .ref se_queue, .int (nI qd)])), (se_ahead, .inl (cI, 1536, .inl fa)), (se_queue, .inl (cI, 1536, .inl fq)), (t, .inr (8, [.ref k_name, .ref k_worth, .ref k_times, .ref k_first, .ref k_second, .ref k_beforeLast, .ref k_last, .ref k_errandOf, .ref k_errandAfter, .ref k_sound, .ref k_followers, .ref k_leaders, .int (nI w), .int k_errands, .int k_alikes, .int k_law]))] sz) (fun u : va_W => ∃ qd2 : Nat, ∃ ga : Nat → Int32, ∃ gq : Nat → Int32, u = [(o, .inr (5, [.ref se_ahead, .ref se_queue, .int (nI qd2)])), (se_ahead, .inl (cI, 1536, .inl ga)), (se_queue, .inl (cI, 1536, .inl gq)), (t, .inr (8, [.ref k_name, .ref k_worth, .ref k_times, .ref k_first, .ref k_second, .ref k_beforeLast, .ref k_last, .ref k_errandOf, .ref k_errandAfter, .ref k_sound, .ref k_followers, .ref k_leaders, .int (nI w), .int k_errands, .int k_alikes, .int k_law]))] ∧ qd2 ≤ 1536 ∧ rgN gq qd2 24 ∧ rgS ga 1536 1536)) 0 0 (va_A [(o, .inr (5, [.ref se_ahead, .ref se_queue, .int (nI qd)])), (se_ahead, .inl (cI, 1536, .inl fa)), (se_queue, .inl (cI, 1536, .inl fq)), (t, .inr (8, [.ref k_name, .ref k_worth, .ref k_times, .ref k_first, .ref k_second, .ref k_beforeLast, .ref k_last, .ref k_errandOf, .ref k_errandAfter, .ref k_sound, .ref k_followers, .ref k_leaders, .int (nI w), .int k_errands, .int k_alikes, .int k_law]))] sz) := by
  refine Met.ofW (cc := cX5_enter) (maxL := 9) (ret := none) (by decide) rfl ?_
  intro p e s m args below meth c s₁ B hml hv
  obtain ⟨rfl, hsz, hP, hK, hD0, hN⟩ := hv
  have hx := B.exec
  have hb := B.bytes
  have hr := B.returns
  have hts := atoms_spec (ws := wsX5_enter) B.pre
  have hown : s.vm.findClass RX5 = some m.cls := findClass_of_methodNamed B.named
  have hlocks := B.notSynchronized
  subst hsz
  have hD := hD0.self (sz := s.heap.size)
  generalize hAe : va_A [(o, .inr (5, [.ref se_ahead, .ref se_queue, .int (nI qd)])), (se_ahead, .inl (cI, 1536, .inl fa)), (se_queue, .inl (cI, 1536, .inl fq)), (t, .inr (8, [.ref k_name, .ref k_worth, .ref k_times, .ref k_first, .ref k_second, .ref k_beforeLast, .ref k_last, .ref k_errandOf, .ref k_errandAfter, .ref k_sound, .ref k_followers, .ref k_leaders, .int (nI w), .int k_errands, .int k_alikes, .int k_law]))] s.heap.size = A at hD ⊢
  have hA : ∀ q : Nat, s.heap.size ≤ q → A q := fun q h => by rw [← hAe]; exact Or.inr h
  have hS : va_S A s.heap s.heap [] := va_S.rf
  have hP : va_P D vwCl [(o, .inr (5, [.ref se_ahead, .ref se_queue, .int (nI qd)])), (se_ahead, .inl (cI, 1536, .inl fa)), (se_queue, .inl (cI, 1536, .inl fq)), (t, .inr (8, [.ref k_name, .ref k_worth, .ref k_times, .ref k_first, .ref k_second, .ref k_beforeLast, .ref k_last, .ref k_errandOf, .ref k_errandAfter, .ref k_sound, .ref k_followers, .ref k_leaders, .int (nI w), .int k_errands, .int k_alikes, .int k_law]))] s.heap := hP
  have hl := lv_entry ([.ref o, .ref t, .int y, .int x, .int 0]) (n := 9) (Nat.le_of_ble_eq_true rfl)
  rw [lg_entry_eq]
  generalize (lg_sl ([.ref o, .ref t, .int y, .int x, .int 0]) ++ List.replicate (9 - (lg_sl ([.ref o, .ref t, .int y, .int x, .int 0])).length) Slot.unset).toArray = ls at hl ⊢
  have hl : lv_has ls 9 [(0, .ref o), (1, .ref t), (2, .int y), (3, .int x), (4, .int 0)] := hl
  refine lv_iload_n hx hb dX5_enter_0 rfl (lv_at hl 3 rfl) ?_
  refine lv_iconst (v := (-1)) hx hb dX5_enter_1 (by decide) ?_
  refine lv_icmp_ne (tgt := 9) hx hb dX5_enter_2 (by decide) (fun c_1 => ?_) (fun c_1 => ?_)
  · obtain ⟨q1, hq1, rfl⟩ := hx1.resolve_left c_1
    refine lv_iload_n hx hb dX5_enter_9 rfl (lv_at hl 3 rfl) ?_
    refine lv_bipush (v := 24) hx hb dX5_enter_10 (by decide) ?_
    refine lv_idiv hx hb dX5_enter_12 (by decide) ?_
    refine xb_top (y := nI (q1 / 24)) (pk_div (a := q1) (d := 24) (by omega) (by omega) (by omega)) ?_
    refine lv_istore (lv' := [(5, .int (nI (q1 / 24))), (0, .ref o), (1, .ref t), (2, .int y), (3, .int (nI q1)), (4, .int 0)]) hx hb dX5_enter_13 hl (by decide) rfl (fun ls hl => ?_)
    refine lv_iconst (v := 0) hx hb dX5_enter_15 (by decide) ?_
    refine lv_istore (lv' := [(6, .int 0), (5, .int (nI (q1 / 24))), (0, .ref o), (1, .ref t), (2, .int y), (3, .int (nI q1)), (4, .int 0)]) hx hb dX5_enter_16 hl (by decide) rfl (fun ls hl => ?_)
    refine xb_wh (fun (n9 : Nat) H locs ls => ∃ i : Nat, ∃ qd2 : Nat, ∃ ga : Nat → Int32, ∃ gq : Nat → Int32, (w - i) = n9 ∧ va_P D vwCl [(o, .inr (5, [.ref se_ahead, .ref se_queue, .int (nI qd2)])), (se_ahead, .inl (cI, 1536, .inl ga)), (se_queue, .inl (cI, 1536, .inl gq)), (t, .inr (8, [.ref k_name, .ref k_worth, .ref k_times, .ref k_first, .ref k_second, .ref k_beforeLast, .ref k_last, .ref k_errandOf, .ref k_errandAfter, .ref k_sound, .ref k_followers, .ref k_leaders, .int (nI w), .int k_errands, .int k_alikes, .int k_law]))] H ∧ va_D A [(o, .inr (5, [.ref se_ahead, .ref se_queue, .int (nI qd2)])), (se_ahead, .inl (cI, 1536, .inl ga)), (se_queue, .inl (cI, 1536, .inl gq)), (t, .inr (8, [.ref k_name, .ref k_worth, .ref k_times, .ref k_first, .ref k_second, .ref k_beforeLast, .ref k_last, .ref k_errandOf, .ref k_errandAfter, .ref k_sound, .ref k_followers, .ref k_leaders, .int (nI w), .int k_errands, .int k_alikes, .int k_law]))] ∧ va_S A s.heap H locs ∧ lv_has ls 9 [(6, .int (nI i)), (5, .int (nI (q1 / 24))), (0, .ref o), (1, .ref t), (2, .int y), (3, .int (nI q1)), (4, .int 0)] ∧ (i ≤ w) ∧ (qd2 ≤ 1536) ∧ (rgN gq qd2 24) ∧ (rgS ga 1536 1536)) ⟨0, qd, fa, fq, rfl, hP, hD, hS, lv_sub hl [0, 1, 2, 3, 4, 5, 6] rfl, (Nat.zero_le _), hqd, hq, ha⟩ (fun n9 H locs ls hI kk_18 => ?_)
    obtain ⟨i, qd2, ga, gq, hn_18, hP, hD, hS, hl, hF_h_2, hF_h_3, hF_h_4, hF_h_5⟩ := hI
    refine lv_iload hx hb dX5_enter_18 (lv_at hl 0 rfl) ?_
    refine lv_aload_n hx hb dX5_enter_20 rfl (lv_at hl 3 rfl) ?_
    refine va_getN (D := D) (ci := 8) (v := .int (nI w)) (C := RX8) (T := TX8) (N := 16) hx hb hts (by decide +kernel) hown hK hP 3 rfl rfl 12 (by decide) (va_Nw.use rfl (hN.1 (RX5, 51, RX8, "words", "I", RX10) (by decide +kernel))) (fun _ h9 => h9) rfl dX5_enter_21 ?_
    refine lv_icmp_ge (tgt := 122) hx hb dX5_enter_24 (by decide) (fun c_6 => ?_) (fun c_6 => ?_)
    · have dc_6 : w ≤ i := (nI_leI (a := w) (b := i) (by omega) (by omega)).mp c_6
      have hP9 := hP.sub (ws' := [(o, .inr (5, [.ref se_ahead, .ref se_queue, .int (nI qd2)])), (se_ahead, .inl (cI, 1536, .inl ga)), (se_queue, .inl (cI, 1536, .inl gq)), (t, .inr (8, [.ref k_name, .ref k_worth, .ref k_times, .ref k_first, .ref k_second, .ref k_beforeLast, .ref k_last, .ref k_errandOf, .ref k_errandAfter, .ref k_sound, .ref k_followers, .ref k_leaders, .int (nI w), .int k_errands, .int k_alikes, .int k_law]))]) [0, 1, 2, 3] rfl
      have hD9 := hD.sub (ws' := [(o, .inr (5, [.ref se_ahead, .ref se_queue, .int (nI qd2)])), (se_ahead, .inl (cI, 1536, .inl ga)), (se_queue, .inl (cI, 1536, .inl gq)), (t, .inr (8, [.ref k_name, .ref k_worth, .ref k_times, .ref k_first, .ref k_second, .ref k_beforeLast, .ref k_last, .ref k_errandOf, .ref k_errandAfter, .ref k_sound, .ref k_followers, .ref k_leaders, .int (nI w), .int k_errands, .int k_alikes, .int k_law]))]) [0, 1, 2, 3] (by decide) rfl
      refine W.widen (k := 0) (n := 0) (Nat.le_of_ble_eq_true rfl) (Nat.le_of_ble_eq_true rfl) ?_
      exact W.vret hx hb hr (fun tz htz hWz => ⟨⟨[(o, .inr (5, [.ref se_ahead, .ref se_queue, .int (nI qd2)])), (se_ahead, .inl (cI, 1536, .inl ga)), (se_queue, .inl (cI, 1536, .inl gq)), (t, .inr (8, [.ref k_name, .ref k_worth, .ref k_times, .ref k_first, .ref k_second, .ref k_beforeLast, .ref k_last, .ref k_errandOf, .ref k_errandAfter, .ref k_sound, .ref k_followers, .ref k_leaders, .int (nI w), .int k_errands, .int k_alikes, .int k_law]))], rfl, ⟨qd2, ga, gq, rfl, hF_h_3, hF_h_4, hF_h_5⟩, by rw [htz]; exact hP9, va_K.moved hWz.alike hK, hD9⟩, hS.F htz⟩) hS.2.2 dX5_enter_122
    · have dc_6 : ¬ w ≤ i := fun h => c_6 ((nI_leI (a := w) (b := i) (by omega) (by omega)).mpr h)
      refine lv_iload_n hx hb dX5_enter_27 rfl (lv_at hl 4 rfl) ?_
      refine lv_iload hx hb dX5_enter_28 (lv_at hl 0 rfl) ?_
      refine xCi (wr := [(o, .inr (5, [.ref se_ahead, .ref se_queue, .int (nI qd2)])), (se_ahead, .inl (cI, 1536, .inl ga)), (se_queue, .inl (cI, 1536, .inl gq)), (t, .inr (8, [.ref k_name, .ref k_worth, .ref k_times, .ref k_first, .ref k_second, .ref k_beforeLast, .ref k_last, .ref k_errandOf, .ref k_errandAfter, .ref k_sound, .ref k_followers, .ref k_leaders, .int (nI w), .int k_errands, .int k_alikes, .int k_law]))]) (win := []) hP hD hS hA [] [0, 1, 2, 3] rfl rfl (by decide) (by decide) (va_runSN (As := [.int y, .int (nI i)]) (rest := []) ⟨hx, hb, hml, hown, hts⟩ (c_X10_isIn l D cB cI cJ cS cZ cO H.size y (nI i) ) ⟨va_cnB 2 hts gX5_enter_X10_isIn_n54 rfl rfl rfl (hN.2.1 (RX5, 54, yX10_isIn, RX10) (by decide +kernel)) (hts (.initialized RX10) (by decide +kernel)) (by decide +kernel) ⟨Nat.le_of_ble_eq_true rfl, Nat.le_of_ble_eq_true rfl⟩, hts (.static yX10_isIn) (by decide +kernel), trivial⟩ (xPreS (win := []) hN hK hP hD [] (by decide) rfl) rfl rfl hl.1 rfl (lv_room (Nat.le_of_ble_eq_true rfl)) dX5_enter_30 ⟨Nat.le_of_ble_eq_true rfl, Nat.le_of_ble_eq_true rfl⟩) (fun r_7 w0 H locs hw hP hD hS => ?_)
      obtain ⟨rfl, hf_8⟩ := hw
      have hP : va_P D vwCl [(o, .inr (5, [.ref se_ahead, .ref se_queue, .int (nI qd2)])), (se_ahead, .inl (cI, 1536, .inl ga)), (se_queue, .inl (cI, 1536, .inl gq)), (t, .inr (8, [.ref k_name, .ref k_worth, .ref k_times, .ref k_first, .ref k_second, .ref k_beforeLast, .ref k_last, .ref k_errandOf, .ref k_errandAfter, .ref k_sound, .ref k_followers, .ref k_leaders, .int (nI w), .int k_errands, .int k_alikes, .int k_law]))] H := hP
      have hD : va_D A [(o, .inr (5, [.ref se_ahead, .ref se_queue, .int (nI qd2)])), (se_ahead, .inl (cI, 1536, .inl ga)), (se_queue, .inl (cI, 1536, .inl gq)), (t, .inr (8, [.ref k_name, .ref k_worth, .ref k_times, .ref k_first, .ref k_second, .ref k_beforeLast, .ref k_last, .ref k_errandOf, .ref k_errandAfter, .ref k_sound, .ref k_followers, .ref k_leaders, .int (nI w), .int k_errands, .int k_alikes, .int k_law]))] := hD
      refine lv_if_eq (tgt := 116) hx hb dX5_enter_33 (by decide) (fun c_9 => ?_) (fun c_9 => ?_)
      · refine lv_iinc (v := nI (i + 1)) (lv' := [(6, .int (nI (i + 1))), (5, .int (nI (q1 / 24))), (0, .ref o), (1, .ref t), (2, .int y), (3, .int (nI q1)), (4, .int 0)]) hx hb dX5_enter_116 hl (k := 0) rfl (nI_1 i) (by decide) rfl (fun ls hl => ?_)
        refine lv_goto (tgt := 18) hx hb dX5_enter_119 (by decide) ?_
        exact kk_18 _ _ _ _ (by rw [← hn_18]; omega) ⟨(i + 1), qd2, ga, gq, rfl, hP, hD, hS, lv_sub hl [0, 1, 2, 3, 4, 5, 6] rfl, (by omega), (by first | assumption | omega), hF_h_4, hF_h_5⟩
      · refine lv_iload hx hb dX5_enter_36 (lv_at hl 6 rfl) ?_
        refine lv_if_eq (tgt := 52) hx hb dX5_enter_38 (by decide) (fun c_10 => ?_) (fun c_10 => absurd (by decide) c_10)
        refine lv_iconst (v := 0) hx hb dX5_enter_52 (by decide) ?_
        refine lv_istore (lv' := [(7, .int 0), (6, .int (nI i)), (5, .int (nI (q1 / 24))), (0, .ref o), (1, .ref t), (2, .int y), (3, .int (nI q1)), (4, .int 0)]) hx hb dX5_enter_53 hl (by decide) rfl (fun ls hl => ?_)
        refine lv_iload hx hb dX5_enter_55 (lv_at hl 0 rfl) ?_
        refine lv_bipush (v := 24) hx hb dX5_enter_57 (by decide) ?_
        refine lv_imul hx hb dX5_enter_59 ?_
        refine xb_top (y := 0) (by decide) ?_
        refine lv_iload hx hb dX5_enter_60 (lv_at hl 1 rfl) ?_
        refine lv_iadd hx hb dX5_enter_62 ?_
        refine xb_top (y := nI (0 + i)) (nI_add 0 i) ?_
        refine lv_istore (lv' := [(8, .int (nI (0 + i))), (7, .int 0), (6, .int (nI i)), (5, .int (nI (q1 / 24))), (0, .ref o), (1, .ref t), (2, .int y), (3, .int (nI q1)), (4, .int 0)]) hx hb dX5_enter_63 hl (by decide) rfl (fun ls hl => ?_)
        refine lv_aload_n hx hb dX5_enter_65 rfl (lv_at hl 4 rfl) ?_
        refine va_get (D := D) (ci := 5) (v := .ref se_ahead) (C := RX5) (T := TX5) (N := 3) hx hb hts (by decide +kernel) hown hK hP 0 rfl rfl 0 (by decide) (hts (.fieldLink RX5 9 "LastLetter$Search" "ahead" "[I") (by decide +kernel)) (fun _ h9 => h9) rfl dX5_enter_66 ?_
        refine lv_iload hx hb dX5_enter_69 (lv_at hl 0 rfl) ?_
        refine va_iald hx hb hK hP 1 1 rfl rfl (vp_in_nI (by omega) (by omega)) dX5_enter_71 ?_
        refine xb_top (y := ga (0 + i)) (by rw [nI_clamp (by omega)]) ?_
        refine lv_bipush (v := (-2)) hx hb dX5_enter_72 (by decide) ?_
        refine lv_icmp_ne (tgt := 116) hx hb dX5_enter_74 (by decide) (fun c_11 => ?_) (fun c_11 => ?_)
        · refine lv_iinc (v := nI (i + 1)) (lv' := [(6, .int (nI (i + 1))), (8, .int (nI (0 + i))), (7, .int 0), (5, .int (nI (q1 / 24))), (0, .ref o), (1, .ref t), (2, .int y), (3, .int (nI q1)), (4, .int 0)]) hx hb dX5_enter_116 hl (k := 2) rfl (nI_1 i) (by decide) rfl (fun ls hl => ?_)
          refine lv_goto (tgt := 18) hx hb dX5_enter_119 (by decide) ?_
          exact kk_18 _ _ _ _ (by rw [← hn_18]; omega) ⟨(i + 1), qd2, ga, gq, rfl, hP, hD, hS, lv_sub hl [0, 3, 4, 5, 6, 7, 8] rfl, (by omega), (by first | assumption | omega), hF_h_4, hF_h_5⟩
        · refine lv_aload_n hx hb dX5_enter_77 rfl (lv_at hl 4 rfl) ?_
          refine va_get (D := D) (ci := 5) (v := .int (nI qd2)) (C := RX5) (T := TX5) (N := 3) hx hb hts (by decide +kernel) hown hK hP 0 rfl rfl 2 (by decide) (hts (.fieldLink RX5 25 "LastLetter$Search" "queued" "I") (by decide +kernel)) (fun _ h9 => h9) rfl dX5_enter_78 ?_
          refine lv_sipush (v := 1536) hx hb dX5_enter_81 (by decide) ?_
          refine lv_icmp_ge (tgt := 116) hx hb dX5_enter_84 (by decide) (fun c_12 => ?_) (fun c_12 => ?_)
          · have dc_12 : 1536 ≤ qd2 := (nI_leI (a := 1536) (b := qd2) (by omega) (by omega)).mp c_12
            refine lv_iinc (v := nI (i + 1)) (lv' := [(6, .int (nI (i + 1))), (8, .int (nI (0 + i))), (7, .int 0), (5, .int (nI (q1 / 24))), (0, .ref o), (1, .ref t), (2, .int y), (3, .int (nI q1)), (4, .int 0)]) hx hb dX5_enter_116 hl (k := 2) rfl (nI_1 i) (by decide) rfl (fun ls hl => ?_)
            refine lv_goto (tgt := 18) hx hb dX5_enter_119 (by decide) ?_
            exact kk_18 _ _ _ _ (by rw [← hn_18]; omega) ⟨(i + 1), qd2, ga, gq, rfl, hP, hD, hS, lv_sub hl [0, 3, 4, 5, 6, 7, 8] rfl, (by omega), (by first | assumption | omega), hF_h_4, hF_h_5⟩
          · have dc_12 : ¬ 1536 ≤ qd2 := fun h => c_12 ((nI_leI (a := 1536) (b := qd2) (by omega) (by omega)).mpr h)
            refine lv_aload_n hx hb dX5_enter_87 rfl (lv_at hl 4 rfl) ?_
            refine va_get (D := D) (ci := 5) (v := .ref se_ahead) (C := RX5) (T := TX5) (N := 3) hx hb hts (by decide +kernel) hown hK hP 0 rfl rfl 0 (by decide) (hts (.fieldLink RX5 9 "LastLetter$Search" "ahead" "[I") (by decide +kernel)) (fun _ h9 => h9) rfl dX5_enter_88 ?_
            refine lv_iload hx hb dX5_enter_91 (lv_at hl 0 rfl) ?_
            refine lv_iload_n hx hb dX5_enter_93 rfl (lv_at hl 7 rfl) ?_
            refine va_iast hx hb hK hP hD hS 1 1 rfl rfl (vp_in_nI (by omega) (by omega)) dX5_enter_94 (fun H locs hP hD hS => ?_)
            have hP : va_P D vwCl [(o, .inr (5, [.ref se_ahead, .ref se_queue, .int (nI qd2)])), (se_ahead, .inl (cI, 1536, .inl (upd ga (Int32.toNatClampNeg (nI (0 + i))) (nI q1)))), (se_queue, .inl (cI, 1536, .inl gq)), (t, .inr (8, [.ref k_name, .ref k_worth, .ref k_times, .ref k_first, .ref k_second, .ref k_beforeLast, .ref k_last, .ref k_errandOf, .ref k_errandAfter, .ref k_sound, .ref k_followers, .ref k_leaders, .int (nI w), .int k_errands, .int k_alikes, .int k_law]))] H := hP
            have hD : va_D A [(o, .inr (5, [.ref se_ahead, .ref se_queue, .int (nI qd2)])), (se_ahead, .inl (cI, 1536, .inl (upd ga (Int32.toNatClampNeg (nI (0 + i))) (nI q1)))), (se_queue, .inl (cI, 1536, .inl gq)), (t, .inr (8, [.ref k_name, .ref k_worth, .ref k_times, .ref k_first, .ref k_second, .ref k_beforeLast, .ref k_last, .ref k_errandOf, .ref k_errandAfter, .ref k_sound, .ref k_followers, .ref k_leaders, .int (nI w), .int k_errands, .int k_alikes, .int k_law]))] := hD
            generalize eg_13 : upd ga (Int32.toNatClampNeg (nI (0 + i))) (nI q1) = g_13 at hP hD
            refine lv_aload_n hx hb dX5_enter_95 rfl (lv_at hl 4 rfl) ?_
            refine va_get (D := D) (ci := 5) (v := .ref se_queue) (C := RX5) (T := TX5) (N := 3) hx hb hts (by decide +kernel) hown hK hP 0 rfl rfl 1 (by decide) (hts (.fieldLink RX5 15 "LastLetter$Search" "queue" "[I") (by decide +kernel)) (fun _ h9 => h9) rfl dX5_enter_96 ?_
            refine lv_aload_n hx hb dX5_enter_99 rfl (lv_at hl 4 rfl) ?_
            refine va_get (D := D) (ci := 5) (v := .int (nI qd2)) (C := RX5) (T := TX5) (N := 3) hx hb hts (by decide +kernel) hown hK hP 0 rfl rfl 2 (by decide) (hts (.fieldLink RX5 25 "LastLetter$Search" "queued" "I") (by decide +kernel)) (fun _ h9 => h9) rfl dX5_enter_100 ?_
            refine lv_iload hx hb dX5_enter_103 (lv_at hl 0 rfl) ?_
            refine va_iast hx hb hK hP hD hS 2 1 rfl rfl (vp_in_nI (by omega) (by omega)) dX5_enter_105 (fun H locs hP hD hS => ?_)
            have hP : va_P D vwCl [(o, .inr (5, [.ref se_ahead, .ref se_queue, .int (nI qd2)])), (se_ahead, .inl (cI, 1536, .inl g_13)), (se_queue, .inl (cI, 1536, .inl (upd gq (Int32.toNatClampNeg (nI qd2)) (nI (0 + i))))), (t, .inr (8, [.ref k_name, .ref k_worth, .ref k_times, .ref k_first, .ref k_second, .ref k_beforeLast, .ref k_last, .ref k_errandOf, .ref k_errandAfter, .ref k_sound, .ref k_followers, .ref k_leaders, .int (nI w), .int k_errands, .int k_alikes, .int k_law]))] H := hP
            have hD : va_D A [(o, .inr (5, [.ref se_ahead, .ref se_queue, .int (nI qd2)])), (se_ahead, .inl (cI, 1536, .inl g_13)), (se_queue, .inl (cI, 1536, .inl (upd gq (Int32.toNatClampNeg (nI qd2)) (nI (0 + i))))), (t, .inr (8, [.ref k_name, .ref k_worth, .ref k_times, .ref k_first, .ref k_second, .ref k_beforeLast, .ref k_last, .ref k_errandOf, .ref k_errandAfter, .ref k_sound, .ref k_followers, .ref k_leaders, .int (nI w), .int k_errands, .int k_alikes, .int k_law]))] := hD
            generalize eg_14 : upd gq (Int32.toNatClampNeg (nI qd2)) (nI (0 + i)) = g_14 at hP hD
            refine lv_aload_n hx hb dX5_enter_106 rfl (lv_at hl 4 rfl) ?_
            refine lv_dup hx hb dX5_enter_107 rfl ?_
            refine va_get (D := D) (ci := 5) (v := .int (nI qd2)) (C := RX5) (T := TX5) (N := 3) hx hb hts (by decide +kernel) hown hK hP 0 rfl rfl 2 (by decide) (hts (.fieldLink RX5 25 "LastLetter$Search" "queued" "I") (by decide +kernel)) (fun _ h9 => h9) rfl dX5_enter_108 ?_
            refine lv_iconst (v := 1) hx hb dX5_enter_111 (by decide) ?_
            refine lv_iadd hx hb dX5_enter_112 ?_
            refine xb_top (y := nI (qd2 + 1)) (nI_add qd2 1) ?_
            refine va_put (D := D) (ci := 5) (v := .int (nI (qd2 + 1))) (ty := .int) (C := RX5) (T := TX5) (N := 3) hx hb hts (by decide +kernel) tyX5 tyX5_ok nmX5 hown hK hP hD hS 0 rfl rfl 2 (by decide) (hts (.fieldLink RX5 25 "LastLetter$Search" "queued" "I") (by decide +kernel)) (fun _ h9 => h9) rfl (by decide +kernel) rfl rfl (Nat.le_of_ble_eq_true rfl) dX5_enter_113 (fun H locs hP hD hS => ?_)
            have hP : va_P D vwCl [(o, .inr (5, [.ref se_ahead, .ref se_queue, .int (nI (qd2 + 1))])), (se_ahead, .inl (cI, 1536, .inl g_13)), (se_queue, .inl (cI, 1536, .inl g_14)), (t, .inr (8, [.ref k_name, .ref k_worth, .ref k_times, .ref k_first, .ref k_second, .ref k_beforeLast, .ref k_last, .ref k_errandOf, .ref k_errandAfter, .ref k_sound, .ref k_followers, .ref k_leaders, .int (nI w), .int k_errands, .int k_alikes, .int k_law]))] H := hP
            have hD : va_D A [(o, .inr (5, [.ref se_ahead, .ref se_queue, .int (nI (qd2 + 1))])), (se_ahead, .inl (cI, 1536, .inl g_13)), (se_queue, .inl (cI, 1536, .inl g_14)), (t, .inr (8, [.ref k_name, .ref k_worth, .ref k_times, .ref k_first, .ref k_second, .ref k_beforeLast, .ref k_last, .ref k_errandOf, .ref k_errandAfter, .ref k_sound, .ref k_followers, .ref k_leaders, .int (nI w), .int k_errands, .int k_alikes, .int k_law]))] := hD
            refine lv_iinc (v := nI (i + 1)) (lv' := [(6, .int (nI (i + 1))), (8, .int (nI (0 + i))), (7, .int 0), (5, .int (nI (q1 / 24))), (0, .ref o), (1, .ref t), (2, .int y), (3, .int (nI q1)), (4, .int 0)]) hx hb dX5_enter_116 hl (k := 2) rfl (nI_1 i) (by decide) rfl (fun ls hl => ?_)
            refine lv_goto (tgt := 18) hx hb dX5_enter_119 (by decide) ?_
            exact kk_18 _ _ _ _ (by rw [← hn_18]; omega) ⟨(i + 1), (qd2 + 1), g_13, g_14, rfl, hP, hD, hS, lv_sub hl [0, 3, 4, 5, 6, 7, 8] rfl, (by omega), (by first | assumption | omega), (rgN_push hF_h_4 (by omega) (by omega) eg_14), (rgS_up hF_h_5 (by omega) (Or.inr ⟨q1, by omega, rfl⟩) eg_13)⟩
  · subst c_1
    refine lv_iconst (v := 0) hx hb dX5_enter_5 (by decide) ?_
    refine lv_goto (tgt := 13) hx hb dX5_enter_6 (by decide) ?_
    refine lv_istore (lv' := [(5, .int 0), (0, .ref o), (1, .ref t), (2, .int y), (3, .int (-1)), (4, .int 0)]) hx hb dX5_enter_13 hl (by decide) rfl (fun ls hl => ?_)
    refine lv_iconst (v := 0) hx hb dX5_enter_15 (by decide) ?_
    refine lv_istore (lv' := [(6, .int 0), (5, .int 0), (0, .ref o), (1, .ref t), (2, .int y), (3, .int (-1)), (4, .int 0)]) hx hb dX5_enter_16 hl (by decide) rfl (fun ls hl => ?_)
    refine xb_wh (fun (n9 : Nat) H locs ls => ∃ i : Nat, ∃ qd2 : Nat, ∃ ga : Nat → Int32, ∃ gq : Nat → Int32, (w - i) = n9 ∧ va_P D vwCl [(o, .inr (5, [.ref se_ahead, .ref se_queue, .int (nI qd2)])), (se_ahead, .inl (cI, 1536, .inl ga)), (se_queue, .inl (cI, 1536, .inl gq)), (t, .inr (8, [.ref k_name, .ref k_worth, .ref k_times, .ref k_first, .ref k_second, .ref k_beforeLast, .ref k_last, .ref k_errandOf, .ref k_errandAfter, .ref k_sound, .ref k_followers, .ref k_leaders, .int (nI w), .int k_errands, .int k_alikes, .int k_law]))] H ∧ va_D A [(o, .inr (5, [.ref se_ahead, .ref se_queue, .int (nI qd2)])), (se_ahead, .inl (cI, 1536, .inl ga)), (se_queue, .inl (cI, 1536, .inl gq)), (t, .inr (8, [.ref k_name, .ref k_worth, .ref k_times, .ref k_first, .ref k_second, .ref k_beforeLast, .ref k_last, .ref k_errandOf, .ref k_errandAfter, .ref k_sound, .ref k_followers, .ref k_leaders, .int (nI w), .int k_errands, .int k_alikes, .int k_law]))] ∧ va_S A s.heap H locs ∧ lv_has ls 9 [(6, .int (nI i)), (5, .int 0), (0, .ref o), (1, .ref t), (2, .int y), (3, .int (-1)), (4, .int 0)] ∧ (i ≤ w) ∧ (qd2 ≤ 1536) ∧ (rgN gq qd2 24) ∧ (rgS ga 1536 1536)) ⟨0, qd, fa, fq, rfl, hP, hD, hS, lv_sub hl [0, 1, 2, 3, 4, 5, 6] rfl, (Nat.zero_le _), hqd, hq, ha⟩ (fun n9 H locs ls hI kk_18 => ?_)
    obtain ⟨i, qd2, ga, gq, hn_18, hP, hD, hS, hl, hF_h_15, hF_h_16, hF_h_17, hF_h_18⟩ := hI
    refine lv_iload hx hb dX5_enter_18 (lv_at hl 0 rfl) ?_
    refine lv_aload_n hx hb dX5_enter_20 rfl (lv_at hl 3 rfl) ?_
    refine va_getN (D := D) (ci := 8) (v := .int (nI w)) (C := RX8) (T := TX8) (N := 16) hx hb hts (by decide +kernel) hown hK hP 3 rfl rfl 12 (by decide) (va_Nw.use rfl (hN.1 (RX5, 51, RX8, "words", "I", RX10) (by decide +kernel))) (fun _ h9 => h9) rfl dX5_enter_21 ?_
    refine lv_icmp_ge (tgt := 122) hx hb dX5_enter_24 (by decide) (fun c_19 => ?_) (fun c_19 => ?_)
    · have dc_19 : w ≤ i := (nI_leI (a := w) (b := i) (by omega) (by omega)).mp c_19
      have hP9 := hP.sub (ws' := [(o, .inr (5, [.ref se_ahead, .ref se_queue, .int (nI qd2)])), (se_ahead, .inl (cI, 1536, .inl ga)), (se_queue, .inl (cI, 1536, .inl gq)), (t, .inr (8, [.ref k_name, .ref k_worth, .ref k_times, .ref k_first, .ref k_second, .ref k_beforeLast, .ref k_last, .ref k_errandOf, .ref k_errandAfter, .ref k_sound, .ref k_followers, .ref k_leaders, .int (nI w), .int k_errands, .int k_alikes, .int k_law]))]) [0, 1, 2, 3] rfl
      have hD9 := hD.sub (ws' := [(o, .inr (5, [.ref se_ahead, .ref se_queue, .int (nI qd2)])), (se_ahead, .inl (cI, 1536, .inl ga)), (se_queue, .inl (cI, 1536, .inl gq)), (t, .inr (8, [.ref k_name, .ref k_worth, .ref k_times, .ref k_first, .ref k_second, .ref k_beforeLast, .ref k_last, .ref k_errandOf, .ref k_errandAfter, .ref k_sound, .ref k_followers, .ref k_leaders, .int (nI w), .int k_errands, .int k_alikes, .int k_law]))]) [0, 1, 2, 3] (by decide) rfl
      refine W.widen (k := 0) (n := 0) (Nat.le_of_ble_eq_true rfl) (Nat.le_of_ble_eq_true rfl) ?_
      exact W.vret hx hb hr (fun tz htz hWz => ⟨⟨[(o, .inr (5, [.ref se_ahead, .ref se_queue, .int (nI qd2)])), (se_ahead, .inl (cI, 1536, .inl ga)), (se_queue, .inl (cI, 1536, .inl gq)), (t, .inr (8, [.ref k_name, .ref k_worth, .ref k_times, .ref k_first, .ref k_second, .ref k_beforeLast, .ref k_last, .ref k_errandOf, .ref k_errandAfter, .ref k_sound, .ref k_followers, .ref k_leaders, .int (nI w), .int k_errands, .int k_alikes, .int k_law]))], rfl, ⟨qd2, ga, gq, rfl, hF_h_16, hF_h_17, hF_h_18⟩, by rw [htz]; exact hP9, va_K.moved hWz.alike hK, hD9⟩, hS.F htz⟩) hS.2.2 dX5_enter_122
    · have dc_19 : ¬ w ≤ i := fun h => c_19 ((nI_leI (a := w) (b := i) (by omega) (by omega)).mpr h)
      refine lv_iload_n hx hb dX5_enter_27 rfl (lv_at hl 4 rfl) ?_
      refine lv_iload hx hb dX5_enter_28 (lv_at hl 0 rfl) ?_
      refine xCi (wr := [(o, .inr (5, [.ref se_ahead, .ref se_queue, .int (nI qd2)])), (se_ahead, .inl (cI, 1536, .inl ga)), (se_queue, .inl (cI, 1536, .inl gq)), (t, .inr (8, [.ref k_name, .ref k_worth, .ref k_times, .ref k_first, .ref k_second, .ref k_beforeLast, .ref k_last, .ref k_errandOf, .ref k_errandAfter, .ref k_sound, .ref k_followers, .ref k_leaders, .int (nI w), .int k_errands, .int k_alikes, .int k_law]))]) (win := []) hP hD hS hA [] [0, 1, 2, 3] rfl rfl (by decide) (by decide) (va_runSN (As := [.int y, .int (nI i)]) (rest := []) ⟨hx, hb, hml, hown, hts⟩ (c_X10_isIn l D cB cI cJ cS cZ cO H.size y (nI i) ) ⟨va_cnB 2 hts gX5_enter_X10_isIn_n54 rfl rfl rfl (hN.2.1 (RX5, 54, yX10_isIn, RX10) (by decide +kernel)) (hts (.initialized RX10) (by decide +kernel)) (by decide +kernel) ⟨Nat.le_of_ble_eq_true rfl, Nat.le_of_ble_eq_true rfl⟩, hts (.static yX10_isIn) (by decide +kernel), trivial⟩ (xPreS (win := []) hN hK hP hD [] (by decide) rfl) rfl rfl hl.1 rfl (lv_room (Nat.le_of_ble_eq_true rfl)) dX5_enter_30 ⟨Nat.le_of_ble_eq_true rfl, Nat.le_of_ble_eq_true rfl⟩) (fun r_20 w0 H locs hw hP hD hS => ?_)
      obtain ⟨rfl, hf_21⟩ := hw
      have hP : va_P D vwCl [(o, .inr (5, [.ref se_ahead, .ref se_queue, .int (nI qd2)])), (se_ahead, .inl (cI, 1536, .inl ga)), (se_queue, .inl (cI, 1536, .inl gq)), (t, .inr (8, [.ref k_name, .ref k_worth, .ref k_times, .ref k_first, .ref k_second, .ref k_beforeLast, .ref k_last, .ref k_errandOf, .ref k_errandAfter, .ref k_sound, .ref k_followers, .ref k_leaders, .int (nI w), .int k_errands, .int k_alikes, .int k_law]))] H := hP
      have hD : va_D A [(o, .inr (5, [.ref se_ahead, .ref se_queue, .int (nI qd2)])), (se_ahead, .inl (cI, 1536, .inl ga)), (se_queue, .inl (cI, 1536, .inl gq)), (t, .inr (8, [.ref k_name, .ref k_worth, .ref k_times, .ref k_first, .ref k_second, .ref k_beforeLast, .ref k_last, .ref k_errandOf, .ref k_errandAfter, .ref k_sound, .ref k_followers, .ref k_leaders, .int (nI w), .int k_errands, .int k_alikes, .int k_law]))] := hD
      refine lv_if_eq (tgt := 116) hx hb dX5_enter_33 (by decide) (fun c_22 => ?_) (fun c_22 => ?_)
      · refine lv_iinc (v := nI (i + 1)) (lv' := [(6, .int (nI (i + 1))), (5, .int 0), (0, .ref o), (1, .ref t), (2, .int y), (3, .int (-1)), (4, .int 0)]) hx hb dX5_enter_116 hl (k := 0) rfl (nI_1 i) (by decide) rfl (fun ls hl => ?_)
        refine lv_goto (tgt := 18) hx hb dX5_enter_119 (by decide) ?_
        exact kk_18 _ _ _ _ (by rw [← hn_18]; omega) ⟨(i + 1), qd2, ga, gq, rfl, hP, hD, hS, lv_sub hl [0, 1, 2, 3, 4, 5, 6] rfl, (by omega), (by first | assumption | omega), hF_h_17, hF_h_18⟩
      · refine lv_iload hx hb dX5_enter_36 (lv_at hl 6 rfl) ?_
        refine lv_if_eq (tgt := 52) hx hb dX5_enter_38 (by decide) (fun c_23 => ?_) (fun c_23 => absurd (by decide) c_23)
        refine lv_iconst (v := 0) hx hb dX5_enter_52 (by decide) ?_
        refine lv_istore (lv' := [(7, .int 0), (6, .int (nI i)), (5, .int 0), (0, .ref o), (1, .ref t), (2, .int y), (3, .int (-1)), (4, .int 0)]) hx hb dX5_enter_53 hl (by decide) rfl (fun ls hl => ?_)
        refine lv_iload hx hb dX5_enter_55 (lv_at hl 0 rfl) ?_
        refine lv_bipush (v := 24) hx hb dX5_enter_57 (by decide) ?_
        refine lv_imul hx hb dX5_enter_59 ?_
        refine xb_top (y := 0) (by decide) ?_
        refine lv_iload hx hb dX5_enter_60 (lv_at hl 1 rfl) ?_
        refine lv_iadd hx hb dX5_enter_62 ?_
        refine xb_top (y := nI (0 + i)) (nI_add 0 i) ?_
        refine lv_istore (lv' := [(8, .int (nI (0 + i))), (7, .int 0), (6, .int (nI i)), (5, .int 0), (0, .ref o), (1, .ref t), (2, .int y), (3, .int (-1)), (4, .int 0)]) hx hb dX5_enter_63 hl (by decide) rfl (fun ls hl => ?_)
        refine lv_aload_n hx hb dX5_enter_65 rfl (lv_at hl 4 rfl) ?_
        refine va_get (D := D) (ci := 5) (v := .ref se_ahead) (C := RX5) (T := TX5) (N := 3) hx hb hts (by decide +kernel) hown hK hP 0 rfl rfl 0 (by decide) (hts (.fieldLink RX5 9 "LastLetter$Search" "ahead" "[I") (by decide +kernel)) (fun _ h9 => h9) rfl dX5_enter_66 ?_
        refine lv_iload hx hb dX5_enter_69 (lv_at hl 0 rfl) ?_
        refine va_iald hx hb hK hP 1 1 rfl rfl (vp_in_nI (by omega) (by omega)) dX5_enter_71 ?_
        refine xb_top (y := ga (0 + i)) (by rw [nI_clamp (by omega)]) ?_
        refine lv_bipush (v := (-2)) hx hb dX5_enter_72 (by decide) ?_
        refine lv_icmp_ne (tgt := 116) hx hb dX5_enter_74 (by decide) (fun c_24 => ?_) (fun c_24 => ?_)
        · refine lv_iinc (v := nI (i + 1)) (lv' := [(6, .int (nI (i + 1))), (8, .int (nI (0 + i))), (7, .int 0), (5, .int 0), (0, .ref o), (1, .ref t), (2, .int y), (3, .int (-1)), (4, .int 0)]) hx hb dX5_enter_116 hl (k := 2) rfl (nI_1 i) (by decide) rfl (fun ls hl => ?_)
          refine lv_goto (tgt := 18) hx hb dX5_enter_119 (by decide) ?_
          exact kk_18 _ _ _ _ (by rw [← hn_18]; omega) ⟨(i + 1), qd2, ga, gq, rfl, hP, hD, hS, lv_sub hl [0, 3, 4, 5, 6, 7, 8] rfl, (by omega), (by first | assumption | omega), hF_h_17, hF_h_18⟩
        · refine lv_aload_n hx hb dX5_enter_77 rfl (lv_at hl 4 rfl) ?_
          refine va_get (D := D) (ci := 5) (v := .int (nI qd2)) (C := RX5) (T := TX5) (N := 3) hx hb hts (by decide +kernel) hown hK hP 0 rfl rfl 2 (by decide) (hts (.fieldLink RX5 25 "LastLetter$Search" "queued" "I") (by decide +kernel)) (fun _ h9 => h9) rfl dX5_enter_78 ?_
          refine lv_sipush (v := 1536) hx hb dX5_enter_81 (by decide) ?_
          refine lv_icmp_ge (tgt := 116) hx hb dX5_enter_84 (by decide) (fun c_25 => ?_) (fun c_25 => ?_)
          · have dc_25 : 1536 ≤ qd2 := (nI_leI (a := 1536) (b := qd2) (by omega) (by omega)).mp c_25
            refine lv_iinc (v := nI (i + 1)) (lv' := [(6, .int (nI (i + 1))), (8, .int (nI (0 + i))), (7, .int 0), (5, .int 0), (0, .ref o), (1, .ref t), (2, .int y), (3, .int (-1)), (4, .int 0)]) hx hb dX5_enter_116 hl (k := 2) rfl (nI_1 i) (by decide) rfl (fun ls hl => ?_)
            refine lv_goto (tgt := 18) hx hb dX5_enter_119 (by decide) ?_
            exact kk_18 _ _ _ _ (by rw [← hn_18]; omega) ⟨(i + 1), qd2, ga, gq, rfl, hP, hD, hS, lv_sub hl [0, 3, 4, 5, 6, 7, 8] rfl, (by omega), (by first | assumption | omega), hF_h_17, hF_h_18⟩
          · have dc_25 : ¬ 1536 ≤ qd2 := fun h => c_25 ((nI_leI (a := 1536) (b := qd2) (by omega) (by omega)).mpr h)
            refine lv_aload_n hx hb dX5_enter_87 rfl (lv_at hl 4 rfl) ?_
            refine va_get (D := D) (ci := 5) (v := .ref se_ahead) (C := RX5) (T := TX5) (N := 3) hx hb hts (by decide +kernel) hown hK hP 0 rfl rfl 0 (by decide) (hts (.fieldLink RX5 9 "LastLetter$Search" "ahead" "[I") (by decide +kernel)) (fun _ h9 => h9) rfl dX5_enter_88 ?_
            refine lv_iload hx hb dX5_enter_91 (lv_at hl 0 rfl) ?_
            refine lv_iload_n hx hb dX5_enter_93 rfl (lv_at hl 7 rfl) ?_
            refine va_iast hx hb hK hP hD hS 1 1 rfl rfl (vp_in_nI (by omega) (by omega)) dX5_enter_94 (fun H locs hP hD hS => ?_)
            have hP : va_P D vwCl [(o, .inr (5, [.ref se_ahead, .ref se_queue, .int (nI qd2)])), (se_ahead, .inl (cI, 1536, .inl (upd ga (Int32.toNatClampNeg (nI (0 + i))) (-1)))), (se_queue, .inl (cI, 1536, .inl gq)), (t, .inr (8, [.ref k_name, .ref k_worth, .ref k_times, .ref k_first, .ref k_second, .ref k_beforeLast, .ref k_last, .ref k_errandOf, .ref k_errandAfter, .ref k_sound, .ref k_followers, .ref k_leaders, .int (nI w), .int k_errands, .int k_alikes, .int k_law]))] H := hP
            have hD : va_D A [(o, .inr (5, [.ref se_ahead, .ref se_queue, .int (nI qd2)])), (se_ahead, .inl (cI, 1536, .inl (upd ga (Int32.toNatClampNeg (nI (0 + i))) (-1)))), (se_queue, .inl (cI, 1536, .inl gq)), (t, .inr (8, [.ref k_name, .ref k_worth, .ref k_times, .ref k_first, .ref k_second, .ref k_beforeLast, .ref k_last, .ref k_errandOf, .ref k_errandAfter, .ref k_sound, .ref k_followers, .ref k_leaders, .int (nI w), .int k_errands, .int k_alikes, .int k_law]))] := hD
            generalize eg_26 : upd ga (Int32.toNatClampNeg (nI (0 + i))) (-1) = g_26 at hP hD
            refine lv_aload_n hx hb dX5_enter_95 rfl (lv_at hl 4 rfl) ?_
            refine va_get (D := D) (ci := 5) (v := .ref se_queue) (C := RX5) (T := TX5) (N := 3) hx hb hts (by decide +kernel) hown hK hP 0 rfl rfl 1 (by decide) (hts (.fieldLink RX5 15 "LastLetter$Search" "queue" "[I") (by decide +kernel)) (fun _ h9 => h9) rfl dX5_enter_96 ?_
            refine lv_aload_n hx hb dX5_enter_99 rfl (lv_at hl 4 rfl) ?_
            refine va_get (D := D) (ci := 5) (v := .int (nI qd2)) (C := RX5) (T := TX5) (N := 3) hx hb hts (by decide +kernel) hown hK hP 0 rfl rfl 2 (by decide) (hts (.fieldLink RX5 25 "LastLetter$Search" "queued" "I") (by decide +kernel)) (fun _ h9 => h9) rfl dX5_enter_100 ?_
            refine lv_iload hx hb dX5_enter_103 (lv_at hl 0 rfl) ?_
            refine va_iast hx hb hK hP hD hS 2 1 rfl rfl (vp_in_nI (by omega) (by omega)) dX5_enter_105 (fun H locs hP hD hS => ?_)
            have hP : va_P D vwCl [(o, .inr (5, [.ref se_ahead, .ref se_queue, .int (nI qd2)])), (se_ahead, .inl (cI, 1536, .inl g_26)), (se_queue, .inl (cI, 1536, .inl (upd gq (Int32.toNatClampNeg (nI qd2)) (nI (0 + i))))), (t, .inr (8, [.ref k_name, .ref k_worth, .ref k_times, .ref k_first, .ref k_second, .ref k_beforeLast, .ref k_last, .ref k_errandOf, .ref k_errandAfter, .ref k_sound, .ref k_followers, .ref k_leaders, .int (nI w), .int k_errands, .int k_alikes, .int k_law]))] H := hP
            have hD : va_D A [(o, .inr (5, [.ref se_ahead, .ref se_queue, .int (nI qd2)])), (se_ahead, .inl (cI, 1536, .inl g_26)), (se_queue, .inl (cI, 1536, .inl (upd gq (Int32.toNatClampNeg (nI qd2)) (nI (0 + i))))), (t, .inr (8, [.ref k_name, .ref k_worth, .ref k_times, .ref k_first, .ref k_second, .ref k_beforeLast, .ref k_last, .ref k_errandOf, .ref k_errandAfter, .ref k_sound, .ref k_followers, .ref k_leaders, .int (nI w), .int k_errands, .int k_alikes, .int k_law]))] := hD
            generalize eg_27 : upd gq (Int32.toNatClampNeg (nI qd2)) (nI (0 + i)) = g_27 at hP hD
            refine lv_aload_n hx hb dX5_enter_106 rfl (lv_at hl 4 rfl) ?_
            refine lv_dup hx hb dX5_enter_107 rfl ?_
            refine va_get (D := D) (ci := 5) (v := .int (nI qd2)) (C := RX5) (T := TX5) (N := 3) hx hb hts (by decide +kernel) hown hK hP 0 rfl rfl 2 (by decide) (hts (.fieldLink RX5 25 "LastLetter$Search" "queued" "I") (by decide +kernel)) (fun _ h9 => h9) rfl dX5_enter_108 ?_
            refine lv_iconst (v := 1) hx hb dX5_enter_111 (by decide) ?_
            refine lv_iadd hx hb dX5_enter_112 ?_
            refine xb_top (y := nI (qd2 + 1)) (nI_add qd2 1) ?_
            refine va_put (D := D) (ci := 5) (v := .int (nI (qd2 + 1))) (ty := .int) (C := RX5) (T := TX5) (N := 3) hx hb hts (by decide +kernel) tyX5 tyX5_ok nmX5 hown hK hP hD hS 0 rfl rfl 2 (by decide) (hts (.fieldLink RX5 25 "LastLetter$Search" "queued" "I") (by decide +kernel)) (fun _ h9 => h9) rfl (by decide +kernel) rfl rfl (Nat.le_of_ble_eq_true rfl) dX5_enter_113 (fun H locs hP hD hS => ?_)
            have hP : va_P D vwCl [(o, .inr (5, [.ref se_ahead, .ref se_queue, .int (nI (qd2 + 1))])), (se_ahead, .inl (cI, 1536, .inl g_26)), (se_queue, .inl (cI, 1536, .inl g_27)), (t, .inr (8, [.ref k_name, .ref k_worth, .ref k_times, .ref k_first, .ref k_second, .ref k_beforeLast, .ref k_last, .ref k_errandOf, .ref k_errandAfter, .ref k_sound, .ref k_followers, .ref k_leaders, .int (nI w), .int k_errands, .int k_alikes, .int k_law]))] H := hP
            have hD : va_D A [(o, .inr (5, [.ref se_ahead, .ref se_queue, .int (nI (qd2 + 1))])), (se_ahead, .inl (cI, 1536, .inl g_26)), (se_queue, .inl (cI, 1536, .inl g_27)), (t, .inr (8, [.ref k_name, .ref k_worth, .ref k_times, .ref k_first, .ref k_second, .ref k_beforeLast, .ref k_last, .ref k_errandOf, .ref k_errandAfter, .ref k_sound, .ref k_followers, .ref k_leaders, .int (nI w), .int k_errands, .int k_alikes, .int k_law]))] := hD
            refine lv_iinc (v := nI (i + 1)) (lv' := [(6, .int (nI (i + 1))), (8, .int (nI (0 + i))), (7, .int 0), (5, .int 0), (0, .ref o), (1, .ref t), (2, .int y), (3, .int (-1)), (4, .int 0)]) hx hb dX5_enter_116 hl (k := 2) rfl (nI_1 i) (by decide) rfl (fun ls hl => ?_)
            refine lv_goto (tgt := 18) hx hb dX5_enter_119 (by decide) ?_
            exact kk_18 _ _ _ _ (by rw [← hn_18]; omega) ⟨(i + 1), (qd2 + 1), g_26, g_27, rfl, hP, hD, hS, lv_sub hl [0, 3, 4, 5, 6, 7, 8] rfl, (by omega), (by first | assumption | omega), (rgN_push hF_h_17 (by omega) (by omega) eg_27), (rgS_up hF_h_18 (by omega) (Or.inl (by decide)) eg_26)⟩

set_option maxHeartbeats 4000000 in
set_option maxRecDepth 100000 in
theorem c_X5_enter_1 (l : Launch) (D : va_G) (cB cI cJ cS cZ cO : ClassId) (sz : Nat) (o : Nat) (t : Nat) (y : Int32) (x : Int32) (se_ahead : Nat) (se_queue : Nat) (qd : Nat) (fa : Nat → Int32) (fq : Nat → Int32) (k_name : Nat) (k_worth : Nat) (k_times : Nat) (k_first : Nat) (k_second : Nat) (k_beforeLast : Nat) (k_last : Nat) (k_errandOf : Nat) (k_errandAfter : Nat) (k_sound : Nat) (k_followers : Nat) (k_leaders : Nat) (w : Nat) (k_errands : Int32) (k_alikes : Int32) (k_law : Int32) (f_errandOf : Nat → Int32) (f_errandAfter : Nat → Int32) (hw : w ≤ 24) (hqd : qd ≤ 1536) (hq : rgN fq qd 1536) (ha : rgS fa 1536 1536) (hx1 : x = -1 ∨ ∃ q, q < 1536 ∧ x = nI q) (hm : rgM f_errandOf 24 6) : Met l yX5_enter wsX5_enter ({ frames := 2, cells := 0, slots := 0, locals := 45 }) (xPre D (tyL cB cI cJ cS cZ cO) [(o, .inr (5, [.ref se_ahead, .ref se_queue, .int (nI qd)])), (se_ahead, .inl (cI, 1536, .inl fa)), (se_queue, .inl (cI, 1536, .inl fq)), (t, .inr (8, [.ref k_name, .ref k_worth, .ref k_times, .ref k_first, .ref k_second, .ref k_beforeLast, .ref k_last, .ref k_errandOf, .ref k_errandAfter, .ref k_sound, .ref k_followers, .ref k_leaders, .int (nI w), .int k_errands, .int k_alikes, .int k_law])), (k_errandOf, .inl (cI, 24, .inl f_errandOf)), (k_errandAfter, .inl (cI, 6, .inl f_errandAfter))] sz [.ref o, .ref t, .int y, .int x, .int 1]) (xQv D (tyL cB cI cJ cS cZ cO) (va_A [(o, .inr (5, [.ref se_ahead, .ref se_queue, .int (nI qd)])), (se_ahead, .inl (cI, 1536, .inl fa)), (se_queue, .inl (cI, 1536, .inl fq)), (t, .inr (8, [.ref k_name, .ref k_worth, .ref k_times, .ref k_first, .ref k_second, .ref k_beforeLast, .ref k_last, .ref k_errandOf, .ref k_errandAfter, .ref k_sound, .ref k_followers, .ref k_leaders, .int (nI w), .int k_errands, .int k_alikes, .int k_law])), (k_errandOf, .inl (cI, 24, .inl f_errandOf)), (k_errandAfter, .inl (cI, 6, .inl f_errandAfter))] sz) (fun u : va_W => ∃ qd2 : Nat, ∃ ga : Nat → Int32, ∃ gq : Nat → Int32, u = [(o, .inr (5, [.ref se_ahead, .ref se_queue, .int (nI qd2)])), (se_ahead, .inl (cI, 1536, .inl ga)), (se_queue, .inl (cI, 1536, .inl gq)), (t, .inr (8, [.ref k_name, .ref k_worth, .ref k_times, .ref k_first, .ref k_second, .ref k_beforeLast, .ref k_last, .ref k_errandOf, .ref k_errandAfter, .ref k_sound, .ref k_followers, .ref k_leaders, .int (nI w), .int k_errands, .int k_alikes, .int k_law])), (k_errandOf, .inl (cI, 24, .inl f_errandOf)), (k_errandAfter, .inl (cI, 6, .inl f_errandAfter))] ∧ qd2 ≤ 1536 ∧ rgN gq qd2 1536 ∧ rgS ga 1536 1536)) 0 0 (va_A [(o, .inr (5, [.ref se_ahead, .ref se_queue, .int (nI qd)])), (se_ahead, .inl (cI, 1536, .inl fa)), (se_queue, .inl (cI, 1536, .inl fq)), (t, .inr (8, [.ref k_name, .ref k_worth, .ref k_times, .ref k_first, .ref k_second, .ref k_beforeLast, .ref k_last, .ref k_errandOf, .ref k_errandAfter, .ref k_sound, .ref k_followers, .ref k_leaders, .int (nI w), .int k_errands, .int k_alikes, .int k_law])), (k_errandOf, .inl (cI, 24, .inl f_errandOf)), (k_errandAfter, .inl (cI, 6, .inl f_errandAfter))] sz) := by
  refine Met.ofW (cc := cX5_enter) (maxL := 9) (ret := none) (by decide) rfl ?_
  intro p e s m args below meth c s₁ B hml hv
  obtain ⟨rfl, hsz, hP, hK, hD0, hN⟩ := hv
  have hx := B.exec
  have hb := B.bytes
  have hr := B.returns
  have hts := atoms_spec (ws := wsX5_enter) B.pre
  have hown : s.vm.findClass RX5 = some m.cls := findClass_of_methodNamed B.named
  have hlocks := B.notSynchronized
  subst hsz
  have hD := hD0.self (sz := s.heap.size)
  generalize hAe : va_A [(o, .inr (5, [.ref se_ahead, .ref se_queue, .int (nI qd)])), (se_ahead, .inl (cI, 1536, .inl fa)), (se_queue, .inl (cI, 1536, .inl fq)), (t, .inr (8, [.ref k_name, .ref k_worth, .ref k_times, .ref k_first, .ref k_second, .ref k_beforeLast, .ref k_last, .ref k_errandOf, .ref k_errandAfter, .ref k_sound, .ref k_followers, .ref k_leaders, .int (nI w), .int k_errands, .int k_alikes, .int k_law])), (k_errandOf, .inl (cI, 24, .inl f_errandOf)), (k_errandAfter, .inl (cI, 6, .inl f_errandAfter))] s.heap.size = A at hD ⊢
  have hA : ∀ q : Nat, s.heap.size ≤ q → A q := fun q h => by rw [← hAe]; exact Or.inr h
  have hS : va_S A s.heap s.heap [] := va_S.rf
  have hP : va_P D vwCl [(o, .inr (5, [.ref se_ahead, .ref se_queue, .int (nI qd)])), (se_ahead, .inl (cI, 1536, .inl fa)), (se_queue, .inl (cI, 1536, .inl fq)), (t, .inr (8, [.ref k_name, .ref k_worth, .ref k_times, .ref k_first, .ref k_second, .ref k_beforeLast, .ref k_last, .ref k_errandOf, .ref k_errandAfter, .ref k_sound, .ref k_followers, .ref k_leaders, .int (nI w), .int k_errands, .int k_alikes, .int k_law])), (k_errandOf, .inl (cI, 24, .inl f_errandOf)), (k_errandAfter, .inl (cI, 6, .inl f_errandAfter))] s.heap := hP
  have hl := lv_entry ([.ref o, .ref t, .int y, .int x, .int 1]) (n := 9) (Nat.le_of_ble_eq_true rfl)
  rw [lg_entry_eq]
  generalize (lg_sl ([.ref o, .ref t, .int y, .int x, .int 1]) ++ List.replicate (9 - (lg_sl ([.ref o, .ref t, .int y, .int x, .int 1])).length) Slot.unset).toArray = ls at hl ⊢
  have hl : lv_has ls 9 [(0, .ref o), (1, .ref t), (2, .int y), (3, .int x), (4, .int 1)] := hl
  refine lv_iload_n hx hb dX5_enter_0 rfl (lv_at hl 3 rfl) ?_
  refine lv_iconst (v := (-1)) hx hb dX5_enter_1 (by decide) ?_
  refine lv_icmp_ne (tgt := 9) hx hb dX5_enter_2 (by decide) (fun c_1 => ?_) (fun c_1 => ?_)
  · obtain ⟨q1, hq1, rfl⟩ := hx1.resolve_left c_1
    refine lv_iload_n hx hb dX5_enter_9 rfl (lv_at hl 3 rfl) ?_
    refine lv_bipush (v := 24) hx hb dX5_enter_10 (by decide) ?_
    refine lv_idiv hx hb dX5_enter_12 (by decide) ?_
    refine xb_top (y := nI (q1 / 24)) (pk_div (a := q1) (d := 24) (by omega) (by omega) (by omega)) ?_
    refine lv_istore (lv' := [(5, .int (nI (q1 / 24))), (0, .ref o), (1, .ref t), (2, .int y), (3, .int (nI q1)), (4, .int 1)]) hx hb dX5_enter_13 hl (by decide) rfl (fun ls hl => ?_)
    refine lv_iconst (v := 0) hx hb dX5_enter_15 (by decide) ?_
    refine lv_istore (lv' := [(6, .int 0), (5, .int (nI (q1 / 24))), (0, .ref o), (1, .ref t), (2, .int y), (3, .int (nI q1)), (4, .int 1)]) hx hb dX5_enter_16 hl (by decide) rfl (fun ls hl => ?_)
    refine xb_wh (fun (n9 : Nat) H locs ls => ∃ i : Nat, ∃ qd2 : Nat, ∃ ga : Nat → Int32, ∃ gq : Nat → Int32, (w - i) = n9 ∧ va_P D vwCl [(o, .inr (5, [.ref se_ahead, .ref se_queue, .int (nI qd2)])), (se_ahead, .inl (cI, 1536, .inl ga)), (se_queue, .inl (cI, 1536, .inl gq)), (t, .inr (8, [.ref k_name, .ref k_worth, .ref k_times, .ref k_first, .ref k_second, .ref k_beforeLast, .ref k_last, .ref k_errandOf, .ref k_errandAfter, .ref k_sound, .ref k_followers, .ref k_leaders, .int (nI w), .int k_errands, .int k_alikes, .int k_law])), (k_errandOf, .inl (cI, 24, .inl f_errandOf)), (k_errandAfter, .inl (cI, 6, .inl f_errandAfter))] H ∧ va_D A [(o, .inr (5, [.ref se_ahead, .ref se_queue, .int (nI qd2)])), (se_ahead, .inl (cI, 1536, .inl ga)), (se_queue, .inl (cI, 1536, .inl gq)), (t, .inr (8, [.ref k_name, .ref k_worth, .ref k_times, .ref k_first, .ref k_second, .ref k_beforeLast, .ref k_last, .ref k_errandOf, .ref k_errandAfter, .ref k_sound, .ref k_followers, .ref k_leaders, .int (nI w), .int k_errands, .int k_alikes, .int k_law])), (k_errandOf, .inl (cI, 24, .inl f_errandOf)), (k_errandAfter, .inl (cI, 6, .inl f_errandAfter))] ∧ va_S A s.heap H locs ∧ lv_has ls 9 [(6, .int (nI i)), (5, .int (nI (q1 / 24))), (0, .ref o), (1, .ref t), (2, .int y), (3, .int (nI q1)), (4, .int 1)] ∧ (i ≤ w) ∧ (qd2 ≤ 1536) ∧ (rgN gq qd2 1536) ∧ (rgS ga 1536 1536)) ⟨0, qd, fa, fq, rfl, hP, hD, hS, lv_sub hl [0, 1, 2, 3, 4, 5, 6] rfl, (Nat.zero_le _), hqd, hq, ha⟩ (fun n9 H locs ls hI kk_18 => ?_)
    obtain ⟨i, qd2, ga, gq, hn_18, hP, hD, hS, hl, hF_h_2, hF_h_3, hF_h_4, hF_h_5⟩ := hI
    refine lv_iload hx hb dX5_enter_18 (lv_at hl 0 rfl) ?_
    refine lv_aload_n hx hb dX5_enter_20 rfl (lv_at hl 3 rfl) ?_
    refine va_getN (D := D) (ci := 8) (v := .int (nI w)) (C := RX8) (T := TX8) (N := 16) hx hb hts (by decide +kernel) hown hK hP 3 rfl rfl 12 (by decide) (va_Nw.use rfl (hN.1 (RX5, 51, RX8, "words", "I", RX10) (by decide +kernel))) (fun _ h9 => h9) rfl dX5_enter_21 ?_
    refine lv_icmp_ge (tgt := 122) hx hb dX5_enter_24 (by decide) (fun c_6 => ?_) (fun c_6 => ?_)
    · have dc_6 : w ≤ i := (nI_leI (a := w) (b := i) (by omega) (by omega)).mp c_6
      have hP9 := hP.sub (ws' := [(o, .inr (5, [.ref se_ahead, .ref se_queue, .int (nI qd2)])), (se_ahead, .inl (cI, 1536, .inl ga)), (se_queue, .inl (cI, 1536, .inl gq)), (t, .inr (8, [.ref k_name, .ref k_worth, .ref k_times, .ref k_first, .ref k_second, .ref k_beforeLast, .ref k_last, .ref k_errandOf, .ref k_errandAfter, .ref k_sound, .ref k_followers, .ref k_leaders, .int (nI w), .int k_errands, .int k_alikes, .int k_law])), (k_errandOf, .inl (cI, 24, .inl f_errandOf)), (k_errandAfter, .inl (cI, 6, .inl f_errandAfter))]) [0, 1, 2, 3, 4, 5] rfl
      have hD9 := hD.sub (ws' := [(o, .inr (5, [.ref se_ahead, .ref se_queue, .int (nI qd2)])), (se_ahead, .inl (cI, 1536, .inl ga)), (se_queue, .inl (cI, 1536, .inl gq)), (t, .inr (8, [.ref k_name, .ref k_worth, .ref k_times, .ref k_first, .ref k_second, .ref k_beforeLast, .ref k_last, .ref k_errandOf, .ref k_errandAfter, .ref k_sound, .ref k_followers, .ref k_leaders, .int (nI w), .int k_errands, .int k_alikes, .int k_law])), (k_errandOf, .inl (cI, 24, .inl f_errandOf)), (k_errandAfter, .inl (cI, 6, .inl f_errandAfter))]) [0, 1, 2, 3, 4, 5] (by decide) rfl
      refine W.widen (k := 0) (n := 0) (Nat.le_of_ble_eq_true rfl) (Nat.le_of_ble_eq_true rfl) ?_
      exact W.vret hx hb hr (fun tz htz hWz => ⟨⟨[(o, .inr (5, [.ref se_ahead, .ref se_queue, .int (nI qd2)])), (se_ahead, .inl (cI, 1536, .inl ga)), (se_queue, .inl (cI, 1536, .inl gq)), (t, .inr (8, [.ref k_name, .ref k_worth, .ref k_times, .ref k_first, .ref k_second, .ref k_beforeLast, .ref k_last, .ref k_errandOf, .ref k_errandAfter, .ref k_sound, .ref k_followers, .ref k_leaders, .int (nI w), .int k_errands, .int k_alikes, .int k_law])), (k_errandOf, .inl (cI, 24, .inl f_errandOf)), (k_errandAfter, .inl (cI, 6, .inl f_errandAfter))], rfl, ⟨qd2, ga, gq, rfl, hF_h_3, hF_h_4, hF_h_5⟩, by rw [htz]; exact hP9, va_K.moved hWz.alike hK, hD9⟩, hS.F htz⟩) hS.2.2 dX5_enter_122
    · have dc_6 : ¬ w ≤ i := fun h => c_6 ((nI_leI (a := w) (b := i) (by omega) (by omega)).mpr h)
      refine lv_iload_n hx hb dX5_enter_27 rfl (lv_at hl 4 rfl) ?_
      refine lv_iload hx hb dX5_enter_28 (lv_at hl 0 rfl) ?_
      refine xCi (wr := [(o, .inr (5, [.ref se_ahead, .ref se_queue, .int (nI qd2)])), (se_ahead, .inl (cI, 1536, .inl ga)), (se_queue, .inl (cI, 1536, .inl gq)), (t, .inr (8, [.ref k_name, .ref k_worth, .ref k_times, .ref k_first, .ref k_second, .ref k_beforeLast, .ref k_last, .ref k_errandOf, .ref k_errandAfter, .ref k_sound, .ref k_followers, .ref k_leaders, .int (nI w), .int k_errands, .int k_alikes, .int k_law])), (k_errandOf, .inl (cI, 24, .inl f_errandOf)), (k_errandAfter, .inl (cI, 6, .inl f_errandAfter))]) (win := []) hP hD hS hA [] [0, 1, 2, 3, 4, 5] rfl rfl (by decide) (by decide) (va_runSN (As := [.int y, .int (nI i)]) (rest := []) ⟨hx, hb, hml, hown, hts⟩ (c_X10_isIn l D cB cI cJ cS cZ cO H.size y (nI i) ) ⟨va_cnB 2 hts gX5_enter_X10_isIn_n54 rfl rfl rfl (hN.2.1 (RX5, 54, yX10_isIn, RX10) (by decide +kernel)) (hts (.initialized RX10) (by decide +kernel)) (by decide +kernel) ⟨Nat.le_of_ble_eq_true rfl, Nat.le_of_ble_eq_true rfl⟩, hts (.static yX10_isIn) (by decide +kernel), trivial⟩ (xPreS (win := []) hN hK hP hD [] (by decide) rfl) rfl rfl hl.1 rfl (lv_room (Nat.le_of_ble_eq_true rfl)) dX5_enter_30 ⟨Nat.le_of_ble_eq_true rfl, Nat.le_of_ble_eq_true rfl⟩) (fun r_7 w0 H locs hw hP hD hS => ?_)
      obtain ⟨rfl, hf_8⟩ := hw
      have hP : va_P D vwCl [(o, .inr (5, [.ref se_ahead, .ref se_queue, .int (nI qd2)])), (se_ahead, .inl (cI, 1536, .inl ga)), (se_queue, .inl (cI, 1536, .inl gq)), (t, .inr (8, [.ref k_name, .ref k_worth, .ref k_times, .ref k_first, .ref k_second, .ref k_beforeLast, .ref k_last, .ref k_errandOf, .ref k_errandAfter, .ref k_sound, .ref k_followers, .ref k_leaders, .int (nI w), .int k_errands, .int k_alikes, .int k_law])), (k_errandOf, .inl (cI, 24, .inl f_errandOf)), (k_errandAfter, .inl (cI, 6, .inl f_errandAfter))] H := hP
      have hD : va_D A [(o, .inr (5, [.ref se_ahead, .ref se_queue, .int (nI qd2)])), (se_ahead, .inl (cI, 1536, .inl ga)), (se_queue, .inl (cI, 1536, .inl gq)), (t, .inr (8, [.ref k_name, .ref k_worth, .ref k_times, .ref k_first, .ref k_second, .ref k_beforeLast, .ref k_last, .ref k_errandOf, .ref k_errandAfter, .ref k_sound, .ref k_followers, .ref k_leaders, .int (nI w), .int k_errands, .int k_alikes, .int k_law])), (k_errandOf, .inl (cI, 24, .inl f_errandOf)), (k_errandAfter, .inl (cI, 6, .inl f_errandAfter))] := hD
      refine lv_if_eq (tgt := 116) hx hb dX5_enter_33 (by decide) (fun c_9 => ?_) (fun c_9 => ?_)
      · refine lv_iinc (v := nI (i + 1)) (lv' := [(6, .int (nI (i + 1))), (5, .int (nI (q1 / 24))), (0, .ref o), (1, .ref t), (2, .int y), (3, .int (nI q1)), (4, .int 1)]) hx hb dX5_enter_116 hl (k := 0) rfl (nI_1 i) (by decide) rfl (fun ls hl => ?_)
        refine lv_goto (tgt := 18) hx hb dX5_enter_119 (by decide) ?_
        exact kk_18 _ _ _ _ (by rw [← hn_18]; omega) ⟨(i + 1), qd2, ga, gq, rfl, hP, hD, hS, lv_sub hl [0, 1, 2, 3, 4, 5, 6] rfl, (by omega), (by first | assumption | omega), hF_h_4, hF_h_5⟩
      · refine lv_iload hx hb dX5_enter_36 (lv_at hl 6 rfl) ?_
        refine lv_if_eq (tgt := 52) hx hb dX5_enter_38 (by decide) (fun c_10 => absurd c_10 (by decide)) (fun c_10 => ?_)
        refine lv_aload_n hx hb dX5_enter_41 rfl (lv_at hl 3 rfl) ?_
        refine lv_iload hx hb dX5_enter_42 (lv_at hl 1 rfl) ?_
        refine lv_iload hx hb dX5_enter_44 (lv_at hl 0 rfl) ?_
        refine xCi (wr := [(o, .inr (5, [.ref se_ahead, .ref se_queue, .int (nI qd2)])), (se_ahead, .inl (cI, 1536, .inl ga)), (se_queue, .inl (cI, 1536, .inl gq))]) (win := [(t, .inr (8, [.ref k_name, .ref k_worth, .ref k_times, .ref k_first, .ref k_second, .ref k_beforeLast, .ref k_last, .ref k_errandOf, .ref k_errandAfter, .ref k_sound, .ref k_followers, .ref k_leaders, .int (nI w), .int k_errands, .int k_alikes, .int k_law])), (k_errandOf, .inl (cI, 24, .inl f_errandOf)), (k_errandAfter, .inl (cI, 6, .inl f_errandAfter))]) hP hD hS hA [3, 4, 5] [0, 1, 2] rfl rfl (by decide) (by decide) (va_runV (As := [.int (nI (q1 / 24)), .int (nI i)]) (rest := []) ⟨hx, hb, hml, hown, hts⟩ (c_X8_doneBehind l D cB cI cJ cS cZ cO H.size t (q1 / 24) i k_name k_worth k_times k_first k_second k_beforeLast k_last k_errandOf k_errandAfter k_sound k_followers k_leaders (nI w) k_errands k_alikes k_law f_errandOf f_errandAfter (by first | assumption | omega | decide) (by first | assumption | omega | decide) (by first | assumption | omega | decide)) (cwV 2 hts gX5_enter_X8_doneBehind rfl rfl rfl (by decide +kernel) ⟨Nat.le_of_ble_eq_true rfl, Nat.le_of_ble_eq_true rfl⟩) (xPreV (win := [(t, .inr (8, [.ref k_name, .ref k_worth, .ref k_times, .ref k_first, .ref k_second, .ref k_beforeLast, .ref k_last, .ref k_errandOf, .ref k_errandAfter, .ref k_sound, .ref k_followers, .ref k_leaders, .int (nI w), .int k_errands, .int k_alikes, .int k_law])), (k_errandOf, .inl (cI, 24, .inl f_errandOf)), (k_errandAfter, .inl (cI, 6, .inl f_errandAfter))]) hN hK hP hD [3, 4, 5] (by decide) rfl 3 8 rfl rfl rfl) rfl rfl hl.1 rfl (lv_room (Nat.le_of_ble_eq_true rfl)) dX5_enter_46 ⟨Nat.le_of_ble_eq_true rfl, Nat.le_of_ble_eq_true rfl⟩) (fun r0 w0 H locs hw hP hD hS => ?_)
        obtain ⟨rr_11, rfl, rfl, hf_12⟩ := hw
        have hP : va_P D vwCl [(o, .inr (5, [.ref se_ahead, .ref se_queue, .int (nI qd2)])), (se_ahead, .inl (cI, 1536, .inl ga)), (se_queue, .inl (cI, 1536, .inl gq)), (t, .inr (8, [.ref k_name, .ref k_worth, .ref k_times, .ref k_first, .ref k_second, .ref k_beforeLast, .ref k_last, .ref k_errandOf, .ref k_errandAfter, .ref k_sound, .ref k_followers, .ref k_leaders, .int (nI w), .int k_errands, .int k_alikes, .int k_law])), (k_errandOf, .inl (cI, 24, .inl f_errandOf)), (k_errandAfter, .inl (cI, 6, .inl f_errandAfter))] H := hP
        have hD : va_D A [(o, .inr (5, [.ref se_ahead, .ref se_queue, .int (nI qd2)])), (se_ahead, .inl (cI, 1536, .inl ga)), (se_queue, .inl (cI, 1536, .inl gq)), (t, .inr (8, [.ref k_name, .ref k_worth, .ref k_times, .ref k_first, .ref k_second, .ref k_beforeLast, .ref k_last, .ref k_errandOf, .ref k_errandAfter, .ref k_sound, .ref k_followers, .ref k_leaders, .int (nI w), .int k_errands, .int k_alikes, .int k_law])), (k_errandOf, .inl (cI, 24, .inl f_errandOf)), (k_errandAfter, .inl (cI, 6, .inl f_errandAfter))] := hD
        refine lv_goto (tgt := 53) hx hb dX5_enter_49 (by decide) ?_
        refine lv_istore (lv' := [(7, .int (nI rr_11)), (6, .int (nI i)), (5, .int (nI (q1 / 24))), (0, .ref o), (1, .ref t), (2, .int y), (3, .int (nI q1)), (4, .int 1)]) hx hb dX5_enter_53 hl (by decide) rfl (fun ls hl => ?_)
        refine lv_iload hx hb dX5_enter_55 (lv_at hl 0 rfl) ?_
        refine lv_bipush (v := 24) hx hb dX5_enter_57 (by decide) ?_
        refine lv_imul hx hb dX5_enter_59 ?_
        refine xb_top (y := nI (rr_11 * 24)) (pk_mul rr_11 24) ?_
        refine lv_iload hx hb dX5_enter_60 (lv_at hl 1 rfl) ?_
        refine lv_iadd hx hb dX5_enter_62 ?_
        refine xb_top (y := nI ((rr_11 * 24) + i)) (nI_add (rr_11 * 24) i) ?_
        refine lv_istore (lv' := [(8, .int (nI ((rr_11 * 24) + i))), (7, .int (nI rr_11)), (6, .int (nI i)), (5, .int (nI (q1 / 24))), (0, .ref o), (1, .ref t), (2, .int y), (3, .int (nI q1)), (4, .int 1)]) hx hb dX5_enter_63 hl (by decide) rfl (fun ls hl => ?_)
        refine lv_aload_n hx hb dX5_enter_65 rfl (lv_at hl 4 rfl) ?_
        refine va_get (D := D) (ci := 5) (v := .ref se_ahead) (C := RX5) (T := TX5) (N := 3) hx hb hts (by decide +kernel) hown hK hP 0 rfl rfl 0 (by decide) (hts (.fieldLink RX5 9 "LastLetter$Search" "ahead" "[I") (by decide +kernel)) (fun _ h9 => h9) rfl dX5_enter_66 ?_
        refine lv_iload hx hb dX5_enter_69 (lv_at hl 0 rfl) ?_
        refine va_iald hx hb hK hP 1 1 rfl rfl (vp_in_nI (by omega) (by omega)) dX5_enter_71 ?_
        refine xb_top (y := ga ((rr_11 * 24) + i)) (by rw [nI_clamp (by omega)]) ?_
        refine lv_bipush (v := (-2)) hx hb dX5_enter_72 (by decide) ?_
        refine lv_icmp_ne (tgt := 116) hx hb dX5_enter_74 (by decide) (fun c_13 => ?_) (fun c_13 => ?_)
        · refine lv_iinc (v := nI (i + 1)) (lv' := [(6, .int (nI (i + 1))), (8, .int (nI ((rr_11 * 24) + i))), (7, .int (nI rr_11)), (5, .int (nI (q1 / 24))), (0, .ref o), (1, .ref t), (2, .int y), (3, .int (nI q1)), (4, .int 1)]) hx hb dX5_enter_116 hl (k := 2) rfl (nI_1 i) (by decide) rfl (fun ls hl => ?_)
          refine lv_goto (tgt := 18) hx hb dX5_enter_119 (by decide) ?_
          exact kk_18 _ _ _ _ (by rw [← hn_18]; omega) ⟨(i + 1), qd2, ga, gq, rfl, hP, hD, hS, lv_sub hl [0, 3, 4, 5, 6, 7, 8] rfl, (by omega), (by first | assumption | omega), hF_h_4, hF_h_5⟩
        · refine lv_aload_n hx hb dX5_enter_77 rfl (lv_at hl 4 rfl) ?_
          refine va_get (D := D) (ci := 5) (v := .int (nI qd2)) (C := RX5) (T := TX5) (N := 3) hx hb hts (by decide +kernel) hown hK hP 0 rfl rfl 2 (by decide) (hts (.fieldLink RX5 25 "LastLetter$Search" "queued" "I") (by decide +kernel)) (fun _ h9 => h9) rfl dX5_enter_78 ?_
          refine lv_sipush (v := 1536) hx hb dX5_enter_81 (by decide) ?_
          refine lv_icmp_ge (tgt := 116) hx hb dX5_enter_84 (by decide) (fun c_14 => ?_) (fun c_14 => ?_)
          · have dc_14 : 1536 ≤ qd2 := (nI_leI (a := 1536) (b := qd2) (by omega) (by omega)).mp c_14
            refine lv_iinc (v := nI (i + 1)) (lv' := [(6, .int (nI (i + 1))), (8, .int (nI ((rr_11 * 24) + i))), (7, .int (nI rr_11)), (5, .int (nI (q1 / 24))), (0, .ref o), (1, .ref t), (2, .int y), (3, .int (nI q1)), (4, .int 1)]) hx hb dX5_enter_116 hl (k := 2) rfl (nI_1 i) (by decide) rfl (fun ls hl => ?_)
            refine lv_goto (tgt := 18) hx hb dX5_enter_119 (by decide) ?_
            exact kk_18 _ _ _ _ (by rw [← hn_18]; omega) ⟨(i + 1), qd2, ga, gq, rfl, hP, hD, hS, lv_sub hl [0, 3, 4, 5, 6, 7, 8] rfl, (by omega), (by first | assumption | omega), hF_h_4, hF_h_5⟩
          · have dc_14 : ¬ 1536 ≤ qd2 := fun h => c_14 ((nI_leI (a := 1536) (b := qd2) (by omega) (by omega)).mpr h)
            refine lv_aload_n hx hb dX5_enter_87 rfl (lv_at hl 4 rfl) ?_
            refine va_get (D := D) (ci := 5) (v := .ref se_ahead) (C := RX5) (T := TX5) (N := 3) hx hb hts (by decide +kernel) hown hK hP 0 rfl rfl 0 (by decide) (hts (.fieldLink RX5 9 "LastLetter$Search" "ahead" "[I") (by decide +kernel)) (fun _ h9 => h9) rfl dX5_enter_88 ?_
            refine lv_iload hx hb dX5_enter_91 (lv_at hl 0 rfl) ?_
            refine lv_iload_n hx hb dX5_enter_93 rfl (lv_at hl 7 rfl) ?_
            refine va_iast hx hb hK hP hD hS 1 1 rfl rfl (vp_in_nI (by omega) (by omega)) dX5_enter_94 (fun H locs hP hD hS => ?_)
            have hP : va_P D vwCl [(o, .inr (5, [.ref se_ahead, .ref se_queue, .int (nI qd2)])), (se_ahead, .inl (cI, 1536, .inl (upd ga (Int32.toNatClampNeg (nI ((rr_11 * 24) + i))) (nI q1)))), (se_queue, .inl (cI, 1536, .inl gq)), (t, .inr (8, [.ref k_name, .ref k_worth, .ref k_times, .ref k_first, .ref k_second, .ref k_beforeLast, .ref k_last, .ref k_errandOf, .ref k_errandAfter, .ref k_sound, .ref k_followers, .ref k_leaders, .int (nI w), .int k_errands, .int k_alikes, .int k_law])), (k_errandOf, .inl (cI, 24, .inl f_errandOf)), (k_errandAfter, .inl (cI, 6, .inl f_errandAfter))] H := hP
            have hD : va_D A [(o, .inr (5, [.ref se_ahead, .ref se_queue, .int (nI qd2)])), (se_ahead, .inl (cI, 1536, .inl (upd ga (Int32.toNatClampNeg (nI ((rr_11 * 24) + i))) (nI q1)))), (se_queue, .inl (cI, 1536, .inl gq)), (t, .inr (8, [.ref k_name, .ref k_worth, .ref k_times, .ref k_first, .ref k_second, .ref k_beforeLast, .ref k_last, .ref k_errandOf, .ref k_errandAfter, .ref k_sound, .ref k_followers, .ref k_leaders, .int (nI w), .int k_errands, .int k_alikes, .int k_law])), (k_errandOf, .inl (cI, 24, .inl f_errandOf)), (k_errandAfter, .inl (cI, 6, .inl f_errandAfter))] := hD
            generalize eg_15 : upd ga (Int32.toNatClampNeg (nI ((rr_11 * 24) + i))) (nI q1) = g_15 at hP hD
            refine lv_aload_n hx hb dX5_enter_95 rfl (lv_at hl 4 rfl) ?_
            refine va_get (D := D) (ci := 5) (v := .ref se_queue) (C := RX5) (T := TX5) (N := 3) hx hb hts (by decide +kernel) hown hK hP 0 rfl rfl 1 (by decide) (hts (.fieldLink RX5 15 "LastLetter$Search" "queue" "[I") (by decide +kernel)) (fun _ h9 => h9) rfl dX5_enter_96 ?_
            refine lv_aload_n hx hb dX5_enter_99 rfl (lv_at hl 4 rfl) ?_
            refine va_get (D := D) (ci := 5) (v := .int (nI qd2)) (C := RX5) (T := TX5) (N := 3) hx hb hts (by decide +kernel) hown hK hP 0 rfl rfl 2 (by decide) (hts (.fieldLink RX5 25 "LastLetter$Search" "queued" "I") (by decide +kernel)) (fun _ h9 => h9) rfl dX5_enter_100 ?_
            refine lv_iload hx hb dX5_enter_103 (lv_at hl 0 rfl) ?_
            refine va_iast hx hb hK hP hD hS 2 1 rfl rfl (vp_in_nI (by omega) (by omega)) dX5_enter_105 (fun H locs hP hD hS => ?_)
            have hP : va_P D vwCl [(o, .inr (5, [.ref se_ahead, .ref se_queue, .int (nI qd2)])), (se_ahead, .inl (cI, 1536, .inl g_15)), (se_queue, .inl (cI, 1536, .inl (upd gq (Int32.toNatClampNeg (nI qd2)) (nI ((rr_11 * 24) + i))))), (t, .inr (8, [.ref k_name, .ref k_worth, .ref k_times, .ref k_first, .ref k_second, .ref k_beforeLast, .ref k_last, .ref k_errandOf, .ref k_errandAfter, .ref k_sound, .ref k_followers, .ref k_leaders, .int (nI w), .int k_errands, .int k_alikes, .int k_law])), (k_errandOf, .inl (cI, 24, .inl f_errandOf)), (k_errandAfter, .inl (cI, 6, .inl f_errandAfter))] H := hP
            have hD : va_D A [(o, .inr (5, [.ref se_ahead, .ref se_queue, .int (nI qd2)])), (se_ahead, .inl (cI, 1536, .inl g_15)), (se_queue, .inl (cI, 1536, .inl (upd gq (Int32.toNatClampNeg (nI qd2)) (nI ((rr_11 * 24) + i))))), (t, .inr (8, [.ref k_name, .ref k_worth, .ref k_times, .ref k_first, .ref k_second, .ref k_beforeLast, .ref k_last, .ref k_errandOf, .ref k_errandAfter, .ref k_sound, .ref k_followers, .ref k_leaders, .int (nI w), .int k_errands, .int k_alikes, .int k_law])), (k_errandOf, .inl (cI, 24, .inl f_errandOf)), (k_errandAfter, .inl (cI, 6, .inl f_errandAfter))] := hD
            generalize eg_16 : upd gq (Int32.toNatClampNeg (nI qd2)) (nI ((rr_11 * 24) + i)) = g_16 at hP hD
            refine lv_aload_n hx hb dX5_enter_106 rfl (lv_at hl 4 rfl) ?_
            refine lv_dup hx hb dX5_enter_107 rfl ?_
            refine va_get (D := D) (ci := 5) (v := .int (nI qd2)) (C := RX5) (T := TX5) (N := 3) hx hb hts (by decide +kernel) hown hK hP 0 rfl rfl 2 (by decide) (hts (.fieldLink RX5 25 "LastLetter$Search" "queued" "I") (by decide +kernel)) (fun _ h9 => h9) rfl dX5_enter_108 ?_
            refine lv_iconst (v := 1) hx hb dX5_enter_111 (by decide) ?_
            refine lv_iadd hx hb dX5_enter_112 ?_
            refine xb_top (y := nI (qd2 + 1)) (nI_add qd2 1) ?_
            refine va_put (D := D) (ci := 5) (v := .int (nI (qd2 + 1))) (ty := .int) (C := RX5) (T := TX5) (N := 3) hx hb hts (by decide +kernel) tyX5 tyX5_ok nmX5 hown hK hP hD hS 0 rfl rfl 2 (by decide) (hts (.fieldLink RX5 25 "LastLetter$Search" "queued" "I") (by decide +kernel)) (fun _ h9 => h9) rfl (by decide +kernel) rfl rfl (Nat.le_of_ble_eq_true rfl) dX5_enter_113 (fun H locs hP hD hS => ?_)
            have hP : va_P D vwCl [(o, .inr (5, [.ref se_ahead, .ref se_queue, .int (nI (qd2 + 1))])), (se_ahead, .inl (cI, 1536, .inl g_15)), (se_queue, .inl (cI, 1536, .inl g_16)), (t, .inr (8, [.ref k_name, .ref k_worth, .ref k_times, .ref k_first, .ref k_second, .ref k_beforeLast, .ref k_last, .ref k_errandOf, .ref k_errandAfter, .ref k_sound, .ref k_followers, .ref k_leaders, .int (nI w), .int k_errands, .int k_alikes, .int k_law])), (k_errandOf, .inl (cI, 24, .inl f_errandOf)), (k_errandAfter, .inl (cI, 6, .inl f_errandAfter))] H := hP
            have hD : va_D A [(o, .inr (5, [.ref se_ahead, .ref se_queue, .int (nI (qd2 + 1))])), (se_ahead, .inl (cI, 1536, .inl g_15)), (se_queue, .inl (cI, 1536, .inl g_16)), (t, .inr (8, [.ref k_name, .ref k_worth, .ref k_times, .ref k_first, .ref k_second, .ref k_beforeLast, .ref k_last, .ref k_errandOf, .ref k_errandAfter, .ref k_sound, .ref k_followers, .ref k_leaders, .int (nI w), .int k_errands, .int k_alikes, .int k_law])), (k_errandOf, .inl (cI, 24, .inl f_errandOf)), (k_errandAfter, .inl (cI, 6, .inl f_errandAfter))] := hD
            refine lv_iinc (v := nI (i + 1)) (lv' := [(6, .int (nI (i + 1))), (8, .int (nI ((rr_11 * 24) + i))), (7, .int (nI rr_11)), (5, .int (nI (q1 / 24))), (0, .ref o), (1, .ref t), (2, .int y), (3, .int (nI q1)), (4, .int 1)]) hx hb dX5_enter_116 hl (k := 2) rfl (nI_1 i) (by decide) rfl (fun ls hl => ?_)
            refine lv_goto (tgt := 18) hx hb dX5_enter_119 (by decide) ?_
            exact kk_18 _ _ _ _ (by rw [← hn_18]; omega) ⟨(i + 1), (qd2 + 1), g_15, g_16, rfl, hP, hD, hS, lv_sub hl [0, 3, 4, 5, 6, 7, 8] rfl, (by omega), (by first | assumption | omega), (rgN_push hF_h_4 (by omega) (by omega) eg_16), (rgS_up hF_h_5 (by omega) (Or.inr ⟨q1, by omega, rfl⟩) eg_15)⟩
  · subst c_1
    refine lv_iconst (v := 0) hx hb dX5_enter_5 (by decide) ?_
    refine lv_goto (tgt := 13) hx hb dX5_enter_6 (by decide) ?_
    refine lv_istore (lv' := [(5, .int 0), (0, .ref o), (1, .ref t), (2, .int y), (3, .int (-1)), (4, .int 1)]) hx hb dX5_enter_13 hl (by decide) rfl (fun ls hl => ?_)
    refine lv_iconst (v := 0) hx hb dX5_enter_15 (by decide) ?_
    refine lv_istore (lv' := [(6, .int 0), (5, .int 0), (0, .ref o), (1, .ref t), (2, .int y), (3, .int (-1)), (4, .int 1)]) hx hb dX5_enter_16 hl (by decide) rfl (fun ls hl => ?_)
    refine xb_wh (fun (n9 : Nat) H locs ls => ∃ i : Nat, ∃ qd2 : Nat, ∃ ga : Nat → Int32, ∃ gq : Nat → Int32, (w - i) = n9 ∧ va_P D vwCl [(o, .inr (5, [.ref se_ahead, .ref se_queue, .int (nI qd2)])), (se_ahead, .inl (cI, 1536, .inl ga)), (se_queue, .inl (cI, 1536, .inl gq)), (t, .inr (8, [.ref k_name, .ref k_worth, .ref k_times, .ref k_first, .ref k_second, .ref k_beforeLast, .ref k_last, .ref k_errandOf, .ref k_errandAfter, .ref k_sound, .ref k_followers, .ref k_leaders, .int (nI w), .int k_errands, .int k_alikes, .int k_law])), (k_errandOf, .inl (cI, 24, .inl f_errandOf)), (k_errandAfter, .inl (cI, 6, .inl f_errandAfter))] H ∧ va_D A [(o, .inr (5, [.ref se_ahead, .ref se_queue, .int (nI qd2)])), (se_ahead, .inl (cI, 1536, .inl ga)), (se_queue, .inl (cI, 1536, .inl gq)), (t, .inr (8, [.ref k_name, .ref k_worth, .ref k_times, .ref k_first, .ref k_second, .ref k_beforeLast, .ref k_last, .ref k_errandOf, .ref k_errandAfter, .ref k_sound, .ref k_followers, .ref k_leaders, .int (nI w), .int k_errands, .int k_alikes, .int k_law])), (k_errandOf, .inl (cI, 24, .inl f_errandOf)), (k_errandAfter, .inl (cI, 6, .inl f_errandAfter))] ∧ va_S A s.heap H locs ∧ lv_has ls 9 [(6, .int (nI i)), (5, .int 0), (0, .ref o), (1, .ref t), (2, .int y), (3, .int (-1)), (4, .int 1)] ∧ (i ≤ w) ∧ (qd2 ≤ 1536) ∧ (rgN gq qd2 1536) ∧ (rgS ga 1536 1536)) ⟨0, qd, fa, fq, rfl, hP, hD, hS, lv_sub hl [0, 1, 2, 3, 4, 5, 6] rfl, (Nat.zero_le _), hqd, hq, ha⟩ (fun n9 H locs ls hI kk_18 => ?_)
    obtain ⟨i, qd2, ga, gq, hn_18, hP, hD, hS, hl, hF_h_17, hF_h_18, hF_h_19, hF_h_20⟩ := hI
    refine lv_iload hx hb dX5_enter_18 (lv_at hl 0 rfl) ?_
    refine lv_aload_n hx hb dX5_enter_20 rfl (lv_at hl 3 rfl) ?_
    refine va_getN (D := D) (ci := 8) (v := .int (nI w)) (C := RX8) (T := TX8) (N := 16) hx hb hts (by decide +kernel) hown hK hP 3 rfl rfl 12 (by decide) (va_Nw.use rfl (hN.1 (RX5, 51, RX8, "words", "I", RX10) (by decide +kernel))) (fun _ h9 => h9) rfl dX5_enter_21 ?_
    refine lv_icmp_ge (tgt := 122) hx hb dX5_enter_24 (by decide) (fun c_21 => ?_) (fun c_21 => ?_)
    · have dc_21 : w ≤ i := (nI_leI (a := w) (b := i) (by omega) (by omega)).mp c_21
      have hP9 := hP.sub (ws' := [(o, .inr (5, [.ref se_ahead, .ref se_queue, .int (nI qd2)])), (se_ahead, .inl (cI, 1536, .inl ga)), (se_queue, .inl (cI, 1536, .inl gq)), (t, .inr (8, [.ref k_name, .ref k_worth, .ref k_times, .ref k_first, .ref k_second, .ref k_beforeLast, .ref k_last, .ref k_errandOf, .ref k_errandAfter, .ref k_sound, .ref k_followers, .ref k_leaders, .int (nI w), .int k_errands, .int k_alikes, .int k_law])), (k_errandOf, .inl (cI, 24, .inl f_errandOf)), (k_errandAfter, .inl (cI, 6, .inl f_errandAfter))]) [0, 1, 2, 3, 4, 5] rfl
      have hD9 := hD.sub (ws' := [(o, .inr (5, [.ref se_ahead, .ref se_queue, .int (nI qd2)])), (se_ahead, .inl (cI, 1536, .inl ga)), (se_queue, .inl (cI, 1536, .inl gq)), (t, .inr (8, [.ref k_name, .ref k_worth, .ref k_times, .ref k_first, .ref k_second, .ref k_beforeLast, .ref k_last, .ref k_errandOf, .ref k_errandAfter, .ref k_sound, .ref k_followers, .ref k_leaders, .int (nI w), .int k_errands, .int k_alikes, .int k_law])), (k_errandOf, .inl (cI, 24, .inl f_errandOf)), (k_errandAfter, .inl (cI, 6, .inl f_errandAfter))]) [0, 1, 2, 3, 4, 5] (by decide) rfl
      refine W.widen (k := 0) (n := 0) (Nat.le_of_ble_eq_true rfl) (Nat.le_of_ble_eq_true rfl) ?_
      exact W.vret hx hb hr (fun tz htz hWz => ⟨⟨[(o, .inr (5, [.ref se_ahead, .ref se_queue, .int (nI qd2)])), (se_ahead, .inl (cI, 1536, .inl ga)), (se_queue, .inl (cI, 1536, .inl gq)), (t, .inr (8, [.ref k_name, .ref k_worth, .ref k_times, .ref k_first, .ref k_second, .ref k_beforeLast, .ref k_last, .ref k_errandOf, .ref k_errandAfter, .ref k_sound, .ref k_followers, .ref k_leaders, .int (nI w), .int k_errands, .int k_alikes, .int k_law])), (k_errandOf, .inl (cI, 24, .inl f_errandOf)), (k_errandAfter, .inl (cI, 6, .inl f_errandAfter))], rfl, ⟨qd2, ga, gq, rfl, hF_h_18, hF_h_19, hF_h_20⟩, by rw [htz]; exact hP9, va_K.moved hWz.alike hK, hD9⟩, hS.F htz⟩) hS.2.2 dX5_enter_122
    · have dc_21 : ¬ w ≤ i := fun h => c_21 ((nI_leI (a := w) (b := i) (by omega) (by omega)).mpr h)
      refine lv_iload_n hx hb dX5_enter_27 rfl (lv_at hl 4 rfl) ?_
      refine lv_iload hx hb dX5_enter_28 (lv_at hl 0 rfl) ?_
      refine xCi (wr := [(o, .inr (5, [.ref se_ahead, .ref se_queue, .int (nI qd2)])), (se_ahead, .inl (cI, 1536, .inl ga)), (se_queue, .inl (cI, 1536, .inl gq)), (t, .inr (8, [.ref k_name, .ref k_worth, .ref k_times, .ref k_first, .ref k_second, .ref k_beforeLast, .ref k_last, .ref k_errandOf, .ref k_errandAfter, .ref k_sound, .ref k_followers, .ref k_leaders, .int (nI w), .int k_errands, .int k_alikes, .int k_law])), (k_errandOf, .inl (cI, 24, .inl f_errandOf)), (k_errandAfter, .inl (cI, 6, .inl f_errandAfter))]) (win := []) hP hD hS hA [] [0, 1, 2, 3, 4, 5] rfl rfl (by decide) (by decide) (va_runSN (As := [.int y, .int (nI i)]) (rest := []) ⟨hx, hb, hml, hown, hts⟩ (c_X10_isIn l D cB cI cJ cS cZ cO H.size y (nI i) ) ⟨va_cnB 2 hts gX5_enter_X10_isIn_n54 rfl rfl rfl (hN.2.1 (RX5, 54, yX10_isIn, RX10) (by decide +kernel)) (hts (.initialized RX10) (by decide +kernel)) (by decide +kernel) ⟨Nat.le_of_ble_eq_true rfl, Nat.le_of_ble_eq_true rfl⟩, hts (.static yX10_isIn) (by decide +kernel), trivial⟩ (xPreS (win := []) hN hK hP hD [] (by decide) rfl) rfl rfl hl.1 rfl (lv_room (Nat.le_of_ble_eq_true rfl)) dX5_enter_30 ⟨Nat.le_of_ble_eq_true rfl, Nat.le_of_ble_eq_true rfl⟩) (fun r_22 w0 H locs hw hP hD hS => ?_)
      obtain ⟨rfl, hf_23⟩ := hw
      have hP : va_P D vwCl [(o, .inr (5, [.ref se_ahead, .ref se_queue, .int (nI qd2)])), (se_ahead, .inl (cI, 1536, .inl ga)), (se_queue, .inl (cI, 1536, .inl gq)), (t, .inr (8, [.ref k_name, .ref k_worth, .ref k_times, .ref k_first, .ref k_second, .ref k_beforeLast, .ref k_last, .ref k_errandOf, .ref k_errandAfter, .ref k_sound, .ref k_followers, .ref k_leaders, .int (nI w), .int k_errands, .int k_alikes, .int k_law])), (k_errandOf, .inl (cI, 24, .inl f_errandOf)), (k_errandAfter, .inl (cI, 6, .inl f_errandAfter))] H := hP
      have hD : va_D A [(o, .inr (5, [.ref se_ahead, .ref se_queue, .int (nI qd2)])), (se_ahead, .inl (cI, 1536, .inl ga)), (se_queue, .inl (cI, 1536, .inl gq)), (t, .inr (8, [.ref k_name, .ref k_worth, .ref k_times, .ref k_first, .ref k_second, .ref k_beforeLast, .ref k_last, .ref k_errandOf, .ref k_errandAfter, .ref k_sound, .ref k_followers, .ref k_leaders, .int (nI w), .int k_errands, .int k_alikes, .int k_law])), (k_errandOf, .inl (cI, 24, .inl f_errandOf)), (k_errandAfter, .inl (cI, 6, .inl f_errandAfter))] := hD
      refine lv_if_eq (tgt := 116) hx hb dX5_enter_33 (by decide) (fun c_24 => ?_) (fun c_24 => ?_)
      · refine lv_iinc (v := nI (i + 1)) (lv' := [(6, .int (nI (i + 1))), (5, .int 0), (0, .ref o), (1, .ref t), (2, .int y), (3, .int (-1)), (4, .int 1)]) hx hb dX5_enter_116 hl (k := 0) rfl (nI_1 i) (by decide) rfl (fun ls hl => ?_)
        refine lv_goto (tgt := 18) hx hb dX5_enter_119 (by decide) ?_
        exact kk_18 _ _ _ _ (by rw [← hn_18]; omega) ⟨(i + 1), qd2, ga, gq, rfl, hP, hD, hS, lv_sub hl [0, 1, 2, 3, 4, 5, 6] rfl, (by omega), (by first | assumption | omega), hF_h_19, hF_h_20⟩
      · refine lv_iload hx hb dX5_enter_36 (lv_at hl 6 rfl) ?_
        refine lv_if_eq (tgt := 52) hx hb dX5_enter_38 (by decide) (fun c_25 => absurd c_25 (by decide)) (fun c_25 => ?_)
        refine lv_aload_n hx hb dX5_enter_41 rfl (lv_at hl 3 rfl) ?_
        refine lv_iload hx hb dX5_enter_42 (lv_at hl 1 rfl) ?_
        refine lv_iload hx hb dX5_enter_44 (lv_at hl 0 rfl) ?_
        refine xCi (wr := [(o, .inr (5, [.ref se_ahead, .ref se_queue, .int (nI qd2)])), (se_ahead, .inl (cI, 1536, .inl ga)), (se_queue, .inl (cI, 1536, .inl gq))]) (win := [(t, .inr (8, [.ref k_name, .ref k_worth, .ref k_times, .ref k_first, .ref k_second, .ref k_beforeLast, .ref k_last, .ref k_errandOf, .ref k_errandAfter, .ref k_sound, .ref k_followers, .ref k_leaders, .int (nI w), .int k_errands, .int k_alikes, .int k_law])), (k_errandOf, .inl (cI, 24, .inl f_errandOf)), (k_errandAfter, .inl (cI, 6, .inl f_errandAfter))]) hP hD hS hA [3, 4, 5] [0, 1, 2] rfl rfl (by decide) (by decide) (va_runV (As := [.int 0, .int (nI i)]) (rest := []) ⟨hx, hb, hml, hown, hts⟩ (c_X8_doneBehind l D cB cI cJ cS cZ cO H.size t 0 i k_name k_worth k_times k_first k_second k_beforeLast k_last k_errandOf k_errandAfter k_sound k_followers k_leaders (nI w) k_errands k_alikes k_law f_errandOf f_errandAfter (by first | assumption | omega | decide) (by first | assumption | omega | decide) (by first | assumption | omega | decide)) (cwV 2 hts gX5_enter_X8_doneBehind rfl rfl rfl (by decide +kernel) ⟨Nat.le_of_ble_eq_true rfl, Nat.le_of_ble_eq_true rfl⟩) (xPreV (win := [(t, .inr (8, [.ref k_name, .ref k_worth, .ref k_times, .ref k_first, .ref k_second, .ref k_beforeLast, .ref k_last, .ref k_errandOf, .ref k_errandAfter, .ref k_sound, .ref k_followers, .ref k_leaders, .int (nI w), .int k_errands, .int k_alikes, .int k_law])), (k_errandOf, .inl (cI, 24, .inl f_errandOf)), (k_errandAfter, .inl (cI, 6, .inl f_errandAfter))]) hN hK hP hD [3, 4, 5] (by decide) rfl 3 8 rfl rfl rfl) rfl rfl hl.1 rfl (lv_room (Nat.le_of_ble_eq_true rfl)) dX5_enter_46 ⟨Nat.le_of_ble_eq_true rfl, Nat.le_of_ble_eq_true rfl⟩) (fun r0 w0 H locs hw hP hD hS => ?_)
        obtain ⟨rr_26, rfl, rfl, hf_27⟩ := hw
        have hP : va_P D vwCl [(o, .inr (5, [.ref se_ahead, .ref se_queue, .int (nI qd2)])), (se_ahead, .inl (cI, 1536, .inl ga)), (se_queue, .inl (cI, 1536, .inl gq)), (t, .inr (8, [.ref k_name, .ref k_worth, .ref k_times, .ref k_first, .ref k_second, .ref k_beforeLast, .ref k_last, .ref k_errandOf, .ref k_errandAfter, .ref k_sound, .ref k_followers, .ref k_leaders, .int (nI w), .int k_errands, .int k_alikes, .int k_law])), (k_errandOf, .inl (cI, 24, .inl f_errandOf)), (k_errandAfter, .inl (cI, 6, .inl f_errandAfter))] H := hP
        have hD : va_D A [(o, .inr (5, [.ref se_ahead, .ref se_queue, .int (nI qd2)])), (se_ahead, .inl (cI, 1536, .inl ga)), (se_queue, .inl (cI, 1536, .inl gq)), (t, .inr (8, [.ref k_name, .ref k_worth, .ref k_times, .ref k_first, .ref k_second, .ref k_beforeLast, .ref k_last, .ref k_errandOf, .ref k_errandAfter, .ref k_sound, .ref k_followers, .ref k_leaders, .int (nI w), .int k_errands, .int k_alikes, .int k_law])), (k_errandOf, .inl (cI, 24, .inl f_errandOf)), (k_errandAfter, .inl (cI, 6, .inl f_errandAfter))] := hD
        refine lv_goto (tgt := 53) hx hb dX5_enter_49 (by decide) ?_
        refine lv_istore (lv' := [(7, .int (nI rr_26)), (6, .int (nI i)), (5, .int 0), (0, .ref o), (1, .ref t), (2, .int y), (3, .int (-1)), (4, .int 1)]) hx hb dX5_enter_53 hl (by decide) rfl (fun ls hl => ?_)
        refine lv_iload hx hb dX5_enter_55 (lv_at hl 0 rfl) ?_
        refine lv_bipush (v := 24) hx hb dX5_enter_57 (by decide) ?_
        refine lv_imul hx hb dX5_enter_59 ?_
        refine xb_top (y := nI (rr_26 * 24)) (pk_mul rr_26 24) ?_
        refine lv_iload hx hb dX5_enter_60 (lv_at hl 1 rfl) ?_
        refine lv_iadd hx hb dX5_enter_62 ?_
        refine xb_top (y := nI ((rr_26 * 24) + i)) (nI_add (rr_26 * 24) i) ?_
        refine lv_istore (lv' := [(8, .int (nI ((rr_26 * 24) + i))), (7, .int (nI rr_26)), (6, .int (nI i)), (5, .int 0), (0, .ref o), (1, .ref t), (2, .int y), (3, .int (-1)), (4, .int 1)]) hx hb dX5_enter_63 hl (by decide) rfl (fun ls hl => ?_)
        refine lv_aload_n hx hb dX5_enter_65 rfl (lv_at hl 4 rfl) ?_
        refine va_get (D := D) (ci := 5) (v := .ref se_ahead) (C := RX5) (T := TX5) (N := 3) hx hb hts (by decide +kernel) hown hK hP 0 rfl rfl 0 (by decide) (hts (.fieldLink RX5 9 "LastLetter$Search" "ahead" "[I") (by decide +kernel)) (fun _ h9 => h9) rfl dX5_enter_66 ?_
        refine lv_iload hx hb dX5_enter_69 (lv_at hl 0 rfl) ?_
        refine va_iald hx hb hK hP 1 1 rfl rfl (vp_in_nI (by omega) (by omega)) dX5_enter_71 ?_
        refine xb_top (y := ga ((rr_26 * 24) + i)) (by rw [nI_clamp (by omega)]) ?_
        refine lv_bipush (v := (-2)) hx hb dX5_enter_72 (by decide) ?_
        refine lv_icmp_ne (tgt := 116) hx hb dX5_enter_74 (by decide) (fun c_28 => ?_) (fun c_28 => ?_)
        · refine lv_iinc (v := nI (i + 1)) (lv' := [(6, .int (nI (i + 1))), (8, .int (nI ((rr_26 * 24) + i))), (7, .int (nI rr_26)), (5, .int 0), (0, .ref o), (1, .ref t), (2, .int y), (3, .int (-1)), (4, .int 1)]) hx hb dX5_enter_116 hl (k := 2) rfl (nI_1 i) (by decide) rfl (fun ls hl => ?_)
          refine lv_goto (tgt := 18) hx hb dX5_enter_119 (by decide) ?_
          exact kk_18 _ _ _ _ (by rw [← hn_18]; omega) ⟨(i + 1), qd2, ga, gq, rfl, hP, hD, hS, lv_sub hl [0, 3, 4, 5, 6, 7, 8] rfl, (by omega), (by first | assumption | omega), hF_h_19, hF_h_20⟩
        · refine lv_aload_n hx hb dX5_enter_77 rfl (lv_at hl 4 rfl) ?_
          refine va_get (D := D) (ci := 5) (v := .int (nI qd2)) (C := RX5) (T := TX5) (N := 3) hx hb hts (by decide +kernel) hown hK hP 0 rfl rfl 2 (by decide) (hts (.fieldLink RX5 25 "LastLetter$Search" "queued" "I") (by decide +kernel)) (fun _ h9 => h9) rfl dX5_enter_78 ?_
          refine lv_sipush (v := 1536) hx hb dX5_enter_81 (by decide) ?_
          refine lv_icmp_ge (tgt := 116) hx hb dX5_enter_84 (by decide) (fun c_29 => ?_) (fun c_29 => ?_)
          · have dc_29 : 1536 ≤ qd2 := (nI_leI (a := 1536) (b := qd2) (by omega) (by omega)).mp c_29
            refine lv_iinc (v := nI (i + 1)) (lv' := [(6, .int (nI (i + 1))), (8, .int (nI ((rr_26 * 24) + i))), (7, .int (nI rr_26)), (5, .int 0), (0, .ref o), (1, .ref t), (2, .int y), (3, .int (-1)), (4, .int 1)]) hx hb dX5_enter_116 hl (k := 2) rfl (nI_1 i) (by decide) rfl (fun ls hl => ?_)
            refine lv_goto (tgt := 18) hx hb dX5_enter_119 (by decide) ?_
            exact kk_18 _ _ _ _ (by rw [← hn_18]; omega) ⟨(i + 1), qd2, ga, gq, rfl, hP, hD, hS, lv_sub hl [0, 3, 4, 5, 6, 7, 8] rfl, (by omega), (by first | assumption | omega), hF_h_19, hF_h_20⟩
          · have dc_29 : ¬ 1536 ≤ qd2 := fun h => c_29 ((nI_leI (a := 1536) (b := qd2) (by omega) (by omega)).mpr h)
            refine lv_aload_n hx hb dX5_enter_87 rfl (lv_at hl 4 rfl) ?_
            refine va_get (D := D) (ci := 5) (v := .ref se_ahead) (C := RX5) (T := TX5) (N := 3) hx hb hts (by decide +kernel) hown hK hP 0 rfl rfl 0 (by decide) (hts (.fieldLink RX5 9 "LastLetter$Search" "ahead" "[I") (by decide +kernel)) (fun _ h9 => h9) rfl dX5_enter_88 ?_
            refine lv_iload hx hb dX5_enter_91 (lv_at hl 0 rfl) ?_
            refine lv_iload_n hx hb dX5_enter_93 rfl (lv_at hl 7 rfl) ?_
            refine va_iast hx hb hK hP hD hS 1 1 rfl rfl (vp_in_nI (by omega) (by omega)) dX5_enter_94 (fun H locs hP hD hS => ?_)
            have hP : va_P D vwCl [(o, .inr (5, [.ref se_ahead, .ref se_queue, .int (nI qd2)])), (se_ahead, .inl (cI, 1536, .inl (upd ga (Int32.toNatClampNeg (nI ((rr_26 * 24) + i))) (-1)))), (se_queue, .inl (cI, 1536, .inl gq)), (t, .inr (8, [.ref k_name, .ref k_worth, .ref k_times, .ref k_first, .ref k_second, .ref k_beforeLast, .ref k_last, .ref k_errandOf, .ref k_errandAfter, .ref k_sound, .ref k_followers, .ref k_leaders, .int (nI w), .int k_errands, .int k_alikes, .int k_law])), (k_errandOf, .inl (cI, 24, .inl f_errandOf)), (k_errandAfter, .inl (cI, 6, .inl f_errandAfter))] H := hP
            have hD : va_D A [(o, .inr (5, [.ref se_ahead, .ref se_queue, .int (nI qd2)])), (se_ahead, .inl (cI, 1536, .inl (upd ga (Int32.toNatClampNeg (nI ((rr_26 * 24) + i))) (-1)))), (se_queue, .inl (cI, 1536, .inl gq)), (t, .inr (8, [.ref k_name, .ref k_worth, .ref k_times, .ref k_first, .ref k_second, .ref k_beforeLast, .ref k_last, .ref k_errandOf, .ref k_errandAfter, .ref k_sound, .ref k_followers, .ref k_leaders, .int (nI w), .int k_errands, .int k_alikes, .int k_law])), (k_errandOf, .inl (cI, 24, .inl f_errandOf)), (k_errandAfter, .inl (cI, 6, .inl f_errandAfter))] := hD
            generalize eg_30 : upd ga (Int32.toNatClampNeg (nI ((rr_26 * 24) + i))) (-1) = g_30 at hP hD
            refine lv_aload_n hx hb dX5_enter_95 rfl (lv_at hl 4 rfl) ?_
            refine va_get (D := D) (ci := 5) (v := .ref se_queue) (C := RX5) (T := TX5) (N := 3) hx hb hts (by decide +kernel) hown hK hP 0 rfl rfl 1 (by decide) (hts (.fieldLink RX5 15 "LastLetter$Search" "queue" "[I") (by decide +kernel)) (fun _ h9 => h9) rfl dX5_enter_96 ?_
            refine lv_aload_n hx hb dX5_enter_99 rfl (lv_at hl 4 rfl) ?_
            refine va_get (D := D) (ci := 5) (v := .int (nI qd2)) (C := RX5) (T := TX5) (N := 3) hx hb hts (by decide +kernel) hown hK hP 0 rfl rfl 2 (by decide) (hts (.fieldLink RX5 25 "LastLetter$Search" "queued" "I") (by decide +kernel)) (fun _ h9 => h9) rfl dX5_enter_100 ?_
            refine lv_iload hx hb dX5_enter_103 (lv_at hl 0 rfl) ?_
            refine va_iast hx hb hK hP hD hS 2 1 rfl rfl (vp_in_nI (by omega) (by omega)) dX5_enter_105 (fun H locs hP hD hS => ?_)
            have hP : va_P D vwCl [(o, .inr (5, [.ref se_ahead, .ref se_queue, .int (nI qd2)])), (se_ahead, .inl (cI, 1536, .inl g_30)), (se_queue, .inl (cI, 1536, .inl (upd gq (Int32.toNatClampNeg (nI qd2)) (nI ((rr_26 * 24) + i))))), (t, .inr (8, [.ref k_name, .ref k_worth, .ref k_times, .ref k_first, .ref k_second, .ref k_beforeLast, .ref k_last, .ref k_errandOf, .ref k_errandAfter, .ref k_sound, .ref k_followers, .ref k_leaders, .int (nI w), .int k_errands, .int k_alikes, .int k_law])), (k_errandOf, .inl (cI, 24, .inl f_errandOf)), (k_errandAfter, .inl (cI, 6, .inl f_errandAfter))] H := hP
            have hD : va_D A [(o, .inr (5, [.ref se_ahead, .ref se_queue, .int (nI qd2)])), (se_ahead, .inl (cI, 1536, .inl g_30)), (se_queue, .inl (cI, 1536, .inl (upd gq (Int32.toNatClampNeg (nI qd2)) (nI ((rr_26 * 24) + i))))), (t, .inr (8, [.ref k_name, .ref k_worth, .ref k_times, .ref k_first, .ref k_second, .ref k_beforeLast, .ref k_last, .ref k_errandOf, .ref k_errandAfter, .ref k_sound, .ref k_followers, .ref k_leaders, .int (nI w), .int k_errands, .int k_alikes, .int k_law])), (k_errandOf, .inl (cI, 24, .inl f_errandOf)), (k_errandAfter, .inl (cI, 6, .inl f_errandAfter))] := hD
            generalize eg_31 : upd gq (Int32.toNatClampNeg (nI qd2)) (nI ((rr_26 * 24) + i)) = g_31 at hP hD
            refine lv_aload_n hx hb dX5_enter_106 rfl (lv_at hl 4 rfl) ?_
            refine lv_dup hx hb dX5_enter_107 rfl ?_
            refine va_get (D := D) (ci := 5) (v := .int (nI qd2)) (C := RX5) (T := TX5) (N := 3) hx hb hts (by decide +kernel) hown hK hP 0 rfl rfl 2 (by decide) (hts (.fieldLink RX5 25 "LastLetter$Search" "queued" "I") (by decide +kernel)) (fun _ h9 => h9) rfl dX5_enter_108 ?_
            refine lv_iconst (v := 1) hx hb dX5_enter_111 (by decide) ?_
            refine lv_iadd hx hb dX5_enter_112 ?_
            refine xb_top (y := nI (qd2 + 1)) (nI_add qd2 1) ?_
            refine va_put (D := D) (ci := 5) (v := .int (nI (qd2 + 1))) (ty := .int) (C := RX5) (T := TX5) (N := 3) hx hb hts (by decide +kernel) tyX5 tyX5_ok nmX5 hown hK hP hD hS 0 rfl rfl 2 (by decide) (hts (.fieldLink RX5 25 "LastLetter$Search" "queued" "I") (by decide +kernel)) (fun _ h9 => h9) rfl (by decide +kernel) rfl rfl (Nat.le_of_ble_eq_true rfl) dX5_enter_113 (fun H locs hP hD hS => ?_)
            have hP : va_P D vwCl [(o, .inr (5, [.ref se_ahead, .ref se_queue, .int (nI (qd2 + 1))])), (se_ahead, .inl (cI, 1536, .inl g_30)), (se_queue, .inl (cI, 1536, .inl g_31)), (t, .inr (8, [.ref k_name, .ref k_worth, .ref k_times, .ref k_first, .ref k_second, .ref k_beforeLast, .ref k_last, .ref k_errandOf, .ref k_errandAfter, .ref k_sound, .ref k_followers, .ref k_leaders, .int (nI w), .int k_errands, .int k_alikes, .int k_law])), (k_errandOf, .inl (cI, 24, .inl f_errandOf)), (k_errandAfter, .inl (cI, 6, .inl f_errandAfter))] H := hP
            have hD : va_D A [(o, .inr (5, [.ref se_ahead, .ref se_queue, .int (nI (qd2 + 1))])), (se_ahead, .inl (cI, 1536, .inl g_30)), (se_queue, .inl (cI, 1536, .inl g_31)), (t, .inr (8, [.ref k_name, .ref k_worth, .ref k_times, .ref k_first, .ref k_second, .ref k_beforeLast, .ref k_last, .ref k_errandOf, .ref k_errandAfter, .ref k_sound, .ref k_followers, .ref k_leaders, .int (nI w), .int k_errands, .int k_alikes, .int k_law])), (k_errandOf, .inl (cI, 24, .inl f_errandOf)), (k_errandAfter, .inl (cI, 6, .inl f_errandAfter))] := hD
            refine lv_iinc (v := nI (i + 1)) (lv' := [(6, .int (nI (i + 1))), (8, .int (nI ((rr_26 * 24) + i))), (7, .int (nI rr_26)), (5, .int 0), (0, .ref o), (1, .ref t), (2, .int y), (3, .int (-1)), (4, .int 1)]) hx hb dX5_enter_116 hl (k := 2) rfl (nI_1 i) (by decide) rfl (fun ls hl => ?_)
            refine lv_goto (tgt := 18) hx hb dX5_enter_119 (by decide) ?_
            exact kk_18 _ _ _ _ (by rw [← hn_18]; omega) ⟨(i + 1), (qd2 + 1), g_30, g_31, rfl, hP, hD, hS, lv_sub hl [0, 3, 4, 5, 6, 7, 8] rfl, (by omega), (by first | assumption | omega), (rgN_push hF_h_19 (by omega) (by omega) eg_31), (rgS_up hF_h_20 (by omega) (Or.inl (by decide)) eg_30)⟩

set_option maxHeartbeats 4000000 in
set_option maxRecDepth 100000 in
theorem c_X4_turn (l : Launch) (D : va_G) (cB cI cJ cS cZ cO : ClassId) (sz : Nat) (o : Nat) (rw_items : Nat) (rz : Nat) (fi : Nat → Int32) (hrz : rz ≤ 160) : Met l yX4_turn wsX4_turn ({ frames := 0, cells := 0, slots := 0, locals := 0 }) (xPre D (tyL cB cI cJ cS cZ cO) [(o, .inr (4, [.ref rw_items, .int (nI rz)])), (rw_items, .inl (cI, 160, .inl fi))] sz [.ref o]) (xQv D (tyL cB cI cJ cS cZ cO) (va_A [(o, .inr (4, [.ref rw_items, .int (nI rz)])), (rw_items, .inl (cI, 160, .inl fi))] sz) (fun u : va_W => ∃ g : Nat → Int32, u = [(o, .inr (4, [.ref rw_items, .int (nI rz)])), (rw_items, .inl (cI, 160, .inl g))])) 0 0 (va_A [(o, .inr (4, [.ref rw_items, .int (nI rz)])), (rw_items, .inl (cI, 160, .inl fi))] sz) := by
  refine Met.ofW (cc := cX4_turn) (maxL := 4) (ret := none) (by decide) rfl ?_
  intro p e s m args below meth c s₁ B hml hv
  obtain ⟨rfl, hsz, hP, hK, hD0, hN⟩ := hv
  have hx := B.exec
  have hb := B.bytes
  have hr := B.returns
  have hts := atoms_spec (ws := wsX4_turn) B.pre
  have hown : s.vm.findClass RX4 = some m.cls := findClass_of_methodNamed B.named
  have hlocks := B.notSynchronized
  subst hsz
  have hD := hD0.self (sz := s.heap.size)
  generalize hAe : va_A [(o, .inr (4, [.ref rw_items, .int (nI rz)])), (rw_items, .inl (cI, 160, .inl fi))] s.heap.size = A at hD ⊢
  have hA : ∀ q : Nat, s.heap.size ≤ q → A q := fun q h => by rw [← hAe]; exact Or.inr h
  have hS : va_S A s.heap s.heap [] := va_S.rf
  have hP : va_P D vwCl [(o, .inr (4, [.ref rw_items, .int (nI rz)])), (rw_items, .inl (cI, 160, .inl fi))] s.heap := hP
  have hl := lv_entry ([.ref o]) (n := 4) (Nat.le_of_ble_eq_true rfl)
  rw [lg_entry_eq]
  generalize (lg_sl ([.ref o]) ++ List.replicate (4 - (lg_sl ([.ref o])).length) Slot.unset).toArray = ls at hl ⊢
  have hl : lv_has ls 4 [(0, .ref o)] := hl
  refine lv_iconst (v := 0) hx hb dX4_turn_0 (by decide) ?_
  refine lv_istore_n (lv' := [(1, .int 0), (0, .ref o)]) hx hb dX4_turn_1 rfl hl (by decide) rfl (fun ls hl => ?_)
  refine lv_aload_n hx hb dX4_turn_2 rfl (lv_at hl 1 rfl) ?_
  refine va_get (D := D) (ci := 4) (v := .int (nI rz)) (C := RX4) (T := TX4) (N := 2) hx hb hts (by decide +kernel) hown hK hP 0 rfl rfl 1 (by decide) (hts (.fieldLink RX4 15 "LastLetter$Row" "size" "I") (by decide +kernel)) (fun _ h9 => h9) rfl dX4_turn_3 ?_
  refine lv_iconst (v := 1) hx hb dX4_turn_6 (by decide) ?_
  refine lv_isub hx hb dX4_turn_7 ?_
  refine lv_istore_n (lv' := [(2, .int ((nI rz) - 1)), (1, .int 0), (0, .ref o)]) hx hb dX4_turn_8 rfl hl (by decide) rfl (fun ls hl => ?_)
  refine xb_wh (fun (n9 : Nat) H locs ls => ∃ i : Nat, ∃ jv : Int32, ∃ g : Nat → Int32, (161 - i) = n9 ∧ va_P D vwCl [(o, .inr (4, [.ref rw_items, .int (nI rz)])), (rw_items, .inl (cI, 160, .inl g))] H ∧ va_D A [(o, .inr (4, [.ref rw_items, .int (nI rz)])), (rw_items, .inl (cI, 160, .inl g))] ∧ va_S A s.heap H locs ∧ lv_has ls 4 [(2, .int jv), (1, .int (nI i)), (0, .ref o)] ∧ (i ≤ 160) ∧ (jv < nI 160)) ⟨0, ((nI rz) - 1), fi, rfl, hP, hD, hS, lv_sub hl [0, 1, 2] rfl, (Nat.zero_le _), (turn_0 hrz)⟩ (fun n9 H locs ls hI kk_9 => ?_)
  obtain ⟨i, jv, g, hn_9, hP, hD, hS, hl, hF_h_1, hF_h_2⟩ := hI
  refine lv_iload_n hx hb dX4_turn_9 rfl (lv_at hl 1 rfl) ?_
  refine lv_iload_n hx hb dX4_turn_10 rfl (lv_at hl 0 rfl) ?_
  refine lv_icmp_ge (tgt := 49) hx hb dX4_turn_11 (by decide) (fun c_3 => ?_) (fun c_3 => ?_)
  · have hP9 := hP.sub (ws' := [(o, .inr (4, [.ref rw_items, .int (nI rz)])), (rw_items, .inl (cI, 160, .inl g))]) [0, 1] rfl
    have hD9 := hD.sub (ws' := [(o, .inr (4, [.ref rw_items, .int (nI rz)])), (rw_items, .inl (cI, 160, .inl g))]) [0, 1] (by decide) rfl
    refine W.widen (k := 0) (n := 0) (Nat.le_of_ble_eq_true rfl) (Nat.le_of_ble_eq_true rfl) ?_
    exact W.vret hx hb hr (fun tz htz hWz => ⟨⟨[(o, .inr (4, [.ref rw_items, .int (nI rz)])), (rw_items, .inl (cI, 160, .inl g))], rfl, ⟨g, rfl⟩, by rw [htz]; exact hP9, va_K.moved hWz.alike hK, hD9⟩, hS.F htz⟩) hS.2.2 dX4_turn_49
  · obtain ⟨k1, hk1, ek1⟩ := turn_k (by omega) hF_h_2 c_3
    subst ek1
    have hik : ¬ k1 ≤ i := fun h => c_3 (nI_le h (by omega))
    refine lv_aload_n hx hb dX4_turn_14 rfl (lv_at hl 2 rfl) ?_
    refine va_get (D := D) (ci := 4) (v := .ref rw_items) (C := RX4) (T := TX4) (N := 2) hx hb hts (by decide +kernel) hown hK hP 0 rfl rfl 0 (by decide) (hts (.fieldLink RX4 9 "LastLetter$Row" "items" "[I") (by decide +kernel)) (fun _ h9 => h9) rfl dX4_turn_15 ?_
    refine lv_iload_n hx hb dX4_turn_18 rfl (lv_at hl 1 rfl) ?_
    refine va_iald hx hb hK hP 1 1 rfl rfl (vp_in_nI (by omega) (by omega)) dX4_turn_19 ?_
    refine xb_top (y := g i) (by rw [nI_clamp (by omega)]) ?_
    refine lv_istore_n (lv' := [(3, .int (g i)), (2, .int (nI k1)), (1, .int (nI i)), (0, .ref o)]) hx hb dX4_turn_20 rfl hl (by decide) rfl (fun ls hl => ?_)
    refine lv_aload_n hx hb dX4_turn_21 rfl (lv_at hl 3 rfl) ?_
    refine va_get (D := D) (ci := 4) (v := .ref rw_items) (C := RX4) (T := TX4) (N := 2) hx hb hts (by decide +kernel) hown hK hP 0 rfl rfl 0 (by decide) (hts (.fieldLink RX4 9 "LastLetter$Row" "items" "[I") (by decide +kernel)) (fun _ h9 => h9) rfl dX4_turn_22 ?_
    refine lv_iload_n hx hb dX4_turn_25 rfl (lv_at hl 2 rfl) ?_
    refine lv_aload_n hx hb dX4_turn_26 rfl (lv_at hl 3 rfl) ?_
    refine va_get (D := D) (ci := 4) (v := .ref rw_items) (C := RX4) (T := TX4) (N := 2) hx hb hts (by decide +kernel) hown hK hP 0 rfl rfl 0 (by decide) (hts (.fieldLink RX4 9 "LastLetter$Row" "items" "[I") (by decide +kernel)) (fun _ h9 => h9) rfl dX4_turn_27 ?_
    refine lv_iload_n hx hb dX4_turn_30 rfl (lv_at hl 1 rfl) ?_
    refine va_iald hx hb hK hP 1 1 rfl rfl (vp_in_nI (by omega) (by omega)) dX4_turn_31 ?_
    refine xb_top (y := g k1) (by rw [nI_clamp (by omega)]) ?_
    refine va_iast hx hb hK hP hD hS 1 1 rfl rfl (vp_in_nI (by omega) (by omega)) dX4_turn_32 (fun H locs hP hD hS => ?_)
    have hP : va_P D vwCl [(o, .inr (4, [.ref rw_items, .int (nI rz)])), (rw_items, .inl (cI, 160, .inl (upd g (Int32.toNatClampNeg (nI i)) (g k1))))] H := hP
    have hD : va_D A [(o, .inr (4, [.ref rw_items, .int (nI rz)])), (rw_items, .inl (cI, 160, .inl (upd g (Int32.toNatClampNeg (nI i)) (g k1))))] := hD
    generalize eg_4 : upd g (Int32.toNatClampNeg (nI i)) (g k1) = g_4 at hP hD
    refine lv_aload_n hx hb dX4_turn_33 rfl (lv_at hl 3 rfl) ?_
    refine va_get (D := D) (ci := 4) (v := .ref rw_items) (C := RX4) (T := TX4) (N := 2) hx hb hts (by decide +kernel) hown hK hP 0 rfl rfl 0 (by decide) (hts (.fieldLink RX4 9 "LastLetter$Row" "items" "[I") (by decide +kernel)) (fun _ h9 => h9) rfl dX4_turn_34 ?_
    refine lv_iload_n hx hb dX4_turn_37 rfl (lv_at hl 1 rfl) ?_
    refine lv_iload_n hx hb dX4_turn_38 rfl (lv_at hl 0 rfl) ?_
    refine va_iast hx hb hK hP hD hS 1 1 rfl rfl (vp_in_nI (by omega) (by omega)) dX4_turn_39 (fun H locs hP hD hS => ?_)
    have hP : va_P D vwCl [(o, .inr (4, [.ref rw_items, .int (nI rz)])), (rw_items, .inl (cI, 160, .inl (upd g_4 (Int32.toNatClampNeg (nI k1)) (g i))))] H := hP
    have hD : va_D A [(o, .inr (4, [.ref rw_items, .int (nI rz)])), (rw_items, .inl (cI, 160, .inl (upd g_4 (Int32.toNatClampNeg (nI k1)) (g i))))] := hD
    generalize eg_5 : upd g_4 (Int32.toNatClampNeg (nI k1)) (g i) = g_5 at hP hD
    refine lv_iinc (v := nI (i + 1)) (lv' := [(1, .int (nI (i + 1))), (3, .int (g i)), (2, .int (nI k1)), (0, .ref o)]) hx hb dX4_turn_40 hl (k := 2) rfl (nI_1 i) (by decide) rfl (fun ls hl => ?_)
    refine lv_iinc (v := (nI k1) + (-1)) (lv' := [(2, .int ((nI k1) + (-1))), (1, .int (nI (i + 1))), (3, .int (g i)), (0, .ref o)]) hx hb dX4_turn_43 hl (k := 2) rfl rfl (by decide) rfl (fun ls hl => ?_)
    refine lv_goto (tgt := 9) hx hb dX4_turn_46 (by decide) ?_
    exact kk_9 _ _ _ _ (by rw [← hn_9]; omega) ⟨(i + 1), ((nI k1) + (-1)), g_5, rfl, hP, hD, hS, lv_sub hl [0, 1, 3] rfl, (by omega), (turn_1 hk1)⟩

set_option maxHeartbeats 4000000 in
set_option maxRecDepth 100000 in
theorem c_X5_lay (l : Launch) (D : va_G) (cB cI cJ cS cZ cO : ClassId) (sz : Nat) (o : Nat) (ra : Nat) (l1 : Nat) (se_ahead : Nat) (se_queue : Nat) (se_queued : Int32) (fa : Nat → Int32) (rw_items : Nat) (rz : Nat) (fi : Nat → Int32) (hl0 : l1 < 1536) (hrz : rz ≤ 160) (ha : rgS fa 1536 1536) : Met l yX5_lay wsX5_lay ({ frames := 1, cells := 0, slots := 0, locals := 23 }) (xPre D (tyL cB cI cJ cS cZ cO) [(o, .inr (5, [.ref se_ahead, .ref se_queue, .int se_queued])), (se_ahead, .inl (cI, 1536, .inl fa)), (ra, .inr (4, [.ref rw_items, .int (nI rz)])), (rw_items, .inl (cI, 160, .inl fi))] sz [.ref o, .ref ra, .int (nI l1)]) (xQi D (tyL cB cI cJ cS cZ cO) (va_A [(o, .inr (5, [.ref se_ahead, .ref se_queue, .int se_queued])), (se_ahead, .inl (cI, 1536, .inl fa)), (ra, .inr (4, [.ref rw_items, .int (nI rz)])), (rw_items, .inl (cI, 160, .inl fi))] sz) (fun (r : Int32) (u : va_W) => ∃ rz2 : Nat, ∃ g : Nat → Int32, u = [(o, .inr (5, [.ref se_ahead, .ref se_queue, .int se_queued])), (se_ahead, .inl (cI, 1536, .inl fa)), (ra, .inr (4, [.ref rw_items, .int (nI rz2)])), (rw_items, .inl (cI, 160, .inl g))] ∧ rz2 ≤ 160)) 0 0 (va_A [(o, .inr (5, [.ref se_ahead, .ref se_queue, .int se_queued])), (se_ahead, .inl (cI, 1536, .inl fa)), (ra, .inr (4, [.ref rw_items, .int (nI rz)])), (rw_items, .inl (cI, 160, .inl fi))] sz) := by
  refine Met.ofW (cc := cX5_lay) (maxL := 5) (ret := (some .int)) (by decide) rfl ?_
  intro p e s m args below meth c s₁ B hml hv
  obtain ⟨rfl, hsz, hP, hK, hD0, hN⟩ := hv
  have hx := B.exec
  have hb := B.bytes
  have hr := B.returns
  have hts := atoms_spec (ws := wsX5_lay) B.pre
  have hown : s.vm.findClass RX5 = some m.cls := findClass_of_methodNamed B.named
  have hlocks := B.notSynchronized
  subst hsz
  have hD := hD0.self (sz := s.heap.size)
  generalize hAe : va_A [(o, .inr (5, [.ref se_ahead, .ref se_queue, .int se_queued])), (se_ahead, .inl (cI, 1536, .inl fa)), (ra, .inr (4, [.ref rw_items, .int (nI rz)])), (rw_items, .inl (cI, 160, .inl fi))] s.heap.size = A at hD ⊢
  have hA : ∀ q : Nat, s.heap.size ≤ q → A q := fun q h => by rw [← hAe]; exact Or.inr h
  have hS : va_S A s.heap s.heap [] := va_S.rf
  have hP : va_P D vwCl [(o, .inr (5, [.ref se_ahead, .ref se_queue, .int se_queued])), (se_ahead, .inl (cI, 1536, .inl fa)), (ra, .inr (4, [.ref rw_items, .int (nI rz)])), (rw_items, .inl (cI, 160, .inl fi))] s.heap := hP
  have hl := lv_entry ([.ref o, .ref ra, .int (nI l1)]) (n := 5) (Nat.le_of_ble_eq_true rfl)
  rw [lg_entry_eq]
  generalize (lg_sl ([.ref o, .ref ra, .int (nI l1)]) ++ List.replicate (5 - (lg_sl ([.ref o, .ref ra, .int (nI l1)])).length) Slot.unset).toArray = ls at hl ⊢
  have hl : lv_has ls 5 [(0, .ref o), (1, .ref ra), (2, .int (nI l1))] := hl
  refine lv_iload_n hx hb dX5_lay_0 rfl (lv_at hl 2 rfl) ?_
  refine lv_istore_n (lv' := [(3, .int (nI l1)), (0, .ref o), (1, .ref ra), (2, .int (nI l1))]) hx hb dX5_lay_1 rfl hl (by decide) rfl (fun ls hl => ?_)
  refine lv_iconst (v := 0) hx hb dX5_lay_2 (by decide) ?_
  refine lv_istore (lv' := [(4, .int 0), (3, .int (nI l1)), (0, .ref o), (1, .ref ra), (2, .int (nI l1))]) hx hb dX5_lay_3 hl (by decide) rfl (fun ls hl => ?_)
  refine xb_wh (fun (n9 : Nat) H locs ls => ∃ i : Nat, ∃ rz2 : Nat, ∃ g : Nat → Int32, ∃ yv : Int32, (160 - i) = n9 ∧ va_P D vwCl [(o, .inr (5, [.ref se_ahead, .ref se_queue, .int se_queued])), (se_ahead, .inl (cI, 1536, .inl fa)), (ra, .inr (4, [.ref rw_items, .int (nI rz2)])), (rw_items, .inl (cI, 160, .inl g))] H ∧ va_D A [(o, .inr (5, [.ref se_ahead, .ref se_queue, .int se_queued])), (se_ahead, .inl (cI, 1536, .inl fa)), (ra, .inr (4, [.ref rw_items, .int (nI rz2)])), (rw_items, .inl (cI, 160, .inl g))] ∧ va_S A s.heap H locs ∧ lv_has ls 5 [(4, .int (nI i)), (3, .int yv), (0, .ref o), (1, .ref ra), (2, .int (nI l1))] ∧ (i ≤ 160) ∧ (rz2 ≤ 160) ∧ (yv < 0 ∨ ∃ q, q < 1536 ∧ yv = nI q)) ⟨0, rz, fi, (nI l1), rfl, hP, hD, hS, lv_sub hl [0, 1, 2, 3, 4] rfl, (Nat.zero_le _), hrz, (Or.inr ⟨l1, hl0, rfl⟩)⟩ (fun n9 H locs ls hI kk_5 => ?_)
  obtain ⟨i, rz2, g, yv, hn_5, hP, hD, hS, hl, hF_h_1, hF_h_2, hF_h_3⟩ := hI
  refine lv_iload hx hb dX5_lay_5 (lv_at hl 0 rfl) ?_
  refine lv_sipush (v := 160) hx hb dX5_lay_7 (by decide) ?_
  refine lv_icmp_ge (tgt := 38) hx hb dX5_lay_10 (by decide) (fun c_4 => ?_) (fun c_4 => ?_)
  · have dc_4 : 160 ≤ i := (nI_leI (a := 160) (b := i) (by omega) (by omega)).mp c_4
    refine lv_aload_n hx hb dX5_lay_38 rfl (lv_at hl 3 rfl) ?_
    refine xCv (wr := [(o, .inr (5, [.ref se_ahead, .ref se_queue, .int se_queued])), (se_ahead, .inl (cI, 1536, .inl fa))]) (win := [(ra, .inr (4, [.ref rw_items, .int (nI rz2)])), (rw_items, .inl (cI, 160, .inl g))]) hP hD hS hA [2, 3] [0, 1] rfl rfl (by decide) (by decide) (va_runV (As := []) (rest := []) ⟨hx, hb, hml, hown, hts⟩ (c_X4_turn l D cB cI cJ cS cZ cO H.size ra rw_items rz2 g (by first | assumption | omega | decide)) (cwV 0 hts gX5_lay_X4_turn rfl rfl rfl (by decide +kernel) ⟨Nat.le_of_ble_eq_true rfl, Nat.le_of_ble_eq_true rfl⟩) (xPreV (win := [(ra, .inr (4, [.ref rw_items, .int (nI rz2)])), (rw_items, .inl (cI, 160, .inl g))]) hN hK hP hD [2, 3] (by decide) rfl 2 4 rfl rfl rfl) rfl rfl hl.1 rfl (lv_room (Nat.le_of_ble_eq_true rfl)) dX5_lay_39 ⟨Nat.le_of_ble_eq_true rfl, Nat.le_of_ble_eq_true rfl⟩) (fun w0 H locs hw hP hD hS => ?_)
    obtain ⟨g_5, rfl⟩ := hw
    have hP : va_P D vwCl [(o, .inr (5, [.ref se_ahead, .ref se_queue, .int se_queued])), (se_ahead, .inl (cI, 1536, .inl fa)), (ra, .inr (4, [.ref rw_items, .int (nI rz2)])), (rw_items, .inl (cI, 160, .inl g_5))] H := hP
    have hD : va_D A [(o, .inr (5, [.ref se_ahead, .ref se_queue, .int se_queued])), (se_ahead, .inl (cI, 1536, .inl fa)), (ra, .inr (4, [.ref rw_items, .int (nI rz2)])), (rw_items, .inl (cI, 160, .inl g_5))] := hD
    refine lv_aload_n hx hb dX5_lay_42 rfl (lv_at hl 3 rfl) ?_
    refine va_getN (D := D) (ci := 4) (v := .int (nI rz2)) (C := RX4) (T := TX4) (N := 2) hx hb hts (by decide +kernel) hown hK hP 2 rfl rfl 1 (by decide) (va_Nw.use rfl (hN.1 (RX5, 71, RX4, "size", "I", RX10) (by decide +kernel))) (fun _ h9 => h9) rfl dX5_lay_43 ?_
    have hP9 := hP.sub (ws' := [(o, .inr (5, [.ref se_ahead, .ref se_queue, .int se_queued])), (se_ahead, .inl (cI, 1536, .inl fa)), (ra, .inr (4, [.ref rw_items, .int (nI rz2)])), (rw_items, .inl (cI, 160, .inl g_5))]) [0, 1, 2, 3] rfl
    have hD9 := hD.sub (ws' := [(o, .inr (5, [.ref se_ahead, .ref se_queue, .int se_queued])), (se_ahead, .inl (cI, 1536, .inl fa)), (ra, .inr (4, [.ref rw_items, .int (nI rz2)])), (rw_items, .inl (cI, 160, .inl g_5))]) [0, 1, 2, 3] (by decide) rfl
    refine W.widen (k := 0) (n := 0) (Nat.le_of_ble_eq_true rfl) (Nat.le_of_ble_eq_true rfl) ?_
    exact W.iret (v := nI rz2) hx hb hr (fun tz htz hWz => ⟨⟨nI rz2, [(o, .inr (5, [.ref se_ahead, .ref se_queue, .int se_queued])), (se_ahead, .inl (cI, 1536, .inl fa)), (ra, .inr (4, [.ref rw_items, .int (nI rz2)])), (rw_items, .inl (cI, 160, .inl g_5))], rfl, ⟨rz2, g_5, rfl, hF_h_2⟩, by rw [htz]; exact hP9, va_K.moved hWz.alike hK, hD9⟩, hS.F htz⟩) hS.2.2 dX5_lay_46
  · have dc_4 : ¬ 160 ≤ i := fun h => c_4 ((nI_leI (a := 160) (b := i) (by omega) (by omega)).mpr h)
    refine lv_iload_n hx hb dX5_lay_13 rfl (lv_at hl 1 rfl) ?_
    refine lv_if_lt (tgt := 38) hx hb dX5_lay_14 (by decide) (fun c_6 => ?_) (fun c_6 => ?_)
    · refine lv_aload_n hx hb dX5_lay_38 rfl (lv_at hl 3 rfl) ?_
      refine xCv (wr := [(o, .inr (5, [.ref se_ahead, .ref se_queue, .int se_queued])), (se_ahead, .inl (cI, 1536, .inl fa))]) (win := [(ra, .inr (4, [.ref rw_items, .int (nI rz2)])), (rw_items, .inl (cI, 160, .inl g))]) hP hD hS hA [2, 3] [0, 1] rfl rfl (by decide) (by decide) (va_runV (As := []) (rest := []) ⟨hx, hb, hml, hown, hts⟩ (c_X4_turn l D cB cI cJ cS cZ cO H.size ra rw_items rz2 g (by first | assumption | omega | decide)) (cwV 0 hts gX5_lay_X4_turn rfl rfl rfl (by decide +kernel) ⟨Nat.le_of_ble_eq_true rfl, Nat.le_of_ble_eq_true rfl⟩) (xPreV (win := [(ra, .inr (4, [.ref rw_items, .int (nI rz2)])), (rw_items, .inl (cI, 160, .inl g))]) hN hK hP hD [2, 3] (by decide) rfl 2 4 rfl rfl rfl) rfl rfl hl.1 rfl (lv_room (Nat.le_of_ble_eq_true rfl)) dX5_lay_39 ⟨Nat.le_of_ble_eq_true rfl, Nat.le_of_ble_eq_true rfl⟩) (fun w0 H locs hw hP hD hS => ?_)
      obtain ⟨g_7, rfl⟩ := hw
      have hP : va_P D vwCl [(o, .inr (5, [.ref se_ahead, .ref se_queue, .int se_queued])), (se_ahead, .inl (cI, 1536, .inl fa)), (ra, .inr (4, [.ref rw_items, .int (nI rz2)])), (rw_items, .inl (cI, 160, .inl g_7))] H := hP
      have hD : va_D A [(o, .inr (5, [.ref se_ahead, .ref se_queue, .int se_queued])), (se_ahead, .inl (cI, 1536, .inl fa)), (ra, .inr (4, [.ref rw_items, .int (nI rz2)])), (rw_items, .inl (cI, 160, .inl g_7))] := hD
      refine lv_aload_n hx hb dX5_lay_42 rfl (lv_at hl 3 rfl) ?_
      refine va_getN (D := D) (ci := 4) (v := .int (nI rz2)) (C := RX4) (T := TX4) (N := 2) hx hb hts (by decide +kernel) hown hK hP 2 rfl rfl 1 (by decide) (va_Nw.use rfl (hN.1 (RX5, 71, RX4, "size", "I", RX10) (by decide +kernel))) (fun _ h9 => h9) rfl dX5_lay_43 ?_
      have hP9 := hP.sub (ws' := [(o, .inr (5, [.ref se_ahead, .ref se_queue, .int se_queued])), (se_ahead, .inl (cI, 1536, .inl fa)), (ra, .inr (4, [.ref rw_items, .int (nI rz2)])), (rw_items, .inl (cI, 160, .inl g_7))]) [0, 1, 2, 3] rfl
      have hD9 := hD.sub (ws' := [(o, .inr (5, [.ref se_ahead, .ref se_queue, .int se_queued])), (se_ahead, .inl (cI, 1536, .inl fa)), (ra, .inr (4, [.ref rw_items, .int (nI rz2)])), (rw_items, .inl (cI, 160, .inl g_7))]) [0, 1, 2, 3] (by decide) rfl
      refine W.widen (k := 0) (n := 0) (Nat.le_of_ble_eq_true rfl) (Nat.le_of_ble_eq_true rfl) ?_
      exact W.iret (v := nI rz2) hx hb hr (fun tz htz hWz => ⟨⟨nI rz2, [(o, .inr (5, [.ref se_ahead, .ref se_queue, .int se_queued])), (se_ahead, .inl (cI, 1536, .inl fa)), (ra, .inr (4, [.ref rw_items, .int (nI rz2)])), (rw_items, .inl (cI, 160, .inl g_7))], rfl, ⟨rz2, g_7, rfl, hF_h_2⟩, by rw [htz]; exact hP9, va_K.moved hWz.alike hK, hD9⟩, hS.F htz⟩) hS.2.2 dX5_lay_46
    · obtain ⟨q1, hq1, eq1⟩ := hF_h_3.resolve_left c_6
      subst eq1
      refine lv_aload_n hx hb dX5_lay_17 rfl (lv_at hl 3 rfl) ?_
      refine lv_iload_n hx hb dX5_lay_18 rfl (lv_at hl 1 rfl) ?_
      refine lv_bipush (v := 24) hx hb dX5_lay_19 (by decide) ?_
      refine lv_irem hx hb dX5_lay_21 (by decide) ?_
      refine xb_top (y := nI (q1 % 24)) (pk_rem (a := q1) (d := 24) (by omega) (by omega) (by omega)) ?_
      refine xCv (wr := [(o, .inr (5, [.ref se_ahead, .ref se_queue, .int se_queued])), (se_ahead, .inl (cI, 1536, .inl fa))]) (win := [(ra, .inr (4, [.ref rw_items, .int (nI rz2)])), (rw_items, .inl (cI, 160, .inl g))]) hP hD hS hA [2, 3] [0, 1] rfl rfl (by decide) (by decide) (va_runV (As := [.int (nI (q1 % 24))]) (rest := []) ⟨hx, hb, hml, hown, hts⟩ (c_X4_add l D cB cI cJ cS cZ cO H.size ra (nI (q1 % 24)) rw_items rz2 g (by first | assumption | omega | decide)) (cwV 1 hts gX5_lay_X4_add rfl rfl rfl (by decide +kernel) ⟨Nat.le_of_ble_eq_true rfl, Nat.le_of_ble_eq_true rfl⟩) (xPreV (win := [(ra, .inr (4, [.ref rw_items, .int (nI rz2)])), (rw_items, .inl (cI, 160, .inl g))]) hN hK hP hD [2, 3] (by decide) rfl 2 4 rfl rfl rfl) rfl rfl hl.1 rfl (lv_room (Nat.le_of_ble_eq_true rfl)) dX5_lay_22 ⟨Nat.le_of_ble_eq_true rfl, Nat.le_of_ble_eq_true rfl⟩) (fun w0 H locs hw hP hD hS => ?_)
      obtain ⟨rz2_8, g_9, rfl, hf_10⟩ := hw
      have hP : va_P D vwCl [(o, .inr (5, [.ref se_ahead, .ref se_queue, .int se_queued])), (se_ahead, .inl (cI, 1536, .inl fa)), (ra, .inr (4, [.ref rw_items, .int (nI rz2_8)])), (rw_items, .inl (cI, 160, .inl g_9))] H := hP
      have hD : va_D A [(o, .inr (5, [.ref se_ahead, .ref se_queue, .int se_queued])), (se_ahead, .inl (cI, 1536, .inl fa)), (ra, .inr (4, [.ref rw_items, .int (nI rz2_8)])), (rw_items, .inl (cI, 160, .inl g_9))] := hD
      refine lv_aload_n hx hb dX5_lay_25 rfl (lv_at hl 2 rfl) ?_
      refine va_get (D := D) (ci := 5) (v := .ref se_ahead) (C := RX5) (T := TX5) (N := 3) hx hb hts (by decide +kernel) hown hK hP 0 rfl rfl 0 (by decide) (hts (.fieldLink RX5 9 "LastLetter$Search" "ahead" "[I") (by decide +kernel)) (fun _ h9 => h9) rfl dX5_lay_26 ?_
      refine lv_iload_n hx hb dX5_lay_29 rfl (lv_at hl 1 rfl) ?_
      refine va_iald hx hb hK hP 1 1 rfl rfl (vp_in_nI (by omega) (by omega)) dX5_lay_30 ?_
      refine xb_top (y := fa q1) (by rw [nI_clamp (by omega)]) ?_
      have hm_11 := ha q1 (by omega)
      refine lv_istore_n (lv' := [(3, .int (fa q1)), (4, .int (nI i)), (0, .ref o), (1, .ref ra), (2, .int (nI l1))]) hx hb dX5_lay_31 rfl hl (by decide) rfl (fun ls hl => ?_)
      refine lv_iinc (v := nI (i + 1)) (lv' := [(4, .int (nI (i + 1))), (3, .int (fa q1)), (0, .ref o), (1, .ref ra), (2, .int (nI l1))]) hx hb dX5_lay_32 hl (k := 1) rfl (nI_1 i) (by decide) rfl (fun ls hl => ?_)
      refine lv_goto (tgt := 5) hx hb dX5_lay_35 (by decide) ?_
      exact kk_5 _ _ _ _ (by rw [← hn_5]; omega) ⟨(i + 1), rz2_8, g_9, (fa q1), rfl, hP, hD, hS, lv_sub hl [0, 1, 2, 3, 4] rfl, (by omega), hf_10, hm_11⟩

set_option maxHeartbeats 4000000 in
set_option maxRecDepth 100000 in
theorem c_X5_layJoin (l : Launch) (D : va_G) (cB cI cJ cS cZ cO : ClassId) (sz : Nat) (o : Nat) (t : Nat) (ra : Nat) (x : Int32) (t1 : Nat) (se_ahead : Nat) (se_queue : Nat) (se_queued : Int32) (fa : Nat → Int32) (fq : Nat → Int32) (rw_items : Nat) (rz : Nat) (fi : Nat → Int32) (k_name : Nat) (k_worth : Nat) (k_times : Nat) (k_first : Nat) (k_second : Nat) (k_beforeLast : Nat) (k_last : Nat) (k_errandOf : Nat) (k_errandAfter : Nat) (k_sound : Nat) (k_followers : Nat) (k_leaders : Nat) (w : Nat) (k_errands : Int32) (k_alikes : Int32) (k_law : Int32) (f_followers : Nat → Int32) (hw : w ≤ 24) (hrz : rz ≤ 160) (ht1 : t1 < 24) : Met l yX5_layJoin wsX5_layJoin ({ frames := 2, cells := 0, slots := 0, locals := 49 }) (xPre D (tyL cB cI cJ cS cZ cO) [(o, .inr (5, [.ref se_ahead, .ref se_queue, .int se_queued])), (se_ahead, .inl (cI, 1536, .inl fa)), (se_queue, .inl (cI, 1536, .inl fq)), (ra, .inr (4, [.ref rw_items, .int (nI rz)])), (rw_items, .inl (cI, 160, .inl fi)), (t, .inr (8, [.ref k_name, .ref k_worth, .ref k_times, .ref k_first, .ref k_second, .ref k_beforeLast, .ref k_last, .ref k_errandOf, .ref k_errandAfter, .ref k_sound, .ref k_followers, .ref k_leaders, .int (nI w), .int k_errands, .int k_alikes, .int k_law])), (k_followers, .inl (cI, 24, .inl f_followers))] sz [.ref o, .ref t, .ref ra, .int x, .int (nI t1)]) (xQi D (tyL cB cI cJ cS cZ cO) (va_A [(o, .inr (5, [.ref se_ahead, .ref se_queue, .int se_queued])), (se_ahead, .inl (cI, 1536, .inl fa)), (se_queue, .inl (cI, 1536, .inl fq)), (ra, .inr (4, [.ref rw_items, .int (nI rz)])), (rw_items, .inl (cI, 160, .inl fi)), (t, .inr (8, [.ref k_name, .ref k_worth, .ref k_times, .ref k_first, .ref k_second, .ref k_beforeLast, .ref k_last, .ref k_errandOf, .ref k_errandAfter, .ref k_sound, .ref k_followers, .ref k_leaders, .int (nI w), .int k_errands, .int k_alikes, .int k_law])), (k_followers, .inl (cI, 24, .inl f_followers))] sz) (fun (r : Int32) (u : va_W) => ∃ qv : Int32, ∃ rz2 : Nat, ∃ ga : Nat → Int32, ∃ gq : Nat → Int32, ∃ g : Nat → Int32, u = [(o, .inr (5, [.ref se_ahead, .ref se_queue, .int qv])), (se_ahead, .inl (cI, 1536, .inl ga)), (se_queue, .inl (cI, 1536, .inl gq)), (ra, .inr (4, [.ref rw_items, .int (nI rz2)])), (rw_items, .inl (cI, 160, .inl g)), (t, .inr (8, [.ref k_name, .ref k_worth, .ref k_times, .ref k_first, .ref k_second, .ref k_beforeLast, .ref k_last, .ref k_errandOf, .ref k_errandAfter, .ref k_sound, .ref k_followers, .ref k_leaders, .int (nI w), .int k_errands, .int k_alikes, .int k_law])), (k_followers, .inl (cI, 24, .inl f_followers))] ∧ rz2 ≤ 160)) 0 0 (va_A [(o, .inr (5, [.ref se_ahead, .ref se_queue, .int se_queued])), (se_ahead, .inl (cI, 1536, .inl fa)), (se_queue, .inl (cI, 1536, .inl fq)), (ra, .inr (4, [.ref rw_items, .int (nI rz)])), (rw_items, .inl (cI, 160, .inl fi)), (t, .inr (8, [.ref k_name, .ref k_worth, .ref k_times, .ref k_first, .ref k_second, .ref k_beforeLast, .ref k_last, .ref k_errandOf, .ref k_errandAfter, .ref k_sound, .ref k_followers, .ref k_leaders, .int (nI w), .int k_errands, .int k_alikes, .int k_law])), (k_followers, .inl (cI, 24, .inl f_followers))] sz) := by
  refine Met.ofW (cc := cX5_layJoin) (maxL := 6) (ret := (some .int)) (by decide) rfl ?_
  intro p e s m args below meth c s₁ B hml hv
  obtain ⟨rfl, hsz, hP, hK, hD0, hN⟩ := hv
  have hx := B.exec
  have hb := B.bytes
  have hr := B.returns
  have hts := atoms_spec (ws := wsX5_layJoin) B.pre
  have hown : s.vm.findClass RX5 = some m.cls := findClass_of_methodNamed B.named
  have hlocks := B.notSynchronized
  subst hsz
  have hD := hD0.self (sz := s.heap.size)
  generalize hAe : va_A [(o, .inr (5, [.ref se_ahead, .ref se_queue, .int se_queued])), (se_ahead, .inl (cI, 1536, .inl fa)), (se_queue, .inl (cI, 1536, .inl fq)), (ra, .inr (4, [.ref rw_items, .int (nI rz)])), (rw_items, .inl (cI, 160, .inl fi)), (t, .inr (8, [.ref k_name, .ref k_worth, .ref k_times, .ref k_first, .ref k_second, .ref k_beforeLast, .ref k_last, .ref k_errandOf, .ref k_errandAfter, .ref k_sound, .ref k_followers, .ref k_leaders, .int (nI w), .int k_errands, .int k_alikes, .int k_law])), (k_followers, .inl (cI, 24, .inl f_followers))] s.heap.size = A at hD ⊢
  have hA : ∀ q : Nat, s.heap.size ≤ q → A q := fun q h => by rw [← hAe]; exact Or.inr h
  have hS : va_S A s.heap s.heap [] := va_S.rf
  have hP : va_P D vwCl [(o, .inr (5, [.ref se_ahead, .ref se_queue, .int se_queued])), (se_ahead, .inl (cI, 1536, .inl fa)), (se_queue, .inl (cI, 1536, .inl fq)), (ra, .inr (4, [.ref rw_items, .int (nI rz)])), (rw_items, .inl (cI, 160, .inl fi)), (t, .inr (8, [.ref k_name, .ref k_worth, .ref k_times, .ref k_first, .ref k_second, .ref k_beforeLast, .ref k_last, .ref k_errandOf, .ref k_errandAfter, .ref k_sound, .ref k_followers, .ref k_leaders, .int (nI w), .int k_errands, .int k_alikes, .int k_law])), (k_followers, .inl (cI, 24, .inl f_followers))] s.heap := hP
  have hl := lv_entry ([.ref o, .ref t, .ref ra, .int x, .int (nI t1)]) (n := 6) (Nat.le_of_ble_eq_true rfl)
  rw [lg_entry_eq]
  generalize (lg_sl ([.ref o, .ref t, .ref ra, .int x, .int (nI t1)]) ++ List.replicate (6 - (lg_sl ([.ref o, .ref t, .ref ra, .int x, .int (nI t1)])).length) Slot.unset).toArray = ls at hl ⊢
  have hl : lv_has ls 6 [(0, .ref o), (1, .ref t), (2, .ref ra), (3, .int x), (4, .int (nI t1))] := hl
  refine lv_aload_n hx hb dX5_layJoin_0 rfl (lv_at hl 0 rfl) ?_
  refine xCv (wr := [(se_queue, .inl (cI, 1536, .inl fq)), (ra, .inr (4, [.ref rw_items, .int (nI rz)])), (rw_items, .inl (cI, 160, .inl fi)), (t, .inr (8, [.ref k_name, .ref k_worth, .ref k_times, .ref k_first, .ref k_second, .ref k_beforeLast, .ref k_last, .ref k_errandOf, .ref k_errandAfter, .ref k_sound, .ref k_followers, .ref k_leaders, .int (nI w), .int k_errands, .int k_alikes, .int k_law])), (k_followers, .inl (cI, 24, .inl f_followers))]) (win := [(o, .inr (5, [.ref se_ahead, .ref se_queue, .int se_queued])), (se_ahead, .inl (cI, 1536, .inl fa))]) hP hD hS hA [0, 1] [2, 3, 4, 5, 6] rfl rfl (by decide) (by decide) (va_runV (As := []) (rest := []) ⟨hx, hb, hml, hown, hts⟩ (c_X5_begin l D cB cI cJ cS cZ cO s.heap.size o se_ahead se_queue se_queued fa ) (cwV 0 hts gX5_layJoin_X5_begin rfl rfl rfl (by decide +kernel) ⟨Nat.le_of_ble_eq_true rfl, Nat.le_of_ble_eq_true rfl⟩) (xPreV (win := [(o, .inr (5, [.ref se_ahead, .ref se_queue, .int se_queued])), (se_ahead, .inl (cI, 1536, .inl fa))]) hN hK hP hD [0, 1] (by decide) rfl 0 5 rfl rfl rfl) rfl rfl hl.1 rfl (lv_room (Nat.le_of_ble_eq_true rfl)) dX5_layJoin_1 ⟨Nat.le_of_ble_eq_true rfl, Nat.le_of_ble_eq_true rfl⟩) (fun w0 H locs hw hP hD hS => ?_)
  obtain ⟨ga_1, rfl, hf_2⟩ := hw
  have hP : va_P D vwCl [(se_queue, .inl (cI, 1536, .inl fq)), (ra, .inr (4, [.ref rw_items, .int (nI rz)])), (rw_items, .inl (cI, 160, .inl fi)), (t, .inr (8, [.ref k_name, .ref k_worth, .ref k_times, .ref k_first, .ref k_second, .ref k_beforeLast, .ref k_last, .ref k_errandOf, .ref k_errandAfter, .ref k_sound, .ref k_followers, .ref k_leaders, .int (nI w), .int k_errands, .int k_alikes, .int k_law])), (k_followers, .inl (cI, 24, .inl f_followers)), (o, .inr (5, [.ref se_ahead, .ref se_queue, .int 0])), (se_ahead, .inl (cI, 1536, .inl ga_1))] H := hP
  have hD : va_D A [(se_queue, .inl (cI, 1536, .inl fq)), (ra, .inr (4, [.ref rw_items, .int (nI rz)])), (rw_items, .inl (cI, 160, .inl fi)), (t, .inr (8, [.ref k_name, .ref k_worth, .ref k_times, .ref k_first, .ref k_second, .ref k_beforeLast, .ref k_last, .ref k_errandOf, .ref k_errandAfter, .ref k_sound, .ref k_followers, .ref k_leaders, .int (nI w), .int k_errands, .int k_alikes, .int k_law])), (k_followers, .inl (cI, 24, .inl f_followers)), (o, .inr (5, [.ref se_ahead, .ref se_queue, .int 0])), (se_ahead, .inl (cI, 1536, .inl ga_1))] := hD
  refine lv_aload_n hx hb dX5_layJoin_4 rfl (lv_at hl 0 rfl) ?_
  refine lv_aload_n hx hb dX5_layJoin_5 rfl (lv_at hl 1 rfl) ?_
  refine lv_iconst (v := 1) hx hb dX5_layJoin_6 (by decide) ?_
  refine lv_iload_n hx hb dX5_layJoin_7 rfl (lv_at hl 3 rfl) ?_
  refine lv_ishl hx hb dX5_layJoin_8 ?_
  refine lv_iconst (v := (-1)) hx hb dX5_layJoin_9 (by decide) ?_
  refine lv_iconst (v := 0) hx hb dX5_layJoin_10 (by decide) ?_
  refine xCv (wr := [(ra, .inr (4, [.ref rw_items, .int (nI rz)])), (rw_items, .inl (cI, 160, .inl fi)), (k_followers, .inl (cI, 24, .inl f_followers))]) (win := [(o, .inr (5, [.ref se_ahead, .ref se_queue, .int 0])), (se_ahead, .inl (cI, 1536, .inl ga_1)), (se_queue, .inl (cI, 1536, .inl fq)), (t, .inr (8, [.ref k_name, .ref k_worth, .ref k_times, .ref k_first, .ref k_second, .ref k_beforeLast, .ref k_last, .ref k_errandOf, .ref k_errandAfter, .ref k_sound, .ref k_followers, .ref k_leaders, .int (nI w), .int k_errands, .int k_alikes, .int k_law]))]) hP hD hS hA [5, 6, 0, 3] [1, 2, 4] rfl rfl (by decide) (by decide) (va_runV (As := [.ref t, .int (1 <<< (x &&& 31)), .int (-1), .int 0]) (rest := []) ⟨hx, hb, hml, hown, hts⟩ (c_X5_enter_0 l D cB cI cJ cS cZ cO H.size o t (1 <<< (x &&& 31)) (-1) se_ahead se_queue 0 ga_1 fq k_name k_worth k_times k_first k_second k_beforeLast k_last k_errandOf k_errandAfter k_sound k_followers k_leaders w k_errands k_alikes k_law (by first | assumption | omega) (by first | assumption | omega) (fun j h => absurd h (Nat.not_lt_zero j)) hf_2 (Or.inl rfl)) (cwV 4 hts gX5_layJoin_X5_enter rfl rfl rfl (by decide +kernel) ⟨Nat.le_of_ble_eq_true rfl, Nat.le_of_ble_eq_true rfl⟩) (xPreV (win := [(o, .inr (5, [.ref se_ahead, .ref se_queue, .int 0])), (se_ahead, .inl (cI, 1536, .inl ga_1)), (se_queue, .inl (cI, 1536, .inl fq)), (t, .inr (8, [.ref k_name, .ref k_worth, .ref k_times, .ref k_first, .ref k_second, .ref k_beforeLast, .ref k_last, .ref k_errandOf, .ref k_errandAfter, .ref k_sound, .ref k_followers, .ref k_leaders, .int (nI w), .int k_errands, .int k_alikes, .int k_law]))]) hN hK hP hD [5, 6, 0, 3] (by decide) rfl 5 5 rfl rfl rfl) rfl rfl hl.1 rfl (lv_room (Nat.le_of_ble_eq_true rfl)) dX5_layJoin_11 ⟨Nat.le_of_ble_eq_true rfl, Nat.le_of_ble_eq_true rfl⟩) (fun w0 H locs hw hP hD hS => ?_)
  obtain ⟨qd2_3, ga_4, gq_5, rfl, hf_6, hf_7, hf_8⟩ := hw
  have hP : va_P D vwCl [(ra, .inr (4, [.ref rw_items, .int (nI rz)])), (rw_items, .inl (cI, 160, .inl fi)), (k_followers, .inl (cI, 24, .inl f_followers)), (o, .inr (5, [.ref se_ahead, .ref se_queue, .int (nI qd2_3)])), (se_ahead, .inl (cI, 1536, .inl ga_4)), (se_queue, .inl (cI, 1536, .inl gq_5)), (t, .inr (8, [.ref k_name, .ref k_worth, .ref k_times, .ref k_first, .ref k_second, .ref k_beforeLast, .ref k_last, .ref k_errandOf, .ref k_errandAfter, .ref k_sound, .ref k_followers, .ref k_leaders, .int (nI w), .int k_errands, .int k_alikes, .int k_law]))] H := hP
  have hD : va_D A [(ra, .inr (4, [.ref rw_items, .int (nI rz)])), (rw_items, .inl (cI, 160, .inl fi)), (k_followers, .inl (cI, 24, .inl f_followers)), (o, .inr (5, [.ref se_ahead, .ref se_queue, .int (nI qd2_3)])), (se_ahead, .inl (cI, 1536, .inl ga_4)), (se_queue, .inl (cI, 1536, .inl gq_5)), (t, .inr (8, [.ref k_name, .ref k_worth, .ref k_times, .ref k_first, .ref k_second, .ref k_beforeLast, .ref k_last, .ref k_errandOf, .ref k_errandAfter, .ref k_sound, .ref k_followers, .ref k_leaders, .int (nI w), .int k_errands, .int k_alikes, .int k_law]))] := hD
  refine lv_iconst (v := 0) hx hb dX5_layJoin_14 (by decide) ?_
  refine lv_istore (lv' := [(5, .int 0), (0, .ref o), (1, .ref t), (2, .ref ra), (3, .int x), (4, .int (nI t1))]) hx hb dX5_layJoin_15 hl (by decide) rfl (fun ls hl => ?_)
  refine xb_wh (fun (n9 : Nat) H locs ls => ∃ i : Nat, ∃ qd2 : Nat, ∃ ga : Nat → Int32, ∃ gq : Nat → Int32, (1536 - i) = n9 ∧ va_P D vwCl [(ra, .inr (4, [.ref rw_items, .int (nI rz)])), (rw_items, .inl (cI, 160, .inl fi)), (k_followers, .inl (cI, 24, .inl f_followers)), (o, .inr (5, [.ref se_ahead, .ref se_queue, .int (nI qd2)])), (se_ahead, .inl (cI, 1536, .inl ga)), (se_queue, .inl (cI, 1536, .inl gq)), (t, .inr (8, [.ref k_name, .ref k_worth, .ref k_times, .ref k_first, .ref k_second, .ref k_beforeLast, .ref k_last, .ref k_errandOf, .ref k_errandAfter, .ref k_sound, .ref k_followers, .ref k_leaders, .int (nI w), .int k_errands, .int k_alikes, .int k_law]))] H ∧ va_D A [(ra, .inr (4, [.ref rw_items, .int (nI rz)])), (rw_items, .inl (cI, 160, .inl fi)), (k_followers, .inl (cI, 24, .inl f_followers)), (o, .inr (5, [.ref se_ahead, .ref se_queue, .int (nI qd2)])), (se_ahead, .inl (cI, 1536, .inl ga)), (se_queue, .inl (cI, 1536, .inl gq)), (t, .inr (8, [.ref k_name, .ref k_worth, .ref k_times, .ref k_first, .ref k_second, .ref k_beforeLast, .ref k_last, .ref k_errandOf, .ref k_errandAfter, .ref k_sound, .ref k_followers, .ref k_leaders, .int (nI w), .int k_errands, .int k_alikes, .int k_law]))] ∧ va_S A s.heap H locs ∧ lv_has ls 6 [(5, .int (nI i)), (0, .ref o), (1, .ref t), (2, .ref ra), (3, .int x), (4, .int (nI t1))] ∧ (qd2 ≤ 1536) ∧ (rgN gq qd2 24) ∧ (rgS ga 1536 1536) ∧ (i ≤ 1536)) ⟨0, qd2_3, ga_4, gq_5, rfl, hP, hD, hS, lv_sub hl [0, 1, 2, 3, 4, 5] rfl, hf_6, hf_7, hf_8, (by first | assumption | omega)⟩ (fun n9 H locs ls hI kk_17 => ?_)
  obtain ⟨i, qd2, ga, gq, hn_17, hP, hD, hS, hl, hF_h_9, hF_h_10, hF_h_11, hF_h_12⟩ := hI
  refine lv_iload hx hb dX5_layJoin_17 (lv_at hl 0 rfl) ?_
  refine lv_aload_n hx hb dX5_layJoin_19 rfl (lv_at hl 1 rfl) ?_
  refine va_get (D := D) (ci := 5) (v := .int (nI qd2)) (C := RX5) (T := TX5) (N := 3) hx hb hts (by decide +kernel) hown hK hP 3 rfl rfl 2 (by decide) (hts (.fieldLink RX5 25 "LastLetter$Search" "queued" "I") (by decide +kernel)) (fun _ h9 => h9) rfl dX5_layJoin_20 ?_
  refine lv_icmp_ge (tgt := 85) hx hb dX5_layJoin_23 (by decide) (fun c_13 => ?_) (fun c_13 => ?_)
  · have dc_13 : qd2 ≤ i := (nI_leI (a := qd2) (b := i) (by omega) (by omega)).mp c_13
    refine lv_iconst (v := (-1)) hx hb dX5_layJoin_85 (by decide) ?_
    have hP9 := hP.sub (ws' := [(o, .inr (5, [.ref se_ahead, .ref se_queue, .int (nI qd2)])), (se_ahead, .inl (cI, 1536, .inl ga)), (se_queue, .inl (cI, 1536, .inl gq)), (ra, .inr (4, [.ref rw_items, .int (nI rz)])), (rw_items, .inl (cI, 160, .inl fi)), (t, .inr (8, [.ref k_name, .ref k_worth, .ref k_times, .ref k_first, .ref k_second, .ref k_beforeLast, .ref k_last, .ref k_errandOf, .ref k_errandAfter, .ref k_sound, .ref k_followers, .ref k_leaders, .int (nI w), .int k_errands, .int k_alikes, .int k_law])), (k_followers, .inl (cI, 24, .inl f_followers))]) [3, 4, 5, 0, 1, 6, 2] rfl
    have hD9 := hD.sub (ws' := [(o, .inr (5, [.ref se_ahead, .ref se_queue, .int (nI qd2)])), (se_ahead, .inl (cI, 1536, .inl ga)), (se_queue, .inl (cI, 1536, .inl gq)), (ra, .inr (4, [.ref rw_items, .int (nI rz)])), (rw_items, .inl (cI, 160, .inl fi)), (t, .inr (8, [.ref k_name, .ref k_worth, .ref k_times, .ref k_first, .ref k_second, .ref k_beforeLast, .ref k_last, .ref k_errandOf, .ref k_errandAfter, .ref k_sound, .ref k_followers, .ref k_leaders, .int (nI w), .int k_errands, .int k_alikes, .int k_law])), (k_followers, .inl (cI, 24, .inl f_followers))]) [3, 4, 5, 0, 1, 6, 2] (by decide) rfl
    refine W.widen (k := 0) (n := 0) (Nat.le_of_ble_eq_true rfl) (Nat.le_of_ble_eq_true rfl) ?_
    exact W.iret (v := (-1)) hx hb hr (fun tz htz hWz => ⟨⟨(-1), [(o, .inr (5, [.ref se_ahead, .ref se_queue, .int (nI qd2)])), (se_ahead, .inl (cI, 1536, .inl ga)), (se_queue, .inl (cI, 1536, .inl gq)), (ra, .inr (4, [.ref rw_items, .int (nI rz)])), (rw_items, .inl (cI, 160, .inl fi)), (t, .inr (8, [.ref k_name, .ref k_worth, .ref k_times, .ref k_first, .ref k_second, .ref k_beforeLast, .ref k_last, .ref k_errandOf, .ref k_errandAfter, .ref k_sound, .ref k_followers, .ref k_leaders, .int (nI w), .int k_errands, .int k_alikes, .int k_law])), (k_followers, .inl (cI, 24, .inl f_followers))], rfl, ⟨(nI qd2), rz, ga, gq, fi, rfl, hrz⟩, by rw [htz]; exact hP9, va_K.moved hWz.alike hK, hD9⟩, hS.F htz⟩) hS.2.2 dX5_layJoin_86
  · have dc_13 : ¬ qd2 ≤ i := fun h => c_13 ((nI_leI (a := qd2) (b := i) (by omega) (by omega)).mpr h)
    refine lv_iload hx hb dX5_layJoin_26 (lv_at hl 0 rfl) ?_
    refine lv_sipush (v := 1536) hx hb dX5_layJoin_28 (by decide) ?_
    refine lv_icmp_ge (tgt := 85) hx hb dX5_layJoin_31 (by decide) (fun c_14 => ?_) (fun c_14 => ?_)
    · have dc_14 : 1536 ≤ i := (nI_leI (a := 1536) (b := i) (by omega) (by omega)).mp c_14
      refine lv_iconst (v := (-1)) hx hb dX5_layJoin_85 (by decide) ?_
      have hP9 := hP.sub (ws' := [(o, .inr (5, [.ref se_ahead, .ref se_queue, .int (nI qd2)])), (se_ahead, .inl (cI, 1536, .inl ga)), (se_queue, .inl (cI, 1536, .inl gq)), (ra, .inr (4, [.ref rw_items, .int (nI rz)])), (rw_items, .inl (cI, 160, .inl fi)), (t, .inr (8, [.ref k_name, .ref k_worth, .ref k_times, .ref k_first, .ref k_second, .ref k_beforeLast, .ref k_last, .ref k_errandOf, .ref k_errandAfter, .ref k_sound, .ref k_followers, .ref k_leaders, .int (nI w), .int k_errands, .int k_alikes, .int k_law])), (k_followers, .inl (cI, 24, .inl f_followers))]) [3, 4, 5, 0, 1, 6, 2] rfl
      have hD9 := hD.sub (ws' := [(o, .inr (5, [.ref se_ahead, .ref se_queue, .int (nI qd2)])), (se_ahead, .inl (cI, 1536, .inl ga)), (se_queue, .inl (cI, 1536, .inl gq)), (ra, .inr (4, [.ref rw_items, .int (nI rz)])), (rw_items, .inl (cI, 160, .inl fi)), (t, .inr (8, [.ref k_name, .ref k_worth, .ref k_times, .ref k_first, .ref k_second, .ref k_beforeLast, .ref k_last, .ref k_errandOf, .ref k_errandAfter, .ref k_sound, .ref k_followers, .ref k_leaders, .int (nI w), .int k_errands, .int k_alikes, .int k_law])), (k_followers, .inl (cI, 24, .inl f_followers))]) [3, 4, 5, 0, 1, 6, 2] (by decide) rfl
      refine W.widen (k := 0) (n := 0) (Nat.le_of_ble_eq_true rfl) (Nat.le_of_ble_eq_true rfl) ?_
      exact W.iret (v := (-1)) hx hb hr (fun tz htz hWz => ⟨⟨(-1), [(o, .inr (5, [.ref se_ahead, .ref se_queue, .int (nI qd2)])), (se_ahead, .inl (cI, 1536, .inl ga)), (se_queue, .inl (cI, 1536, .inl gq)), (ra, .inr (4, [.ref rw_items, .int (nI rz)])), (rw_items, .inl (cI, 160, .inl fi)), (t, .inr (8, [.ref k_name, .ref k_worth, .ref k_times, .ref k_first, .ref k_second, .ref k_beforeLast, .ref k_last, .ref k_errandOf, .ref k_errandAfter, .ref k_sound, .ref k_followers, .ref k_leaders, .int (nI w), .int k_errands, .int k_alikes, .int k_law])), (k_followers, .inl (cI, 24, .inl f_followers))], rfl, ⟨(nI qd2), rz, ga, gq, fi, rfl, hrz⟩, by rw [htz]; exact hP9, va_K.moved hWz.alike hK, hD9⟩, hS.F htz⟩) hS.2.2 dX5_layJoin_86
    · have dc_14 : ¬ 1536 ≤ i := fun h => c_14 ((nI_leI (a := 1536) (b := i) (by omega) (by omega)).mpr h)
      refine lv_aload_n hx hb dX5_layJoin_34 rfl (lv_at hl 1 rfl) ?_
      refine va_get (D := D) (ci := 5) (v := .ref se_queue) (C := RX5) (T := TX5) (N := 3) hx hb hts (by decide +kernel) hown hK hP 3 rfl rfl 1 (by decide) (hts (.fieldLink RX5 15 "LastLetter$Search" "queue" "[I") (by decide +kernel)) (fun _ h9 => h9) rfl dX5_layJoin_35 ?_
      refine lv_iload hx hb dX5_layJoin_38 (lv_at hl 0 rfl) ?_
      refine va_iald hx hb hK hP 5 1 rfl rfl (vp_in_nI (by omega) (by omega)) dX5_layJoin_40 ?_
      refine xb_top (y := gq i) (by rw [nI_clamp (by omega)]) ?_
      obtain ⟨q_15, hq_15, eq_15⟩ := hF_h_10 i (by omega)
      refine xb_top (y := nI q_15) eq_15 ?_
      refine lv_iload hx hb dX5_layJoin_41 (lv_at hl 5 rfl) ?_
      refine lv_icmp_ne (tgt := 54) hx hb dX5_layJoin_43 (by decide) (fun c_16 => ?_) (fun c_16 => ?_)
      · have dc_16 : ¬ q_15 = t1 := fun h => c_16 ((nI_eq (a := q_15) (b := t1) (by omega) (by omega)).mpr h)
        refine lv_aload_n hx hb dX5_layJoin_54 rfl (lv_at hl 1 rfl) ?_
        refine lv_aload_n hx hb dX5_layJoin_55 rfl (lv_at hl 2 rfl) ?_
        refine lv_aload_n hx hb dX5_layJoin_56 rfl (lv_at hl 2 rfl) ?_
        refine va_getN (D := D) (ci := 8) (v := .ref k_followers) (C := RX8) (T := TX8) (N := 16) hx hb hts (by decide +kernel) hown hK hP 6 rfl rfl 10 (by decide) (va_Nw.use rfl (hN.1 (RX5, 33, RX8, "followers", "[I", RX10) (by decide +kernel))) (fun _ h9 => h9) rfl dX5_layJoin_57 ?_
        refine lv_aload_n hx hb dX5_layJoin_60 rfl (lv_at hl 1 rfl) ?_
        refine va_get (D := D) (ci := 5) (v := .ref se_queue) (C := RX5) (T := TX5) (N := 3) hx hb hts (by decide +kernel) hown hK hP 3 rfl rfl 1 (by decide) (hts (.fieldLink RX5 15 "LastLetter$Search" "queue" "[I") (by decide +kernel)) (fun _ h9 => h9) rfl dX5_layJoin_61 ?_
        refine lv_iload hx hb dX5_layJoin_64 (lv_at hl 0 rfl) ?_
        refine va_iald hx hb hK hP 5 1 rfl rfl (vp_in_nI (by omega) (by omega)) dX5_layJoin_66 ?_
        refine xb_top (y := gq i) (by rw [nI_clamp (by omega)]) ?_
        obtain ⟨q_17, hq_17, eq_17⟩ := hF_h_10 i (by omega)
        refine xb_top (y := nI q_17) eq_17 ?_
        refine va_iald hx hb hK hP 2 1 rfl rfl (vp_in_nI (by omega) (by omega)) dX5_layJoin_67 ?_
        refine xb_top (y := f_followers q_17) (by rw [nI_clamp (by omega)]) ?_
        refine lv_aload_n hx hb dX5_layJoin_68 rfl (lv_at hl 1 rfl) ?_
        refine va_get (D := D) (ci := 5) (v := .ref se_queue) (C := RX5) (T := TX5) (N := 3) hx hb hts (by decide +kernel) hown hK hP 3 rfl rfl 1 (by decide) (hts (.fieldLink RX5 15 "LastLetter$Search" "queue" "[I") (by decide +kernel)) (fun _ h9 => h9) rfl dX5_layJoin_69 ?_
        refine lv_iload hx hb dX5_layJoin_72 (lv_at hl 0 rfl) ?_
        refine va_iald hx hb hK hP 5 1 rfl rfl (vp_in_nI (by omega) (by omega)) dX5_layJoin_74 ?_
        refine xb_top (y := gq i) (by rw [nI_clamp (by omega)]) ?_
        obtain ⟨q_18, hq_18, eq_18⟩ := hF_h_10 i (by omega)
        refine xb_top (y := nI q_18) eq_18 ?_
        refine lv_iconst (v := 0) hx hb dX5_layJoin_75 (by decide) ?_
        refine xCv (wr := [(ra, .inr (4, [.ref rw_items, .int (nI rz)])), (rw_items, .inl (cI, 160, .inl fi)), (k_followers, .inl (cI, 24, .inl f_followers))]) (win := [(o, .inr (5, [.ref se_ahead, .ref se_queue, .int (nI qd2)])), (se_ahead, .inl (cI, 1536, .inl ga)), (se_queue, .inl (cI, 1536, .inl gq)), (t, .inr (8, [.ref k_name, .ref k_worth, .ref k_times, .ref k_first, .ref k_second, .ref k_beforeLast, .ref k_last, .ref k_errandOf, .ref k_errandAfter, .ref k_sound, .ref k_followers, .ref k_leaders, .int (nI w), .int k_errands, .int k_alikes, .int k_law]))]) hP hD hS hA [3, 4, 5, 6] [0, 1, 2] rfl rfl (by decide) (by decide) (va_runV (As := [.ref t, .int (f_followers q_17), .int (nI q_18), .int 0]) (rest := []) ⟨hx, hb, hml, hown, hts⟩ (c_X5_enter_0 l D cB cI cJ cS cZ cO H.size o t (f_followers q_17) (nI q_18) se_ahead se_queue qd2 ga gq k_name k_worth k_times k_first k_second k_beforeLast k_last k_errandOf k_errandAfter k_sound k_followers k_leaders w k_errands k_alikes k_law (by first | assumption | omega) (by first | assumption | omega) (by first | assumption | omega) (by first | assumption | omega) (Or.inr ⟨q_18, by omega, rfl⟩)) (cwV 4 hts gX5_layJoin_X5_enter rfl rfl rfl (by decide +kernel) ⟨Nat.le_of_ble_eq_true rfl, Nat.le_of_ble_eq_true rfl⟩) (xPreV (win := [(o, .inr (5, [.ref se_ahead, .ref se_queue, .int (nI qd2)])), (se_ahead, .inl (cI, 1536, .inl ga)), (se_queue, .inl (cI, 1536, .inl gq)), (t, .inr (8, [.ref k_name, .ref k_worth, .ref k_times, .ref k_first, .ref k_second, .ref k_beforeLast, .ref k_last, .ref k_errandOf, .ref k_errandAfter, .ref k_sound, .ref k_followers, .ref k_leaders, .int (nI w), .int k_errands, .int k_alikes, .int k_law]))]) hN hK hP hD [3, 4, 5, 6] (by decide) rfl 3 5 rfl rfl rfl) rfl rfl hl.1 rfl (lv_room (Nat.le_of_ble_eq_true rfl)) dX5_layJoin_76 ⟨Nat.le_of_ble_eq_true rfl, Nat.le_of_ble_eq_true rfl⟩) (fun w0 H locs hw hP hD hS => ?_)
        obtain ⟨qd2_19, ga_20, gq_21, rfl, hf_22, hf_23, hf_24⟩ := hw
        have hP : va_P D vwCl [(ra, .inr (4, [.ref rw_items, .int (nI rz)])), (rw_items, .inl (cI, 160, .inl fi)), (k_followers, .inl (cI, 24, .inl f_followers)), (o, .inr (5, [.ref se_ahead, .ref se_queue, .int (nI qd2_19)])), (se_ahead, .inl (cI, 1536, .inl ga_20)), (se_queue, .inl (cI, 1536, .inl gq_21)), (t, .inr (8, [.ref k_name, .ref k_worth, .ref k_times, .ref k_first, .ref k_second, .ref k_beforeLast, .ref k_last, .ref k_errandOf, .ref k_errandAfter, .ref k_sound, .ref k_followers, .ref k_leaders, .int (nI w), .int k_errands, .int k_alikes, .int k_law]))] H := hP
        have hD : va_D A [(ra, .inr (4, [.ref rw_items, .int (nI rz)])), (rw_items, .inl (cI, 160, .inl fi)), (k_followers, .inl (cI, 24, .inl f_followers)), (o, .inr (5, [.ref se_ahead, .ref se_queue, .int (nI qd2_19)])), (se_ahead, .inl (cI, 1536, .inl ga_20)), (se_queue, .inl (cI, 1536, .inl gq_21)), (t, .inr (8, [.ref k_name, .ref k_worth, .ref k_times, .ref k_first, .ref k_second, .ref k_beforeLast, .ref k_last, .ref k_errandOf, .ref k_errandAfter, .ref k_sound, .ref k_followers, .ref k_leaders, .int (nI w), .int k_errands, .int k_alikes, .int k_law]))] := hD
        refine lv_iinc (v := nI (i + 1)) (lv' := [(5, .int (nI (i + 1))), (0, .ref o), (1, .ref t), (2, .ref ra), (3, .int x), (4, .int (nI t1))]) hx hb dX5_layJoin_79 hl (k := 0) rfl (nI_1 i) (by decide) rfl (fun ls hl => ?_)
        refine lv_goto (tgt := 17) hx hb dX5_layJoin_82 (by decide) ?_
        exact kk_17 _ _ _ _ (by rw [← hn_17]; omega) ⟨(i + 1), qd2_19, ga_20, gq_21, rfl, hP, hD, hS, lv_sub hl [0, 1, 2, 3, 4, 5] rfl, hf_22, hf_23, hf_24, (by first | assumption | omega)⟩
      · have dc_16 : q_15 = t1 := (nI_eq (a := q_15) (b := t1) (by omega) (by omega)).mp c_16
        refine lv_aload_n hx hb dX5_layJoin_46 rfl (lv_at hl 1 rfl) ?_
        refine lv_aload_n hx hb dX5_layJoin_47 rfl (lv_at hl 3 rfl) ?_
        refine lv_iload hx hb dX5_layJoin_48 (lv_at hl 5 rfl) ?_
        refine xCi (wr := [(k_followers, .inl (cI, 24, .inl f_followers)), (se_queue, .inl (cI, 1536, .inl gq)), (t, .inr (8, [.ref k_name, .ref k_worth, .ref k_times, .ref k_first, .ref k_second, .ref k_beforeLast, .ref k_last, .ref k_errandOf, .ref k_errandAfter, .ref k_sound, .ref k_followers, .ref k_leaders, .int (nI w), .int k_errands, .int k_alikes, .int k_law]))]) (win := [(o, .inr (5, [.ref se_ahead, .ref se_queue, .int (nI qd2)])), (se_ahead, .inl (cI, 1536, .inl ga)), (ra, .inr (4, [.ref rw_items, .int (nI rz)])), (rw_items, .inl (cI, 160, .inl fi))]) hP hD hS hA [3, 4, 0, 1] [2, 5, 6] rfl rfl (by decide) (by decide) (va_runV (As := [.ref ra, .int (nI t1)]) (rest := []) ⟨hx, hb, hml, hown, hts⟩ (c_X5_lay l D cB cI cJ cS cZ cO H.size o ra t1 se_ahead se_queue (nI qd2) ga rw_items rz fi (by first | assumption | omega | decide) (by first | assumption | omega | decide) (by first | assumption | omega | decide)) (cwV 2 hts gX5_layJoin_X5_lay rfl rfl rfl (by decide +kernel) ⟨Nat.le_of_ble_eq_true rfl, Nat.le_of_ble_eq_true rfl⟩) (xPreV (win := [(o, .inr (5, [.ref se_ahead, .ref se_queue, .int (nI qd2)])), (se_ahead, .inl (cI, 1536, .inl ga)), (ra, .inr (4, [.ref rw_items, .int (nI rz)])), (rw_items, .inl (cI, 160, .inl fi))]) hN hK hP hD [3, 4, 0, 1] (by decide) rfl 3 5 rfl rfl rfl) rfl rfl hl.1 rfl (lv_room (Nat.le_of_ble_eq_true rfl)) dX5_layJoin_50 ⟨Nat.le_of_ble_eq_true rfl, Nat.le_of_ble_eq_true rfl⟩) (fun r_25 w0 H locs hw hP hD hS => ?_)
        obtain ⟨rz2_26, g_27, rfl, hf_28⟩ := hw
        have hP : va_P D vwCl [(k_followers, .inl (cI, 24, .inl f_followers)), (se_queue, .inl (cI, 1536, .inl gq)), (t, .inr (8, [.ref k_name, .ref k_worth, .ref k_times, .ref k_first, .ref k_second, .ref k_beforeLast, .ref k_last, .ref k_errandOf, .ref k_errandAfter, .ref k_sound, .ref k_followers, .ref k_leaders, .int (nI w), .int k_errands, .int k_alikes, .int k_law])), (o, .inr (5, [.ref se_ahead, .ref se_queue, .int (nI qd2)])), (se_ahead, .inl (cI, 1536, .inl ga)), (ra, .inr (4, [.ref rw_items, .int (nI rz2_26)])), (rw_items, .inl (cI, 160, .inl g_27))] H := hP
        have hD : va_D A [(k_followers, .inl (cI, 24, .inl f_followers)), (se_queue, .inl (cI, 1536, .inl gq)), (t, .inr (8, [.ref k_name, .ref k_worth, .ref k_times, .ref k_first, .ref k_second, .ref k_beforeLast, .ref k_last, .ref k_errandOf, .ref k_errandAfter, .ref k_sound, .ref k_followers, .ref k_leaders, .int (nI w), .int k_errands, .int k_alikes, .int k_law])), (o, .inr (5, [.ref se_ahead, .ref se_queue, .int (nI qd2)])), (se_ahead, .inl (cI, 1536, .inl ga)), (ra, .inr (4, [.ref rw_items, .int (nI rz2_26)])), (rw_items, .inl (cI, 160, .inl g_27))] := hD
        have hP9 := hP.sub (ws' := [(o, .inr (5, [.ref se_ahead, .ref se_queue, .int (nI qd2)])), (se_ahead, .inl (cI, 1536, .inl ga)), (se_queue, .inl (cI, 1536, .inl gq)), (ra, .inr (4, [.ref rw_items, .int (nI rz2_26)])), (rw_items, .inl (cI, 160, .inl g_27)), (t, .inr (8, [.ref k_name, .ref k_worth, .ref k_times, .ref k_first, .ref k_second, .ref k_beforeLast, .ref k_last, .ref k_errandOf, .ref k_errandAfter, .ref k_sound, .ref k_followers, .ref k_leaders, .int (nI w), .int k_errands, .int k_alikes, .int k_law])), (k_followers, .inl (cI, 24, .inl f_followers))]) [3, 4, 1, 5, 6, 2, 0] rfl
        have hD9 := hD.sub (ws' := [(o, .inr (5, [.ref se_ahead, .ref se_queue, .int (nI qd2)])), (se_ahead, .inl (cI, 1536, .inl ga)), (se_queue, .inl (cI, 1536, .inl gq)), (ra, .inr (4, [.ref rw_items, .int (nI rz2_26)])), (rw_items, .inl (cI, 160, .inl g_27)), (t, .inr (8, [.ref k_name, .ref k_worth, .ref k_times, .ref k_first, .ref k_second, .ref k_beforeLast, .ref k_last, .ref k_errandOf, .ref k_errandAfter, .ref k_sound, .ref k_followers, .ref k_leaders, .int (nI w), .int k_errands, .int k_alikes, .int k_law])), (k_followers, .inl (cI, 24, .inl f_followers))]) [3, 4, 1, 5, 6, 2, 0] (by decide) rfl
        refine W.widen (k := 0) (n := 0) (Nat.le_of_ble_eq_true rfl) (Nat.le_of_ble_eq_true rfl) ?_
        exact W.iret (v := r_25) hx hb hr (fun tz htz hWz => ⟨⟨r_25, [(o, .inr (5, [.ref se_ahead, .ref se_queue, .int (nI qd2)])), (se_ahead, .inl (cI, 1536, .inl ga)), (se_queue, .inl (cI, 1536, .inl gq)), (ra, .inr (4, [.ref rw_items, .int (nI rz2_26)])), (rw_items, .inl (cI, 160, .inl g_27)), (t, .inr (8, [.ref k_name, .ref k_worth, .ref k_times, .ref k_first, .ref k_second, .ref k_beforeLast, .ref k_last, .ref k_errandOf, .ref k_errandAfter, .ref k_sound, .ref k_followers, .ref k_leaders, .int (nI w), .int k_errands, .int k_alikes, .int k_law])), (k_followers, .inl (cI, 24, .inl f_followers))], rfl, ⟨(nI qd2), rz2_26, ga, gq, g_27, rfl, hf_28⟩, by rw [htz]; exact hP9, va_K.moved hWz.alike hK, hD9⟩, hS.F htz⟩) hS.2.2 dX5_layJoin_53

set_option maxHeartbeats 4000000 in
set_option maxRecDepth 100000 in
theorem c_X5_layTelling (l : Launch) (D : va_G) (cB cI cJ cS cZ cO : ClassId) (sz : Nat) (o : Nat) (t : Nat) (ra : Nat) (se_ahead : Nat) (se_queue : Nat) (se_queued : Int32) (fa : Nat → Int32) (fq : Nat → Int32) (rw_items : Nat) (rz : Nat) (fi : Nat → Int32) (k_name : Nat) (k_worth : Nat) (k_times : Nat) (k_first : Nat) (k_second : Nat) (k_beforeLast : Nat) (k_last : Nat) (k_errandOf : Nat) (k_errandAfter : Nat) (k_sound : Nat) (k_followers : Nat) (k_leaders : Nat) (w : Nat) (k_errands : Int32) (k_alikes : Int32) (k_law : Int32) (f_followers : Nat → Int32) (f_errandOf : Nat → Int32) (f_errandAfter : Nat → Int32) (hw : w ≤ 24) (hrz : rz ≤ 160) (hm : rgM f_errandOf 24 6) : Met l yX5_layTelling wsX5_layTelling ({ frames := 3, cells := 0, slots := 0, locals := 73 }) (xPre D (tyL cB cI cJ cS cZ cO) [(o, .inr (5, [.ref se_ahead, .ref se_queue, .int se_queued])), (se_ahead, .inl (cI, 1536, .inl fa)), (se_queue, .inl (cI, 1536, .inl fq)), (ra, .inr (4, [.ref rw_items, .int (nI rz)])), (rw_items, .inl (cI, 160, .inl fi)), (t, .inr (8, [.ref k_name, .ref k_worth, .ref k_times, .ref k_first, .ref k_second, .ref k_beforeLast, .ref k_last, .ref k_errandOf, .ref k_errandAfter, .ref k_sound, .ref k_followers, .ref k_leaders, .int (nI w), .int k_errands, .int k_alikes, .int k_law])), (k_followers, .inl (cI, 24, .inl f_followers)), (k_errandOf, .inl (cI, 24, .inl f_errandOf)), (k_errandAfter, .inl (cI, 6, .inl f_errandAfter))] sz [.ref o, .ref t, .ref ra]) (xQi D (tyL cB cI cJ cS cZ cO) (va_A [(o, .inr (5, [.ref se_ahead, .ref se_queue, .int se_queued])), (se_ahead, .inl (cI, 1536, .inl fa)), (se_queue, .inl (cI, 1536, .inl fq)), (ra, .inr (4, [.ref rw_items, .int (nI rz)])), (rw_items, .inl (cI, 160, .inl fi)), (t, .inr (8, [.ref k_name, .ref k_worth, .ref k_times, .ref k_first, .ref k_second, .ref k_beforeLast, .ref k_last, .ref k_errandOf, .ref k_errandAfter, .ref k_sound, .ref k_followers, .ref k_leaders, .int (nI w), .int k_errands, .int k_alikes, .int k_law])), (k_followers, .inl (cI, 24, .inl f_followers)), (k_errandOf, .inl (cI, 24, .inl f_errandOf)), (k_errandAfter, .inl (cI, 6, .inl f_errandAfter))] sz) (fun (r : Int32) (u : va_W) => ∃ qv : Int32, ∃ rz2 : Nat, ∃ ga : Nat → Int32, ∃ gq : Nat → Int32, ∃ g : Nat → Int32, u = [(o, .inr (5, [.ref se_ahead, .ref se_queue, .int qv])), (se_ahead, .inl (cI, 1536, .inl ga)), (se_queue, .inl (cI, 1536, .inl gq)), (ra, .inr (4, [.ref rw_items, .int (nI rz2)])), (rw_items, .inl (cI, 160, .inl g)), (t, .inr (8, [.ref k_name, .ref k_worth, .ref k_times, .ref k_first, .ref k_second, .ref k_beforeLast, .ref k_last, .ref k_errandOf, .ref k_errandAfter, .ref k_sound, .ref k_followers, .ref k_leaders, .int (nI w), .int k_errands, .int k_alikes, .int k_law])), (k_followers, .inl (cI, 24, .inl f_followers)), (k_errandOf, .inl (cI, 24, .inl f_errandOf)), (k_errandAfter, .inl (cI, 6, .inl f_errandAfter))] ∧ rz2 ≤ 160)) 0 0 (va_A [(o, .inr (5, [.ref se_ahead, .ref se_queue, .int se_queued])), (se_ahead, .inl (cI, 1536, .inl fa)), (se_queue, .inl (cI, 1536, .inl fq)), (ra, .inr (4, [.ref rw_items, .int (nI rz)])), (rw_items, .inl (cI, 160, .inl fi)), (t, .inr (8, [.ref k_name, .ref k_worth, .ref k_times, .ref k_first, .ref k_second, .ref k_beforeLast, .ref k_last, .ref k_errandOf, .ref k_errandAfter, .ref k_sound, .ref k_followers, .ref k_leaders, .int (nI w), .int k_errands, .int k_alikes, .int k_law])), (k_followers, .inl (cI, 24, .inl f_followers)), (k_errandOf, .inl (cI, 24, .inl f_errandOf)), (k_errandAfter, .inl (cI, 6, .inl f_errandAfter))] sz) := by
  refine Met.ofW (cc := cX5_layTelling) (maxL := 5) (ret := (some .int)) (by decide) rfl ?_
  intro p e s m args below meth c s₁ B hml hv
  obtain ⟨rfl, hsz, hP, hK, hD0, hN⟩ := hv
  have hx := B.exec
  have hb := B.bytes
  have hr := B.returns
  have hts := atoms_spec (ws := wsX5_layTelling) B.pre
  have hown : s.vm.findClass RX5 = some m.cls := findClass_of_methodNamed B.named
  have hlocks := B.notSynchronized
  subst hsz
  have hD := hD0.self (sz := s.heap.size)
  generalize hAe : va_A [(o, .inr (5, [.ref se_ahead, .ref se_queue, .int se_queued])), (se_ahead, .inl (cI, 1536, .inl fa)), (se_queue, .inl (cI, 1536, .inl fq)), (ra, .inr (4, [.ref rw_items, .int (nI rz)])), (rw_items, .inl (cI, 160, .inl fi)), (t, .inr (8, [.ref k_name, .ref k_worth, .ref k_times, .ref k_first, .ref k_second, .ref k_beforeLast, .ref k_last, .ref k_errandOf, .ref k_errandAfter, .ref k_sound, .ref k_followers, .ref k_leaders, .int (nI w), .int k_errands, .int k_alikes, .int k_law])), (k_followers, .inl (cI, 24, .inl f_followers)), (k_errandOf, .inl (cI, 24, .inl f_errandOf)), (k_errandAfter, .inl (cI, 6, .inl f_errandAfter))] s.heap.size = A at hD ⊢
  have hA : ∀ q : Nat, s.heap.size ≤ q → A q := fun q h => by rw [← hAe]; exact Or.inr h
  have hS : va_S A s.heap s.heap [] := va_S.rf
  have hP : va_P D vwCl [(o, .inr (5, [.ref se_ahead, .ref se_queue, .int se_queued])), (se_ahead, .inl (cI, 1536, .inl fa)), (se_queue, .inl (cI, 1536, .inl fq)), (ra, .inr (4, [.ref rw_items, .int (nI rz)])), (rw_items, .inl (cI, 160, .inl fi)), (t, .inr (8, [.ref k_name, .ref k_worth, .ref k_times, .ref k_first, .ref k_second, .ref k_beforeLast, .ref k_last, .ref k_errandOf, .ref k_errandAfter, .ref k_sound, .ref k_followers, .ref k_leaders, .int (nI w), .int k_errands, .int k_alikes, .int k_law])), (k_followers, .inl (cI, 24, .inl f_followers)), (k_errandOf, .inl (cI, 24, .inl f_errandOf)), (k_errandAfter, .inl (cI, 6, .inl f_errandAfter))] s.heap := hP
  have hl := lv_entry ([.ref o, .ref t, .ref ra]) (n := 5) (Nat.le_of_ble_eq_true rfl)
  rw [lg_entry_eq]
  generalize (lg_sl ([.ref o, .ref t, .ref ra]) ++ List.replicate (5 - (lg_sl ([.ref o, .ref t, .ref ra])).length) Slot.unset).toArray = ls at hl ⊢
  have hl : lv_has ls 5 [(0, .ref o), (1, .ref t), (2, .ref ra)] := hl
  refine lv_iconst (v := 1) hx hb dX5_layTelling_0 (by decide) ?_
  refine lv_aload_n hx hb dX5_layTelling_1 rfl (lv_at hl 1 rfl) ?_
  refine va_getN (D := D) (ci := 8) (v := .int k_errands) (C := RX8) (T := TX8) (N := 16) hx hb hts (by decide +kernel) hown hK hP 5 rfl rfl 13 (by decide) (va_Nw.use rfl (hN.1 (RX5, 38, RX8, "errands", "I", RX10) (by decide +kernel))) (fun _ h9 => h9) rfl dX5_layTelling_2 ?_
  refine lv_ishl hx hb dX5_layTelling_5 ?_
  refine lv_iconst (v := 1) hx hb dX5_layTelling_6 (by decide) ?_
  refine lv_isub hx hb dX5_layTelling_7 ?_
  refine lv_topi (fun v_1 ev_1 => ?_)
  refine lv_istore_n (lv' := [(3, .int v_1), (0, .ref o), (1, .ref t), (2, .ref ra)]) hx hb dX5_layTelling_8 rfl hl (by decide) rfl (fun ls hl => ?_)
  refine lv_aload_n hx hb dX5_layTelling_9 rfl (lv_at hl 1 rfl) ?_
  refine xCv (wr := [(se_queue, .inl (cI, 1536, .inl fq)), (ra, .inr (4, [.ref rw_items, .int (nI rz)])), (rw_items, .inl (cI, 160, .inl fi)), (t, .inr (8, [.ref k_name, .ref k_worth, .ref k_times, .ref k_first, .ref k_second, .ref k_beforeLast, .ref k_last, .ref k_errandOf, .ref k_errandAfter, .ref k_sound, .ref k_followers, .ref k_leaders, .int (nI w), .int k_errands, .int k_alikes, .int k_law])), (k_followers, .inl (cI, 24, .inl f_followers)), (k_errandOf, .inl (cI, 24, .inl f_errandOf)), (k_errandAfter, .inl (cI, 6, .inl f_errandAfter))]) (win := [(o, .inr (5, [.ref se_ahead, .ref se_queue, .int se_queued])), (se_ahead, .inl (cI, 1536, .inl fa))]) hP hD hS hA [0, 1] [2, 3, 4, 5, 6, 7, 8] rfl rfl (by decide) (by decide) (va_runV (As := []) (rest := []) ⟨hx, hb, hml, hown, hts⟩ (c_X5_begin l D cB cI cJ cS cZ cO s.heap.size o se_ahead se_queue se_queued fa ) (cwV 0 hts gX5_layTelling_X5_begin rfl rfl rfl (by decide +kernel) ⟨Nat.le_of_ble_eq_true rfl, Nat.le_of_ble_eq_true rfl⟩) (xPreV (win := [(o, .inr (5, [.ref se_ahead, .ref se_queue, .int se_queued])), (se_ahead, .inl (cI, 1536, .inl fa))]) hN hK hP hD [0, 1] (by decide) rfl 0 5 rfl rfl rfl) rfl rfl hl.1 rfl (lv_room (Nat.le_of_ble_eq_true rfl)) dX5_layTelling_10 ⟨Nat.le_of_ble_eq_true rfl, Nat.le_of_ble_eq_true rfl⟩) (fun w0 H locs hw hP hD hS => ?_)
  obtain ⟨ga_2, rfl, hf_3⟩ := hw
  have hP : va_P D vwCl [(se_queue, .inl (cI, 1536, .inl fq)), (ra, .inr (4, [.ref rw_items, .int (nI rz)])), (rw_items, .inl (cI, 160, .inl fi)), (t, .inr (8, [.ref k_name, .ref k_worth, .ref k_times, .ref k_first, .ref k_second, .ref k_beforeLast, .ref k_last, .ref k_errandOf, .ref k_errandAfter, .ref k_sound, .ref k_followers, .ref k_leaders, .int (nI w), .int k_errands, .int k_alikes, .int k_law])), (k_followers, .inl (cI, 24, .inl f_followers)), (k_errandOf, .inl (cI, 24, .inl f_errandOf)), (k_errandAfter, .inl (cI, 6, .inl f_errandAfter)), (o, .inr (5, [.ref se_ahead, .ref se_queue, .int 0])), (se_ahead, .inl (cI, 1536, .inl ga_2))] H := hP
  have hD : va_D A [(se_queue, .inl (cI, 1536, .inl fq)), (ra, .inr (4, [.ref rw_items, .int (nI rz)])), (rw_items, .inl (cI, 160, .inl fi)), (t, .inr (8, [.ref k_name, .ref k_worth, .ref k_times, .ref k_first, .ref k_second, .ref k_beforeLast, .ref k_last, .ref k_errandOf, .ref k_errandAfter, .ref k_sound, .ref k_followers, .ref k_leaders, .int (nI w), .int k_errands, .int k_alikes, .int k_law])), (k_followers, .inl (cI, 24, .inl f_followers)), (k_errandOf, .inl (cI, 24, .inl f_errandOf)), (k_errandAfter, .inl (cI, 6, .inl f_errandAfter)), (o, .inr (5, [.ref se_ahead, .ref se_queue, .int 0])), (se_ahead, .inl (cI, 1536, .inl ga_2))] := hD
  refine lv_aload_n hx hb dX5_layTelling_13 rfl (lv_at hl 1 rfl) ?_
  refine lv_aload_n hx hb dX5_layTelling_14 rfl (lv_at hl 2 rfl) ?_
  refine lv_aload_n hx hb dX5_layTelling_15 rfl (lv_at hl 2 rfl) ?_
  refine xCi (wr := [(se_queue, .inl (cI, 1536, .inl fq)), (ra, .inr (4, [.ref rw_items, .int (nI rz)])), (rw_items, .inl (cI, 160, .inl fi)), (k_followers, .inl (cI, 24, .inl f_followers)), (k_errandOf, .inl (cI, 24, .inl f_errandOf)), (k_errandAfter, .inl (cI, 6, .inl f_errandAfter)), (o, .inr (5, [.ref se_ahead, .ref se_queue, .int 0])), (se_ahead, .inl (cI, 1536, .inl ga_2))]) (win := [(t, .inr (8, [.ref k_name, .ref k_worth, .ref k_times, .ref k_first, .ref k_second, .ref k_beforeLast, .ref k_last, .ref k_errandOf, .ref k_errandAfter, .ref k_sound, .ref k_followers, .ref k_leaders, .int (nI w), .int k_errands, .int k_alikes, .int k_law]))]) hP hD hS hA [3] [0, 1, 2, 4, 5, 6, 7, 8] rfl rfl (by decide) (by decide) (va_runV (As := []) (rest := [.ref t, .ref o]) ⟨hx, hb, hml, hown, hts⟩ (c_X8_everyWord l D cB cI cJ cS cZ cO H.size t k_name k_worth k_times k_first k_second k_beforeLast k_last k_errandOf k_errandAfter k_sound k_followers k_leaders w k_errands k_alikes k_law (by first | assumption | omega | decide)) (cwV 0 hts gX5_layTelling_X8_everyWord rfl rfl rfl (by decide +kernel) ⟨Nat.le_of_ble_eq_true rfl, Nat.le_of_ble_eq_true rfl⟩) (xPreV (win := [(t, .inr (8, [.ref k_name, .ref k_worth, .ref k_times, .ref k_first, .ref k_second, .ref k_beforeLast, .ref k_last, .ref k_errandOf, .ref k_errandAfter, .ref k_sound, .ref k_followers, .ref k_leaders, .int (nI w), .int k_errands, .int k_alikes, .int k_law]))]) hN hK hP hD [3] (by decide) rfl 3 8 rfl rfl rfl) rfl rfl hl.1 rfl (lv_room (Nat.le_of_ble_eq_true rfl)) dX5_layTelling_16 ⟨Nat.le_of_ble_eq_true rfl, Nat.le_of_ble_eq_true rfl⟩) (fun r0 w0 H locs hw hP hD hS => ?_)
  obtain ⟨rfl, rfl⟩ := hw
  have hP : va_P D vwCl [(se_queue, .inl (cI, 1536, .inl fq)), (ra, .inr (4, [.ref rw_items, .int (nI rz)])), (rw_items, .inl (cI, 160, .inl fi)), (k_followers, .inl (cI, 24, .inl f_followers)), (k_errandOf, .inl (cI, 24, .inl f_errandOf)), (k_errandAfter, .inl (cI, 6, .inl f_errandAfter)), (o, .inr (5, [.ref se_ahead, .ref se_queue, .int 0])), (se_ahead, .inl (cI, 1536, .inl ga_2)), (t, .inr (8, [.ref k_name, .ref k_worth, .ref k_times, .ref k_first, .ref k_second, .ref k_beforeLast, .ref k_last, .ref k_errandOf, .ref k_errandAfter, .ref k_sound, .ref k_followers, .ref k_leaders, .int (nI w), .int k_errands, .int k_alikes, .int k_law]))] H := hP
  have hD : va_D A [(se_queue, .inl (cI, 1536, .inl fq)), (ra, .inr (4, [.ref rw_items, .int (nI rz)])), (rw_items, .inl (cI, 160, .inl fi)), (k_followers, .inl (cI, 24, .inl f_followers)), (k_errandOf, .inl (cI, 24, .inl f_errandOf)), (k_errandAfter, .inl (cI, 6, .inl f_errandAfter)), (o, .inr (5, [.ref se_ahead, .ref se_queue, .int 0])), (se_ahead, .inl (cI, 1536, .inl ga_2)), (t, .inr (8, [.ref k_name, .ref k_worth, .ref k_times, .ref k_first, .ref k_second, .ref k_beforeLast, .ref k_last, .ref k_errandOf, .ref k_errandAfter, .ref k_sound, .ref k_followers, .ref k_leaders, .int (nI w), .int k_errands, .int k_alikes, .int k_law]))] := hD
  refine lv_iconst (v := (-1)) hx hb dX5_layTelling_19 (by decide) ?_
  refine lv_iconst (v := 1) hx hb dX5_layTelling_20 (by decide) ?_
  refine xCv (wr := [(ra, .inr (4, [.ref rw_items, .int (nI rz)])), (rw_items, .inl (cI, 160, .inl fi)), (k_followers, .inl (cI, 24, .inl f_followers))]) (win := [(o, .inr (5, [.ref se_ahead, .ref se_queue, .int 0])), (se_ahead, .inl (cI, 1536, .inl ga_2)), (se_queue, .inl (cI, 1536, .inl fq)), (t, .inr (8, [.ref k_name, .ref k_worth, .ref k_times, .ref k_first, .ref k_second, .ref k_beforeLast, .ref k_last, .ref k_errandOf, .ref k_errandAfter, .ref k_sound, .ref k_followers, .ref k_leaders, .int (nI w), .int k_errands, .int k_alikes, .int k_law])), (k_errandOf, .inl (cI, 24, .inl f_errandOf)), (k_errandAfter, .inl (cI, 6, .inl f_errandAfter))]) hP hD hS hA [6, 7, 0, 8, 4, 5] [1, 2, 3] rfl rfl (by decide) (by decide) (va_runV (As := [.ref t, .int (nI (2 ^ w - 1)), .int (-1), .int 1]) (rest := []) ⟨hx, hb, hml, hown, hts⟩ (c_X5_enter_1 l D cB cI cJ cS cZ cO H.size o t (nI (2 ^ w - 1)) (-1) se_ahead se_queue 0 ga_2 fq k_name k_worth k_times k_first k_second k_beforeLast k_last k_errandOf k_errandAfter k_sound k_followers k_leaders w k_errands k_alikes k_law f_errandOf f_errandAfter (by first | assumption | omega) (by first | assumption | omega) (fun j h => absurd h (Nat.not_lt_zero j)) hf_3 (Or.inl rfl) hm) (cwV 4 hts gX5_layTelling_X5_enter rfl rfl rfl (by decide +kernel) ⟨Nat.le_of_ble_eq_true rfl, Nat.le_of_ble_eq_true rfl⟩) (xPreV (win := [(o, .inr (5, [.ref se_ahead, .ref se_queue, .int 0])), (se_ahead, .inl (cI, 1536, .inl ga_2)), (se_queue, .inl (cI, 1536, .inl fq)), (t, .inr (8, [.ref k_name, .ref k_worth, .ref k_times, .ref k_first, .ref k_second, .ref k_beforeLast, .ref k_last, .ref k_errandOf, .ref k_errandAfter, .ref k_sound, .ref k_followers, .ref k_leaders, .int (nI w), .int k_errands, .int k_alikes, .int k_law])), (k_errandOf, .inl (cI, 24, .inl f_errandOf)), (k_errandAfter, .inl (cI, 6, .inl f_errandAfter))]) hN hK hP hD [6, 7, 0, 8, 4, 5] (by decide) rfl 6 5 rfl rfl rfl) rfl rfl hl.1 rfl (lv_room (Nat.le_of_ble_eq_true rfl)) dX5_layTelling_21 ⟨Nat.le_of_ble_eq_true rfl, Nat.le_of_ble_eq_true rfl⟩) (fun w0 H locs hw hP hD hS => ?_)
  obtain ⟨qd2_4, ga_5, gq_6, rfl, hf_7, hf_8, hf_9⟩ := hw
  have hP : va_P D vwCl [(ra, .inr (4, [.ref rw_items, .int (nI rz)])), (rw_items, .inl (cI, 160, .inl fi)), (k_followers, .inl (cI, 24, .inl f_followers)), (o, .inr (5, [.ref se_ahead, .ref se_queue, .int (nI qd2_4)])), (se_ahead, .inl (cI, 1536, .inl ga_5)), (se_queue, .inl (cI, 1536, .inl gq_6)), (t, .inr (8, [.ref k_name, .ref k_worth, .ref k_times, .ref k_first, .ref k_second, .ref k_beforeLast, .ref k_last, .ref k_errandOf, .ref k_errandAfter, .ref k_sound, .ref k_followers, .ref k_leaders, .int (nI w), .int k_errands, .int k_alikes, .int k_law])), (k_errandOf, .inl (cI, 24, .inl f_errandOf)), (k_errandAfter, .inl (cI, 6, .inl f_errandAfter))] H := hP
  have hD : va_D A [(ra, .inr (4, [.ref rw_items, .int (nI rz)])), (rw_items, .inl (cI, 160, .inl fi)), (k_followers, .inl (cI, 24, .inl f_followers)), (o, .inr (5, [.ref se_ahead, .ref se_queue, .int (nI qd2_4)])), (se_ahead, .inl (cI, 1536, .inl ga_5)), (se_queue, .inl (cI, 1536, .inl gq_6)), (t, .inr (8, [.ref k_name, .ref k_worth, .ref k_times, .ref k_first, .ref k_second, .ref k_beforeLast, .ref k_last, .ref k_errandOf, .ref k_errandAfter, .ref k_sound, .ref k_followers, .ref k_leaders, .int (nI w), .int k_errands, .int k_alikes, .int k_law])), (k_errandOf, .inl (cI, 24, .inl f_errandOf)), (k_errandAfter, .inl (cI, 6, .inl f_errandAfter))] := hD
  refine lv_iconst (v := 0) hx hb dX5_layTelling_24 (by decide) ?_
  refine lv_istore (lv' := [(4, .int 0), (3, .int v_1), (0, .ref o), (1, .ref t), (2, .ref ra)]) hx hb dX5_layTelling_25 hl (by decide) rfl (fun ls hl => ?_)
  refine xb_wh (fun (n9 : Nat) H locs ls => ∃ i : Nat, ∃ qd2 : Nat, ∃ ga : Nat → Int32, ∃ gq : Nat → Int32, (1536 - i) = n9 ∧ va_P D vwCl [(ra, .inr (4, [.ref rw_items, .int (nI rz)])), (rw_items, .inl (cI, 160, .inl fi)), (k_followers, .inl (cI, 24, .inl f_followers)), (o, .inr (5, [.ref se_ahead, .ref se_queue, .int (nI qd2)])), (se_ahead, .inl (cI, 1536, .inl ga)), (se_queue, .inl (cI, 1536, .inl gq)), (t, .inr (8, [.ref k_name, .ref k_worth, .ref k_times, .ref k_first, .ref k_second, .ref k_beforeLast, .ref k_last, .ref k_errandOf, .ref k_errandAfter, .ref k_sound, .ref k_followers, .ref k_leaders, .int (nI w), .int k_errands, .int k_alikes, .int k_law])), (k_errandOf, .inl (cI, 24, .inl f_errandOf)), (k_errandAfter, .inl (cI, 6, .inl f_errandAfter))] H ∧ va_D A [(ra, .inr (4, [.ref rw_items, .int (nI rz)])), (rw_items, .inl (cI, 160, .inl fi)), (k_followers, .inl (cI, 24, .inl f_followers)), (o, .inr (5, [.ref se_ahead, .ref se_queue, .int (nI qd2)])), (se_ahead, .inl (cI, 1536, .inl ga)), (se_queue, .inl (cI, 1536, .inl gq)), (t, .inr (8, [.ref k_name, .ref k_worth, .ref k_times, .ref k_first, .ref k_second, .ref k_beforeLast, .ref k_last, .ref k_errandOf, .ref k_errandAfter, .ref k_sound, .ref k_followers, .ref k_leaders, .int (nI w), .int k_errands, .int k_alikes, .int k_law])), (k_errandOf, .inl (cI, 24, .inl f_errandOf)), (k_errandAfter, .inl (cI, 6, .inl f_errandAfter))] ∧ va_S A s.heap H locs ∧ lv_has ls 5 [(4, .int (nI i)), (3, .int v_1), (0, .ref o), (1, .ref t), (2, .ref ra)] ∧ (qd2 ≤ 1536) ∧ (rgN gq qd2 1536) ∧ (rgS ga 1536 1536) ∧ (i ≤ 1536)) ⟨0, qd2_4, ga_5, gq_6, rfl, hP, hD, hS, lv_sub hl [0, 1, 2, 3, 4] rfl, hf_7, hf_8, hf_9, (by first | assumption | omega)⟩ (fun n9 H locs ls hI kk_27 => ?_)
  obtain ⟨i, qd2, ga, gq, hn_27, hP, hD, hS, hl, hF_h_10, hF_h_11, hF_h_12, hF_h_13⟩ := hI
  refine lv_iload hx hb dX5_layTelling_27 (lv_at hl 0 rfl) ?_
  refine lv_aload_n hx hb dX5_layTelling_29 rfl (lv_at hl 2 rfl) ?_
  refine va_get (D := D) (ci := 5) (v := .int (nI qd2)) (C := RX5) (T := TX5) (N := 3) hx hb hts (by decide +kernel) hown hK hP 3 rfl rfl 2 (by decide) (hts (.fieldLink RX5 25 "LastLetter$Search" "queued" "I") (by decide +kernel)) (fun _ h9 => h9) rfl dX5_layTelling_30 ?_
  refine lv_icmp_ge (tgt := 105) hx hb dX5_layTelling_33 (by decide) (fun c_14 => ?_) (fun c_14 => ?_)
  · have dc_14 : qd2 ≤ i := (nI_leI (a := qd2) (b := i) (by omega) (by omega)).mp c_14
    refine lv_iconst (v := (-1)) hx hb dX5_layTelling_105 (by decide) ?_
    have hP9 := hP.sub (ws' := [(o, .inr (5, [.ref se_ahead, .ref se_queue, .int (nI qd2)])), (se_ahead, .inl (cI, 1536, .inl ga)), (se_queue, .inl (cI, 1536, .inl gq)), (ra, .inr (4, [.ref rw_items, .int (nI rz)])), (rw_items, .inl (cI, 160, .inl fi)), (t, .inr (8, [.ref k_name, .ref k_worth, .ref k_times, .ref k_first, .ref k_second, .ref k_beforeLast, .ref k_last, .ref k_errandOf, .ref k_errandAfter, .ref k_sound, .ref k_followers, .ref k_leaders, .int (nI w), .int k_errands, .int k_alikes, .int k_law])), (k_followers, .inl (cI, 24, .inl f_followers)), (k_errandOf, .inl (cI, 24, .inl f_errandOf)), (k_errandAfter, .inl (cI, 6, .inl f_errandAfter))]) [3, 4, 5, 0, 1, 6, 2, 7, 8] rfl
    have hD9 := hD.sub (ws' := [(o, .inr (5, [.ref se_ahead, .ref se_queue, .int (nI qd2)])), (se_ahead, .inl (cI, 1536, .inl ga)), (se_queue, .inl (cI, 1536, .inl gq)), (ra, .inr (4, [.ref rw_items, .int (nI rz)])), (rw_items, .inl (cI, 160, .inl fi)), (t, .inr (8, [.ref k_name, .ref k_worth, .ref k_times, .ref k_first, .ref k_second, .ref k_beforeLast, .ref k_last, .ref k_errandOf, .ref k_errandAfter, .ref k_sound, .ref k_followers, .ref k_leaders, .int (nI w), .int k_errands, .int k_alikes, .int k_law])), (k_followers, .inl (cI, 24, .inl f_followers)), (k_errandOf, .inl (cI, 24, .inl f_errandOf)), (k_errandAfter, .inl (cI, 6, .inl f_errandAfter))]) [3, 4, 5, 0, 1, 6, 2, 7, 8] (by decide) rfl
    refine W.widen (k := 0) (n := 0) (Nat.le_of_ble_eq_true rfl) (Nat.le_of_ble_eq_true rfl) ?_
    exact W.iret (v := (-1)) hx hb hr (fun tz htz hWz => ⟨⟨(-1), [(o, .inr (5, [.ref se_ahead, .ref se_queue, .int (nI qd2)])), (se_ahead, .inl (cI, 1536, .inl ga)), (se_queue, .inl (cI, 1536, .inl gq)), (ra, .inr (4, [.ref rw_items, .int (nI rz)])), (rw_items, .inl (cI, 160, .inl fi)), (t, .inr (8, [.ref k_name, .ref k_worth, .ref k_times, .ref k_first, .ref k_second, .ref k_beforeLast, .ref k_last, .ref k_errandOf, .ref k_errandAfter, .ref k_sound, .ref k_followers, .ref k_leaders, .int (nI w), .int k_errands, .int k_alikes, .int k_law])), (k_followers, .inl (cI, 24, .inl f_followers)), (k_errandOf, .inl (cI, 24, .inl f_errandOf)), (k_errandAfter, .inl (cI, 6, .inl f_errandAfter))], rfl, ⟨(nI qd2), rz, ga, gq, fi, rfl, hrz⟩, by rw [htz]; exact hP9, va_K.moved hWz.alike hK, hD9⟩, hS.F htz⟩) hS.2.2 dX5_layTelling_106
  · have dc_14 : ¬ qd2 ≤ i := fun h => c_14 ((nI_leI (a := qd2) (b := i) (by omega) (by omega)).mpr h)
    refine lv_iload hx hb dX5_layTelling_36 (lv_at hl 0 rfl) ?_
    refine lv_sipush (v := 1536) hx hb dX5_layTelling_38 (by decide) ?_
    refine lv_icmp_ge (tgt := 105) hx hb dX5_layTelling_41 (by decide) (fun c_15 => ?_) (fun c_15 => ?_)
    · have dc_15 : 1536 ≤ i := (nI_leI (a := 1536) (b := i) (by omega) (by omega)).mp c_15
      refine lv_iconst (v := (-1)) hx hb dX5_layTelling_105 (by decide) ?_
      have hP9 := hP.sub (ws' := [(o, .inr (5, [.ref se_ahead, .ref se_queue, .int (nI qd2)])), (se_ahead, .inl (cI, 1536, .inl ga)), (se_queue, .inl (cI, 1536, .inl gq)), (ra, .inr (4, [.ref rw_items, .int (nI rz)])), (rw_items, .inl (cI, 160, .inl fi)), (t, .inr (8, [.ref k_name, .ref k_worth, .ref k_times, .ref k_first, .ref k_second, .ref k_beforeLast, .ref k_last, .ref k_errandOf, .ref k_errandAfter, .ref k_sound, .ref k_followers, .ref k_leaders, .int (nI w), .int k_errands, .int k_alikes, .int k_law])), (k_followers, .inl (cI, 24, .inl f_followers)), (k_errandOf, .inl (cI, 24, .inl f_errandOf)), (k_errandAfter, .inl (cI, 6, .inl f_errandAfter))]) [3, 4, 5, 0, 1, 6, 2, 7, 8] rfl
      have hD9 := hD.sub (ws' := [(o, .inr (5, [.ref se_ahead, .ref se_queue, .int (nI qd2)])), (se_ahead, .inl (cI, 1536, .inl ga)), (se_queue, .inl (cI, 1536, .inl gq)), (ra, .inr (4, [.ref rw_items, .int (nI rz)])), (rw_items, .inl (cI, 160, .inl fi)), (t, .inr (8, [.ref k_name, .ref k_worth, .ref k_times, .ref k_first, .ref k_second, .ref k_beforeLast, .ref k_last, .ref k_errandOf, .ref k_errandAfter, .ref k_sound, .ref k_followers, .ref k_leaders, .int (nI w), .int k_errands, .int k_alikes, .int k_law])), (k_followers, .inl (cI, 24, .inl f_followers)), (k_errandOf, .inl (cI, 24, .inl f_errandOf)), (k_errandAfter, .inl (cI, 6, .inl f_errandAfter))]) [3, 4, 5, 0, 1, 6, 2, 7, 8] (by decide) rfl
      refine W.widen (k := 0) (n := 0) (Nat.le_of_ble_eq_true rfl) (Nat.le_of_ble_eq_true rfl) ?_
      exact W.iret (v := (-1)) hx hb hr (fun tz htz hWz => ⟨⟨(-1), [(o, .inr (5, [.ref se_ahead, .ref se_queue, .int (nI qd2)])), (se_ahead, .inl (cI, 1536, .inl ga)), (se_queue, .inl (cI, 1536, .inl gq)), (ra, .inr (4, [.ref rw_items, .int (nI rz)])), (rw_items, .inl (cI, 160, .inl fi)), (t, .inr (8, [.ref k_name, .ref k_worth, .ref k_times, .ref k_first, .ref k_second, .ref k_beforeLast, .ref k_last, .ref k_errandOf, .ref k_errandAfter, .ref k_sound, .ref k_followers, .ref k_leaders, .int (nI w), .int k_errands, .int k_alikes, .int k_law])), (k_followers, .inl (cI, 24, .inl f_followers)), (k_errandOf, .inl (cI, 24, .inl f_errandOf)), (k_errandAfter, .inl (cI, 6, .inl f_errandAfter))], rfl, ⟨(nI qd2), rz, ga, gq, fi, rfl, hrz⟩, by rw [htz]; exact hP9, va_K.moved hWz.alike hK, hD9⟩, hS.F htz⟩) hS.2.2 dX5_layTelling_106
    · have dc_15 : ¬ 1536 ≤ i := fun h => c_15 ((nI_leI (a := 1536) (b := i) (by omega) (by omega)).mpr h)
      refine lv_aload_n hx hb dX5_layTelling_44 rfl (lv_at hl 2 rfl) ?_
      refine va_get (D := D) (ci := 5) (v := .ref se_queue) (C := RX5) (T := TX5) (N := 3) hx hb hts (by decide +kernel) hown hK hP 3 rfl rfl 1 (by decide) (hts (.fieldLink RX5 15 "LastLetter$Search" "queue" "[I") (by decide +kernel)) (fun _ h9 => h9) rfl dX5_layTelling_45 ?_
      refine lv_iload hx hb dX5_layTelling_48 (lv_at hl 0 rfl) ?_
      refine va_iald hx hb hK hP 5 1 rfl rfl (vp_in_nI (by omega) (by omega)) dX5_layTelling_50 ?_
      refine xb_top (y := gq i) (by rw [nI_clamp (by omega)]) ?_
      obtain ⟨q_16, hq_16, eq_16⟩ := hF_h_11 i (by omega)
      refine xb_top (y := nI q_16) eq_16 ?_
      refine lv_bipush (v := 24) hx hb dX5_layTelling_51 (by decide) ?_
      refine lv_idiv hx hb dX5_layTelling_53 (by decide) ?_
      refine xb_top (y := nI (q_16 / 24)) (pk_div (a := q_16) (d := 24) (by omega) (by omega) (by omega)) ?_
      refine lv_iload_n hx hb dX5_layTelling_54 rfl (lv_at hl 1 rfl) ?_
      refine lv_icmp_ne (tgt := 71) hx hb dX5_layTelling_55 (by decide) (fun c_17 => ?_) (fun c_17 => ?_)
      · refine lv_aload_n hx hb dX5_layTelling_71 rfl (lv_at hl 2 rfl) ?_
        refine lv_aload_n hx hb dX5_layTelling_72 rfl (lv_at hl 3 rfl) ?_
        refine lv_aload_n hx hb dX5_layTelling_73 rfl (lv_at hl 3 rfl) ?_
        refine va_getN (D := D) (ci := 8) (v := .ref k_followers) (C := RX8) (T := TX8) (N := 16) hx hb hts (by decide +kernel) hown hK hP 6 rfl rfl 10 (by decide) (va_Nw.use rfl (hN.1 (RX5, 33, RX8, "followers", "[I", RX10) (by decide +kernel))) (fun _ h9 => h9) rfl dX5_layTelling_74 ?_
        refine lv_aload_n hx hb dX5_layTelling_77 rfl (lv_at hl 2 rfl) ?_
        refine va_get (D := D) (ci := 5) (v := .ref se_queue) (C := RX5) (T := TX5) (N := 3) hx hb hts (by decide +kernel) hown hK hP 3 rfl rfl 1 (by decide) (hts (.fieldLink RX5 15 "LastLetter$Search" "queue" "[I") (by decide +kernel)) (fun _ h9 => h9) rfl dX5_layTelling_78 ?_
        refine lv_iload hx hb dX5_layTelling_81 (lv_at hl 0 rfl) ?_
        refine va_iald hx hb hK hP 5 1 rfl rfl (vp_in_nI (by omega) (by omega)) dX5_layTelling_83 ?_
        refine xb_top (y := gq i) (by rw [nI_clamp (by omega)]) ?_
        obtain ⟨q_18, hq_18, eq_18⟩ := hF_h_11 i (by omega)
        refine xb_top (y := nI q_18) eq_18 ?_
        refine lv_bipush (v := 24) hx hb dX5_layTelling_84 (by decide) ?_
        refine lv_irem hx hb dX5_layTelling_86 (by decide) ?_
        refine xb_top (y := nI (q_18 % 24)) (pk_rem (a := q_18) (d := 24) (by omega) (by omega) (by omega)) ?_
        refine va_iald hx hb hK hP 2 1 rfl rfl (vp_in_nI (by omega) (by omega)) dX5_layTelling_87 ?_
        refine xb_top (y := f_followers (q_18 % 24)) (by rw [nI_clamp (by omega)]) ?_
        refine lv_aload_n hx hb dX5_layTelling_88 rfl (lv_at hl 2 rfl) ?_
        refine va_get (D := D) (ci := 5) (v := .ref se_queue) (C := RX5) (T := TX5) (N := 3) hx hb hts (by decide +kernel) hown hK hP 3 rfl rfl 1 (by decide) (hts (.fieldLink RX5 15 "LastLetter$Search" "queue" "[I") (by decide +kernel)) (fun _ h9 => h9) rfl dX5_layTelling_89 ?_
        refine lv_iload hx hb dX5_layTelling_92 (lv_at hl 0 rfl) ?_
        refine va_iald hx hb hK hP 5 1 rfl rfl (vp_in_nI (by omega) (by omega)) dX5_layTelling_94 ?_
        refine xb_top (y := gq i) (by rw [nI_clamp (by omega)]) ?_
        obtain ⟨q_19, hq_19, eq_19⟩ := hF_h_11 i (by omega)
        refine xb_top (y := nI q_19) eq_19 ?_
        refine lv_iconst (v := 1) hx hb dX5_layTelling_95 (by decide) ?_
        refine xCv (wr := [(ra, .inr (4, [.ref rw_items, .int (nI rz)])), (rw_items, .inl (cI, 160, .inl fi)), (k_followers, .inl (cI, 24, .inl f_followers))]) (win := [(o, .inr (5, [.ref se_ahead, .ref se_queue, .int (nI qd2)])), (se_ahead, .inl (cI, 1536, .inl ga)), (se_queue, .inl (cI, 1536, .inl gq)), (t, .inr (8, [.ref k_name, .ref k_worth, .ref k_times, .ref k_first, .ref k_second, .ref k_beforeLast, .ref k_last, .ref k_errandOf, .ref k_errandAfter, .ref k_sound, .ref k_followers, .ref k_leaders, .int (nI w), .int k_errands, .int k_alikes, .int k_law])), (k_errandOf, .inl (cI, 24, .inl f_errandOf)), (k_errandAfter, .inl (cI, 6, .inl f_errandAfter))]) hP hD hS hA [3, 4, 5, 6, 7, 8] [0, 1, 2] rfl rfl (by decide) (by decide) (va_runV (As := [.ref t, .int (f_followers (q_18 % 24)), .int (nI q_19), .int 1]) (rest := []) ⟨hx, hb, hml, hown, hts⟩ (c_X5_enter_1 l D cB cI cJ cS cZ cO H.size o t (f_followers (q_18 % 24)) (nI q_19) se_ahead se_queue qd2 ga gq k_name k_worth k_times k_first k_second k_beforeLast k_last k_errandOf k_errandAfter k_sound k_followers k_leaders w k_errands k_alikes k_law f_errandOf f_errandAfter (by first | assumption | omega) (by first | assumption | omega) (by first | assumption | omega) (by first | assumption | omega) (Or.inr ⟨q_19, by omega, rfl⟩) hm) (cwV 4 hts gX5_layTelling_X5_enter rfl rfl rfl (by decide +kernel) ⟨Nat.le_of_ble_eq_true rfl, Nat.le_of_ble_eq_true rfl⟩) (xPreV (win := [(o, .inr (5, [.ref se_ahead, .ref se_queue, .int (nI qd2)])), (se_ahead, .inl (cI, 1536, .inl ga)), (se_queue, .inl (cI, 1536, .inl gq)), (t, .inr (8, [.ref k_name, .ref k_worth, .ref k_times, .ref k_first, .ref k_second, .ref k_beforeLast, .ref k_last, .ref k_errandOf, .ref k_errandAfter, .ref k_sound, .ref k_followers, .ref k_leaders, .int (nI w), .int k_errands, .int k_alikes, .int k_law])), (k_errandOf, .inl (cI, 24, .inl f_errandOf)), (k_errandAfter, .inl (cI, 6, .inl f_errandAfter))]) hN hK hP hD [3, 4, 5, 6, 7, 8] (by decide) rfl 3 5 rfl rfl rfl) rfl rfl hl.1 rfl (lv_room (Nat.le_of_ble_eq_true rfl)) dX5_layTelling_96 ⟨Nat.le_of_ble_eq_true rfl, Nat.le_of_ble_eq_true rfl⟩) (fun w0 H locs hw hP hD hS => ?_)
        obtain ⟨qd2_20, ga_21, gq_22, rfl, hf_23, hf_24, hf_25⟩ := hw
        have hP : va_P D vwCl [(ra, .inr (4, [.ref rw_items, .int (nI rz)])), (rw_items, .inl (cI, 160, .inl fi)), (k_followers, .inl (cI, 24, .inl f_followers)), (o, .inr (5, [.ref se_ahead, .ref se_queue, .int (nI qd2_20)])), (se_ahead, .inl (cI, 1536, .inl ga_21)), (se_queue, .inl (cI, 1536, .inl gq_22)), (t, .inr (8, [.ref k_name, .ref k_worth, .ref k_times, .ref k_first, .ref k_second, .ref k_beforeLast, .ref k_last, .ref k_errandOf, .ref k_errandAfter, .ref k_sound, .ref k_followers, .ref k_leaders, .int (nI w), .int k_errands, .int k_alikes, .int k_law])), (k_errandOf, .inl (cI, 24, .inl f_errandOf)), (k_errandAfter, .inl (cI, 6, .inl f_errandAfter))] H := hP
        have hD : va_D A [(ra, .inr (4, [.ref rw_items, .int (nI rz)])), (rw_items, .inl (cI, 160, .inl fi)), (k_followers, .inl (cI, 24, .inl f_followers)), (o, .inr (5, [.ref se_ahead, .ref se_queue, .int (nI qd2_20)])), (se_ahead, .inl (cI, 1536, .inl ga_21)), (se_queue, .inl (cI, 1536, .inl gq_22)), (t, .inr (8, [.ref k_name, .ref k_worth, .ref k_times, .ref k_first, .ref k_second, .ref k_beforeLast, .ref k_last, .ref k_errandOf, .ref k_errandAfter, .ref k_sound, .ref k_followers, .ref k_leaders, .int (nI w), .int k_errands, .int k_alikes, .int k_law])), (k_errandOf, .inl (cI, 24, .inl f_errandOf)), (k_errandAfter, .inl (cI, 6, .inl f_errandAfter))] := hD
        refine lv_iinc (v := nI (i + 1)) (lv' := [(4, .int (nI (i + 1))), (3, .int v_1), (0, .ref o), (1, .ref t), (2, .ref ra)]) hx hb dX5_layTelling_99 hl (k := 0) rfl (nI_1 i) (by decide) rfl (fun ls hl => ?_)
        refine lv_goto (tgt := 27) hx hb dX5_layTelling_102 (by decide) ?_
        exact kk_27 _ _ _ _ (by rw [← hn_27]; omega) ⟨(i + 1), qd2_20, ga_21, gq_22, rfl, hP, hD, hS, lv_sub hl [0, 1, 2, 3, 4] rfl, hf_23, hf_24, hf_25, (by first | assumption | omega)⟩
      · refine lv_aload_n hx hb dX5_layTelling_58 rfl (lv_at hl 2 rfl) ?_
        refine lv_aload_n hx hb dX5_layTelling_59 rfl (lv_at hl 4 rfl) ?_
        refine lv_aload_n hx hb dX5_layTelling_60 rfl (lv_at hl 2 rfl) ?_
        refine va_get (D := D) (ci := 5) (v := .ref se_queue) (C := RX5) (T := TX5) (N := 3) hx hb hts (by decide +kernel) hown hK hP 3 rfl rfl 1 (by decide) (hts (.fieldLink RX5 15 "LastLetter$Search" "queue" "[I") (by decide +kernel)) (fun _ h9 => h9) rfl dX5_layTelling_61 ?_
        refine lv_iload hx hb dX5_layTelling_64 (lv_at hl 0 rfl) ?_
        refine va_iald hx hb hK hP 5 1 rfl rfl (vp_in_nI (by omega) (by omega)) dX5_layTelling_66 ?_
        refine xb_top (y := gq i) (by rw [nI_clamp (by omega)]) ?_
        obtain ⟨q_26, hq_26, eq_26⟩ := hF_h_11 i (by omega)
        refine xb_top (y := nI q_26) eq_26 ?_
        refine xCi (wr := [(k_followers, .inl (cI, 24, .inl f_followers)), (se_queue, .inl (cI, 1536, .inl gq)), (t, .inr (8, [.ref k_name, .ref k_worth, .ref k_times, .ref k_first, .ref k_second, .ref k_beforeLast, .ref k_last, .ref k_errandOf, .ref k_errandAfter, .ref k_sound, .ref k_followers, .ref k_leaders, .int (nI w), .int k_errands, .int k_alikes, .int k_law])), (k_errandOf, .inl (cI, 24, .inl f_errandOf)), (k_errandAfter, .inl (cI, 6, .inl f_errandAfter))]) (win := [(o, .inr (5, [.ref se_ahead, .ref se_queue, .int (nI qd2)])), (se_ahead, .inl (cI, 1536, .inl ga)), (ra, .inr (4, [.ref rw_items, .int (nI rz)])), (rw_items, .inl (cI, 160, .inl fi))]) hP hD hS hA [3, 4, 0, 1] [2, 5, 6, 7, 8] rfl rfl (by decide) (by decide) (va_runV (As := [.ref ra, .int (nI q_26)]) (rest := []) ⟨hx, hb, hml, hown, hts⟩ (c_X5_lay l D cB cI cJ cS cZ cO H.size o ra q_26 se_ahead se_queue (nI qd2) ga rw_items rz fi (by first | assumption | omega | decide) (by first | assumption | omega | decide) (by first | assumption | omega | decide)) (cwV 2 hts gX5_layTelling_X5_lay rfl rfl rfl (by decide +kernel) ⟨Nat.le_of_ble_eq_true rfl, Nat.le_of_ble_eq_true rfl⟩) (xPreV (win := [(o, .inr (5, [.ref se_ahead, .ref se_queue, .int (nI qd2)])), (se_ahead, .inl (cI, 1536, .inl ga)), (ra, .inr (4, [.ref rw_items, .int (nI rz)])), (rw_items, .inl (cI, 160, .inl fi))]) hN hK hP hD [3, 4, 0, 1] (by decide) rfl 3 5 rfl rfl rfl) rfl rfl hl.1 rfl (lv_room (Nat.le_of_ble_eq_true rfl)) dX5_layTelling_67 ⟨Nat.le_of_ble_eq_true rfl, Nat.le_of_ble_eq_true rfl⟩) (fun r_27 w0 H locs hw hP hD hS => ?_)
        obtain ⟨rz2_28, g_29, rfl, hf_30⟩ := hw
        have hP : va_P D vwCl [(k_followers, .inl (cI, 24, .inl f_followers)), (se_queue, .inl (cI, 1536, .inl gq)), (t, .inr (8, [.ref k_name, .ref k_worth, .ref k_times, .ref k_first, .ref k_second, .ref k_beforeLast, .ref k_last, .ref k_errandOf, .ref k_errandAfter, .ref k_sound, .ref k_followers, .ref k_leaders, .int (nI w), .int k_errands, .int k_alikes, .int k_law])), (k_errandOf, .inl (cI, 24, .inl f_errandOf)), (k_errandAfter, .inl (cI, 6, .inl f_errandAfter)), (o, .inr (5, [.ref se_ahead, .ref se_queue, .int (nI qd2)])), (se_ahead, .inl (cI, 1536, .inl ga)), (ra, .inr (4, [.ref rw_items, .int (nI rz2_28)])), (rw_items, .inl (cI, 160, .inl g_29))] H := hP
        have hD : va_D A [(k_followers, .inl (cI, 24, .inl f_followers)), (se_queue, .inl (cI, 1536, .inl gq)), (t, .inr (8, [.ref k_name, .ref k_worth, .ref k_times, .ref k_first, .ref k_second, .ref k_beforeLast, .ref k_last, .ref k_errandOf, .ref k_errandAfter, .ref k_sound, .ref k_followers, .ref k_leaders, .int (nI w), .int k_errands, .int k_alikes, .int k_law])), (k_errandOf, .inl (cI, 24, .inl f_errandOf)), (k_errandAfter, .inl (cI, 6, .inl f_errandAfter)), (o, .inr (5, [.ref se_ahead, .ref se_queue, .int (nI qd2)])), (se_ahead, .inl (cI, 1536, .inl ga)), (ra, .inr (4, [.ref rw_items, .int (nI rz2_28)])), (rw_items, .inl (cI, 160, .inl g_29))] := hD
        have hP9 := hP.sub (ws' := [(o, .inr (5, [.ref se_ahead, .ref se_queue, .int (nI qd2)])), (se_ahead, .inl (cI, 1536, .inl ga)), (se_queue, .inl (cI, 1536, .inl gq)), (ra, .inr (4, [.ref rw_items, .int (nI rz2_28)])), (rw_items, .inl (cI, 160, .inl g_29)), (t, .inr (8, [.ref k_name, .ref k_worth, .ref k_times, .ref k_first, .ref k_second, .ref k_beforeLast, .ref k_last, .ref k_errandOf, .ref k_errandAfter, .ref k_sound, .ref k_followers, .ref k_leaders, .int (nI w), .int k_errands, .int k_alikes, .int k_law])), (k_followers, .inl (cI, 24, .inl f_followers)), (k_errandOf, .inl (cI, 24, .inl f_errandOf)), (k_errandAfter, .inl (cI, 6, .inl f_errandAfter))]) [5, 6, 1, 7, 8, 2, 0, 3, 4] rfl
        have hD9 := hD.sub (ws' := [(o, .inr (5, [.ref se_ahead, .ref se_queue, .int (nI qd2)])), (se_ahead, .inl (cI, 1536, .inl ga)), (se_queue, .inl (cI, 1536, .inl gq)), (ra, .inr (4, [.ref rw_items, .int (nI rz2_28)])), (rw_items, .inl (cI, 160, .inl g_29)), (t, .inr (8, [.ref k_name, .ref k_worth, .ref k_times, .ref k_first, .ref k_second, .ref k_beforeLast, .ref k_last, .ref k_errandOf, .ref k_errandAfter, .ref k_sound, .ref k_followers, .ref k_leaders, .int (nI w), .int k_errands, .int k_alikes, .int k_law])), (k_followers, .inl (cI, 24, .inl f_followers)), (k_errandOf, .inl (cI, 24, .inl f_errandOf)), (k_errandAfter, .inl (cI, 6, .inl f_errandAfter))]) [5, 6, 1, 7, 8, 2, 0, 3, 4] (by decide) rfl
        refine W.widen (k := 0) (n := 0) (Nat.le_of_ble_eq_true rfl) (Nat.le_of_ble_eq_true rfl) ?_
        exact W.iret (v := r_27) hx hb hr (fun tz htz hWz => ⟨⟨r_27, [(o, .inr (5, [.ref se_ahead, .ref se_queue, .int (nI qd2)])), (se_ahead, .inl (cI, 1536, .inl ga)), (se_queue, .inl (cI, 1536, .inl gq)), (ra, .inr (4, [.ref rw_items, .int (nI rz2_28)])), (rw_items, .inl (cI, 160, .inl g_29)), (t, .inr (8, [.ref k_name, .ref k_worth, .ref k_times, .ref k_first, .ref k_second, .ref k_beforeLast, .ref k_last, .ref k_errandOf, .ref k_errandAfter, .ref k_sound, .ref k_followers, .ref k_leaders, .int (nI w), .int k_errands, .int k_alikes, .int k_law])), (k_followers, .inl (cI, 24, .inl f_followers)), (k_errandOf, .inl (cI, 24, .inl f_errandOf)), (k_errandAfter, .inl (cI, 6, .inl f_errandAfter))], rfl, ⟨(nI qd2), rz2_28, ga, gq, g_29, rfl, hf_30⟩, by rw [htz]; exact hP9, va_K.moved hWz.alike hK, hD9⟩, hS.F htz⟩) hS.2.2 dX5_layTelling_70
