theorem dX2_amount_0 : decode cX2_amount 0 = .ok (.iload_n 2, 1) := by decide +kernel
theorem dX2_amount_1 : decode cX2_amount 1 = .ok (.ifCond .eq 12, 3) := by decide +kernel
theorem dX2_amount_4 : decode cX2_amount 4 = .ok (.aload_n 0, 1) := by decide +kernel
theorem dX2_amount_5 : decode cX2_amount 5 = .ok (.getfield 19, 3) := by decide +kernel
theorem dX2_amount_8 : decode cX2_amount 8 = .ok (.iload_n 1, 1) := by decide +kernel
theorem dX2_amount_9 : decode cX2_amount 9 = .ok (.iaload, 1) := by decide +kernel
theorem dX2_amount_10 : decode cX2_amount 10 = .ok (.goto 7, 3) := by decide +kernel
theorem dX2_amount_13 : decode cX2_amount 13 = .ok (.iload_n 1, 1) := by decide +kernel
theorem dX2_amount_14 : decode cX2_amount 14 = .ok (.invokestatic 92, 3) := by decide +kernel
theorem dX2_amount_17 : decode cX2_amount 17 = .ok (.ireturn, 1) := by decide +kernel
theorem dX2_beginnings_0 : decode cX2_beginnings 0 = .ok (.iconst 0, 1) := by decide +kernel
theorem dX2_beginnings_1 : decode cX2_beginnings 1 = .ok (.istore 4, 2) := by decide +kernel
theorem dX2_beginnings_3 : decode cX2_beginnings 3 = .ok (.iload_n 1, 1) := by decide +kernel
theorem dX2_beginnings_4 : decode cX2_beginnings 4 = .ok (.istore 5, 2) := by decide +kernel
theorem dX2_beginnings_6 : decode cX2_beginnings 6 = .ok (.iload 5, 2) := by decide +kernel
theorem dX2_beginnings_8 : decode cX2_beginnings 8 = .ok (.ifCond .le 47, 3) := by decide +kernel
theorem dX2_beginnings_11 : decode cX2_beginnings 11 = .ok (.aload_n 0, 1) := by decide +kernel
theorem dX2_beginnings_12 : decode cX2_beginnings 12 = .ok (.getfield 9, 3) := by decide +kernel
theorem dX2_beginnings_15 : decode cX2_beginnings 15 = .ok (.iload 5, 2) := by decide +kernel
theorem dX2_beginnings_17 : decode cX2_beginnings 17 = .ok (.baload, 1) := by decide +kernel
theorem dX2_beginnings_18 : decode cX2_beginnings 18 = .ok (.ifCond .ne 26, 3) := by decide +kernel
theorem dX2_beginnings_21 : decode cX2_beginnings 21 = .ok (.aload_n 0, 1) := by decide +kernel
theorem dX2_beginnings_22 : decode cX2_beginnings 22 = .ok (.iload 5, 2) := by decide +kernel
theorem dX2_beginnings_24 : decode cX2_beginnings 24 = .ok (.iload_n 3, 1) := by decide +kernel
theorem dX2_beginnings_25 : decode cX2_beginnings 25 = .ok (.invokevirtual 83, 3) := by decide +kernel
theorem dX2_beginnings_28 : decode cX2_beginnings 28 = .ok (.iload_n 2, 1) := by decide +kernel
theorem dX2_beginnings_29 : decode cX2_beginnings 29 = .ok (.if_icmp .ne 15, 3) := by decide +kernel
theorem dX2_beginnings_32 : decode cX2_beginnings 32 = .ok (.iload 4, 2) := by decide +kernel
theorem dX2_beginnings_34 : decode cX2_beginnings 34 = .ok (.aload_n 0, 1) := by decide +kernel
theorem dX2_beginnings_35 : decode cX2_beginnings 35 = .ok (.getfield 15, 3) := by decide +kernel
theorem dX2_beginnings_38 : decode cX2_beginnings 38 = .ok (.iload 5, 2) := by decide +kernel
theorem dX2_beginnings_40 : decode cX2_beginnings 40 = .ok (.iaload, 1) := by decide +kernel
theorem dX2_beginnings_41 : decode cX2_beginnings 41 = .ok (.ior, 1) := by decide +kernel
theorem dX2_beginnings_42 : decode cX2_beginnings 42 = .ok (.istore 4, 2) := by decide +kernel
theorem dX2_beginnings_44 : decode cX2_beginnings 44 = .ok (.iload 5, 2) := by decide +kernel
theorem dX2_beginnings_46 : decode cX2_beginnings 46 = .ok (.iconst 1, 1) := by decide +kernel
theorem dX2_beginnings_47 : decode cX2_beginnings 47 = .ok (.isub, 1) := by decide +kernel
theorem dX2_beginnings_48 : decode cX2_beginnings 48 = .ok (.iload_n 1, 1) := by decide +kernel
theorem dX2_beginnings_49 : decode cX2_beginnings 49 = .ok (.iand, 1) := by decide +kernel
theorem dX2_beginnings_50 : decode cX2_beginnings 50 = .ok (.istore 5, 2) := by decide +kernel
theorem dX2_beginnings_52 : decode cX2_beginnings 52 = .ok (.goto (-46), 3) := by decide +kernel
theorem dX2_beginnings_55 : decode cX2_beginnings 55 = .ok (.iload 4, 2) := by decide +kernel
theorem dX2_beginnings_57 : decode cX2_beginnings 57 = .ok (.ireturn, 1) := by decide +kernel
theorem dX2_breaksBehind_0 : decode cX2_breaksBehind 0 = .ok (.iload_n 3, 1) := by decide +kernel
theorem dX2_breaksBehind_1 : decode cX2_breaksBehind 1 = .ok (.ifCond .ne 5, 3) := by decide +kernel
theorem dX2_breaksBehind_4 : decode cX2_breaksBehind 4 = .ok (.iconst 0, 1) := by decide +kernel
theorem dX2_breaksBehind_5 : decode cX2_breaksBehind 5 = .ok (.ireturn, 1) := by decide +kernel
theorem dX2_breaksBehind_6 : decode cX2_breaksBehind 6 = .ok (.aload_n 0, 1) := by decide +kernel
theorem dX2_breaksBehind_7 : decode cX2_breaksBehind 7 = .ok (.getfield 9, 3) := by decide +kernel
theorem dX2_breaksBehind_10 : decode cX2_breaksBehind 10 = .ok (.iload_n 3, 1) := by decide +kernel
theorem dX2_breaksBehind_11 : decode cX2_breaksBehind 11 = .ok (.baload, 1) := by decide +kernel
theorem dX2_breaksBehind_12 : decode cX2_breaksBehind 12 = .ok (.aload_n 1, 1) := by decide +kernel
theorem dX2_breaksBehind_13 : decode cX2_breaksBehind 13 = .ok (.getfield 64, 3) := by decide +kernel
theorem dX2_breaksBehind_16 : decode cX2_breaksBehind 16 = .ok (.iload_n 2, 1) := by decide +kernel
theorem dX2_breaksBehind_17 : decode cX2_breaksBehind 17 = .ok (.iaload, 1) := by decide +kernel
theorem dX2_breaksBehind_18 : decode cX2_breaksBehind 18 = .ok (.aload_n 0, 1) := by decide +kernel
theorem dX2_breaksBehind_19 : decode cX2_breaksBehind 19 = .ok (.getfield 15, 3) := by decide +kernel
theorem dX2_breaksBehind_22 : decode cX2_breaksBehind 22 = .ok (.iload_n 3, 1) := by decide +kernel
theorem dX2_breaksBehind_23 : decode cX2_breaksBehind 23 = .ok (.iaload, 1) := by decide +kernel
theorem dX2_breaksBehind_24 : decode cX2_breaksBehind 24 = .ok (.iand, 1) := by decide +kernel
theorem dX2_breaksBehind_25 : decode cX2_breaksBehind 25 = .ok (.ifCond .eq 7, 3) := by decide +kernel
theorem dX2_breaksBehind_28 : decode cX2_breaksBehind 28 = .ok (.iconst 0, 1) := by decide +kernel
theorem dX2_breaksBehind_29 : decode cX2_breaksBehind 29 = .ok (.goto 4, 3) := by decide +kernel
theorem dX2_breaksBehind_32 : decode cX2_breaksBehind 32 = .ok (.iconst 1, 1) := by decide +kernel
theorem dX2_breaksBehind_33 : decode cX2_breaksBehind 33 = .ok (.iadd, 1) := by decide +kernel
theorem dX2_breaksBehind_34 : decode cX2_breaksBehind 34 = .ok (.ireturn, 1) := by decide +kernel
theorem dX2_cheapest_0 : decode cX2_cheapest 0 = .ok (.iconst 0, 1) := by decide +kernel
theorem dX2_cheapest_1 : decode cX2_cheapest 1 = .ok (.istore 5, 2) := by decide +kernel
theorem dX2_cheapest_3 : decode cX2_cheapest 3 = .ok (.iload 5, 2) := by decide +kernel
theorem dX2_cheapest_5 : decode cX2_cheapest 5 = .ok (.aload_n 1, 1) := by decide +kernel
theorem dX2_cheapest_6 : decode cX2_cheapest 6 = .ok (.getfield 46, 3) := by decide +kernel
theorem dX2_cheapest_9 : decode cX2_cheapest 9 = .ok (.if_icmp .ge 58, 3) := by decide +kernel
theorem dX2_cheapest_12 : decode cX2_cheapest 12 = .ok (.iload_n 2, 1) := by decide +kernel
theorem dX2_cheapest_13 : decode cX2_cheapest 13 = .ok (.iload 5, 2) := by decide +kernel
theorem dX2_cheapest_15 : decode cX2_cheapest 15 = .ok (.invokestatic 54, 3) := by decide +kernel
theorem dX2_cheapest_18 : decode cX2_cheapest 18 = .ok (.ifCond .eq 43, 3) := by decide +kernel
theorem dX2_cheapest_21 : decode cX2_cheapest 21 = .ok (.iload_n 3, 1) := by decide +kernel
theorem dX2_cheapest_22 : decode cX2_cheapest 22 = .ok (.iload 5, 2) := by decide +kernel
theorem dX2_cheapest_24 : decode cX2_cheapest 24 = .ok (.invokestatic 54, 3) := by decide +kernel
theorem dX2_cheapest_27 : decode cX2_cheapest 27 = .ok (.ifCond .eq 7, 3) := by decide +kernel
theorem dX2_cheapest_30 : decode cX2_cheapest 30 = .ok (.iconst 0, 1) := by decide +kernel
theorem dX2_cheapest_31 : decode cX2_cheapest 31 = .ok (.goto 4, 3) := by decide +kernel
theorem dX2_cheapest_34 : decode cX2_cheapest 34 = .ok (.iconst 1, 1) := by decide +kernel
theorem dX2_cheapest_35 : decode cX2_cheapest 35 = .ok (.istore 6, 2) := by decide +kernel
theorem dX2_cheapest_37 : decode cX2_cheapest 37 = .ok (.iload 6, 2) := by decide +kernel
theorem dX2_cheapest_39 : decode cX2_cheapest 39 = .ok (.aload_n 0, 1) := by decide +kernel
theorem dX2_cheapest_40 : decode cX2_cheapest 40 = .ok (.aload_n 1, 1) := by decide +kernel
theorem dX2_cheapest_41 : decode cX2_cheapest 41 = .ok (.iload 5, 2) := by decide +kernel
theorem dX2_cheapest_43 : decode cX2_cheapest 43 = .ok (.iload_n 2, 1) := by decide +kernel
theorem dX2_cheapest_44 : decode cX2_cheapest 44 = .ok (.iconst 1, 1) := by decide +kernel
theorem dX2_cheapest_45 : decode cX2_cheapest 45 = .ok (.iload 5, 2) := by decide +kernel
theorem dX2_cheapest_47 : decode cX2_cheapest 47 = .ok (.ishl, 1) := by decide +kernel
theorem dX2_cheapest_48 : decode cX2_cheapest 48 = .ok (.ixor, 1) := by decide +kernel
theorem dX2_cheapest_49 : decode cX2_cheapest 49 = .ok (.invokevirtual 67, 3) := by decide +kernel
theorem dX2_cheapest_52 : decode cX2_cheapest 52 = .ok (.iadd, 1) := by decide +kernel
theorem dX2_cheapest_53 : decode cX2_cheapest 53 = .ok (.iload 4, 2) := by decide +kernel
theorem dX2_cheapest_55 : decode cX2_cheapest 55 = .ok (.if_icmp .ne 6, 3) := by decide +kernel
theorem dX2_cheapest_58 : decode cX2_cheapest 58 = .ok (.iload 5, 2) := by decide +kernel
theorem dX2_cheapest_60 : decode cX2_cheapest 60 = .ok (.ireturn, 1) := by decide +kernel
theorem dX2_cheapest_61 : decode cX2_cheapest 61 = .ok (.iinc 5 1, 3) := by decide +kernel
theorem dX2_cheapest_64 : decode cX2_cheapest 64 = .ok (.goto (-61), 3) := by decide +kernel
theorem dX2_cheapest_67 : decode cX2_cheapest 67 = .ok (.iconst (-1), 1) := by decide +kernel
theorem dX2_cheapest_68 : decode cX2_cheapest 68 = .ok (.ireturn, 1) := by decide +kernel
theorem dX2_learnSet_0 : decode cX2_learnSet 0 = .ok (.bipush 24, 2) := by decide +kernel
theorem dX2_learnSet_2 : decode cX2_learnSet 2 = .ok (.istore_n 3, 1) := by decide +kernel
theorem dX2_learnSet_3 : decode cX2_learnSet 3 = .ok (.iconst 0, 1) := by decide +kernel
theorem dX2_learnSet_4 : decode cX2_learnSet 4 = .ok (.istore 4, 2) := by decide +kernel
theorem dX2_learnSet_6 : decode cX2_learnSet 6 = .ok (.iconst 0, 1) := by decide +kernel
theorem dX2_learnSet_7 : decode cX2_learnSet 7 = .ok (.istore 5, 2) := by decide +kernel
theorem dX2_learnSet_9 : decode cX2_learnSet 9 = .ok (.iload 5, 2) := by decide +kernel
theorem dX2_learnSet_11 : decode cX2_learnSet 11 = .ok (.aload_n 1, 1) := by decide +kernel
theorem dX2_learnSet_12 : decode cX2_learnSet 12 = .ok (.getfield 46, 3) := by decide +kernel
theorem dX2_learnSet_15 : decode cX2_learnSet 15 = .ok (.if_icmp .ge 60, 3) := by decide +kernel
theorem dX2_learnSet_18 : decode cX2_learnSet 18 = .ok (.iload_n 2, 1) := by decide +kernel
theorem dX2_learnSet_19 : decode cX2_learnSet 19 = .ok (.iload 5, 2) := by decide +kernel
theorem dX2_learnSet_21 : decode cX2_learnSet 21 = .ok (.invokestatic 54, 3) := by decide +kernel
theorem dX2_learnSet_24 : decode cX2_learnSet 24 = .ok (.ifCond .eq 45, 3) := by decide +kernel
theorem dX2_learnSet_27 : decode cX2_learnSet 27 = .ok (.aload_n 0, 1) := by decide +kernel
theorem dX2_learnSet_28 : decode cX2_learnSet 28 = .ok (.aload_n 1, 1) := by decide +kernel
theorem dX2_learnSet_29 : decode cX2_learnSet 29 = .ok (.iload 5, 2) := by decide +kernel
theorem dX2_learnSet_31 : decode cX2_learnSet 31 = .ok (.iload_n 2, 1) := by decide +kernel
theorem dX2_learnSet_32 : decode cX2_learnSet 32 = .ok (.iconst 1, 1) := by decide +kernel
theorem dX2_learnSet_33 : decode cX2_learnSet 33 = .ok (.iload 5, 2) := by decide +kernel
theorem dX2_learnSet_35 : decode cX2_learnSet 35 = .ok (.ishl, 1) := by decide +kernel
theorem dX2_learnSet_36 : decode cX2_learnSet 36 = .ok (.ixor, 1) := by decide +kernel
theorem dX2_learnSet_37 : decode cX2_learnSet 37 = .ok (.invokevirtual 67, 3) := by decide +kernel
theorem dX2_learnSet_40 : decode cX2_learnSet 40 = .ok (.istore 6, 2) := by decide +kernel
theorem dX2_learnSet_42 : decode cX2_learnSet 42 = .ok (.iload 6, 2) := by decide +kernel
theorem dX2_learnSet_44 : decode cX2_learnSet 44 = .ok (.iload_n 3, 1) := by decide +kernel
theorem dX2_learnSet_45 : decode cX2_learnSet 45 = .ok (.if_icmp .ge 9, 3) := by decide +kernel
theorem dX2_learnSet_48 : decode cX2_learnSet 48 = .ok (.iload 6, 2) := by decide +kernel
theorem dX2_learnSet_50 : decode cX2_learnSet 50 = .ok (.istore_n 3, 1) := by decide +kernel
theorem dX2_learnSet_51 : decode cX2_learnSet 51 = .ok (.iconst 0, 1) := by decide +kernel
theorem dX2_learnSet_52 : decode cX2_learnSet 52 = .ok (.istore 4, 2) := by decide +kernel
theorem dX2_learnSet_54 : decode cX2_learnSet 54 = .ok (.iload 6, 2) := by decide +kernel
theorem dX2_learnSet_56 : decode cX2_learnSet 56 = .ok (.iload_n 3, 1) := by decide +kernel
theorem dX2_learnSet_57 : decode cX2_learnSet 57 = .ok (.if_icmp .ne 12, 3) := by decide +kernel
theorem dX2_learnSet_60 : decode cX2_learnSet 60 = .ok (.iload 4, 2) := by decide +kernel
theorem dX2_learnSet_62 : decode cX2_learnSet 62 = .ok (.iconst 1, 1) := by decide +kernel
theorem dX2_learnSet_63 : decode cX2_learnSet 63 = .ok (.iload 5, 2) := by decide +kernel
theorem dX2_learnSet_65 : decode cX2_learnSet 65 = .ok (.ishl, 1) := by decide +kernel
theorem dX2_learnSet_66 : decode cX2_learnSet 66 = .ok (.ior, 1) := by decide +kernel
theorem dX2_learnSet_67 : decode cX2_learnSet 67 = .ok (.istore 4, 2) := by decide +kernel
theorem dX2_learnSet_69 : decode cX2_learnSet 69 = .ok (.iinc 5 1, 3) := by decide +kernel
theorem dX2_learnSet_72 : decode cX2_learnSet 72 = .ok (.goto (-63), 3) := by decide +kernel
theorem dX2_learnSet_75 : decode cX2_learnSet 75 = .ok (.aload_n 0, 1) := by decide +kernel
theorem dX2_learnSet_76 : decode cX2_learnSet 76 = .ok (.getfield 9, 3) := by decide +kernel
theorem dX2_learnSet_79 : decode cX2_learnSet 79 = .ok (.iload_n 2, 1) := by decide +kernel
theorem dX2_learnSet_80 : decode cX2_learnSet 80 = .ok (.iload_n 3, 1) := by decide +kernel
theorem dX2_learnSet_81 : decode cX2_learnSet 81 = .ok (.i2b, 1) := by decide +kernel
theorem dX2_learnSet_82 : decode cX2_learnSet 82 = .ok (.bastore, 1) := by decide +kernel
theorem dX2_learnSet_83 : decode cX2_learnSet 83 = .ok (.aload_n 0, 1) := by decide +kernel
theorem dX2_learnSet_84 : decode cX2_learnSet 84 = .ok (.getfield 15, 3) := by decide +kernel
theorem dX2_learnSet_87 : decode cX2_learnSet 87 = .ok (.iload_n 2, 1) := by decide +kernel
theorem dX2_learnSet_88 : decode cX2_learnSet 88 = .ok (.iload 4, 2) := by decide +kernel
theorem dX2_learnSet_90 : decode cX2_learnSet 90 = .ok (.iastore, 1) := by decide +kernel
theorem dX2_learnSet_91 : decode cX2_learnSet 91 = .ok (.aload_n 0, 1) := by decide +kernel
theorem dX2_learnSet_92 : decode cX2_learnSet 92 = .ok (.getfield 19, 3) := by decide +kernel
theorem dX2_learnSet_95 : decode cX2_learnSet 95 = .ok (.iload_n 2, 1) := by decide +kernel
theorem dX2_learnSet_96 : decode cX2_learnSet 96 = .ok (.aload_n 0, 1) := by decide +kernel
theorem dX2_learnSet_97 : decode cX2_learnSet 97 = .ok (.getfield 19, 3) := by decide +kernel
theorem dX2_learnSet_100 : decode cX2_learnSet 100 = .ok (.iload_n 2, 1) := by decide +kernel
theorem dX2_learnSet_101 : decode cX2_learnSet 101 = .ok (.iload_n 2, 1) := by decide +kernel
theorem dX2_learnSet_102 : decode cX2_learnSet 102 = .ok (.iconst 1, 1) := by decide +kernel
theorem dX2_learnSet_103 : decode cX2_learnSet 103 = .ok (.isub, 1) := by decide +kernel
theorem dX2_learnSet_104 : decode cX2_learnSet 104 = .ok (.iand, 1) := by decide +kernel
theorem dX2_learnSet_105 : decode cX2_learnSet 105 = .ok (.iaload, 1) := by decide +kernel
theorem dX2_learnSet_106 : decode cX2_learnSet 106 = .ok (.aload_n 1, 1) := by decide +kernel
theorem dX2_learnSet_107 : decode cX2_learnSet 107 = .ok (.getfield 101, 3) := by decide +kernel
theorem dX2_learnSet_110 : decode cX2_learnSet 110 = .ok (.iload_n 2, 1) := by decide +kernel
theorem dX2_learnSet_111 : decode cX2_learnSet 111 = .ok (.invokestatic 79, 3) := by decide +kernel
theorem dX2_learnSet_114 : decode cX2_learnSet 114 = .ok (.iaload, 1) := by decide +kernel
theorem dX2_learnSet_115 : decode cX2_learnSet 115 = .ok (.iadd, 1) := by decide +kernel
theorem dX2_learnSet_116 : decode cX2_learnSet 116 = .ok (.iastore, 1) := by decide +kernel
theorem dX2_learnSet_117 : decode cX2_learnSet 117 = .ok (.return_, 1) := by decide +kernel
theorem dX2_mostWithin_0 : decode cX2_mostWithin 0 = .ok (.iconst 0, 1) := by decide +kernel
theorem dX2_mostWithin_1 : decode cX2_mostWithin 1 = .ok (.istore_n 3, 1) := by decide +kernel
theorem dX2_mostWithin_2 : decode cX2_mostWithin 2 = .ok (.iload_n 1, 1) := by decide +kernel
theorem dX2_mostWithin_3 : decode cX2_mostWithin 3 = .ok (.istore 4, 2) := by decide +kernel
theorem dX2_mostWithin_5 : decode cX2_mostWithin 5 = .ok (.iload 4, 2) := by decide +kernel
theorem dX2_mostWithin_7 : decode cX2_mostWithin 7 = .ok (.ifCond .le 36, 3) := by decide +kernel
theorem dX2_mostWithin_10 : decode cX2_mostWithin 10 = .ok (.aload_n 0, 1) := by decide +kernel
theorem dX2_mostWithin_11 : decode cX2_mostWithin 11 = .ok (.getfield 9, 3) := by decide +kernel
theorem dX2_mostWithin_14 : decode cX2_mostWithin 14 = .ok (.iload 4, 2) := by decide +kernel
theorem dX2_mostWithin_16 : decode cX2_mostWithin 16 = .ok (.baload, 1) := by decide +kernel
theorem dX2_mostWithin_17 : decode cX2_mostWithin 17 = .ok (.ifCond .ne 15, 3) := by decide +kernel
theorem dX2_mostWithin_20 : decode cX2_mostWithin 20 = .ok (.iload_n 3, 1) := by decide +kernel
theorem dX2_mostWithin_21 : decode cX2_mostWithin 21 = .ok (.aload_n 0, 1) := by decide +kernel
theorem dX2_mostWithin_22 : decode cX2_mostWithin 22 = .ok (.iload 4, 2) := by decide +kernel
theorem dX2_mostWithin_24 : decode cX2_mostWithin 24 = .ok (.iload_n 2, 1) := by decide +kernel
theorem dX2_mostWithin_25 : decode cX2_mostWithin 25 = .ok (.invokevirtual 83, 3) := by decide +kernel
theorem dX2_mostWithin_28 : decode cX2_mostWithin 28 = .ok (.invokestatic 86, 3) := by decide +kernel
theorem dX2_mostWithin_31 : decode cX2_mostWithin 31 = .ok (.istore_n 3, 1) := by decide +kernel
theorem dX2_mostWithin_32 : decode cX2_mostWithin 32 = .ok (.iload 4, 2) := by decide +kernel
theorem dX2_mostWithin_34 : decode cX2_mostWithin 34 = .ok (.iconst 1, 1) := by decide +kernel
theorem dX2_mostWithin_35 : decode cX2_mostWithin 35 = .ok (.isub, 1) := by decide +kernel
theorem dX2_mostWithin_36 : decode cX2_mostWithin 36 = .ok (.iload_n 1, 1) := by decide +kernel
theorem dX2_mostWithin_37 : decode cX2_mostWithin 37 = .ok (.iand, 1) := by decide +kernel
theorem dX2_mostWithin_38 : decode cX2_mostWithin 38 = .ok (.istore 4, 2) := by decide +kernel
theorem dX2_mostWithin_40 : decode cX2_mostWithin 40 = .ok (.goto (-35), 3) := by decide +kernel
theorem dX2_mostWithin_43 : decode cX2_mostWithin 43 = .ok (.iload_n 3, 1) := by decide +kernel
theorem dX2_mostWithin_44 : decode cX2_mostWithin 44 = .ok (.ireturn, 1) := by decide +kernel
set_option maxRecDepth 20000 in
theorem ggX2_amount_J6_bitCount_0f7a4 : GoodIn wsX2_amount wsJ6_bitCount_0f7a4 := goodIn_r _ [5, 6, 7, 8] (by decide +kernel) (by decide +kernel)
set_option maxRecDepth 20000 in
theorem gX2_amount_J6_bitCount_0f7a4 : GoodIn wsX2_amount (va_wsS RX2 92 yJ6_bitCount_0f7a4 wsJ6_bitCount_0f7a4) := goodIn_app (goodIn_of _ (by decide +kernel)) ggX2_amount_J6_bitCount_0f7a4
set_option maxRecDepth 20000 in
theorem ggX2_beginnings_X2_amount : GoodIn wsX2_beginnings wsX2_amount := goodIn_r _ [7, 8, 9, 10, 11, 12, 13, 14, 15, 16, 17, 18, 19, 20, 21] (by decide +kernel) (by decide +kernel)
set_option maxRecDepth 20000 in
theorem gX2_beginnings_X2_amount : GoodIn wsX2_beginnings (wsV RX2 83 RX2 yX2_amount wsX2_amount) := goodIn_app (goodIn_of _ (by decide +kernel)) ggX2_beginnings_X2_amount
set_option maxRecDepth 20000 in
theorem ggX2_cheapest_X10_isIn : GoodIn wsX2_cheapest wsX10_isIn := goodIn_r _ [3] (by decide +kernel) (by decide +kernel)
set_option maxRecDepth 20000 in
theorem gX2_cheapest_X10_isIn_n54 : GoodIn wsX2_cheapest (wsX10_isIn) := ggX2_cheapest_X10_isIn
set_option maxRecDepth 20000 in
theorem ggX2_cheapest_X2_breaksBehind : GoodIn wsX2_cheapest wsX2_breaksBehind := goodIn_r _ [8, 9, 10, 27, 28, 29, 30, 31, 32, 11, 12, 13, 14, 15, 16, 17, 18, 19, 20, 21, 22, 23, 24, 25, 26] (by decide +kernel) (by decide +kernel)
set_option maxRecDepth 20000 in
theorem gX2_cheapest_X2_breaksBehind : GoodIn wsX2_cheapest (wsV RX2 67 RX2 yX2_breaksBehind wsX2_breaksBehind) := goodIn_app (goodIn_of _ (by decide +kernel)) ggX2_cheapest_X2_breaksBehind
set_option maxRecDepth 20000 in
theorem ggX2_learnSet_X10_isIn : GoodIn wsX2_learnSet wsX10_isIn := goodIn_r _ [6] (by decide +kernel) (by decide +kernel)
set_option maxRecDepth 20000 in
theorem gX2_learnSet_X10_isIn_n54 : GoodIn wsX2_learnSet (wsX10_isIn) := ggX2_learnSet_X10_isIn
set_option maxRecDepth 20000 in
theorem ggX2_learnSet_X10_lowest : GoodIn wsX2_learnSet wsX10_lowest := goodIn_r _ [13, 14, 15, 16, 17, 18] (by decide +kernel) (by decide +kernel)
set_option maxRecDepth 20000 in
theorem gX2_learnSet_X10_lowest_n79 : GoodIn wsX2_learnSet (wsX10_lowest) := ggX2_learnSet_X10_lowest
set_option maxRecDepth 20000 in
theorem ggX2_learnSet_X2_breaksBehind : GoodIn wsX2_learnSet wsX2_breaksBehind := goodIn_r _ [11, 1, 2, 35, 36, 37, 38, 39, 40, 19, 20, 21, 22, 23, 24, 25, 26, 27, 28, 29, 30, 31, 32, 33, 34] (by decide +kernel) (by decide +kernel)
set_option maxRecDepth 20000 in
theorem gX2_learnSet_X2_breaksBehind : GoodIn wsX2_learnSet (wsV RX2 67 RX2 yX2_breaksBehind wsX2_breaksBehind) := goodIn_app (goodIn_of _ (by decide +kernel)) ggX2_learnSet_X2_breaksBehind
set_option maxRecDepth 20000 in
theorem ggX2_mostWithin_X2_amount : GoodIn wsX2_mostWithin wsX2_amount := goodIn_r _ [10, 11, 12, 13, 14, 15, 16, 17, 18, 19, 20, 21, 22, 23, 24] (by decide +kernel) (by decide +kernel)
set_option maxRecDepth 20000 in
theorem gX2_mostWithin_X2_amount : GoodIn wsX2_mostWithin (wsV RX2 83 RX2 yX2_amount wsX2_amount) := goodIn_app (goodIn_of _ (by decide +kernel)) ggX2_mostWithin_X2_amount
set_option maxHeartbeats 4000000 in
set_option maxRecDepth 100000 in
theorem c_X2_breaksBehind (l : Launch) (D : va_G) (cB cI cJ cS cZ cO : ClassId) (sz : Nat) (o : Nat) (t : Nat) (k : Nat) (rs : Nat) (od_breaks : Nat) (od_starts : Nat) (od_worths : Nat) (od_closing : Nat) (od_isKnown : Int32) (od_isClosingKnown : Int32) (lb : Nat) (fb : Nat → Int32) (fs : Nat → Int32) (k_name : Nat) (k_worth : Nat) (k_times : Nat) (k_first : Nat) (k_second : Nat) (k_beforeLast : Nat) (k_last : Nat) (k_errandOf : Nat) (k_errandAfter : Nat) (k_sound : Nat) (k_followers : Nat) (k_leaders : Nat) (w : Nat) (k_errands : Int32) (k_alikes : Int32) (k_law : Int32) (f_followers : Nat → Int32) (hlb : lb ≤ 16384) (hk : k < 24) (hrs : rs < lb) : Met l yX2_breaksBehind wsX2_breaksBehind ({ frames := 0, cells := 0, slots := 0, locals := 0 }) (xPre D (tyL cB cI cJ cS cZ cO) [(o, .inr (2, [.ref od_breaks, .ref od_starts, .ref od_worths, .ref od_closing, .int od_isKnown, .int od_isClosingKnown])), (od_breaks, .inl (cB, lb, .inl fb)), (od_starts, .inl (cI, lb, .inl fs)), (t, .inr (8, [.ref k_name, .ref k_worth, .ref k_times, .ref k_first, .ref k_second, .ref k_beforeLast, .ref k_last, .ref k_errandOf, .ref k_errandAfter, .ref k_sound, .ref k_followers, .ref k_leaders, .int (nI w), .int k_errands, .int k_alikes, .int k_law])), (k_followers, .inl (cI, 24, .inl f_followers))] sz [.ref o, .ref t, .int (nI k), .int (nI rs)]) (xQi D (tyL cB cI cJ cS cZ cO) (va_A [(o, .inr (2, [.ref od_breaks, .ref od_starts, .ref od_worths, .ref od_closing, .int od_isKnown, .int od_isClosingKnown])), (od_breaks, .inl (cB, lb, .inl fb)), (od_starts, .inl (cI, lb, .inl fs)), (t, .inr (8, [.ref k_name, .ref k_worth, .ref k_times, .ref k_first, .ref k_second, .ref k_beforeLast, .ref k_last, .ref k_errandOf, .ref k_errandAfter, .ref k_sound, .ref k_followers, .ref k_leaders, .int (nI w), .int k_errands, .int k_alikes, .int k_law])), (k_followers, .inl (cI, 24, .inl f_followers))] sz) (fun (r : Int32) (u : va_W) => u = [(o, .inr (2, [.ref od_breaks, .ref od_starts, .ref od_worths, .ref od_closing, .int od_isKnown, .int od_isClosingKnown])), (od_breaks, .inl (cB, lb, .inl fb)), (od_starts, .inl (cI, lb, .inl fs)), (t, .inr (8, [.ref k_name, .ref k_worth, .ref k_times, .ref k_first, .ref k_second, .ref k_beforeLast, .ref k_last, .ref k_errandOf, .ref k_errandAfter, .ref k_sound, .ref k_followers, .ref k_leaders, .int (nI w), .int k_errands, .int k_alikes, .int k_law])), (k_followers, .inl (cI, 24, .inl f_followers))])) 0 0 (va_A [(o, .inr (2, [.ref od_breaks, .ref od_starts, .ref od_worths, .ref od_closing, .int od_isKnown, .int od_isClosingKnown])), (od_breaks, .inl (cB, lb, .inl fb)), (od_starts, .inl (cI, lb, .inl fs)), (t, .inr (8, [.ref k_name, .ref k_worth, .ref k_times, .ref k_first, .ref k_second, .ref k_beforeLast, .ref k_last, .ref k_errandOf, .ref k_errandAfter, .ref k_sound, .ref k_followers, .ref k_leaders, .int (nI w), .int k_errands, .int k_alikes, .int k_law])), (k_followers, .inl (cI, 24, .inl f_followers))] sz) := by
  refine Met.ofW (cc := cX2_breaksBehind) (maxL := 4) (ret := (some .int)) (by decide) rfl ?_
  intro p e s m args below meth c s₁ B hml hv
  obtain ⟨rfl, hsz, hP, hK, hD0, hN⟩ := hv
  have hx := B.exec
  have hb := B.bytes
  have hr := B.returns
  have hts := atoms_spec (ws := wsX2_breaksBehind) B.pre
  have hown : s.vm.findClass RX2 = some m.cls := findClass_of_methodNamed B.named
  have hlocks := B.notSynchronized
  subst hsz
  have hD := hD0.self (sz := s.heap.size)
  generalize hAe : va_A [(o, .inr (2, [.ref od_breaks, .ref od_starts, .ref od_worths, .ref od_closing, .int od_isKnown, .int od_isClosingKnown])), (od_breaks, .inl (cB, lb, .inl fb)), (od_starts, .inl (cI, lb, .inl fs)), (t, .inr (8, [.ref k_name, .ref k_worth, .ref k_times, .ref k_first, .ref k_second, .ref k_beforeLast, .ref k_last, .ref k_errandOf, .ref k_errandAfter, .ref k_sound, .ref k_followers, .ref k_leaders, .int (nI w), .int k_errands, .int k_alikes, .int k_law])), (k_followers, .inl (cI, 24, .inl f_followers))] s.heap.size = A at hD ⊢
  have hA : ∀ q : Nat, s.heap.size ≤ q → A q := fun q h => by rw [← hAe]; exact Or.inr h
  have hS : va_S A s.heap s.heap [] := va_S.rf
  have hP : va_P D vwCl [(o, .inr (2, [.ref od_breaks, .ref od_starts, .ref od_worths, .ref od_closing, .int od_isKnown, .int od_isClosingKnown])), (od_breaks, .inl (cB, lb, .inl fb)), (od_starts, .inl (cI, lb, .inl fs)), (t, .inr (8, [.ref k_name, .ref k_worth, .ref k_times, .ref k_first, .ref k_second, .ref k_beforeLast, .ref k_last, .ref k_errandOf, .ref k_errandAfter, .ref k_sound, .ref k_followers, .ref k_leaders, .int (nI w), .int k_errands, .int k_alikes, .int k_law])), (k_followers, .inl (cI, 24, .inl f_followers))] s.heap := hP
  have hl := lv_entry ([.ref o, .ref t, .int (nI k), .int (nI rs)]) (n := 4) (Nat.le_of_ble_eq_true rfl)
  rw [lg_entry_eq]
  generalize (lg_sl ([.ref o, .ref t, .int (nI k), .int (nI rs)]) ++ List.replicate (4 - (lg_sl ([.ref o, .ref t, .int (nI k), .int (nI rs)])).length) Slot.unset).toArray = ls at hl ⊢
  have hl : lv_has ls 4 [(0, .ref o), (1, .ref t), (2, .int (nI k)), (3, .int (nI rs))] := hl
  refine lv_iload_n hx hb dX2_breaksBehind_0 rfl (lv_at hl 3 rfl) ?_
  refine lv_if_ne (tgt := 6) hx hb dX2_breaksBehind_1 (by decide) (fun c_1 => ?_) (fun c_1 => ?_)
  · have dc_1 : ¬ rs = 0 := fun h => c_1 ((nI_eq (a := rs) (b := 0) (by omega) (by omega)).mpr h)
    refine lv_aload_n hx hb dX2_breaksBehind_6 rfl (lv_at hl 0 rfl) ?_
    refine va_get (D := D) (ci := 2) (v := .ref od_breaks) (C := RX2) (T := TX2) (N := 6) hx hb hts (by decide +kernel) hown hK hP 0 rfl rfl 0 (by decide) (hts (.fieldLink RX2 9 "LastLetter$Orders" "breaks" "[B") (by decide +kernel)) (fun _ h9 => h9) rfl dX2_breaksBehind_7 ?_
    refine lv_iload_n hx hb dX2_breaksBehind_10 rfl (lv_at hl 3 rfl) ?_
    refine va_bald hx hb hK hP 1 0 rfl rfl (vp_in_nI (by omega) (by omega)) dX2_breaksBehind_11 ?_
    refine xb_top (y := fb rs) (by rw [nI_clamp (by omega)]) ?_
    refine lv_aload_n hx hb dX2_breaksBehind_12 rfl (lv_at hl 1 rfl) ?_
    refine va_getN (D := D) (ci := 8) (v := .ref k_followers) (C := RX8) (T := TX8) (N := 16) hx hb hts (by decide +kernel) hown hK hP 3 rfl rfl 10 (by decide) (va_Nw.use rfl (hN.1 (RX2, 64, RX8, "followers", "[I", RX10) (by decide +kernel))) (fun _ h9 => h9) rfl dX2_breaksBehind_13 ?_
    refine lv_iload_n hx hb dX2_breaksBehind_16 rfl (lv_at hl 2 rfl) ?_
    refine va_iald hx hb hK hP 4 1 rfl rfl (vp_in_nI (by omega) (by omega)) dX2_breaksBehind_17 ?_
    refine xb_top (y := f_followers k) (by rw [nI_clamp (by omega)]) ?_
    refine lv_aload_n hx hb dX2_breaksBehind_18 rfl (lv_at hl 0 rfl) ?_
    refine va_get (D := D) (ci := 2) (v := .ref od_starts) (C := RX2) (T := TX2) (N := 6) hx hb hts (by decide +kernel) hown hK hP 0 rfl rfl 1 (by decide) (hts (.fieldLink RX2 15 "LastLetter$Orders" "starts" "[I") (by decide +kernel)) (fun _ h9 => h9) rfl dX2_breaksBehind_19 ?_
    refine lv_iload_n hx hb dX2_breaksBehind_22 rfl (lv_at hl 3 rfl) ?_
    refine va_iald hx hb hK hP 2 1 rfl rfl (vp_in_nI (by omega) (by omega)) dX2_breaksBehind_23 ?_
    refine xb_top (y := fs rs) (by rw [nI_clamp (by omega)]) ?_
    refine lv_iand hx hb dX2_breaksBehind_24 ?_
    refine lv_if_eq (tgt := 32) hx hb dX2_breaksBehind_25 (by decide) (fun c_2 => ?_) (fun c_2 => ?_)
    · refine lv_iconst (v := 1) hx hb dX2_breaksBehind_32 (by decide) ?_
      refine lv_iadd hx hb dX2_breaksBehind_33 ?_
      have hP9 := hP.sub (ws' := [(o, .inr (2, [.ref od_breaks, .ref od_starts, .ref od_worths, .ref od_closing, .int od_isKnown, .int od_isClosingKnown])), (od_breaks, .inl (cB, lb, .inl fb)), (od_starts, .inl (cI, lb, .inl fs)), (t, .inr (8, [.ref k_name, .ref k_worth, .ref k_times, .ref k_first, .ref k_second, .ref k_beforeLast, .ref k_last, .ref k_errandOf, .ref k_errandAfter, .ref k_sound, .ref k_followers, .ref k_leaders, .int (nI w), .int k_errands, .int k_alikes, .int k_law])), (k_followers, .inl (cI, 24, .inl f_followers))]) [0, 1, 2, 3, 4] rfl
      have hD9 := hD.sub (ws' := [(o, .inr (2, [.ref od_breaks, .ref od_starts, .ref od_worths, .ref od_closing, .int od_isKnown, .int od_isClosingKnown])), (od_breaks, .inl (cB, lb, .inl fb)), (od_starts, .inl (cI, lb, .inl fs)), (t, .inr (8, [.ref k_name, .ref k_worth, .ref k_times, .ref k_first, .ref k_second, .ref k_beforeLast, .ref k_last, .ref k_errandOf, .ref k_errandAfter, .ref k_sound, .ref k_followers, .ref k_leaders, .int (nI w), .int k_errands, .int k_alikes, .int k_law])), (k_followers, .inl (cI, 24, .inl f_followers))]) [0, 1, 2, 3, 4] (by decide) rfl
      refine W.widen (k := 0) (n := 0) (Nat.le_of_ble_eq_true rfl) (Nat.le_of_ble_eq_true rfl) ?_
      exact W.iret (v := (fb rs) + 1) hx hb hr (fun tz htz hWz => ⟨⟨(fb rs) + 1, [(o, .inr (2, [.ref od_breaks, .ref od_starts, .ref od_worths, .ref od_closing, .int od_isKnown, .int od_isClosingKnown])), (od_breaks, .inl (cB, lb, .inl fb)), (od_starts, .inl (cI, lb, .inl fs)), (t, .inr (8, [.ref k_name, .ref k_worth, .ref k_times, .ref k_first, .ref k_second, .ref k_beforeLast, .ref k_last, .ref k_errandOf, .ref k_errandAfter, .ref k_sound, .ref k_followers, .ref k_leaders, .int (nI w), .int k_errands, .int k_alikes, .int k_law])), (k_followers, .inl (cI, 24, .inl f_followers))], rfl, rfl, by rw [htz]; exact hP9, va_K.moved hWz.alike hK, hD9⟩, hS.F htz⟩) hS.2.2 dX2_breaksBehind_34
    · refine lv_iconst (v := 0) hx hb dX2_breaksBehind_28 (by decide) ?_
      refine lv_goto (tgt := 33) hx hb dX2_breaksBehind_29 (by decide) ?_
      refine lv_iadd hx hb dX2_breaksBehind_33 ?_
      have hP9 := hP.sub (ws' := [(o, .inr (2, [.ref od_breaks, .ref od_starts, .ref od_worths, .ref od_closing, .int od_isKnown, .int od_isClosingKnown])), (od_breaks, .inl (cB, lb, .inl fb)), (od_starts, .inl (cI, lb, .inl fs)), (t, .inr (8, [.ref k_name, .ref k_worth, .ref k_times, .ref k_first, .ref k_second, .ref k_beforeLast, .ref k_last, .ref k_errandOf, .ref k_errandAfter, .ref k_sound, .ref k_followers, .ref k_leaders, .int (nI w), .int k_errands, .int k_alikes, .int k_law])), (k_followers, .inl (cI, 24, .inl f_followers))]) [0, 1, 2, 3, 4] rfl
      have hD9 := hD.sub (ws' := [(o, .inr (2, [.ref od_breaks, .ref od_starts, .ref od_worths, .ref od_closing, .int od_isKnown, .int od_isClosingKnown])), (od_breaks, .inl (cB, lb, .inl fb)), (od_starts, .inl (cI, lb, .inl fs)), (t, .inr (8, [.ref k_name, .ref k_worth, .ref k_times, .ref k_first, .ref k_second, .ref k_beforeLast, .ref k_last, .ref k_errandOf, .ref k_errandAfter, .ref k_sound, .ref k_followers, .ref k_leaders, .int (nI w), .int k_errands, .int k_alikes, .int k_law])), (k_followers, .inl (cI, 24, .inl f_followers))]) [0, 1, 2, 3, 4] (by decide) rfl
      refine W.widen (k := 0) (n := 0) (Nat.le_of_ble_eq_true rfl) (Nat.le_of_ble_eq_true rfl) ?_
      exact W.iret (v := (fb rs) + 0) hx hb hr (fun tz htz hWz => ⟨⟨(fb rs) + 0, [(o, .inr (2, [.ref od_breaks, .ref od_starts, .ref od_worths, .ref od_closing, .int od_isKnown, .int od_isClosingKnown])), (od_breaks, .inl (cB, lb, .inl fb)), (od_starts, .inl (cI, lb, .inl fs)), (t, .inr (8, [.ref k_name, .ref k_worth, .ref k_times, .ref k_first, .ref k_second, .ref k_beforeLast, .ref k_last, .ref k_errandOf, .ref k_errandAfter, .ref k_sound, .ref k_followers, .ref k_leaders, .int (nI w), .int k_errands, .int k_alikes, .int k_law])), (k_followers, .inl (cI, 24, .inl f_followers))], rfl, rfl, by rw [htz]; exact hP9, va_K.moved hWz.alike hK, hD9⟩, hS.F htz⟩) hS.2.2 dX2_breaksBehind_34
  · have dc_1 : rs = 0 := (nI_eq (a := rs) (b := 0) (by omega) (by omega)).mp c_1
    refine lv_iconst (v := 0) hx hb dX2_breaksBehind_4 (by decide) ?_
    have hP9 := hP.sub (ws' := [(o, .inr (2, [.ref od_breaks, .ref od_starts, .ref od_worths, .ref od_closing, .int od_isKnown, .int od_isClosingKnown])), (od_breaks, .inl (cB, lb, .inl fb)), (od_starts, .inl (cI, lb, .inl fs)), (t, .inr (8, [.ref k_name, .ref k_worth, .ref k_times, .ref k_first, .ref k_second, .ref k_beforeLast, .ref k_last, .ref k_errandOf, .ref k_errandAfter, .ref k_sound, .ref k_followers, .ref k_leaders, .int (nI w), .int k_errands, .int k_alikes, .int k_law])), (k_followers, .inl (cI, 24, .inl f_followers))]) [0, 1, 2, 3, 4] rfl
    have hD9 := hD.sub (ws' := [(o, .inr (2, [.ref od_breaks, .ref od_starts, .ref od_worths, .ref od_closing, .int od_isKnown, .int od_isClosingKnown])), (od_breaks, .inl (cB, lb, .inl fb)), (od_starts, .inl (cI, lb, .inl fs)), (t, .inr (8, [.ref k_name, .ref k_worth, .ref k_times, .ref k_first, .ref k_second, .ref k_beforeLast, .ref k_last, .ref k_errandOf, .ref k_errandAfter, .ref k_sound, .ref k_followers, .ref k_leaders, .int (nI w), .int k_errands, .int k_alikes, .int k_law])), (k_followers, .inl (cI, 24, .inl f_followers))]) [0, 1, 2, 3, 4] (by decide) rfl
    refine W.widen (k := 0) (n := 0) (Nat.le_of_ble_eq_true rfl) (Nat.le_of_ble_eq_true rfl) ?_
    exact W.iret (v := 0) hx hb hr (fun tz htz hWz => ⟨⟨0, [(o, .inr (2, [.ref od_breaks, .ref od_starts, .ref od_worths, .ref od_closing, .int od_isKnown, .int od_isClosingKnown])), (od_breaks, .inl (cB, lb, .inl fb)), (od_starts, .inl (cI, lb, .inl fs)), (t, .inr (8, [.ref k_name, .ref k_worth, .ref k_times, .ref k_first, .ref k_second, .ref k_beforeLast, .ref k_last, .ref k_errandOf, .ref k_errandAfter, .ref k_sound, .ref k_followers, .ref k_leaders, .int (nI w), .int k_errands, .int k_alikes, .int k_law])), (k_followers, .inl (cI, 24, .inl f_followers))], rfl, rfl, by rw [htz]; exact hP9, va_K.moved hWz.alike hK, hD9⟩, hS.F htz⟩) hS.2.2 dX2_breaksBehind_5

set_option maxHeartbeats 4000000 in
set_option maxRecDepth 100000 in
theorem c_X2_cheapest (l : Launch) (D : va_G) (cB cI cJ cS cZ cO : ClassId) (sz : Nat) (o : Nat) (t : Nat) (rs : Nat) (y : Int32) (z : Int32) (od_breaks : Nat) (od_starts : Nat) (od_worths : Nat) (od_closing : Nat) (od_isKnown : Int32) (od_isClosingKnown : Int32) (lb : Nat) (fb : Nat → Int32) (fs : Nat → Int32) (k_name : Nat) (k_worth : Nat) (k_times : Nat) (k_first : Nat) (k_second : Nat) (k_beforeLast : Nat) (k_last : Nat) (k_errandOf : Nat) (k_errandAfter : Nat) (k_sound : Nat) (k_followers : Nat) (k_leaders : Nat) (w : Nat) (k_errands : Int32) (k_alikes : Int32) (k_law : Int32) (f_followers : Nat → Int32) (sN : Nat) (hs : sN = 2 ^ w) (hw4 : w ≤ 14) (hs1 : 1 ≤ sN) (hs2 : sN ≤ 16384) (hlb : lb ≤ 16384) (hsl : sN ≤ lb) (hrs : rs < sN) : Met l yX2_cheapest wsX2_cheapest ({ frames := 1, cells := 0, slots := 0, locals := 23 }) (xPre D (tyL cB cI cJ cS cZ cO) [(o, .inr (2, [.ref od_breaks, .ref od_starts, .ref od_worths, .ref od_closing, .int od_isKnown, .int od_isClosingKnown])), (od_breaks, .inl (cB, lb, .inl fb)), (od_starts, .inl (cI, lb, .inl fs)), (t, .inr (8, [.ref k_name, .ref k_worth, .ref k_times, .ref k_first, .ref k_second, .ref k_beforeLast, .ref k_last, .ref k_errandOf, .ref k_errandAfter, .ref k_sound, .ref k_followers, .ref k_leaders, .int (nI w), .int k_errands, .int k_alikes, .int k_law])), (k_followers, .inl (cI, 24, .inl f_followers))] sz [.ref o, .ref t, .int (nI rs), .int y, .int z]) (xQi D (tyL cB cI cJ cS cZ cO) (va_A [(o, .inr (2, [.ref od_breaks, .ref od_starts, .ref od_worths, .ref od_closing, .int od_isKnown, .int od_isClosingKnown])), (od_breaks, .inl (cB, lb, .inl fb)), (od_starts, .inl (cI, lb, .inl fs)), (t, .inr (8, [.ref k_name, .ref k_worth, .ref k_times, .ref k_first, .ref k_second, .ref k_beforeLast, .ref k_last, .ref k_errandOf, .ref k_errandAfter, .ref k_sound, .ref k_followers, .ref k_leaders, .int (nI w), .int k_errands, .int k_alikes, .int k_law])), (k_followers, .inl (cI, 24, .inl f_followers))] sz) (fun (r : Int32) (u : va_W) => u = [(o, .inr (2, [.ref od_breaks, .ref od_starts, .ref od_worths, .ref od_closing, .int od_isKnown, .int od_isClosingKnown])), (od_breaks, .inl (cB, lb, .inl fb)), (od_starts, .inl (cI, lb, .inl fs)), (t, .inr (8, [.ref k_name, .ref k_worth, .ref k_times, .ref k_first, .ref k_second, .ref k_beforeLast, .ref k_last, .ref k_errandOf, .ref k_errandAfter, .ref k_sound, .ref k_followers, .ref k_leaders, .int (nI w), .int k_errands, .int k_alikes, .int k_law])), (k_followers, .inl (cI, 24, .inl f_followers))] ∧ (r = -1 ∨ ∃ q, q < w ∧ r = nI q))) 0 0 (va_A [(o, .inr (2, [.ref od_breaks, .ref od_starts, .ref od_worths, .ref od_closing, .int od_isKnown, .int od_isClosingKnown])), (od_breaks, .inl (cB, lb, .inl fb)), (od_starts, .inl (cI, lb, .inl fs)), (t, .inr (8, [.ref k_name, .ref k_worth, .ref k_times, .ref k_first, .ref k_second, .ref k_beforeLast, .ref k_last, .ref k_errandOf, .ref k_errandAfter, .ref k_sound, .ref k_followers, .ref k_leaders, .int (nI w), .int k_errands, .int k_alikes, .int k_law])), (k_followers, .inl (cI, 24, .inl f_followers))] sz) := by
  refine Met.ofW (cc := cX2_cheapest) (maxL := 7) (ret := (some .int)) (by decide) rfl ?_
  intro p e s m args below meth c s₁ B hml hv
  obtain ⟨rfl, hsz, hP, hK, hD0, hN⟩ := hv
  have hx := B.exec
  have hb := B.bytes
  have hr := B.returns
  have hts := atoms_spec (ws := wsX2_cheapest) B.pre
  have hown : s.vm.findClass RX2 = some m.cls := findClass_of_methodNamed B.named
  have hlocks := B.notSynchronized
  subst hsz
  have hD := hD0.self (sz := s.heap.size)
  generalize hAe : va_A [(o, .inr (2, [.ref od_breaks, .ref od_starts, .ref od_worths, .ref od_closing, .int od_isKnown, .int od_isClosingKnown])), (od_breaks, .inl (cB, lb, .inl fb)), (od_starts, .inl (cI, lb, .inl fs)), (t, .inr (8, [.ref k_name, .ref k_worth, .ref k_times, .ref k_first, .ref k_second, .ref k_beforeLast, .ref k_last, .ref k_errandOf, .ref k_errandAfter, .ref k_sound, .ref k_followers, .ref k_leaders, .int (nI w), .int k_errands, .int k_alikes, .int k_law])), (k_followers, .inl (cI, 24, .inl f_followers))] s.heap.size = A at hD ⊢
  have hA : ∀ q : Nat, s.heap.size ≤ q → A q := fun q h => by rw [← hAe]; exact Or.inr h
  have hS : va_S A s.heap s.heap [] := va_S.rf
  have hP : va_P D vwCl [(o, .inr (2, [.ref od_breaks, .ref od_starts, .ref od_worths, .ref od_closing, .int od_isKnown, .int od_isClosingKnown])), (od_breaks, .inl (cB, lb, .inl fb)), (od_starts, .inl (cI, lb, .inl fs)), (t, .inr (8, [.ref k_name, .ref k_worth, .ref k_times, .ref k_first, .ref k_second, .ref k_beforeLast, .ref k_last, .ref k_errandOf, .ref k_errandAfter, .ref k_sound, .ref k_followers, .ref k_leaders, .int (nI w), .int k_errands, .int k_alikes, .int k_law])), (k_followers, .inl (cI, 24, .inl f_followers))] s.heap := hP
  have hl := lv_entry ([.ref o, .ref t, .int (nI rs), .int y, .int z]) (n := 7) (Nat.le_of_ble_eq_true rfl)
  rw [lg_entry_eq]
  generalize (lg_sl ([.ref o, .ref t, .int (nI rs), .int y, .int z]) ++ List.replicate (7 - (lg_sl ([.ref o, .ref t, .int (nI rs), .int y, .int z])).length) Slot.unset).toArray = ls at hl ⊢
  have hl : lv_has ls 7 [(0, .ref o), (1, .ref t), (2, .int (nI rs)), (3, .int y), (4, .int z)] := hl
  refine lv_iconst (v := 0) hx hb dX2_cheapest_0 (by decide) ?_
  refine lv_istore (lv' := [(5, .int 0), (0, .ref o), (1, .ref t), (2, .int (nI rs)), (3, .int y), (4, .int z)]) hx hb dX2_cheapest_1 hl (by decide) rfl (fun ls hl => ?_)
  refine xb_wh (fun (n9 : Nat) H locs ls => ∃ i : Nat, (w - i) = n9 ∧ va_P D vwCl [(o, .inr (2, [.ref od_breaks, .ref od_starts, .ref od_worths, .ref od_closing, .int od_isKnown, .int od_isClosingKnown])), (od_breaks, .inl (cB, lb, .inl fb)), (od_starts, .inl (cI, lb, .inl fs)), (t, .inr (8, [.ref k_name, .ref k_worth, .ref k_times, .ref k_first, .ref k_second, .ref k_beforeLast, .ref k_last, .ref k_errandOf, .ref k_errandAfter, .ref k_sound, .ref k_followers, .ref k_leaders, .int (nI w), .int k_errands, .int k_alikes, .int k_law])), (k_followers, .inl (cI, 24, .inl f_followers))] H ∧ va_D A [(o, .inr (2, [.ref od_breaks, .ref od_starts, .ref od_worths, .ref od_closing, .int od_isKnown, .int od_isClosingKnown])), (od_breaks, .inl (cB, lb, .inl fb)), (od_starts, .inl (cI, lb, .inl fs)), (t, .inr (8, [.ref k_name, .ref k_worth, .ref k_times, .ref k_first, .ref k_second, .ref k_beforeLast, .ref k_last, .ref k_errandOf, .ref k_errandAfter, .ref k_sound, .ref k_followers, .ref k_leaders, .int (nI w), .int k_errands, .int k_alikes, .int k_law])), (k_followers, .inl (cI, 24, .inl f_followers))] ∧ va_S A s.heap H locs ∧ lv_has ls 7 [(5, .int (nI i)), (0, .ref o), (1, .ref t), (2, .int (nI rs)), (3, .int y), (4, .int z)] ∧ (i ≤ w)) ⟨0, rfl, hP, hD, hS, lv_sub hl [0, 1, 2, 3, 4, 5] rfl, (by first | assumption | omega)⟩ (fun n9 H locs ls hI kk_3 => ?_)
  obtain ⟨i, hn_3, hP, hD, hS, hl, hF_h_1⟩ := hI
  refine lv_iload hx hb dX2_cheapest_3 (lv_at hl 0 rfl) ?_
  refine lv_aload_n hx hb dX2_cheapest_5 rfl (lv_at hl 2 rfl) ?_
  refine va_getN (D := D) (ci := 8) (v := .int (nI w)) (C := RX8) (T := TX8) (N := 16) hx hb hts (by decide +kernel) hown hK hP 3 rfl rfl 12 (by decide) (va_Nw.use rfl (hN.1 (RX2, 46, RX8, "words", "I", RX10) (by decide +kernel))) (fun _ h9 => h9) rfl dX2_cheapest_6 ?_
  refine lv_icmp_ge (tgt := 67) hx hb dX2_cheapest_9 (by decide) (fun c_2 => ?_) (fun c_2 => ?_)
  · have dc_2 : w ≤ i := (nI_leI (a := w) (b := i) (by omega) (by omega)).mp c_2
    refine lv_iconst (v := (-1)) hx hb dX2_cheapest_67 (by decide) ?_
    have hP9 := hP.sub (ws' := [(o, .inr (2, [.ref od_breaks, .ref od_starts, .ref od_worths, .ref od_closing, .int od_isKnown, .int od_isClosingKnown])), (od_breaks, .inl (cB, lb, .inl fb)), (od_starts, .inl (cI, lb, .inl fs)), (t, .inr (8, [.ref k_name, .ref k_worth, .ref k_times, .ref k_first, .ref k_second, .ref k_beforeLast, .ref k_last, .ref k_errandOf, .ref k_errandAfter, .ref k_sound, .ref k_followers, .ref k_leaders, .int (nI w), .int k_errands, .int k_alikes, .int k_law])), (k_followers, .inl (cI, 24, .inl f_followers))]) [0, 1, 2, 3, 4] rfl
    have hD9 := hD.sub (ws' := [(o, .inr (2, [.ref od_breaks, .ref od_starts, .ref od_worths, .ref od_closing, .int od_isKnown, .int od_isClosingKnown])), (od_breaks, .inl (cB, lb, .inl fb)), (od_starts, .inl (cI, lb, .inl fs)), (t, .inr (8, [.ref k_name, .ref k_worth, .ref k_times, .ref k_first, .ref k_second, .ref k_beforeLast, .ref k_last, .ref k_errandOf, .ref k_errandAfter, .ref k_sound, .ref k_followers, .ref k_leaders, .int (nI w), .int k_errands, .int k_alikes, .int k_law])), (k_followers, .inl (cI, 24, .inl f_followers))]) [0, 1, 2, 3, 4] (by decide) rfl
    refine W.widen (k := 0) (n := 0) (Nat.le_of_ble_eq_true rfl) (Nat.le_of_ble_eq_true rfl) ?_
    exact W.iret (v := (-1)) hx hb hr (fun tz htz hWz => ⟨⟨(-1), [(o, .inr (2, [.ref od_breaks, .ref od_starts, .ref od_worths, .ref od_closing, .int od_isKnown, .int od_isClosingKnown])), (od_breaks, .inl (cB, lb, .inl fb)), (od_starts, .inl (cI, lb, .inl fs)), (t, .inr (8, [.ref k_name, .ref k_worth, .ref k_times, .ref k_first, .ref k_second, .ref k_beforeLast, .ref k_last, .ref k_errandOf, .ref k_errandAfter, .ref k_sound, .ref k_followers, .ref k_leaders, .int (nI w), .int k_errands, .int k_alikes, .int k_law])), (k_followers, .inl (cI, 24, .inl f_followers))], rfl, ⟨rfl, (Or.inl rfl)⟩, by rw [htz]; exact hP9, va_K.moved hWz.alike hK, hD9⟩, hS.F htz⟩) hS.2.2 dX2_cheapest_68
  · have dc_2 : ¬ w ≤ i := fun h => c_2 ((nI_leI (a := w) (b := i) (by omega) (by omega)).mpr h)
    refine lv_iload_n hx hb dX2_cheapest_12 rfl (lv_at hl 3 rfl) ?_
    refine lv_iload hx hb dX2_cheapest_13 (lv_at hl 0 rfl) ?_
    refine xCi (wr := [(o, .inr (2, [.ref od_breaks, .ref od_starts, .ref od_worths, .ref od_closing, .int od_isKnown, .int od_isClosingKnown])), (od_breaks, .inl (cB, lb, .inl fb)), (od_starts, .inl (cI, lb, .inl fs)), (t, .inr (8, [.ref k_name, .ref k_worth, .ref k_times, .ref k_first, .ref k_second, .ref k_beforeLast, .ref k_last, .ref k_errandOf, .ref k_errandAfter, .ref k_sound, .ref k_followers, .ref k_leaders, .int (nI w), .int k_errands, .int k_alikes, .int k_law])), (k_followers, .inl (cI, 24, .inl f_followers))]) (win := []) hP hD hS hA [] [0, 1, 2, 3, 4] rfl rfl (by decide) (by decide) (va_runSN (As := [.int (nI rs), .int (nI i)]) (rest := []) ⟨hx, hb, hml, hown, hts⟩ (c_X10_isIn_n l D cB cI cJ cS cZ cO H.size rs i (by first | assumption | omega | decide) (by first | assumption | omega | decide)) ⟨va_cnB 2 hts gX2_cheapest_X10_isIn_n54 rfl rfl rfl (hN.2.1 (RX2, 54, yX10_isIn, RX10) (by decide +kernel)) (hts (.initialized RX10) (by decide +kernel)) (by decide +kernel) ⟨Nat.le_of_ble_eq_true rfl, Nat.le_of_ble_eq_true rfl⟩, hts (.static yX10_isIn) (by decide +kernel), trivial⟩ (xPreS (win := []) hN hK hP hD [] (by decide) rfl) rfl rfl hl.1 rfl (lv_room (Nat.le_of_ble_eq_true rfl)) dX2_cheapest_15 ⟨Nat.le_of_ble_eq_true rfl, Nat.le_of_ble_eq_true rfl⟩) (fun r_3 w0 H locs hw hP hD hS => ?_)
    obtain ⟨rfl, hf_4⟩ := hw
    have hP : va_P D vwCl [(o, .inr (2, [.ref od_breaks, .ref od_starts, .ref od_worths, .ref od_closing, .int od_isKnown, .int od_isClosingKnown])), (od_breaks, .inl (cB, lb, .inl fb)), (od_starts, .inl (cI, lb, .inl fs)), (t, .inr (8, [.ref k_name, .ref k_worth, .ref k_times, .ref k_first, .ref k_second, .ref k_beforeLast, .ref k_last, .ref k_errandOf, .ref k_errandAfter, .ref k_sound, .ref k_followers, .ref k_leaders, .int (nI w), .int k_errands, .int k_alikes, .int k_law])), (k_followers, .inl (cI, 24, .inl f_followers))] H := hP
    have hD : va_D A [(o, .inr (2, [.ref od_breaks, .ref od_starts, .ref od_worths, .ref od_closing, .int od_isKnown, .int od_isClosingKnown])), (od_breaks, .inl (cB, lb, .inl fb)), (od_starts, .inl (cI, lb, .inl fs)), (t, .inr (8, [.ref k_name, .ref k_worth, .ref k_times, .ref k_first, .ref k_second, .ref k_beforeLast, .ref k_last, .ref k_errandOf, .ref k_errandAfter, .ref k_sound, .ref k_followers, .ref k_leaders, .int (nI w), .int k_errands, .int k_alikes, .int k_law])), (k_followers, .inl (cI, 24, .inl f_followers))] := hD
    refine lv_if_eq (tgt := 61) hx hb dX2_cheapest_18 (by decide) (fun c_5 => ?_) (fun c_5 => ?_)
    · refine lv_iinc (v := nI (i + 1)) (lv' := [(5, .int (nI (i + 1))), (0, .ref o), (1, .ref t), (2, .int (nI rs)), (3, .int y), (4, .int z)]) hx hb dX2_cheapest_61 hl (k := 0) rfl (nI_1 i) (by decide) rfl (fun ls hl => ?_)
      refine lv_goto (tgt := 3) hx hb dX2_cheapest_64 (by decide) ?_
      exact kk_3 _ _ _ _ (by rw [← hn_3]; omega) ⟨(i + 1), rfl, hP, hD, hS, lv_sub hl [0, 1, 2, 3, 4, 5] rfl, (by first | assumption | omega)⟩
    · refine lv_iload_n hx hb dX2_cheapest_21 rfl (lv_at hl 4 rfl) ?_
      refine lv_iload hx hb dX2_cheapest_22 (lv_at hl 0 rfl) ?_
      refine xCi (wr := [(o, .inr (2, [.ref od_breaks, .ref od_starts, .ref od_worths, .ref od_closing, .int od_isKnown, .int od_isClosingKnown])), (od_breaks, .inl (cB, lb, .inl fb)), (od_starts, .inl (cI, lb, .inl fs)), (t, .inr (8, [.ref k_name, .ref k_worth, .ref k_times, .ref k_first, .ref k_second, .ref k_beforeLast, .ref k_last, .ref k_errandOf, .ref k_errandAfter, .ref k_sound, .ref k_followers, .ref k_leaders, .int (nI w), .int k_errands, .int k_alikes, .int k_law])), (k_followers, .inl (cI, 24, .inl f_followers))]) (win := []) hP hD hS hA [] [0, 1, 2, 3, 4] rfl rfl (by decide) (by decide) (va_runSN (As := [.int y, .int (nI i)]) (rest := []) ⟨hx, hb, hml, hown, hts⟩ (c_X10_isIn l D cB cI cJ cS cZ cO H.size y (nI i) ) ⟨va_cnB 2 hts gX2_cheapest_X10_isIn_n54 rfl rfl rfl (hN.2.1 (RX2, 54, yX10_isIn, RX10) (by decide +kernel)) (hts (.initialized RX10) (by decide +kernel)) (by decide +kernel) ⟨Nat.le_of_ble_eq_true rfl, Nat.le_of_ble_eq_true rfl⟩, hts (.static yX10_isIn) (by decide +kernel), trivial⟩ (xPreS (win := []) hN hK hP hD [] (by decide) rfl) rfl rfl hl.1 rfl (lv_room (Nat.le_of_ble_eq_true rfl)) dX2_cheapest_24 ⟨Nat.le_of_ble_eq_true rfl, Nat.le_of_ble_eq_true rfl⟩) (fun r_6 w0 H locs hw hP hD hS => ?_)
      obtain ⟨rfl, hf_7⟩ := hw
      have hP : va_P D vwCl [(o, .inr (2, [.ref od_breaks, .ref od_starts, .ref od_worths, .ref od_closing, .int od_isKnown, .int od_isClosingKnown])), (od_breaks, .inl (cB, lb, .inl fb)), (od_starts, .inl (cI, lb, .inl fs)), (t, .inr (8, [.ref k_name, .ref k_worth, .ref k_times, .ref k_first, .ref k_second, .ref k_beforeLast, .ref k_last, .ref k_errandOf, .ref k_errandAfter, .ref k_sound, .ref k_followers, .ref k_leaders, .int (nI w), .int k_errands, .int k_alikes, .int k_law])), (k_followers, .inl (cI, 24, .inl f_followers))] H := hP
      have hD : va_D A [(o, .inr (2, [.ref od_breaks, .ref od_starts, .ref od_worths, .ref od_closing, .int od_isKnown, .int od_isClosingKnown])), (od_breaks, .inl (cB, lb, .inl fb)), (od_starts, .inl (cI, lb, .inl fs)), (t, .inr (8, [.ref k_name, .ref k_worth, .ref k_times, .ref k_first, .ref k_second, .ref k_beforeLast, .ref k_last, .ref k_errandOf, .ref k_errandAfter, .ref k_sound, .ref k_followers, .ref k_leaders, .int (nI w), .int k_errands, .int k_alikes, .int k_law])), (k_followers, .inl (cI, 24, .inl f_followers))] := hD
      refine lv_if_eq (tgt := 34) hx hb dX2_cheapest_27 (by decide) (fun c_8 => ?_) (fun c_8 => ?_)
      · refine lv_iconst (v := 1) hx hb dX2_cheapest_34 (by decide) ?_
        refine lv_istore (lv' := [(6, .int 1), (5, .int (nI i)), (0, .ref o), (1, .ref t), (2, .int (nI rs)), (3, .int y), (4, .int z)]) hx hb dX2_cheapest_35 hl (by decide) rfl (fun ls hl => ?_)
        refine lv_iload hx hb dX2_cheapest_37 (lv_at hl 0 rfl) ?_
        refine lv_aload_n hx hb dX2_cheapest_39 rfl (lv_at hl 2 rfl) ?_
        refine lv_aload_n hx hb dX2_cheapest_40 rfl (lv_at hl 3 rfl) ?_
        refine lv_iload hx hb dX2_cheapest_41 (lv_at hl 1 rfl) ?_
        refine lv_iload_n hx hb dX2_cheapest_43 rfl (lv_at hl 4 rfl) ?_
        refine lv_iconst (v := 1) hx hb dX2_cheapest_44 (by decide) ?_
        refine lv_iload hx hb dX2_cheapest_45 (lv_at hl 1 rfl) ?_
        refine lv_ishl hx hb dX2_cheapest_47 ?_
        refine xb_top (y := nI (1 * 2 ^ i)) (nb_shl (a := 1) (i := i) (by omega)) ?_
        obtain ⟨q_9, hq_9, eq_9⟩ := set_xor (a := rs) (i := i) hs (by omega) (by omega)
        refine lv_ixor hx hb dX2_cheapest_48 ?_
        refine xb_top (y := nI q_9) ((nb_xor rs (1 * 2 ^ i)).trans eq_9) ?_
        refine xCi (wr := []) (win := [(o, .inr (2, [.ref od_breaks, .ref od_starts, .ref od_worths, .ref od_closing, .int od_isKnown, .int od_isClosingKnown])), (od_breaks, .inl (cB, lb, .inl fb)), (od_starts, .inl (cI, lb, .inl fs)), (t, .inr (8, [.ref k_name, .ref k_worth, .ref k_times, .ref k_first, .ref k_second, .ref k_beforeLast, .ref k_last, .ref k_errandOf, .ref k_errandAfter, .ref k_sound, .ref k_followers, .ref k_leaders, .int (nI w), .int k_errands, .int k_alikes, .int k_law])), (k_followers, .inl (cI, 24, .inl f_followers))]) hP hD hS hA [0, 1, 2, 3, 4] [] rfl rfl (by decide) (by decide) (va_runV (As := [.ref t, .int (nI i), .int (nI q_9)]) (rest := [.int 1]) ⟨hx, hb, hml, hown, hts⟩ (c_X2_breaksBehind l D cB cI cJ cS cZ cO H.size o t i q_9 od_breaks od_starts od_worths od_closing od_isKnown od_isClosingKnown lb fb fs k_name k_worth k_times k_first k_second k_beforeLast k_last k_errandOf k_errandAfter k_sound k_followers k_leaders w k_errands k_alikes k_law f_followers (by first | assumption | omega | decide) (by first | assumption | omega | decide) (by first | assumption | omega | decide)) (cwV 3 hts gX2_cheapest_X2_breaksBehind rfl rfl rfl (by decide +kernel) ⟨Nat.le_of_ble_eq_true rfl, Nat.le_of_ble_eq_true rfl⟩) (xPreV (win := [(o, .inr (2, [.ref od_breaks, .ref od_starts, .ref od_worths, .ref od_closing, .int od_isKnown, .int od_isClosingKnown])), (od_breaks, .inl (cB, lb, .inl fb)), (od_starts, .inl (cI, lb, .inl fs)), (t, .inr (8, [.ref k_name, .ref k_worth, .ref k_times, .ref k_first, .ref k_second, .ref k_beforeLast, .ref k_last, .ref k_errandOf, .ref k_errandAfter, .ref k_sound, .ref k_followers, .ref k_leaders, .int (nI w), .int k_errands, .int k_alikes, .int k_law])), (k_followers, .inl (cI, 24, .inl f_followers))]) hN hK hP hD [0, 1, 2, 3, 4] (by decide) rfl 0 2 rfl rfl rfl) rfl rfl hl.1 rfl (lv_room (Nat.le_of_ble_eq_true rfl)) dX2_cheapest_49 ⟨Nat.le_of_ble_eq_true rfl, Nat.le_of_ble_eq_true rfl⟩) (fun r_10 w0 H locs hw hP hD hS => ?_)
        subst hw
        have hP : va_P D vwCl [(o, .inr (2, [.ref od_breaks, .ref od_starts, .ref od_worths, .ref od_closing, .int od_isKnown, .int od_isClosingKnown])), (od_breaks, .inl (cB, lb, .inl fb)), (od_starts, .inl (cI, lb, .inl fs)), (t, .inr (8, [.ref k_name, .ref k_worth, .ref k_times, .ref k_first, .ref k_second, .ref k_beforeLast, .ref k_last, .ref k_errandOf, .ref k_errandAfter, .ref k_sound, .ref k_followers, .ref k_leaders, .int (nI w), .int k_errands, .int k_alikes, .int k_law])), (k_followers, .inl (cI, 24, .inl f_followers))] H := hP
        have hD : va_D A [(o, .inr (2, [.ref od_breaks, .ref od_starts, .ref od_worths, .ref od_closing, .int od_isKnown, .int od_isClosingKnown])), (od_breaks, .inl (cB, lb, .inl fb)), (od_starts, .inl (cI, lb, .inl fs)), (t, .inr (8, [.ref k_name, .ref k_worth, .ref k_times, .ref k_first, .ref k_second, .ref k_beforeLast, .ref k_last, .ref k_errandOf, .ref k_errandAfter, .ref k_sound, .ref k_followers, .ref k_leaders, .int (nI w), .int k_errands, .int k_alikes, .int k_law])), (k_followers, .inl (cI, 24, .inl f_followers))] := hD
        refine lv_iadd hx hb dX2_cheapest_52 ?_
        refine lv_iload hx hb dX2_cheapest_53 (lv_at hl 6 rfl) ?_
        refine lv_icmp_ne (tgt := 61) hx hb dX2_cheapest_55 (by decide) (fun c_11 => ?_) (fun c_11 => ?_)
        · refine lv_iinc (v := nI (i + 1)) (lv' := [(5, .int (nI (i + 1))), (6, .int 1), (0, .ref o), (1, .ref t), (2, .int (nI rs)), (3, .int y), (4, .int z)]) hx hb dX2_cheapest_61 hl (k := 1) rfl (nI_1 i) (by decide) rfl (fun ls hl => ?_)
          refine lv_goto (tgt := 3) hx hb dX2_cheapest_64 (by decide) ?_
          exact kk_3 _ _ _ _ (by rw [← hn_3]; omega) ⟨(i + 1), rfl, hP, hD, hS, lv_sub hl [0, 2, 3, 4, 5, 6] rfl, (by first | assumption | omega)⟩
        · refine lv_iload hx hb dX2_cheapest_58 (lv_at hl 1 rfl) ?_
          have hP9 := hP.sub (ws' := [(o, .inr (2, [.ref od_breaks, .ref od_starts, .ref od_worths, .ref od_closing, .int od_isKnown, .int od_isClosingKnown])), (od_breaks, .inl (cB, lb, .inl fb)), (od_starts, .inl (cI, lb, .inl fs)), (t, .inr (8, [.ref k_name, .ref k_worth, .ref k_times, .ref k_first, .ref k_second, .ref k_beforeLast, .ref k_last, .ref k_errandOf, .ref k_errandAfter, .ref k_sound, .ref k_followers, .ref k_leaders, .int (nI w), .int k_errands, .int k_alikes, .int k_law])), (k_followers, .inl (cI, 24, .inl f_followers))]) [0, 1, 2, 3, 4] rfl
          have hD9 := hD.sub (ws' := [(o, .inr (2, [.ref od_breaks, .ref od_starts, .ref od_worths, .ref od_closing, .int od_isKnown, .int od_isClosingKnown])), (od_breaks, .inl (cB, lb, .inl fb)), (od_starts, .inl (cI, lb, .inl fs)), (t, .inr (8, [.ref k_name, .ref k_worth, .ref k_times, .ref k_first, .ref k_second, .ref k_beforeLast, .ref k_last, .ref k_errandOf, .ref k_errandAfter, .ref k_sound, .ref k_followers, .ref k_leaders, .int (nI w), .int k_errands, .int k_alikes, .int k_law])), (k_followers, .inl (cI, 24, .inl f_followers))]) [0, 1, 2, 3, 4] (by decide) rfl
          refine W.widen (k := 0) (n := 0) (Nat.le_of_ble_eq_true rfl) (Nat.le_of_ble_eq_true rfl) ?_
          exact W.iret (v := nI i) hx hb hr (fun tz htz hWz => ⟨⟨nI i, [(o, .inr (2, [.ref od_breaks, .ref od_starts, .ref od_worths, .ref od_closing, .int od_isKnown, .int od_isClosingKnown])), (od_breaks, .inl (cB, lb, .inl fb)), (od_starts, .inl (cI, lb, .inl fs)), (t, .inr (8, [.ref k_name, .ref k_worth, .ref k_times, .ref k_first, .ref k_second, .ref k_beforeLast, .ref k_last, .ref k_errandOf, .ref k_errandAfter, .ref k_sound, .ref k_followers, .ref k_leaders, .int (nI w), .int k_errands, .int k_alikes, .int k_law])), (k_followers, .inl (cI, 24, .inl f_followers))], rfl, ⟨rfl, (Or.inr ⟨i, by omega, rfl⟩)⟩, by rw [htz]; exact hP9, va_K.moved hWz.alike hK, hD9⟩, hS.F htz⟩) hS.2.2 dX2_cheapest_60
      · refine lv_iconst (v := 0) hx hb dX2_cheapest_30 (by decide) ?_
        refine lv_goto (tgt := 35) hx hb dX2_cheapest_31 (by decide) ?_
        refine lv_istore (lv' := [(6, .int 0), (5, .int (nI i)), (0, .ref o), (1, .ref t), (2, .int (nI rs)), (3, .int y), (4, .int z)]) hx hb dX2_cheapest_35 hl (by decide) rfl (fun ls hl => ?_)
        refine lv_iload hx hb dX2_cheapest_37 (lv_at hl 0 rfl) ?_
        refine lv_aload_n hx hb dX2_cheapest_39 rfl (lv_at hl 2 rfl) ?_
        refine lv_aload_n hx hb dX2_cheapest_40 rfl (lv_at hl 3 rfl) ?_
        refine lv_iload hx hb dX2_cheapest_41 (lv_at hl 1 rfl) ?_
        refine lv_iload_n hx hb dX2_cheapest_43 rfl (lv_at hl 4 rfl) ?_
        refine lv_iconst (v := 1) hx hb dX2_cheapest_44 (by decide) ?_
        refine lv_iload hx hb dX2_cheapest_45 (lv_at hl 1 rfl) ?_
        refine lv_ishl hx hb dX2_cheapest_47 ?_
        refine xb_top (y := nI (1 * 2 ^ i)) (nb_shl (a := 1) (i := i) (by omega)) ?_
        obtain ⟨q_12, hq_12, eq_12⟩ := set_xor (a := rs) (i := i) hs (by omega) (by omega)
        refine lv_ixor hx hb dX2_cheapest_48 ?_
        refine xb_top (y := nI q_12) ((nb_xor rs (1 * 2 ^ i)).trans eq_12) ?_
        refine xCi (wr := []) (win := [(o, .inr (2, [.ref od_breaks, .ref od_starts, .ref od_worths, .ref od_closing, .int od_isKnown, .int od_isClosingKnown])), (od_breaks, .inl (cB, lb, .inl fb)), (od_starts, .inl (cI, lb, .inl fs)), (t, .inr (8, [.ref k_name, .ref k_worth, .ref k_times, .ref k_first, .ref k_second, .ref k_beforeLast, .ref k_last, .ref k_errandOf, .ref k_errandAfter, .ref k_sound, .ref k_followers, .ref k_leaders, .int (nI w), .int k_errands, .int k_alikes, .int k_law])), (k_followers, .inl (cI, 24, .inl f_followers))]) hP hD hS hA [0, 1, 2, 3, 4] [] rfl rfl (by decide) (by decide) (va_runV (As := [.ref t, .int (nI i), .int (nI q_12)]) (rest := [.int 0]) ⟨hx, hb, hml, hown, hts⟩ (c_X2_breaksBehind l D cB cI cJ cS cZ cO H.size o t i q_12 od_breaks od_starts od_worths od_closing od_isKnown od_isClosingKnown lb fb fs k_name k_worth k_times k_first k_second k_beforeLast k_last k_errandOf k_errandAfter k_sound k_followers k_leaders w k_errands k_alikes k_law f_followers (by first | assumption | omega | decide) (by first | assumption | omega | decide) (by first | assumption | omega | decide)) (cwV 3 hts gX2_cheapest_X2_breaksBehind rfl rfl rfl (by decide +kernel) ⟨Nat.le_of_ble_eq_true rfl, Nat.le_of_ble_eq_true rfl⟩) (xPreV (win := [(o, .inr (2, [.ref od_breaks, .ref od_starts, .ref od_worths, .ref od_closing, .int od_isKnown, .int od_isClosingKnown])), (od_breaks, .inl (cB, lb, .inl fb)), (od_starts, .inl (cI, lb, .inl fs)), (t, .inr (8, [.ref k_name, .ref k_worth, .ref k_times, .ref k_first, .ref k_second, .ref k_beforeLast, .ref k_last, .ref k_errandOf, .ref k_errandAfter, .ref k_sound, .ref k_followers, .ref k_leaders, .int (nI w), .int k_errands, .int k_alikes, .int k_law])), (k_followers, .inl (cI, 24, .inl f_followers))]) hN hK hP hD [0, 1, 2, 3, 4] (by decide) rfl 0 2 rfl rfl rfl) rfl rfl hl.1 rfl (lv_room (Nat.le_of_ble_eq_true rfl)) dX2_cheapest_49 ⟨Nat.le_of_ble_eq_true rfl, Nat.le_of_ble_eq_true rfl⟩) (fun r_13 w0 H locs hw hP hD hS => ?_)
        subst hw
        have hP : va_P D vwCl [(o, .inr (2, [.ref od_breaks, .ref od_starts, .ref od_worths, .ref od_closing, .int od_isKnown, .int od_isClosingKnown])), (od_breaks, .inl (cB, lb, .inl fb)), (od_starts, .inl (cI, lb, .inl fs)), (t, .inr (8, [.ref k_name, .ref k_worth, .ref k_times, .ref k_first, .ref k_second, .ref k_beforeLast, .ref k_last, .ref k_errandOf, .ref k_errandAfter, .ref k_sound, .ref k_followers, .ref k_leaders, .int (nI w), .int k_errands, .int k_alikes, .int k_law])), (k_followers, .inl (cI, 24, .inl f_followers))] H := hP
        have hD : va_D A [(o, .inr (2, [.ref od_breaks, .ref od_starts, .ref od_worths, .ref od_closing, .int od_isKnown, .int od_isClosingKnown])), (od_breaks, .inl (cB, lb, .inl fb)), (od_starts, .inl (cI, lb, .inl fs)), (t, .inr (8, [.ref k_name, .ref k_worth, .ref k_times, .ref k_first, .ref k_second, .ref k_beforeLast, .ref k_last, .ref k_errandOf, .ref k_errandAfter, .ref k_sound, .ref k_followers, .ref k_leaders, .int (nI w), .int k_errands, .int k_alikes, .int k_law])), (k_followers, .inl (cI, 24, .inl f_followers))] := hD
        refine lv_iadd hx hb dX2_cheapest_52 ?_
        refine lv_iload hx hb dX2_cheapest_53 (lv_at hl 6 rfl) ?_
        refine lv_icmp_ne (tgt := 61) hx hb dX2_cheapest_55 (by decide) (fun c_14 => ?_) (fun c_14 => ?_)
        · refine lv_iinc (v := nI (i + 1)) (lv' := [(5, .int (nI (i + 1))), (6, .int 0), (0, .ref o), (1, .ref t), (2, .int (nI rs)), (3, .int y), (4, .int z)]) hx hb dX2_cheapest_61 hl (k := 1) rfl (nI_1 i) (by decide) rfl (fun ls hl => ?_)
          refine lv_goto (tgt := 3) hx hb dX2_cheapest_64 (by decide) ?_
          exact kk_3 _ _ _ _ (by rw [← hn_3]; omega) ⟨(i + 1), rfl, hP, hD, hS, lv_sub hl [0, 2, 3, 4, 5, 6] rfl, (by first | assumption | omega)⟩
        · refine lv_iload hx hb dX2_cheapest_58 (lv_at hl 1 rfl) ?_
          have hP9 := hP.sub (ws' := [(o, .inr (2, [.ref od_breaks, .ref od_starts, .ref od_worths, .ref od_closing, .int od_isKnown, .int od_isClosingKnown])), (od_breaks, .inl (cB, lb, .inl fb)), (od_starts, .inl (cI, lb, .inl fs)), (t, .inr (8, [.ref k_name, .ref k_worth, .ref k_times, .ref k_first, .ref k_second, .ref k_beforeLast, .ref k_last, .ref k_errandOf, .ref k_errandAfter, .ref k_sound, .ref k_followers, .ref k_leaders, .int (nI w), .int k_errands, .int k_alikes, .int k_law])), (k_followers, .inl (cI, 24, .inl f_followers))]) [0, 1, 2, 3, 4] rfl
          have hD9 := hD.sub (ws' := [(o, .inr (2, [.ref od_breaks, .ref od_starts, .ref od_worths, .ref od_closing, .int od_isKnown, .int od_isClosingKnown])), (od_breaks, .inl (cB, lb, .inl fb)), (od_starts, .inl (cI, lb, .inl fs)), (t, .inr (8, [.ref k_name, .ref k_worth, .ref k_times, .ref k_first, .ref k_second, .ref k_beforeLast, .ref k_last, .ref k_errandOf, .ref k_errandAfter, .ref k_sound, .ref k_followers, .ref k_leaders, .int (nI w), .int k_errands, .int k_alikes, .int k_law])), (k_followers, .inl (cI, 24, .inl f_followers))]) [0, 1, 2, 3, 4] (by decide) rfl
          refine W.widen (k := 0) (n := 0) (Nat.le_of_ble_eq_true rfl) (Nat.le_of_ble_eq_true rfl) ?_
          exact W.iret (v := nI i) hx hb hr (fun tz htz hWz => ⟨⟨nI i, [(o, .inr (2, [.ref od_breaks, .ref od_starts, .ref od_worths, .ref od_closing, .int od_isKnown, .int od_isClosingKnown])), (od_breaks, .inl (cB, lb, .inl fb)), (od_starts, .inl (cI, lb, .inl fs)), (t, .inr (8, [.ref k_name, .ref k_worth, .ref k_times, .ref k_first, .ref k_second, .ref k_beforeLast, .ref k_last, .ref k_errandOf, .ref k_errandAfter, .ref k_sound, .ref k_followers, .ref k_leaders, .int (nI w), .int k_errands, .int k_alikes, .int k_law])), (k_followers, .inl (cI, 24, .inl f_followers))], rfl, ⟨rfl, (Or.inr ⟨i, by omega, rfl⟩)⟩, by rw [htz]; exact hP9, va_K.moved hWz.alike hK, hD9⟩, hS.F htz⟩) hS.2.2 dX2_cheapest_60

set_option maxHeartbeats 4000000 in
set_option maxRecDepth 100000 in
theorem c_X2_amount (l : Launch) (D : va_G) (cB cI cJ cS cZ cO : ClassId) (sz : Nat) (o : Nat) (st : Nat) (x : Int32) (od_breaks : Nat) (od_starts : Nat) (od_worths : Nat) (od_closing : Nat) (od_isKnown : Int32) (od_isClosingKnown : Int32) (lb : Nat) (fw : Nat → Int32) (hlb : lb ≤ 16384) (hst : st < lb) : Met l yX2_amount wsX2_amount ({ frames := 1, cells := 0, slots := 0, locals := 20 }) (xPre D (tyL cB cI cJ cS cZ cO) [(o, .inr (2, [.ref od_breaks, .ref od_starts, .ref od_worths, .ref od_closing, .int od_isKnown, .int od_isClosingKnown])), (od_worths, .inl (cI, lb, .inl fw))] sz [.ref o, .int (nI st), .int x]) (xQi D (tyL cB cI cJ cS cZ cO) (va_A [(o, .inr (2, [.ref od_breaks, .ref od_starts, .ref od_worths, .ref od_closing, .int od_isKnown, .int od_isClosingKnown])), (od_worths, .inl (cI, lb, .inl fw))] sz) (fun (r : Int32) (u : va_W) => u = [(o, .inr (2, [.ref od_breaks, .ref od_starts, .ref od_worths, .ref od_closing, .int od_isKnown, .int od_isClosingKnown])), (od_worths, .inl (cI, lb, .inl fw))])) 0 0 (va_A [(o, .inr (2, [.ref od_breaks, .ref od_starts, .ref od_worths, .ref od_closing, .int od_isKnown, .int od_isClosingKnown])), (od_worths, .inl (cI, lb, .inl fw))] sz) := by
  refine Met.ofW (cc := cX2_amount) (maxL := 3) (ret := (some .int)) (by decide) rfl ?_
  intro p e s m args below meth c s₁ B hml hv
  obtain ⟨rfl, hsz, hP, hK, hD0, hN⟩ := hv
  have hx := B.exec
  have hb := B.bytes
  have hr := B.returns
  have hts := atoms_spec (ws := wsX2_amount) B.pre
  have hown : s.vm.findClass RX2 = some m.cls := findClass_of_methodNamed B.named
  have hlocks := B.notSynchronized
  subst hsz
  have hD := hD0.self (sz := s.heap.size)
  generalize hAe : va_A [(o, .inr (2, [.ref od_breaks, .ref od_starts, .ref od_worths, .ref od_closing, .int od_isKnown, .int od_isClosingKnown])), (od_worths, .inl (cI, lb, .inl fw))] s.heap.size = A at hD ⊢
  have hA : ∀ q : Nat, s.heap.size ≤ q → A q := fun q h => by rw [← hAe]; exact Or.inr h
  have hS : va_S A s.heap s.heap [] := va_S.rf
  have hP : va_P D vwCl [(o, .inr (2, [.ref od_breaks, .ref od_starts, .ref od_worths, .ref od_closing, .int od_isKnown, .int od_isClosingKnown])), (od_worths, .inl (cI, lb, .inl fw))] s.heap := hP
  have hl := lv_entry ([.ref o, .int (nI st), .int x]) (n := 3) (Nat.le_of_ble_eq_true rfl)
  rw [lg_entry_eq]
  generalize (lg_sl ([.ref o, .int (nI st), .int x]) ++ List.replicate (3 - (lg_sl ([.ref o, .int (nI st), .int x])).length) Slot.unset).toArray = ls at hl ⊢
  have hl : lv_has ls 3 [(0, .ref o), (1, .int (nI st)), (2, .int x)] := hl
  refine lv_iload_n hx hb dX2_amount_0 rfl (lv_at hl 2 rfl) ?_
  refine lv_if_eq (tgt := 13) hx hb dX2_amount_1 (by decide) (fun c_1 => ?_) (fun c_1 => ?_)
  · refine lv_iload_n hx hb dX2_amount_13 rfl (lv_at hl 1 rfl) ?_
    refine xCi (wr := [(o, .inr (2, [.ref od_breaks, .ref od_starts, .ref od_worths, .ref od_closing, .int od_isKnown, .int od_isClosingKnown])), (od_worths, .inl (cI, lb, .inl fw))]) (win := []) hP hD hS hA [] [0, 1] rfl rfl (by decide) (by decide) (va_runS (As := [.int (nI st)]) (rest := []) ⟨hx, hb, hml, hown, hts⟩ (c_J6_bitCount_0f7a4 l D cB cI cJ cS cZ cO s.heap.size (nI st) ) (va_cwS 1 hts gX2_amount_J6_bitCount_0f7a4 rfl rfl rfl (by decide +kernel) ⟨Nat.le_of_ble_eq_true rfl, Nat.le_of_ble_eq_true rfl⟩) (xPreS (win := []) hN hK hP hD [] (by decide) rfl) rfl rfl hl.1 rfl (lv_room (Nat.le_of_ble_eq_true rfl)) dX2_amount_14 ⟨Nat.le_of_ble_eq_true rfl, Nat.le_of_ble_eq_true rfl⟩) (fun r_2 w0 H locs hw hP hD hS => ?_)
    subst hw
    have hP : va_P D vwCl [(o, .inr (2, [.ref od_breaks, .ref od_starts, .ref od_worths, .ref od_closing, .int od_isKnown, .int od_isClosingKnown])), (od_worths, .inl (cI, lb, .inl fw))] H := hP
    have hD : va_D A [(o, .inr (2, [.ref od_breaks, .ref od_starts, .ref od_worths, .ref od_closing, .int od_isKnown, .int od_isClosingKnown])), (od_worths, .inl (cI, lb, .inl fw))] := hD
    have hP9 := hP.sub (ws' := [(o, .inr (2, [.ref od_breaks, .ref od_starts, .ref od_worths, .ref od_closing, .int od_isKnown, .int od_isClosingKnown])), (od_worths, .inl (cI, lb, .inl fw))]) [0, 1] rfl
    have hD9 := hD.sub (ws' := [(o, .inr (2, [.ref od_breaks, .ref od_starts, .ref od_worths, .ref od_closing, .int od_isKnown, .int od_isClosingKnown])), (od_worths, .inl (cI, lb, .inl fw))]) [0, 1] (by decide) rfl
    refine W.widen (k := 0) (n := 0) (Nat.le_of_ble_eq_true rfl) (Nat.le_of_ble_eq_true rfl) ?_
    exact W.iret (v := r_2) hx hb hr (fun tz htz hWz => ⟨⟨r_2, [(o, .inr (2, [.ref od_breaks, .ref od_starts, .ref od_worths, .ref od_closing, .int od_isKnown, .int od_isClosingKnown])), (od_worths, .inl (cI, lb, .inl fw))], rfl, rfl, by rw [htz]; exact hP9, va_K.moved hWz.alike hK, hD9⟩, hS.F htz⟩) hS.2.2 dX2_amount_17
  · refine lv_aload_n hx hb dX2_amount_4 rfl (lv_at hl 0 rfl) ?_
    refine va_get (D := D) (ci := 2) (v := .ref od_worths) (C := RX2) (T := TX2) (N := 6) hx hb hts (by decide +kernel) hown hK hP 0 rfl rfl 2 (by decide) (hts (.fieldLink RX2 19 "LastLetter$Orders" "worths" "[I") (by decide +kernel)) (fun _ h9 => h9) rfl dX2_amount_5 ?_
    refine lv_iload_n hx hb dX2_amount_8 rfl (lv_at hl 1 rfl) ?_
    refine va_iald hx hb hK hP 1 1 rfl rfl (vp_in_nI (by omega) (by omega)) dX2_amount_9 ?_
    refine xb_top (y := fw st) (by rw [nI_clamp (by omega)]) ?_
    refine lv_goto (tgt := 17) hx hb dX2_amount_10 (by decide) ?_
    have hP9 := hP.sub (ws' := [(o, .inr (2, [.ref od_breaks, .ref od_starts, .ref od_worths, .ref od_closing, .int od_isKnown, .int od_isClosingKnown])), (od_worths, .inl (cI, lb, .inl fw))]) [0, 1] rfl
    have hD9 := hD.sub (ws' := [(o, .inr (2, [.ref od_breaks, .ref od_starts, .ref od_worths, .ref od_closing, .int od_isKnown, .int od_isClosingKnown])), (od_worths, .inl (cI, lb, .inl fw))]) [0, 1] (by decide) rfl
    refine W.widen (k := 0) (n := 0) (Nat.le_of_ble_eq_true rfl) (Nat.le_of_ble_eq_true rfl) ?_
    exact W.iret (v := fw st) hx hb hr (fun tz htz hWz => ⟨⟨fw st, [(o, .inr (2, [.ref od_breaks, .ref od_starts, .ref od_worths, .ref od_closing, .int od_isKnown, .int od_isClosingKnown])), (od_worths, .inl (cI, lb, .inl fw))], rfl, rfl, by rw [htz]; exact hP9, va_K.moved hWz.alike hK, hD9⟩, hS.F htz⟩) hS.2.2 dX2_amount_17

set_option maxHeartbeats 4000000 in
set_option maxRecDepth 100000 in
theorem c_X2_mostWithin (l : Launch) (D : va_G) (cB cI cJ cS cZ cO : ClassId) (sz : Nat) (o : Nat) (wi : Nat) (x : Int32) (od_breaks : Nat) (od_starts : Nat) (od_worths : Nat) (od_closing : Nat) (od_isKnown : Int32) (od_isClosingKnown : Int32) (lb : Nat) (fb : Nat → Int32) (fw : Nat → Int32) (hlb : lb ≤ 16384) (hwi : wi < lb) : Met l yX2_mostWithin wsX2_mostWithin ({ frames := 2, cells := 0, slots := 0, locals := 42 }) (xPre D (tyL cB cI cJ cS cZ cO) [(o, .inr (2, [.ref od_breaks, .ref od_starts, .ref od_worths, .ref od_closing, .int od_isKnown, .int od_isClosingKnown])), (od_breaks, .inl (cB, lb, .inl fb)), (od_worths, .inl (cI, lb, .inl fw))] sz [.ref o, .int (nI wi), .int x]) (xQi D (tyL cB cI cJ cS cZ cO) (va_A [(o, .inr (2, [.ref od_breaks, .ref od_starts, .ref od_worths, .ref od_closing, .int od_isKnown, .int od_isClosingKnown])), (od_breaks, .inl (cB, lb, .inl fb)), (od_worths, .inl (cI, lb, .inl fw))] sz) (fun (r : Int32) (u : va_W) => u = [(o, .inr (2, [.ref od_breaks, .ref od_starts, .ref od_worths, .ref od_closing, .int od_isKnown, .int od_isClosingKnown])), (od_breaks, .inl (cB, lb, .inl fb)), (od_worths, .inl (cI, lb, .inl fw))])) 0 0 (va_A [(o, .inr (2, [.ref od_breaks, .ref od_starts, .ref od_worths, .ref od_closing, .int od_isKnown, .int od_isClosingKnown])), (od_breaks, .inl (cB, lb, .inl fb)), (od_worths, .inl (cI, lb, .inl fw))] sz) := by
  refine Met.ofW (cc := cX2_mostWithin) (maxL := 5) (ret := (some .int)) (by decide) rfl ?_
  intro p e s m args below meth c s₁ B hml hv
  obtain ⟨rfl, hsz, hP, hK, hD0, hN⟩ := hv
  have hx := B.exec
  have hb := B.bytes
  have hr := B.returns
  have hts := atoms_spec (ws := wsX2_mostWithin) B.pre
  have hown : s.vm.findClass RX2 = some m.cls := findClass_of_methodNamed B.named
  have hlocks := B.notSynchronized
  subst hsz
  have hD := hD0.self (sz := s.heap.size)
  generalize hAe : va_A [(o, .inr (2, [.ref od_breaks, .ref od_starts, .ref od_worths, .ref od_closing, .int od_isKnown, .int od_isClosingKnown])), (od_breaks, .inl (cB, lb, .inl fb)), (od_worths, .inl (cI, lb, .inl fw))] s.heap.size = A at hD ⊢
  have hA : ∀ q : Nat, s.heap.size ≤ q → A q := fun q h => by rw [← hAe]; exact Or.inr h
  have hS : va_S A s.heap s.heap [] := va_S.rf
  have hP : va_P D vwCl [(o, .inr (2, [.ref od_breaks, .ref od_starts, .ref od_worths, .ref od_closing, .int od_isKnown, .int od_isClosingKnown])), (od_breaks, .inl (cB, lb, .inl fb)), (od_worths, .inl (cI, lb, .inl fw))] s.heap := hP
  have hl := lv_entry ([.ref o, .int (nI wi), .int x]) (n := 5) (Nat.le_of_ble_eq_true rfl)
  rw [lg_entry_eq]
  generalize (lg_sl ([.ref o, .int (nI wi), .int x]) ++ List.replicate (5 - (lg_sl ([.ref o, .int (nI wi), .int x])).length) Slot.unset).toArray = ls at hl ⊢
  have hl : lv_has ls 5 [(0, .ref o), (1, .int (nI wi)), (2, .int x)] := hl
  refine lv_iconst (v := 0) hx hb dX2_mostWithin_0 (by decide) ?_
  refine lv_istore_n (lv' := [(3, .int 0), (0, .ref o), (1, .int (nI wi)), (2, .int x)]) hx hb dX2_mostWithin_1 rfl hl (by decide) rfl (fun ls hl => ?_)
  refine lv_iload_n hx hb dX2_mostWithin_2 rfl (lv_at hl 2 rfl) ?_
  refine lv_istore (lv' := [(4, .int (nI wi)), (3, .int 0), (0, .ref o), (1, .int (nI wi)), (2, .int x)]) hx hb dX2_mostWithin_3 hl (by decide) rfl (fun ls hl => ?_)
  refine xb_wh (fun (n9 : Nat) H locs ls => ∃ st : Nat, ∃ mo : Int32, st = n9 ∧ va_P D vwCl [(o, .inr (2, [.ref od_breaks, .ref od_starts, .ref od_worths, .ref od_closing, .int od_isKnown, .int od_isClosingKnown])), (od_breaks, .inl (cB, lb, .inl fb)), (od_worths, .inl (cI, lb, .inl fw))] H ∧ va_D A [(o, .inr (2, [.ref od_breaks, .ref od_starts, .ref od_worths, .ref od_closing, .int od_isKnown, .int od_isClosingKnown])), (od_breaks, .inl (cB, lb, .inl fb)), (od_worths, .inl (cI, lb, .inl fw))] ∧ va_S A s.heap H locs ∧ lv_has ls 5 [(4, .int (nI st)), (3, .int mo), (0, .ref o), (1, .int (nI wi)), (2, .int x)] ∧ (st ≤ wi)) ⟨wi, 0, rfl, hP, hD, hS, lv_sub hl [0, 1, 2, 3, 4] rfl, (Nat.le_refl _)⟩ (fun n9 H locs ls hI kk_5 => ?_)
  obtain ⟨st, mo, hn_5, hP, hD, hS, hl, hF_h_1⟩ := hI
  refine lv_iload hx hb dX2_mostWithin_5 (lv_at hl 0 rfl) ?_
  refine lv_if_le (tgt := 43) hx hb dX2_mostWithin_7 (by decide) (fun c_2 => ?_) (fun c_2 => ?_)
  · have dc_2 : st ≤ 0 := (nI_leI (a := st) (b := 0) (by omega) (by omega)).mp c_2
    refine lv_iload_n hx hb dX2_mostWithin_43 rfl (lv_at hl 1 rfl) ?_
    have hP9 := hP.sub (ws' := [(o, .inr (2, [.ref od_breaks, .ref od_starts, .ref od_worths, .ref od_closing, .int od_isKnown, .int od_isClosingKnown])), (od_breaks, .inl (cB, lb, .inl fb)), (od_worths, .inl (cI, lb, .inl fw))]) [0, 1, 2] rfl
    have hD9 := hD.sub (ws' := [(o, .inr (2, [.ref od_breaks, .ref od_starts, .ref od_worths, .ref od_closing, .int od_isKnown, .int od_isClosingKnown])), (od_breaks, .inl (cB, lb, .inl fb)), (od_worths, .inl (cI, lb, .inl fw))]) [0, 1, 2] (by decide) rfl
    refine W.widen (k := 0) (n := 0) (Nat.le_of_ble_eq_true rfl) (Nat.le_of_ble_eq_true rfl) ?_
    exact W.iret (v := mo) hx hb hr (fun tz htz hWz => ⟨⟨mo, [(o, .inr (2, [.ref od_breaks, .ref od_starts, .ref od_worths, .ref od_closing, .int od_isKnown, .int od_isClosingKnown])), (od_breaks, .inl (cB, lb, .inl fb)), (od_worths, .inl (cI, lb, .inl fw))], rfl, rfl, by rw [htz]; exact hP9, va_K.moved hWz.alike hK, hD9⟩, hS.F htz⟩) hS.2.2 dX2_mostWithin_44
  · have dc_2 : ¬ st ≤ 0 := fun h => c_2 ((nI_leI (a := st) (b := 0) (by omega) (by omega)).mpr h)
    refine lv_aload_n hx hb dX2_mostWithin_10 rfl (lv_at hl 2 rfl) ?_
    refine va_get (D := D) (ci := 2) (v := .ref od_breaks) (C := RX2) (T := TX2) (N := 6) hx hb hts (by decide +kernel) hown hK hP 0 rfl rfl 0 (by decide) (hts (.fieldLink RX2 9 "LastLetter$Orders" "breaks" "[B") (by decide +kernel)) (fun _ h9 => h9) rfl dX2_mostWithin_11 ?_
    refine lv_iload hx hb dX2_mostWithin_14 (lv_at hl 0 rfl) ?_
    refine va_bald hx hb hK hP 1 0 rfl rfl (vp_in_nI (by omega) (by omega)) dX2_mostWithin_16 ?_
    refine xb_top (y := fb st) (by rw [nI_clamp (by omega)]) ?_
    refine lv_if_ne (tgt := 32) hx hb dX2_mostWithin_17 (by decide) (fun c_3 => ?_) (fun c_3 => ?_)
    · refine lv_iload hx hb dX2_mostWithin_32 (lv_at hl 0 rfl) ?_
      refine lv_iconst (v := 1) hx hb dX2_mostWithin_34 (by decide) ?_
      refine lv_isub hx hb dX2_mostWithin_35 ?_
      refine xb_top (y := nI (st - 1)) (pk_sub (a := st) (b := 1) (by omega)) ?_
      refine lv_iload_n hx hb dX2_mostWithin_36 rfl (lv_at hl 3 rfl) ?_
      obtain ⟨q_4, hq_4, eq_4⟩ := set_and (st - 1) wi
      refine lv_iand hx hb dX2_mostWithin_37 ?_
      refine xb_top (y := nI q_4) ((nb_and (st - 1) wi).trans eq_4) ?_
      refine lv_istore (lv' := [(4, .int (nI q_4)), (3, .int mo), (0, .ref o), (1, .int (nI wi)), (2, .int x)]) hx hb dX2_mostWithin_38 hl (by decide) rfl (fun ls hl => ?_)
      refine lv_goto (tgt := 5) hx hb dX2_mostWithin_40 (by decide) ?_
      exact kk_5 _ _ _ _ (by rw [← hn_5]; omega) ⟨q_4, mo, rfl, hP, hD, hS, lv_sub hl [0, 1, 2, 3, 4] rfl, (by first | assumption | omega)⟩
    · refine lv_iload_n hx hb dX2_mostWithin_20 rfl (lv_at hl 1 rfl) ?_
      refine lv_aload_n hx hb dX2_mostWithin_21 rfl (lv_at hl 2 rfl) ?_
      refine lv_iload hx hb dX2_mostWithin_22 (lv_at hl 0 rfl) ?_
      refine lv_iload_n hx hb dX2_mostWithin_24 rfl (lv_at hl 4 rfl) ?_
      refine xCi (wr := [(od_breaks, .inl (cB, lb, .inl fb))]) (win := [(o, .inr (2, [.ref od_breaks, .ref od_starts, .ref od_worths, .ref od_closing, .int od_isKnown, .int od_isClosingKnown])), (od_worths, .inl (cI, lb, .inl fw))]) hP hD hS hA [0, 2] [1] rfl rfl (by decide) (by decide) (va_runV (As := [.int (nI st), .int x]) (rest := [.int mo]) ⟨hx, hb, hml, hown, hts⟩ (c_X2_amount l D cB cI cJ cS cZ cO H.size o st x od_breaks od_starts od_worths od_closing od_isKnown od_isClosingKnown lb fw (by first | assumption | omega | decide) (by first | assumption | omega | decide)) (cwV 2 hts gX2_mostWithin_X2_amount rfl rfl rfl (by decide +kernel) ⟨Nat.le_of_ble_eq_true rfl, Nat.le_of_ble_eq_true rfl⟩) (xPreV (win := [(o, .inr (2, [.ref od_breaks, .ref od_starts, .ref od_worths, .ref od_closing, .int od_isKnown, .int od_isClosingKnown])), (od_worths, .inl (cI, lb, .inl fw))]) hN hK hP hD [0, 2] (by decide) rfl 0 2 rfl rfl rfl) rfl rfl hl.1 rfl (lv_room (Nat.le_of_ble_eq_true rfl)) dX2_mostWithin_25 ⟨Nat.le_of_ble_eq_true rfl, Nat.le_of_ble_eq_true rfl⟩) (fun r_5 w0 H locs hw hP hD hS => ?_)
      subst hw
      have hP : va_P D vwCl [(od_breaks, .inl (cB, lb, .inl fb)), (o, .inr (2, [.ref od_breaks, .ref od_starts, .ref od_worths, .ref od_closing, .int od_isKnown, .int od_isClosingKnown])), (od_worths, .inl (cI, lb, .inl fw))] H := hP
      have hD : va_D A [(od_breaks, .inl (cB, lb, .inl fb)), (o, .inr (2, [.ref od_breaks, .ref od_starts, .ref od_worths, .ref od_closing, .int od_isKnown, .int od_isClosingKnown])), (od_worths, .inl (cI, lb, .inl fw))] := hD
      refine va_mmax hx hb (hml.trans hl.1.symm) hown (hts (.methodLink RX2 86 Lib.Math.max.name) (by decide +kernel)) (hts (.static Lib.Math.max.name) (by decide +kernel)) (hts (.initialized "java/lang/Math") (by decide +kernel)) (hts (.code Lib.Math.max.name Lib.Math.max.code 2 (some .int)) (by decide +kernel)) (Nat.le_of_ble_eq_true rfl) (Nat.le_of_ble_eq_true rfl) (Nat.le_of_ble_eq_true rfl) (Nat.le_of_ble_eq_true rfl) dX2_mostWithin_28 ?_
      refine lv_topi (fun v_6 ev_6 => ?_)
      refine lv_istore_n (lv' := [(3, .int v_6), (4, .int (nI st)), (0, .ref o), (1, .int (nI wi)), (2, .int x)]) hx hb dX2_mostWithin_31 rfl hl (by decide) rfl (fun ls hl => ?_)
      refine lv_iload hx hb dX2_mostWithin_32 (lv_at hl 1 rfl) ?_
      refine lv_iconst (v := 1) hx hb dX2_mostWithin_34 (by decide) ?_
      refine lv_isub hx hb dX2_mostWithin_35 ?_
      refine xb_top (y := nI (st - 1)) (pk_sub (a := st) (b := 1) (by omega)) ?_
      refine lv_iload_n hx hb dX2_mostWithin_36 rfl (lv_at hl 3 rfl) ?_
      obtain ⟨q_7, hq_7, eq_7⟩ := set_and (st - 1) wi
      refine lv_iand hx hb dX2_mostWithin_37 ?_
      refine xb_top (y := nI q_7) ((nb_and (st - 1) wi).trans eq_7) ?_
      refine lv_istore (lv' := [(4, .int (nI q_7)), (3, .int v_6), (0, .ref o), (1, .int (nI wi)), (2, .int x)]) hx hb dX2_mostWithin_38 hl (by decide) rfl (fun ls hl => ?_)
      refine lv_goto (tgt := 5) hx hb dX2_mostWithin_40 (by decide) ?_
      exact kk_5 _ _ _ _ (by rw [← hn_5]; omega) ⟨q_7, v_6, rfl, hP.sub [1, 0, 2] rfl, hD.sub [1, 0, 2] (by decide) rfl, hS, lv_sub hl [0, 1, 2, 3, 4] rfl, (by first | assumption | omega)⟩

set_option maxHeartbeats 4000000 in
set_option maxRecDepth 100000 in
theorem c_X2_beginnings (l : Launch) (D : va_G) (cB cI cJ cS cZ cO : ClassId) (sz : Nat) (o : Nat) (wi : Nat) (y : Int32) (z : Int32) (od_breaks : Nat) (od_starts : Nat) (od_worths : Nat) (od_closing : Nat) (od_isKnown : Int32) (od_isClosingKnown : Int32) (lb : Nat) (fb : Nat → Int32) (fs : Nat → Int32) (fw : Nat → Int32) (sN : Nat) (w : Nat) (hs : sN = 2 ^ w) (hw4 : w ≤ 14) (hs1 : 1 ≤ sN) (hs2 : sN ≤ 16384) (hlb : lb ≤ 16384) (hsl : sN ≤ lb) (hwi : wi < sN) (hP1 : rgP fs sN sN) : Met l yX2_beginnings wsX2_beginnings ({ frames := 2, cells := 0, slots := 0, locals := 42 }) (xPre D (tyL cB cI cJ cS cZ cO) [(o, .inr (2, [.ref od_breaks, .ref od_starts, .ref od_worths, .ref od_closing, .int od_isKnown, .int od_isClosingKnown])), (od_breaks, .inl (cB, lb, .inl fb)), (od_starts, .inl (cI, lb, .inl fs)), (od_worths, .inl (cI, lb, .inl fw))] sz [.ref o, .int (nI wi), .int y, .int z]) (xQi D (tyL cB cI cJ cS cZ cO) (va_A [(o, .inr (2, [.ref od_breaks, .ref od_starts, .ref od_worths, .ref od_closing, .int od_isKnown, .int od_isClosingKnown])), (od_breaks, .inl (cB, lb, .inl fb)), (od_starts, .inl (cI, lb, .inl fs)), (od_worths, .inl (cI, lb, .inl fw))] sz) (fun (r : Int32) (u : va_W) => ∃ rr : Nat, u = [(o, .inr (2, [.ref od_breaks, .ref od_starts, .ref od_worths, .ref od_closing, .int od_isKnown, .int od_isClosingKnown])), (od_breaks, .inl (cB, lb, .inl fb)), (od_starts, .inl (cI, lb, .inl fs)), (od_worths, .inl (cI, lb, .inl fw))] ∧ r = nI rr ∧ rr < sN)) 0 0 (va_A [(o, .inr (2, [.ref od_breaks, .ref od_starts, .ref od_worths, .ref od_closing, .int od_isKnown, .int od_isClosingKnown])), (od_breaks, .inl (cB, lb, .inl fb)), (od_starts, .inl (cI, lb, .inl fs)), (od_worths, .inl (cI, lb, .inl fw))] sz) := by
  refine Met.ofW (cc := cX2_beginnings) (maxL := 6) (ret := (some .int)) (by decide) rfl ?_
  intro p e s m args below meth c s₁ B hml hv
  obtain ⟨rfl, hsz, hP, hK, hD0, hN⟩ := hv
  have hx := B.exec
  have hb := B.bytes
  have hr := B.returns
  have hts := atoms_spec (ws := wsX2_beginnings) B.pre
  have hown : s.vm.findClass RX2 = some m.cls := findClass_of_methodNamed B.named
  have hlocks := B.notSynchronized
  subst hsz
  have hD := hD0.self (sz := s.heap.size)
  generalize hAe : va_A [(o, .inr (2, [.ref od_breaks, .ref od_starts, .ref od_worths, .ref od_closing, .int od_isKnown, .int od_isClosingKnown])), (od_breaks, .inl (cB, lb, .inl fb)), (od_starts, .inl (cI, lb, .inl fs)), (od_worths, .inl (cI, lb, .inl fw))] s.heap.size = A at hD ⊢
  have hA : ∀ q : Nat, s.heap.size ≤ q → A q := fun q h => by rw [← hAe]; exact Or.inr h
  have hS : va_S A s.heap s.heap [] := va_S.rf
  have hP : va_P D vwCl [(o, .inr (2, [.ref od_breaks, .ref od_starts, .ref od_worths, .ref od_closing, .int od_isKnown, .int od_isClosingKnown])), (od_breaks, .inl (cB, lb, .inl fb)), (od_starts, .inl (cI, lb, .inl fs)), (od_worths, .inl (cI, lb, .inl fw))] s.heap := hP
  have hl := lv_entry ([.ref o, .int (nI wi), .int y, .int z]) (n := 6) (Nat.le_of_ble_eq_true rfl)
  rw [lg_entry_eq]
  generalize (lg_sl ([.ref o, .int (nI wi), .int y, .int z]) ++ List.replicate (6 - (lg_sl ([.ref o, .int (nI wi), .int y, .int z])).length) Slot.unset).toArray = ls at hl ⊢
  have hl : lv_has ls 6 [(0, .ref o), (1, .int (nI wi)), (2, .int y), (3, .int z)] := hl
  refine lv_iconst (v := 0) hx hb dX2_beginnings_0 (by decide) ?_
  refine lv_istore (lv' := [(4, .int 0), (0, .ref o), (1, .int (nI wi)), (2, .int y), (3, .int z)]) hx hb dX2_beginnings_1 hl (by decide) rfl (fun ls hl => ?_)
  refine lv_iload_n hx hb dX2_beginnings_3 rfl (lv_at hl 2 rfl) ?_
  refine lv_istore (lv' := [(5, .int (nI wi)), (4, .int 0), (0, .ref o), (1, .int (nI wi)), (2, .int y), (3, .int z)]) hx hb dX2_beginnings_4 hl (by decide) rfl (fun ls hl => ?_)
  refine xb_wh (fun (n9 : Nat) H locs ls => ∃ st : Nat, ∃ bt : Nat, st = n9 ∧ va_P D vwCl [(o, .inr (2, [.ref od_breaks, .ref od_starts, .ref od_worths, .ref od_closing, .int od_isKnown, .int od_isClosingKnown])), (od_breaks, .inl (cB, lb, .inl fb)), (od_starts, .inl (cI, lb, .inl fs)), (od_worths, .inl (cI, lb, .inl fw))] H ∧ va_D A [(o, .inr (2, [.ref od_breaks, .ref od_starts, .ref od_worths, .ref od_closing, .int od_isKnown, .int od_isClosingKnown])), (od_breaks, .inl (cB, lb, .inl fb)), (od_starts, .inl (cI, lb, .inl fs)), (od_worths, .inl (cI, lb, .inl fw))] ∧ va_S A s.heap H locs ∧ lv_has ls 6 [(5, .int (nI st)), (4, .int (nI bt)), (0, .ref o), (1, .int (nI wi)), (2, .int y), (3, .int z)] ∧ (st ≤ wi) ∧ (bt < sN)) ⟨wi, 0, rfl, hP, hD, hS, lv_sub hl [0, 1, 2, 3, 4, 5] rfl, (Nat.le_refl _), (by omega)⟩ (fun n9 H locs ls hI kk_6 => ?_)
  obtain ⟨st, bt, hn_6, hP, hD, hS, hl, hF_h_1, hF_h_2⟩ := hI
  refine lv_iload hx hb dX2_beginnings_6 (lv_at hl 0 rfl) ?_
  refine lv_if_le (tgt := 55) hx hb dX2_beginnings_8 (by decide) (fun c_3 => ?_) (fun c_3 => ?_)
  · have dc_3 : st ≤ 0 := (nI_leI (a := st) (b := 0) (by omega) (by omega)).mp c_3
    refine lv_iload hx hb dX2_beginnings_55 (lv_at hl 1 rfl) ?_
    have hP9 := hP.sub (ws' := [(o, .inr (2, [.ref od_breaks, .ref od_starts, .ref od_worths, .ref od_closing, .int od_isKnown, .int od_isClosingKnown])), (od_breaks, .inl (cB, lb, .inl fb)), (od_starts, .inl (cI, lb, .inl fs)), (od_worths, .inl (cI, lb, .inl fw))]) [0, 1, 2, 3] rfl
    have hD9 := hD.sub (ws' := [(o, .inr (2, [.ref od_breaks, .ref od_starts, .ref od_worths, .ref od_closing, .int od_isKnown, .int od_isClosingKnown])), (od_breaks, .inl (cB, lb, .inl fb)), (od_starts, .inl (cI, lb, .inl fs)), (od_worths, .inl (cI, lb, .inl fw))]) [0, 1, 2, 3] (by decide) rfl
    refine W.widen (k := 0) (n := 0) (Nat.le_of_ble_eq_true rfl) (Nat.le_of_ble_eq_true rfl) ?_
    exact W.iret (v := nI bt) hx hb hr (fun tz htz hWz => ⟨⟨nI bt, [(o, .inr (2, [.ref od_breaks, .ref od_starts, .ref od_worths, .ref od_closing, .int od_isKnown, .int od_isClosingKnown])), (od_breaks, .inl (cB, lb, .inl fb)), (od_starts, .inl (cI, lb, .inl fs)), (od_worths, .inl (cI, lb, .inl fw))], rfl, ⟨bt, rfl, rfl, (by first | assumption | omega)⟩, by rw [htz]; exact hP9, va_K.moved hWz.alike hK, hD9⟩, hS.F htz⟩) hS.2.2 dX2_beginnings_57
  · have dc_3 : ¬ st ≤ 0 := fun h => c_3 ((nI_leI (a := st) (b := 0) (by omega) (by omega)).mpr h)
    refine lv_aload_n hx hb dX2_beginnings_11 rfl (lv_at hl 2 rfl) ?_
    refine va_get (D := D) (ci := 2) (v := .ref od_breaks) (C := RX2) (T := TX2) (N := 6) hx hb hts (by decide +kernel) hown hK hP 0 rfl rfl 0 (by decide) (hts (.fieldLink RX2 9 "LastLetter$Orders" "breaks" "[B") (by decide +kernel)) (fun _ h9 => h9) rfl dX2_beginnings_12 ?_
    refine lv_iload hx hb dX2_beginnings_15 (lv_at hl 0 rfl) ?_
    refine va_bald hx hb hK hP 1 0 rfl rfl (vp_in_nI (by omega) (by omega)) dX2_beginnings_17 ?_
    refine xb_top (y := fb st) (by rw [nI_clamp (by omega)]) ?_
    refine lv_if_ne (tgt := 44) hx hb dX2_beginnings_18 (by decide) (fun c_4 => ?_) (fun c_4 => ?_)
    · refine lv_iload hx hb dX2_beginnings_44 (lv_at hl 0 rfl) ?_
      refine lv_iconst (v := 1) hx hb dX2_beginnings_46 (by decide) ?_
      refine lv_isub hx hb dX2_beginnings_47 ?_
      refine xb_top (y := nI (st - 1)) (pk_sub (a := st) (b := 1) (by omega)) ?_
      refine lv_iload_n hx hb dX2_beginnings_48 rfl (lv_at hl 3 rfl) ?_
      obtain ⟨q_5, hq_5, eq_5⟩ := set_and (st - 1) wi
      refine lv_iand hx hb dX2_beginnings_49 ?_
      refine xb_top (y := nI q_5) ((nb_and (st - 1) wi).trans eq_5) ?_
      refine lv_istore (lv' := [(5, .int (nI q_5)), (4, .int (nI bt)), (0, .ref o), (1, .int (nI wi)), (2, .int y), (3, .int z)]) hx hb dX2_beginnings_50 hl (by decide) rfl (fun ls hl => ?_)
      refine lv_goto (tgt := 6) hx hb dX2_beginnings_52 (by decide) ?_
      exact kk_6 _ _ _ _ (by rw [← hn_6]; omega) ⟨q_5, bt, rfl, hP, hD, hS, lv_sub hl [0, 1, 2, 3, 4, 5] rfl, (by first | assumption | omega), (by first | assumption | omega)⟩
    · refine lv_aload_n hx hb dX2_beginnings_21 rfl (lv_at hl 2 rfl) ?_
      refine lv_iload hx hb dX2_beginnings_22 (lv_at hl 0 rfl) ?_
      refine lv_iload_n hx hb dX2_beginnings_24 rfl (lv_at hl 5 rfl) ?_
      refine xCi (wr := [(od_breaks, .inl (cB, lb, .inl fb)), (od_starts, .inl (cI, lb, .inl fs))]) (win := [(o, .inr (2, [.ref od_breaks, .ref od_starts, .ref od_worths, .ref od_closing, .int od_isKnown, .int od_isClosingKnown])), (od_worths, .inl (cI, lb, .inl fw))]) hP hD hS hA [0, 3] [1, 2] rfl rfl (by decide) (by decide) (va_runV (As := [.int (nI st), .int z]) (rest := []) ⟨hx, hb, hml, hown, hts⟩ (c_X2_amount l D cB cI cJ cS cZ cO H.size o st z od_breaks od_starts od_worths od_closing od_isKnown od_isClosingKnown lb fw (by first | assumption | omega | decide) (by first | assumption | omega | decide)) (cwV 2 hts gX2_beginnings_X2_amount rfl rfl rfl (by decide +kernel) ⟨Nat.le_of_ble_eq_true rfl, Nat.le_of_ble_eq_true rfl⟩) (xPreV (win := [(o, .inr (2, [.ref od_breaks, .ref od_starts, .ref od_worths, .ref od_closing, .int od_isKnown, .int od_isClosingKnown])), (od_worths, .inl (cI, lb, .inl fw))]) hN hK hP hD [0, 3] (by decide) rfl 0 2 rfl rfl rfl) rfl rfl hl.1 rfl (lv_room (Nat.le_of_ble_eq_true rfl)) dX2_beginnings_25 ⟨Nat.le_of_ble_eq_true rfl, Nat.le_of_ble_eq_true rfl⟩) (fun r_6 w0 H locs hw hP hD hS => ?_)
      subst hw
      have hP : va_P D vwCl [(od_breaks, .inl (cB, lb, .inl fb)), (od_starts, .inl (cI, lb, .inl fs)), (o, .inr (2, [.ref od_breaks, .ref od_starts, .ref od_worths, .ref od_closing, .int od_isKnown, .int od_isClosingKnown])), (od_worths, .inl (cI, lb, .inl fw))] H := hP
      have hD : va_D A [(od_breaks, .inl (cB, lb, .inl fb)), (od_starts, .inl (cI, lb, .inl fs)), (o, .inr (2, [.ref od_breaks, .ref od_starts, .ref od_worths, .ref od_closing, .int od_isKnown, .int od_isClosingKnown])), (od_worths, .inl (cI, lb, .inl fw))] := hD
      refine lv_iload_n hx hb dX2_beginnings_28 rfl (lv_at hl 4 rfl) ?_
      refine lv_icmp_ne (tgt := 44) hx hb dX2_beginnings_29 (by decide) (fun c_7 => ?_) (fun c_7 => ?_)
      · refine lv_iload hx hb dX2_beginnings_44 (lv_at hl 0 rfl) ?_
        refine lv_iconst (v := 1) hx hb dX2_beginnings_46 (by decide) ?_
        refine lv_isub hx hb dX2_beginnings_47 ?_
        refine xb_top (y := nI (st - 1)) (pk_sub (a := st) (b := 1) (by omega)) ?_
        refine lv_iload_n hx hb dX2_beginnings_48 rfl (lv_at hl 3 rfl) ?_
        obtain ⟨q_8, hq_8, eq_8⟩ := set_and (st - 1) wi
        refine lv_iand hx hb dX2_beginnings_49 ?_
        refine xb_top (y := nI q_8) ((nb_and (st - 1) wi).trans eq_8) ?_
        refine lv_istore (lv' := [(5, .int (nI q_8)), (4, .int (nI bt)), (0, .ref o), (1, .int (nI wi)), (2, .int y), (3, .int z)]) hx hb dX2_beginnings_50 hl (by decide) rfl (fun ls hl => ?_)
        refine lv_goto (tgt := 6) hx hb dX2_beginnings_52 (by decide) ?_
        exact kk_6 _ _ _ _ (by rw [← hn_6]; omega) ⟨q_8, bt, rfl, hP.sub [2, 0, 1, 3] rfl, hD.sub [2, 0, 1, 3] (by decide) rfl, hS, lv_sub hl [0, 1, 2, 3, 4, 5] rfl, (by first | assumption | omega), (by first | assumption | omega)⟩
      · refine lv_iload hx hb dX2_beginnings_32 (lv_at hl 1 rfl) ?_
        refine lv_aload_n hx hb dX2_beginnings_34 rfl (lv_at hl 2 rfl) ?_
        refine va_get (D := D) (ci := 2) (v := .ref od_starts) (C := RX2) (T := TX2) (N := 6) hx hb hts (by decide +kernel) hown hK hP 2 rfl rfl 1 (by decide) (hts (.fieldLink RX2 15 "LastLetter$Orders" "starts" "[I") (by decide +kernel)) (fun _ h9 => h9) rfl dX2_beginnings_35 ?_
        refine lv_iload hx hb dX2_beginnings_38 (lv_at hl 0 rfl) ?_
        refine va_iald hx hb hK hP 1 1 rfl rfl (vp_in_nI (by omega) (by omega)) dX2_beginnings_40 ?_
        refine xb_top (y := fs st) (by rw [nI_clamp (by omega)]) ?_
        obtain ⟨q_9, hq_9, eq_9⟩ := hP1 st (by omega) (by omega)
        refine xb_top (y := nI q_9) eq_9 ?_
        obtain ⟨q_10, hq_10, eq_10⟩ := set_or2 (a := bt) (b := q_9) hs (by omega) (by omega)
        refine lv_ior hx hb dX2_beginnings_41 ?_
        refine xb_top (y := nI q_10) ((nb_or bt q_9).trans eq_10) ?_
        refine lv_istore (lv' := [(4, .int (nI q_10)), (5, .int (nI st)), (0, .ref o), (1, .int (nI wi)), (2, .int y), (3, .int z)]) hx hb dX2_beginnings_42 hl (by decide) rfl (fun ls hl => ?_)
        refine lv_iload hx hb dX2_beginnings_44 (lv_at hl 1 rfl) ?_
        refine lv_iconst (v := 1) hx hb dX2_beginnings_46 (by decide) ?_
        refine lv_isub hx hb dX2_beginnings_47 ?_
        refine xb_top (y := nI (st - 1)) (pk_sub (a := st) (b := 1) (by omega)) ?_
        refine lv_iload_n hx hb dX2_beginnings_48 rfl (lv_at hl 3 rfl) ?_
        obtain ⟨q_11, hq_11, eq_11⟩ := set_and (st - 1) wi
        refine lv_iand hx hb dX2_beginnings_49 ?_
        refine xb_top (y := nI q_11) ((nb_and (st - 1) wi).trans eq_11) ?_
        refine lv_istore (lv' := [(5, .int (nI q_11)), (4, .int (nI q_10)), (0, .ref o), (1, .int (nI wi)), (2, .int y), (3, .int z)]) hx hb dX2_beginnings_50 hl (by decide) rfl (fun ls hl => ?_)
        refine lv_goto (tgt := 6) hx hb dX2_beginnings_52 (by decide) ?_
        exact kk_6 _ _ _ _ (by rw [← hn_6]; omega) ⟨q_11, q_10, rfl, hP.sub [2, 0, 1, 3] rfl, hD.sub [2, 0, 1, 3] (by decide) rfl, hS, lv_sub hl [0, 1, 2, 3, 4, 5] rfl, (by first | assumption | omega), (by first | assumption | omega)⟩

set_option maxHeartbeats 4000000 in
set_option maxRecDepth 100000 in
theorem c_X2_learnSet (l : Launch) (D : va_G) (cB cI cJ cS cZ cO : ClassId) (sz : Nat) (o : Nat) (t : Nat) (st : Nat) (od_breaks : Nat) (od_starts : Nat) (od_worths : Nat) (od_closing : Nat) (od_isKnown : Int32) (od_isClosingKnown : Int32) (lb : Nat) (fb : Nat → Int32) (fs : Nat → Int32) (fw : Nat → Int32) (k_name : Nat) (k_worth : Nat) (k_times : Nat) (k_first : Nat) (k_second : Nat) (k_beforeLast : Nat) (k_last : Nat) (k_errandOf : Nat) (k_errandAfter : Nat) (k_sound : Nat) (k_followers : Nat) (k_leaders : Nat) (w : Nat) (k_errands : Int32) (k_alikes : Int32) (k_law : Int32) (f_followers : Nat → Int32) (f_worth : Nat → Int32) (sN : Nat) (hs : sN = 2 ^ w) (hw4 : w ≤ 14) (hs1 : 1 ≤ sN) (hs2 : sN ≤ 16384) (hlb : lb ≤ 16384) (hsl : sN ≤ lb) (h0 : 0 < st) (hst : st < sN) (hP1 : rgP fs st sN) : Met l yX2_learnSet wsX2_learnSet ({ frames := 2, cells := 0, slots := 0, locals := 41 }) (xPre D (tyL cB cI cJ cS cZ cO) [(o, .inr (2, [.ref od_breaks, .ref od_starts, .ref od_worths, .ref od_closing, .int od_isKnown, .int od_isClosingKnown])), (od_breaks, .inl (cB, lb, .inl fb)), (od_starts, .inl (cI, lb, .inl fs)), (od_worths, .inl (cI, lb, .inl fw)), (t, .inr (8, [.ref k_name, .ref k_worth, .ref k_times, .ref k_first, .ref k_second, .ref k_beforeLast, .ref k_last, .ref k_errandOf, .ref k_errandAfter, .ref k_sound, .ref k_followers, .ref k_leaders, .int (nI w), .int k_errands, .int k_alikes, .int k_law])), (k_followers, .inl (cI, 24, .inl f_followers)), (k_worth, .inl (cI, 24, .inl f_worth))] sz [.ref o, .ref t, .int (nI st)]) (xQv D (tyL cB cI cJ cS cZ cO) (va_A [(o, .inr (2, [.ref od_breaks, .ref od_starts, .ref od_worths, .ref od_closing, .int od_isKnown, .int od_isClosingKnown])), (od_breaks, .inl (cB, lb, .inl fb)), (od_starts, .inl (cI, lb, .inl fs)), (od_worths, .inl (cI, lb, .inl fw)), (t, .inr (8, [.ref k_name, .ref k_worth, .ref k_times, .ref k_first, .ref k_second, .ref k_beforeLast, .ref k_last, .ref k_errandOf, .ref k_errandAfter, .ref k_sound, .ref k_followers, .ref k_leaders, .int (nI w), .int k_errands, .int k_alikes, .int k_law])), (k_followers, .inl (cI, 24, .inl f_followers)), (k_worth, .inl (cI, 24, .inl f_worth))] sz) (fun u : va_W => ∃ gb : Nat → Int32, ∃ gs : Nat → Int32, ∃ gw : Nat → Int32, u = [(o, .inr (2, [.ref od_breaks, .ref od_starts, .ref od_worths, .ref od_closing, .int od_isKnown, .int od_isClosingKnown])), (od_breaks, .inl (cB, lb, .inl gb)), (od_starts, .inl (cI, lb, .inl gs)), (od_worths, .inl (cI, lb, .inl gw)), (t, .inr (8, [.ref k_name, .ref k_worth, .ref k_times, .ref k_first, .ref k_second, .ref k_beforeLast, .ref k_last, .ref k_errandOf, .ref k_errandAfter, .ref k_sound, .ref k_followers, .ref k_leaders, .int (nI w), .int k_errands, .int k_alikes, .int k_law])), (k_followers, .inl (cI, 24, .inl f_followers)), (k_worth, .inl (cI, 24, .inl f_worth))] ∧ rgP gs (st + 1) sN)) 0 0 (va_A [(o, .inr (2, [.ref od_breaks, .ref od_starts, .ref od_worths, .ref od_closing, .int od_isKnown, .int od_isClosingKnown])), (od_breaks, .inl (cB, lb, .inl fb)), (od_starts, .inl (cI, lb, .inl fs)), (od_worths, .inl (cI, lb, .inl fw)), (t, .inr (8, [.ref k_name, .ref k_worth, .ref k_times, .ref k_first, .ref k_second, .ref k_beforeLast, .ref k_last, .ref k_errandOf, .ref k_errandAfter, .ref k_sound, .ref k_followers, .ref k_leaders, .int (nI w), .int k_errands, .int k_alikes, .int k_law])), (k_followers, .inl (cI, 24, .inl f_followers)), (k_worth, .inl (cI, 24, .inl f_worth))] sz) := by
  refine Met.ofW (cc := cX2_learnSet) (maxL := 7) (ret := none) (by decide) rfl ?_
  intro p e s m args below meth c s₁ B hml hv
  obtain ⟨rfl, hsz, hP, hK, hD0, hN⟩ := hv
  have hx := B.exec
  have hb := B.bytes
  have hr := B.returns
  have hts := atoms_spec (ws := wsX2_learnSet) B.pre
  have hown : s.vm.findClass RX2 = some m.cls := findClass_of_methodNamed B.named
  have hlocks := B.notSynchronized
  subst hsz
  have hD := hD0.self (sz := s.heap.size)
  generalize hAe : va_A [(o, .inr (2, [.ref od_breaks, .ref od_starts, .ref od_worths, .ref od_closing, .int od_isKnown, .int od_isClosingKnown])), (od_breaks, .inl (cB, lb, .inl fb)), (od_starts, .inl (cI, lb, .inl fs)), (od_worths, .inl (cI, lb, .inl fw)), (t, .inr (8, [.ref k_name, .ref k_worth, .ref k_times, .ref k_first, .ref k_second, .ref k_beforeLast, .ref k_last, .ref k_errandOf, .ref k_errandAfter, .ref k_sound, .ref k_followers, .ref k_leaders, .int (nI w), .int k_errands, .int k_alikes, .int k_law])), (k_followers, .inl (cI, 24, .inl f_followers)), (k_worth, .inl (cI, 24, .inl f_worth))] s.heap.size = A at hD ⊢
  have hA : ∀ q : Nat, s.heap.size ≤ q → A q := fun q h => by rw [← hAe]; exact Or.inr h
  have hS : va_S A s.heap s.heap [] := va_S.rf
  have hP : va_P D vwCl [(o, .inr (2, [.ref od_breaks, .ref od_starts, .ref od_worths, .ref od_closing, .int od_isKnown, .int od_isClosingKnown])), (od_breaks, .inl (cB, lb, .inl fb)), (od_starts, .inl (cI, lb, .inl fs)), (od_worths, .inl (cI, lb, .inl fw)), (t, .inr (8, [.ref k_name, .ref k_worth, .ref k_times, .ref k_first, .ref k_second, .ref k_beforeLast, .ref k_last, .ref k_errandOf, .ref k_errandAfter, .ref k_sound, .ref k_followers, .ref k_leaders, .int (nI w), .int k_errands, .int k_alikes, .int k_law])), (k_followers, .inl (cI, 24, .inl f_followers)), (k_worth, .inl (cI, 24, .inl f_worth))] s.heap := hP
  have hl := lv_entry ([.ref o, .ref t, .int (nI st)]) (n := 7) (Nat.le_of_ble_eq_true rfl)
  rw [lg_entry_eq]
  generalize (lg_sl ([.ref o, .ref t, .int (nI st)]) ++ List.replicate (7 - (lg_sl ([.ref o, .ref t, .int (nI st)])).length) Slot.unset).toArray = ls at hl ⊢
  have hl : lv_has ls 7 [(0, .ref o), (1, .ref t), (2, .int (nI st))] := hl
  refine lv_bipush (v := 24) hx hb dX2_learnSet_0 (by decide) ?_
  refine lv_istore_n (lv' := [(3, .int 24), (0, .ref o), (1, .ref t), (2, .int (nI st))]) hx hb dX2_learnSet_2 rfl hl (by decide) rfl (fun ls hl => ?_)
  refine lv_iconst (v := 0) hx hb dX2_learnSet_3 (by decide) ?_
  refine lv_istore (lv' := [(4, .int 0), (3, .int 24), (0, .ref o), (1, .ref t), (2, .int (nI st))]) hx hb dX2_learnSet_4 hl (by decide) rfl (fun ls hl => ?_)
  refine lv_iconst (v := 0) hx hb dX2_learnSet_6 (by decide) ?_
  refine lv_istore (lv' := [(5, .int 0), (4, .int 0), (3, .int 24), (0, .ref o), (1, .ref t), (2, .int (nI st))]) hx hb dX2_learnSet_7 hl (by decide) rfl (fun ls hl => ?_)
  refine xb_wh (fun (n9 : Nat) H locs ls => ∃ i : Nat, ∃ le : Int32, ∃ bt : Nat, (w - i) = n9 ∧ va_P D vwCl [(o, .inr (2, [.ref od_breaks, .ref od_starts, .ref od_worths, .ref od_closing, .int od_isKnown, .int od_isClosingKnown])), (od_breaks, .inl (cB, lb, .inl fb)), (od_starts, .inl (cI, lb, .inl fs)), (od_worths, .inl (cI, lb, .inl fw)), (t, .inr (8, [.ref k_name, .ref k_worth, .ref k_times, .ref k_first, .ref k_second, .ref k_beforeLast, .ref k_last, .ref k_errandOf, .ref k_errandAfter, .ref k_sound, .ref k_followers, .ref k_leaders, .int (nI w), .int k_errands, .int k_alikes, .int k_law])), (k_followers, .inl (cI, 24, .inl f_followers)), (k_worth, .inl (cI, 24, .inl f_worth))] H ∧ va_D A [(o, .inr (2, [.ref od_breaks, .ref od_starts, .ref od_worths, .ref od_closing, .int od_isKnown, .int od_isClosingKnown])), (od_breaks, .inl (cB, lb, .inl fb)), (od_starts, .inl (cI, lb, .inl fs)), (od_worths, .inl (cI, lb, .inl fw)), (t, .inr (8, [.ref k_name, .ref k_worth, .ref k_times, .ref k_first, .ref k_second, .ref k_beforeLast, .ref k_last, .ref k_errandOf, .ref k_errandAfter, .ref k_sound, .ref k_followers, .ref k_leaders, .int (nI w), .int k_errands, .int k_alikes, .int k_law])), (k_followers, .inl (cI, 24, .inl f_followers)), (k_worth, .inl (cI, 24, .inl f_worth))] ∧ va_S A s.heap H locs ∧ lv_has ls 7 [(5, .int (nI i)), (4, .int (nI bt)), (3, .int le), (0, .ref o), (1, .ref t), (2, .int (nI st))] ∧ (i ≤ w) ∧ (bt < sN)) ⟨0, 24, 0, rfl, hP, hD, hS, lv_sub hl [0, 1, 2, 3, 4, 5] rfl, (by first | assumption | omega), (by first | assumption | omega)⟩ (fun n9 H locs ls hI kk_9 => ?_)
  obtain ⟨i, le, bt, hn_9, hP, hD, hS, hl, hF_h_1, hF_h_2⟩ := hI
  refine lv_iload hx hb dX2_learnSet_9 (lv_at hl 0 rfl) ?_
  refine lv_aload_n hx hb dX2_learnSet_11 rfl (lv_at hl 4 rfl) ?_
  refine va_getN (D := D) (ci := 8) (v := .int (nI w)) (C := RX8) (T := TX8) (N := 16) hx hb hts (by decide +kernel) hown hK hP 4 rfl rfl 12 (by decide) (va_Nw.use rfl (hN.1 (RX2, 46, RX8, "words", "I", RX10) (by decide +kernel))) (fun _ h9 => h9) rfl dX2_learnSet_12 ?_
  refine lv_icmp_ge (tgt := 75) hx hb dX2_learnSet_15 (by decide) (fun c_3 => ?_) (fun c_3 => ?_)
  · have dc_3 : w ≤ i := (nI_leI (a := w) (b := i) (by omega) (by omega)).mp c_3
    refine lv_aload_n hx hb dX2_learnSet_75 rfl (lv_at hl 3 rfl) ?_
    refine va_get (D := D) (ci := 2) (v := .ref od_breaks) (C := RX2) (T := TX2) (N := 6) hx hb hts (by decide +kernel) hown hK hP 0 rfl rfl 0 (by decide) (hts (.fieldLink RX2 9 "LastLetter$Orders" "breaks" "[B") (by decide +kernel)) (fun _ h9 => h9) rfl dX2_learnSet_76 ?_
    refine lv_iload_n hx hb dX2_learnSet_79 rfl (lv_at hl 5 rfl) ?_
    refine lv_iload_n hx hb dX2_learnSet_80 rfl (lv_at hl 2 rfl) ?_
    refine lv_i2b (v := le.toInt8.toInt32) hx hb dX2_learnSet_81 rfl ?_
    refine va_bast hx hb hK hP hD hS 1 0 rfl rfl (vp_in_nI (by omega) (by omega)) dX2_learnSet_82 (fun H locs hP hD hS => ?_)
    have hP : va_P D vwCl [(o, .inr (2, [.ref od_breaks, .ref od_starts, .ref od_worths, .ref od_closing, .int od_isKnown, .int od_isClosingKnown])), (od_breaks, .inl (cB, lb, .inl (upd fb (Int32.toNatClampNeg (nI st)) (vp_nar .byte le.toInt8.toInt32)))), (od_starts, .inl (cI, lb, .inl fs)), (od_worths, .inl (cI, lb, .inl fw)), (t, .inr (8, [.ref k_name, .ref k_worth, .ref k_times, .ref k_first, .ref k_second, .ref k_beforeLast, .ref k_last, .ref k_errandOf, .ref k_errandAfter, .ref k_sound, .ref k_followers, .ref k_leaders, .int (nI w), .int k_errands, .int k_alikes, .int k_law])), (k_followers, .inl (cI, 24, .inl f_followers)), (k_worth, .inl (cI, 24, .inl f_worth))] H := hP
    have hD : va_D A [(o, .inr (2, [.ref od_breaks, .ref od_starts, .ref od_worths, .ref od_closing, .int od_isKnown, .int od_isClosingKnown])), (od_breaks, .inl (cB, lb, .inl (upd fb (Int32.toNatClampNeg (nI st)) (vp_nar .byte le.toInt8.toInt32)))), (od_starts, .inl (cI, lb, .inl fs)), (od_worths, .inl (cI, lb, .inl fw)), (t, .inr (8, [.ref k_name, .ref k_worth, .ref k_times, .ref k_first, .ref k_second, .ref k_beforeLast, .ref k_last, .ref k_errandOf, .ref k_errandAfter, .ref k_sound, .ref k_followers, .ref k_leaders, .int (nI w), .int k_errands, .int k_alikes, .int k_law])), (k_followers, .inl (cI, 24, .inl f_followers)), (k_worth, .inl (cI, 24, .inl f_worth))] := hD
    generalize eg_4 : upd fb (Int32.toNatClampNeg (nI st)) (vp_nar .byte le.toInt8.toInt32) = g_4 at hP hD
    refine lv_aload_n hx hb dX2_learnSet_83 rfl (lv_at hl 3 rfl) ?_
    refine va_get (D := D) (ci := 2) (v := .ref od_starts) (C := RX2) (T := TX2) (N := 6) hx hb hts (by decide +kernel) hown hK hP 0 rfl rfl 1 (by decide) (hts (.fieldLink RX2 15 "LastLetter$Orders" "starts" "[I") (by decide +kernel)) (fun _ h9 => h9) rfl dX2_learnSet_84 ?_
    refine lv_iload_n hx hb dX2_learnSet_87 rfl (lv_at hl 5 rfl) ?_
    refine lv_iload hx hb dX2_learnSet_88 (lv_at hl 1 rfl) ?_
    refine va_iast hx hb hK hP hD hS 2 1 rfl rfl (vp_in_nI (by omega) (by omega)) dX2_learnSet_90 (fun H locs hP hD hS => ?_)
    have hP : va_P D vwCl [(o, .inr (2, [.ref od_breaks, .ref od_starts, .ref od_worths, .ref od_closing, .int od_isKnown, .int od_isClosingKnown])), (od_breaks, .inl (cB, lb, .inl g_4)), (od_starts, .inl (cI, lb, .inl (upd fs (Int32.toNatClampNeg (nI st)) (nI bt)))), (od_worths, .inl (cI, lb, .inl fw)), (t, .inr (8, [.ref k_name, .ref k_worth, .ref k_times, .ref k_first, .ref k_second, .ref k_beforeLast, .ref k_last, .ref k_errandOf, .ref k_errandAfter, .ref k_sound, .ref k_followers, .ref k_leaders, .int (nI w), .int k_errands, .int k_alikes, .int k_law])), (k_followers, .inl (cI, 24, .inl f_followers)), (k_worth, .inl (cI, 24, .inl f_worth))] H := hP
    have hD : va_D A [(o, .inr (2, [.ref od_breaks, .ref od_starts, .ref od_worths, .ref od_closing, .int od_isKnown, .int od_isClosingKnown])), (od_breaks, .inl (cB, lb, .inl g_4)), (od_starts, .inl (cI, lb, .inl (upd fs (Int32.toNatClampNeg (nI st)) (nI bt)))), (od_worths, .inl (cI, lb, .inl fw)), (t, .inr (8, [.ref k_name, .ref k_worth, .ref k_times, .ref k_first, .ref k_second, .ref k_beforeLast, .ref k_last, .ref k_errandOf, .ref k_errandAfter, .ref k_sound, .ref k_followers, .ref k_leaders, .int (nI w), .int k_errands, .int k_alikes, .int k_law])), (k_followers, .inl (cI, 24, .inl f_followers)), (k_worth, .inl (cI, 24, .inl f_worth))] := hD
    generalize eg_5 : upd fs (Int32.toNatClampNeg (nI st)) (nI bt) = g_5 at hP hD
    refine lv_aload_n hx hb dX2_learnSet_91 rfl (lv_at hl 3 rfl) ?_
    refine va_get (D := D) (ci := 2) (v := .ref od_worths) (C := RX2) (T := TX2) (N := 6) hx hb hts (by decide +kernel) hown hK hP 0 rfl rfl 2 (by decide) (hts (.fieldLink RX2 19 "LastLetter$Orders" "worths" "[I") (by decide +kernel)) (fun _ h9 => h9) rfl dX2_learnSet_92 ?_
    refine lv_iload_n hx hb dX2_learnSet_95 rfl (lv_at hl 5 rfl) ?_
    refine lv_aload_n hx hb dX2_learnSet_96 rfl (lv_at hl 3 rfl) ?_
    refine va_get (D := D) (ci := 2) (v := .ref od_worths) (C := RX2) (T := TX2) (N := 6) hx hb hts (by decide +kernel) hown hK hP 0 rfl rfl 2 (by decide) (hts (.fieldLink RX2 19 "LastLetter$Orders" "worths" "[I") (by decide +kernel)) (fun _ h9 => h9) rfl dX2_learnSet_97 ?_
    refine lv_iload_n hx hb dX2_learnSet_100 rfl (lv_at hl 5 rfl) ?_
    refine lv_iload_n hx hb dX2_learnSet_101 rfl (lv_at hl 5 rfl) ?_
    refine lv_iconst (v := 1) hx hb dX2_learnSet_102 (by decide) ?_
    refine lv_isub hx hb dX2_learnSet_103 ?_
    refine xb_top (y := nI (st - 1)) (pk_sub (a := st) (b := 1) (by omega)) ?_
    obtain ⟨q_6, hq_6, eq_6⟩ := set_and st (st - 1)
    refine lv_iand hx hb dX2_learnSet_104 ?_
    refine xb_top (y := nI q_6) ((nb_and st (st - 1)).trans eq_6) ?_
    refine va_iald hx hb hK hP 3 1 rfl rfl (vp_in_nI (by omega) (by omega)) dX2_learnSet_105 ?_
    refine xb_top (y := fw q_6) (by rw [nI_clamp (by omega)]) ?_
    refine lv_aload_n hx hb dX2_learnSet_106 rfl (lv_at hl 4 rfl) ?_
    refine va_getN (D := D) (ci := 8) (v := .ref k_worth) (C := RX8) (T := TX8) (N := 16) hx hb hts (by decide +kernel) hown hK hP 4 rfl rfl 1 (by decide) (va_Nw.use rfl (hN.1 (RX2, 101, RX8, "worth", "[I", RX10) (by decide +kernel))) (fun _ h9 => h9) rfl dX2_learnSet_107 ?_
    refine lv_iload_n hx hb dX2_learnSet_110 rfl (lv_at hl 5 rfl) ?_
    refine xCi (wr := [(o, .inr (2, [.ref od_breaks, .ref od_starts, .ref od_worths, .ref od_closing, .int od_isKnown, .int od_isClosingKnown])), (od_breaks, .inl (cB, lb, .inl g_4)), (od_starts, .inl (cI, lb, .inl g_5)), (od_worths, .inl (cI, lb, .inl fw)), (t, .inr (8, [.ref k_name, .ref k_worth, .ref k_times, .ref k_first, .ref k_second, .ref k_beforeLast, .ref k_last, .ref k_errandOf, .ref k_errandAfter, .ref k_sound, .ref k_followers, .ref k_leaders, .int (nI w), .int k_errands, .int k_alikes, .int k_law])), (k_followers, .inl (cI, 24, .inl f_followers)), (k_worth, .inl (cI, 24, .inl f_worth))]) (win := []) hP hD hS hA [] [0, 1, 2, 3, 4, 5, 6] rfl rfl (by decide) (by decide) (va_runSN (As := [.int (nI st)]) (rest := [.ref k_worth, .int (fw q_6), .int (nI st), .ref od_worths]) ⟨hx, hb, hml, hown, hts⟩ (c_X10_low1 l D cB cI cJ cS cZ cO H.size st w (by omega) (by rw [← hs]; omega) (by omega)) ⟨va_cnB 1 hts gX2_learnSet_X10_lowest_n79 rfl rfl rfl (hN.2.1 (RX2, 79, yX10_lowest, RX10) (by decide +kernel)) (hts (.initialized RX10) (by decide +kernel)) (by decide +kernel) ⟨Nat.le_of_ble_eq_true rfl, Nat.le_of_ble_eq_true rfl⟩, hts (.static yX10_lowest) (by decide +kernel), trivial⟩ (xPreS (win := []) hN hK hP hD [] (by decide) rfl) rfl rfl hl.1 rfl (lv_room (Nat.le_of_ble_eq_true rfl)) dX2_learnSet_111 ⟨Nat.le_of_ble_eq_true rfl, Nat.le_of_ble_eq_true rfl⟩) (fun r0 w0 H locs hw hP hD hS => ?_)
    obtain ⟨rr_7, rfl, rfl, hf_8⟩ := hw
    have hP : va_P D vwCl [(o, .inr (2, [.ref od_breaks, .ref od_starts, .ref od_worths, .ref od_closing, .int od_isKnown, .int od_isClosingKnown])), (od_breaks, .inl (cB, lb, .inl g_4)), (od_starts, .inl (cI, lb, .inl g_5)), (od_worths, .inl (cI, lb, .inl fw)), (t, .inr (8, [.ref k_name, .ref k_worth, .ref k_times, .ref k_first, .ref k_second, .ref k_beforeLast, .ref k_last, .ref k_errandOf, .ref k_errandAfter, .ref k_sound, .ref k_followers, .ref k_leaders, .int (nI w), .int k_errands, .int k_alikes, .int k_law])), (k_followers, .inl (cI, 24, .inl f_followers)), (k_worth, .inl (cI, 24, .inl f_worth))] H := hP
    have hD : va_D A [(o, .inr (2, [.ref od_breaks, .ref od_starts, .ref od_worths, .ref od_closing, .int od_isKnown, .int od_isClosingKnown])), (od_breaks, .inl (cB, lb, .inl g_4)), (od_starts, .inl (cI, lb, .inl g_5)), (od_worths, .inl (cI, lb, .inl fw)), (t, .inr (8, [.ref k_name, .ref k_worth, .ref k_times, .ref k_first, .ref k_second, .ref k_beforeLast, .ref k_last, .ref k_errandOf, .ref k_errandAfter, .ref k_sound, .ref k_followers, .ref k_leaders, .int (nI w), .int k_errands, .int k_alikes, .int k_law])), (k_followers, .inl (cI, 24, .inl f_followers)), (k_worth, .inl (cI, 24, .inl f_worth))] := hD
    refine va_iald hx hb hK hP 6 1 rfl rfl (vp_in_nI (by omega) (by omega)) dX2_learnSet_114 ?_
    refine xb_top (y := f_worth rr_7) (by rw [nI_clamp (by omega)]) ?_
    refine lv_iadd hx hb dX2_learnSet_115 ?_
    refine va_iast hx hb hK hP hD hS 3 1 rfl rfl (vp_in_nI (by omega) (by omega)) dX2_learnSet_116 (fun H locs hP hD hS => ?_)
    have hP : va_P D vwCl [(o, .inr (2, [.ref od_breaks, .ref od_starts, .ref od_worths, .ref od_closing, .int od_isKnown, .int od_isClosingKnown])), (od_breaks, .inl (cB, lb, .inl g_4)), (od_starts, .inl (cI, lb, .inl g_5)), (od_worths, .inl (cI, lb, .inl (upd fw (Int32.toNatClampNeg (nI st)) ((fw q_6) + (f_worth rr_7))))), (t, .inr (8, [.ref k_name, .ref k_worth, .ref k_times, .ref k_first, .ref k_second, .ref k_beforeLast, .ref k_last, .ref k_errandOf, .ref k_errandAfter, .ref k_sound, .ref k_followers, .ref k_leaders, .int (nI w), .int k_errands, .int k_alikes, .int k_law])), (k_followers, .inl (cI, 24, .inl f_followers)), (k_worth, .inl (cI, 24, .inl f_worth))] H := hP
    have hD : va_D A [(o, .inr (2, [.ref od_breaks, .ref od_starts, .ref od_worths, .ref od_closing, .int od_isKnown, .int od_isClosingKnown])), (od_breaks, .inl (cB, lb, .inl g_4)), (od_starts, .inl (cI, lb, .inl g_5)), (od_worths, .inl (cI, lb, .inl (upd fw (Int32.toNatClampNeg (nI st)) ((fw q_6) + (f_worth rr_7))))), (t, .inr (8, [.ref k_name, .ref k_worth, .ref k_times, .ref k_first, .ref k_second, .ref k_beforeLast, .ref k_last, .ref k_errandOf, .ref k_errandAfter, .ref k_sound, .ref k_followers, .ref k_leaders, .int (nI w), .int k_errands, .int k_alikes, .int k_law])), (k_followers, .inl (cI, 24, .inl f_followers)), (k_worth, .inl (cI, 24, .inl f_worth))] := hD
    generalize eg_9 : upd fw (Int32.toNatClampNeg (nI st)) ((fw q_6) + (f_worth rr_7)) = g_9 at hP hD
    have hP9 := hP.sub (ws' := [(o, .inr (2, [.ref od_breaks, .ref od_starts, .ref od_worths, .ref od_closing, .int od_isKnown, .int od_isClosingKnown])), (od_breaks, .inl (cB, lb, .inl g_4)), (od_starts, .inl (cI, lb, .inl g_5)), (od_worths, .inl (cI, lb, .inl g_9)), (t, .inr (8, [.ref k_name, .ref k_worth, .ref k_times, .ref k_first, .ref k_second, .ref k_beforeLast, .ref k_last, .ref k_errandOf, .ref k_errandAfter, .ref k_sound, .ref k_followers, .ref k_leaders, .int (nI w), .int k_errands, .int k_alikes, .int k_law])), (k_followers, .inl (cI, 24, .inl f_followers)), (k_worth, .inl (cI, 24, .inl f_worth))]) [0, 1, 2, 3, 4, 5, 6] rfl
    have hD9 := hD.sub (ws' := [(o, .inr (2, [.ref od_breaks, .ref od_starts, .ref od_worths, .ref od_closing, .int od_isKnown, .int od_isClosingKnown])), (od_breaks, .inl (cB, lb, .inl g_4)), (od_starts, .inl (cI, lb, .inl g_5)), (od_worths, .inl (cI, lb, .inl g_9)), (t, .inr (8, [.ref k_name, .ref k_worth, .ref k_times, .ref k_first, .ref k_second, .ref k_beforeLast, .ref k_last, .ref k_errandOf, .ref k_errandAfter, .ref k_sound, .ref k_followers, .ref k_leaders, .int (nI w), .int k_errands, .int k_alikes, .int k_law])), (k_followers, .inl (cI, 24, .inl f_followers)), (k_worth, .inl (cI, 24, .inl f_worth))]) [0, 1, 2, 3, 4, 5, 6] (by decide) rfl
    refine W.widen (k := 0) (n := 0) (Nat.le_of_ble_eq_true rfl) (Nat.le_of_ble_eq_true rfl) ?_
    exact W.vret hx hb hr (fun tz htz hWz => ⟨⟨[(o, .inr (2, [.ref od_breaks, .ref od_starts, .ref od_worths, .ref od_closing, .int od_isKnown, .int od_isClosingKnown])), (od_breaks, .inl (cB, lb, .inl g_4)), (od_starts, .inl (cI, lb, .inl g_5)), (od_worths, .inl (cI, lb, .inl g_9)), (t, .inr (8, [.ref k_name, .ref k_worth, .ref k_times, .ref k_first, .ref k_second, .ref k_beforeLast, .ref k_last, .ref k_errandOf, .ref k_errandAfter, .ref k_sound, .ref k_followers, .ref k_leaders, .int (nI w), .int k_errands, .int k_alikes, .int k_law])), (k_followers, .inl (cI, 24, .inl f_followers)), (k_worth, .inl (cI, 24, .inl f_worth))], rfl, ⟨g_4, g_5, g_9, rfl, (rgP_push hP1 (by omega) (by omega) eg_5)⟩, by rw [htz]; exact hP9, va_K.moved hWz.alike hK, hD9⟩, hS.F htz⟩) hS.2.2 dX2_learnSet_117
  · have dc_3 : ¬ w ≤ i := fun h => c_3 ((nI_leI (a := w) (b := i) (by omega) (by omega)).mpr h)
    refine lv_iload_n hx hb dX2_learnSet_18 rfl (lv_at hl 5 rfl) ?_
    refine lv_iload hx hb dX2_learnSet_19 (lv_at hl 0 rfl) ?_
    refine xCi (wr := [(o, .inr (2, [.ref od_breaks, .ref od_starts, .ref od_worths, .ref od_closing, .int od_isKnown, .int od_isClosingKnown])), (od_breaks, .inl (cB, lb, .inl fb)), (od_starts, .inl (cI, lb, .inl fs)), (od_worths, .inl (cI, lb, .inl fw)), (t, .inr (8, [.ref k_name, .ref k_worth, .ref k_times, .ref k_first, .ref k_second, .ref k_beforeLast, .ref k_last, .ref k_errandOf, .ref k_errandAfter, .ref k_sound, .ref k_followers, .ref k_leaders, .int (nI w), .int k_errands, .int k_alikes, .int k_law])), (k_followers, .inl (cI, 24, .inl f_followers)), (k_worth, .inl (cI, 24, .inl f_worth))]) (win := []) hP hD hS hA [] [0, 1, 2, 3, 4, 5, 6] rfl rfl (by decide) (by decide) (va_runSN (As := [.int (nI st), .int (nI i)]) (rest := []) ⟨hx, hb, hml, hown, hts⟩ (c_X10_isIn_n l D cB cI cJ cS cZ cO H.size st i (by first | assumption | omega | decide) (by first | assumption | omega | decide)) ⟨va_cnB 2 hts gX2_learnSet_X10_isIn_n54 rfl rfl rfl (hN.2.1 (RX2, 54, yX10_isIn, RX10) (by decide +kernel)) (hts (.initialized RX10) (by decide +kernel)) (by decide +kernel) ⟨Nat.le_of_ble_eq_true rfl, Nat.le_of_ble_eq_true rfl⟩, hts (.static yX10_isIn) (by decide +kernel), trivial⟩ (xPreS (win := []) hN hK hP hD [] (by decide) rfl) rfl rfl hl.1 rfl (lv_room (Nat.le_of_ble_eq_true rfl)) dX2_learnSet_21 ⟨Nat.le_of_ble_eq_true rfl, Nat.le_of_ble_eq_true rfl⟩) (fun r_10 w0 H locs hw hP hD hS => ?_)
    obtain ⟨rfl, hf_11⟩ := hw
    have hP : va_P D vwCl [(o, .inr (2, [.ref od_breaks, .ref od_starts, .ref od_worths, .ref od_closing, .int od_isKnown, .int od_isClosingKnown])), (od_breaks, .inl (cB, lb, .inl fb)), (od_starts, .inl (cI, lb, .inl fs)), (od_worths, .inl (cI, lb, .inl fw)), (t, .inr (8, [.ref k_name, .ref k_worth, .ref k_times, .ref k_first, .ref k_second, .ref k_beforeLast, .ref k_last, .ref k_errandOf, .ref k_errandAfter, .ref k_sound, .ref k_followers, .ref k_leaders, .int (nI w), .int k_errands, .int k_alikes, .int k_law])), (k_followers, .inl (cI, 24, .inl f_followers)), (k_worth, .inl (cI, 24, .inl f_worth))] H := hP
    have hD : va_D A [(o, .inr (2, [.ref od_breaks, .ref od_starts, .ref od_worths, .ref od_closing, .int od_isKnown, .int od_isClosingKnown])), (od_breaks, .inl (cB, lb, .inl fb)), (od_starts, .inl (cI, lb, .inl fs)), (od_worths, .inl (cI, lb, .inl fw)), (t, .inr (8, [.ref k_name, .ref k_worth, .ref k_times, .ref k_first, .ref k_second, .ref k_beforeLast, .ref k_last, .ref k_errandOf, .ref k_errandAfter, .ref k_sound, .ref k_followers, .ref k_leaders, .int (nI w), .int k_errands, .int k_alikes, .int k_law])), (k_followers, .inl (cI, 24, .inl f_followers)), (k_worth, .inl (cI, 24, .inl f_worth))] := hD
    refine lv_if_eq (tgt := 69) hx hb dX2_learnSet_24 (by decide) (fun c_12 => ?_) (fun c_12 => ?_)
    · refine lv_iinc (v := nI (i + 1)) (lv' := [(5, .int (nI (i + 1))), (4, .int (nI bt)), (3, .int le), (0, .ref o), (1, .ref t), (2, .int (nI st))]) hx hb dX2_learnSet_69 hl (k := 0) rfl (nI_1 i) (by decide) rfl (fun ls hl => ?_)
      refine lv_goto (tgt := 9) hx hb dX2_learnSet_72 (by decide) ?_
      exact kk_9 _ _ _ _ (by rw [← hn_9]; omega) ⟨(i + 1), le, bt, rfl, hP, hD, hS, lv_sub hl [0, 1, 2, 3, 4, 5] rfl, (by first | assumption | omega), (by first | assumption | omega)⟩
    · refine lv_aload_n hx hb dX2_learnSet_27 rfl (lv_at hl 3 rfl) ?_
      refine lv_aload_n hx hb dX2_learnSet_28 rfl (lv_at hl 4 rfl) ?_
      refine lv_iload hx hb dX2_learnSet_29 (lv_at hl 0 rfl) ?_
      refine lv_iload_n hx hb dX2_learnSet_31 rfl (lv_at hl 5 rfl) ?_
      refine lv_iconst (v := 1) hx hb dX2_learnSet_32 (by decide) ?_
      refine lv_iload hx hb dX2_learnSet_33 (lv_at hl 0 rfl) ?_
      refine lv_ishl hx hb dX2_learnSet_35 ?_
      refine xb_top (y := nI (1 * 2 ^ i)) (nb_shl (a := 1) (i := i) (by omega)) ?_
      obtain ⟨q_13, hq_13, eq_13⟩ := set_xor (a := st) (i := i) hs (by omega) (by omega)
      refine lv_ixor hx hb dX2_learnSet_36 ?_
      refine xb_top (y := nI q_13) ((nb_xor st (1 * 2 ^ i)).trans eq_13) ?_
      refine xCi (wr := [(od_worths, .inl (cI, lb, .inl fw)), (k_worth, .inl (cI, 24, .inl f_worth))]) (win := [(o, .inr (2, [.ref od_breaks, .ref od_starts, .ref od_worths, .ref od_closing, .int od_isKnown, .int od_isClosingKnown])), (od_breaks, .inl (cB, lb, .inl fb)), (od_starts, .inl (cI, lb, .inl fs)), (t, .inr (8, [.ref k_name, .ref k_worth, .ref k_times, .ref k_first, .ref k_second, .ref k_beforeLast, .ref k_last, .ref k_errandOf, .ref k_errandAfter, .ref k_sound, .ref k_followers, .ref k_leaders, .int (nI w), .int k_errands, .int k_alikes, .int k_law])), (k_followers, .inl (cI, 24, .inl f_followers))]) hP hD hS hA [0, 1, 2, 4, 5] [3, 6] rfl rfl (by decide) (by decide) (va_runV (As := [.ref t, .int (nI i), .int (nI q_13)]) (rest := []) ⟨hx, hb, hml, hown, hts⟩ (c_X2_breaksBehind l D cB cI cJ cS cZ cO H.size o t i q_13 od_breaks od_starts od_worths od_closing od_isKnown od_isClosingKnown lb fb fs k_name k_worth k_times k_first k_second k_beforeLast k_last k_errandOf k_errandAfter k_sound k_followers k_leaders w k_errands k_alikes k_law f_followers (by first | assumption | omega | decide) (by first | assumption | omega | decide) (by first | assumption | omega | decide)) (cwV 3 hts gX2_learnSet_X2_breaksBehind rfl rfl rfl (by decide +kernel) ⟨Nat.le_of_ble_eq_true rfl, Nat.le_of_ble_eq_true rfl⟩) (xPreV (win := [(o, .inr (2, [.ref od_breaks, .ref od_starts, .ref od_worths, .ref od_closing, .int od_isKnown, .int od_isClosingKnown])), (od_breaks, .inl (cB, lb, .inl fb)), (od_starts, .inl (cI, lb, .inl fs)), (t, .inr (8, [.ref k_name, .ref k_worth, .ref k_times, .ref k_first, .ref k_second, .ref k_beforeLast, .ref k_last, .ref k_errandOf, .ref k_errandAfter, .ref k_sound, .ref k_followers, .ref k_leaders, .int (nI w), .int k_errands, .int k_alikes, .int k_law])), (k_followers, .inl (cI, 24, .inl f_followers))]) hN hK hP hD [0, 1, 2, 4, 5] (by decide) rfl 0 2 rfl rfl rfl) rfl rfl hl.1 rfl (lv_room (Nat.le_of_ble_eq_true rfl)) dX2_learnSet_37 ⟨Nat.le_of_ble_eq_true rfl, Nat.le_of_ble_eq_true rfl⟩) (fun r_14 w0 H locs hw hP hD hS => ?_)
      subst hw
      have hP : va_P D vwCl [(od_worths, .inl (cI, lb, .inl fw)), (k_worth, .inl (cI, 24, .inl f_worth)), (o, .inr (2, [.ref od_breaks, .ref od_starts, .ref od_worths, .ref od_closing, .int od_isKnown, .int od_isClosingKnown])), (od_breaks, .inl (cB, lb, .inl fb)), (od_starts, .inl (cI, lb, .inl fs)), (t, .inr (8, [.ref k_name, .ref k_worth, .ref k_times, .ref k_first, .ref k_second, .ref k_beforeLast, .ref k_last, .ref k_errandOf, .ref k_errandAfter, .ref k_sound, .ref k_followers, .ref k_leaders, .int (nI w), .int k_errands, .int k_alikes, .int k_law])), (k_followers, .inl (cI, 24, .inl f_followers))] H := hP
      have hD : va_D A [(od_worths, .inl (cI, lb, .inl fw)), (k_worth, .inl (cI, 24, .inl f_worth)), (o, .inr (2, [.ref od_breaks, .ref od_starts, .ref od_worths, .ref od_closing, .int od_isKnown, .int od_isClosingKnown])), (od_breaks, .inl (cB, lb, .inl fb)), (od_starts, .inl (cI, lb, .inl fs)), (t, .inr (8, [.ref k_name, .ref k_worth, .ref k_times, .ref k_first, .ref k_second, .ref k_beforeLast, .ref k_last, .ref k_errandOf, .ref k_errandAfter, .ref k_sound, .ref k_followers, .ref k_leaders, .int (nI w), .int k_errands, .int k_alikes, .int k_law])), (k_followers, .inl (cI, 24, .inl f_followers))] := hD
      refine lv_istore (lv' := [(6, .int r_14), (5, .int (nI i)), (4, .int (nI bt)), (3, .int le), (0, .ref o), (1, .ref t), (2, .int (nI st))]) hx hb dX2_learnSet_40 hl (by decide) rfl (fun ls hl => ?_)
      refine lv_iload hx hb dX2_learnSet_42 (lv_at hl 0 rfl) ?_
      refine lv_iload_n hx hb dX2_learnSet_44 rfl (lv_at hl 3 rfl) ?_
      refine lv_icmp_ge (tgt := 54) hx hb dX2_learnSet_45 (by decide) (fun c_15 => ?_) (fun c_15 => ?_)
      · refine lv_iload hx hb dX2_learnSet_54 (lv_at hl 0 rfl) ?_
        refine lv_iload_n hx hb dX2_learnSet_56 rfl (lv_at hl 3 rfl) ?_
        refine lv_icmp_ne (tgt := 69) hx hb dX2_learnSet_57 (by decide) (fun c_16 => ?_) (fun c_16 => ?_)
        · refine lv_iinc (v := nI (i + 1)) (lv' := [(5, .int (nI (i + 1))), (6, .int r_14), (4, .int (nI bt)), (3, .int le), (0, .ref o), (1, .ref t), (2, .int (nI st))]) hx hb dX2_learnSet_69 hl (k := 1) rfl (nI_1 i) (by decide) rfl (fun ls hl => ?_)
          refine lv_goto (tgt := 9) hx hb dX2_learnSet_72 (by decide) ?_
          exact kk_9 _ _ _ _ (by rw [← hn_9]; omega) ⟨(i + 1), le, bt, rfl, hP.sub [2, 3, 4, 0, 5, 6, 1] rfl, hD.sub [2, 3, 4, 0, 5, 6, 1] (by decide) rfl, hS, lv_sub hl [0, 2, 3, 4, 5, 6] rfl, (by first | assumption | omega), (by first | assumption | omega)⟩
        · refine lv_iload hx hb dX2_learnSet_60 (lv_at hl 2 rfl) ?_
          refine lv_iconst (v := 1) hx hb dX2_learnSet_62 (by decide) ?_
          refine lv_iload hx hb dX2_learnSet_63 (lv_at hl 1 rfl) ?_
          refine lv_ishl hx hb dX2_learnSet_65 ?_
          refine xb_top (y := nI (1 * 2 ^ i)) (nb_shl (a := 1) (i := i) (by omega)) ?_
          obtain ⟨q_17, hq_17, eq_17⟩ := set_or (a := bt) (i := i) hs (by omega) (by omega)
          refine lv_ior hx hb dX2_learnSet_66 ?_
          refine xb_top (y := nI q_17) ((nb_or bt (1 * 2 ^ i)).trans eq_17) ?_
          refine lv_istore (lv' := [(4, .int (nI q_17)), (6, .int r_14), (5, .int (nI i)), (3, .int le), (0, .ref o), (1, .ref t), (2, .int (nI st))]) hx hb dX2_learnSet_67 hl (by decide) rfl (fun ls hl => ?_)
          refine lv_iinc (v := nI (i + 1)) (lv' := [(5, .int (nI (i + 1))), (4, .int (nI q_17)), (6, .int r_14), (3, .int le), (0, .ref o), (1, .ref t), (2, .int (nI st))]) hx hb dX2_learnSet_69 hl (k := 2) rfl (nI_1 i) (by decide) rfl (fun ls hl => ?_)
          refine lv_goto (tgt := 9) hx hb dX2_learnSet_72 (by decide) ?_
          exact kk_9 _ _ _ _ (by rw [← hn_9]; omega) ⟨(i + 1), le, q_17, rfl, hP.sub [2, 3, 4, 0, 5, 6, 1] rfl, hD.sub [2, 3, 4, 0, 5, 6, 1] (by decide) rfl, hS, lv_sub hl [0, 1, 3, 4, 5, 6] rfl, (by first | assumption | omega), (by first | assumption | omega)⟩
      · refine lv_iload hx hb dX2_learnSet_48 (lv_at hl 0 rfl) ?_
        refine lv_istore_n (lv' := [(3, .int r_14), (6, .int r_14), (5, .int (nI i)), (4, .int (nI bt)), (0, .ref o), (1, .ref t), (2, .int (nI st))]) hx hb dX2_learnSet_50 rfl hl (by decide) rfl (fun ls hl => ?_)
        refine lv_iconst (v := 0) hx hb dX2_learnSet_51 (by decide) ?_
        refine lv_istore (lv' := [(4, .int 0), (3, .int r_14), (6, .int r_14), (5, .int (nI i)), (0, .ref o), (1, .ref t), (2, .int (nI st))]) hx hb dX2_learnSet_52 hl (by decide) rfl (fun ls hl => ?_)
        refine lv_iload hx hb dX2_learnSet_54 (lv_at hl 2 rfl) ?_
        refine lv_iload_n hx hb dX2_learnSet_56 rfl (lv_at hl 1 rfl) ?_
        refine lv_icmp_ne (tgt := 69) hx hb dX2_learnSet_57 (by decide) (fun c_18 => ?_) (fun c_18 => ?_)
        · refine lv_iinc (v := nI (i + 1)) (lv' := [(5, .int (nI (i + 1))), (4, .int 0), (3, .int r_14), (6, .int r_14), (0, .ref o), (1, .ref t), (2, .int (nI st))]) hx hb dX2_learnSet_69 hl (k := 3) rfl (nI_1 i) (by decide) rfl (fun ls hl => ?_)
          refine lv_goto (tgt := 9) hx hb dX2_learnSet_72 (by decide) ?_
          exact kk_9 _ _ _ _ (by rw [← hn_9]; omega) ⟨(i + 1), r_14, 0, rfl, hP.sub [2, 3, 4, 0, 5, 6, 1] rfl, hD.sub [2, 3, 4, 0, 5, 6, 1] (by decide) rfl, hS, lv_sub hl [0, 1, 2, 4, 5, 6] rfl, (by first | assumption | omega), (by first | assumption | omega)⟩
        · refine lv_iload hx hb dX2_learnSet_60 (lv_at hl 0 rfl) ?_
          refine lv_iconst (v := 1) hx hb dX2_learnSet_62 (by decide) ?_
          refine lv_iload hx hb dX2_learnSet_63 (lv_at hl 3 rfl) ?_
          refine lv_ishl hx hb dX2_learnSet_65 ?_
          refine xb_top (y := nI (1 * 2 ^ i)) (nb_shl (a := 1) (i := i) (by omega)) ?_
          obtain ⟨q_19, hq_19, eq_19⟩ := set_or (a := 0) (i := i) hs (by omega) (by omega)
          refine lv_ior hx hb dX2_learnSet_66 ?_
          refine xb_top (y := nI q_19) ((nb_or 0 (1 * 2 ^ i)).trans eq_19) ?_
          refine lv_istore (lv' := [(4, .int (nI q_19)), (3, .int r_14), (6, .int r_14), (5, .int (nI i)), (0, .ref o), (1, .ref t), (2, .int (nI st))]) hx hb dX2_learnSet_67 hl (by decide) rfl (fun ls hl => ?_)
          refine lv_iinc (v := nI (i + 1)) (lv' := [(5, .int (nI (i + 1))), (4, .int (nI q_19)), (3, .int r_14), (6, .int r_14), (0, .ref o), (1, .ref t), (2, .int (nI st))]) hx hb dX2_learnSet_69 hl (k := 3) rfl (nI_1 i) (by decide) rfl (fun ls hl => ?_)
          refine lv_goto (tgt := 9) hx hb dX2_learnSet_72 (by decide) ?_
          exact kk_9 _ _ _ _ (by rw [← hn_9]; omega) ⟨(i + 1), r_14, q_19, rfl, hP.sub [2, 3, 4, 0, 5, 6, 1] rfl, hD.sub [2, 3, 4, 0, 5, 6, 1] (by decide) rfl, hS, lv_sub hl [0, 1, 2, 4, 5, 6] rfl, (by first | assumption | omega), (by first | assumption | omega)⟩
