theorem dJ7_fill_53178_0 : decode cJ7_fill_53178 0 = .ok (.iconst 0, 1) := by decide +kernel
theorem dJ7_fill_53178_1 : decode cJ7_fill_53178 1 = .ok (.istore_n 2, 1) := by decide +kernel
theorem dJ7_fill_53178_2 : decode cJ7_fill_53178 2 = .ok (.aload_n 0, 1) := by decide +kernel
theorem dJ7_fill_53178_3 : decode cJ7_fill_53178 3 = .ok (.arraylength, 1) := by decide +kernel
theorem dJ7_fill_53178_4 : decode cJ7_fill_53178 4 = .ok (.istore_n 3, 1) := by decide +kernel
theorem dJ7_fill_53178_5 : decode cJ7_fill_53178 5 = .ok (.iload_n 2, 1) := by decide +kernel
theorem dJ7_fill_53178_6 : decode cJ7_fill_53178 6 = .ok (.iload_n 3, 1) := by decide +kernel
theorem dJ7_fill_53178_7 : decode cJ7_fill_53178 7 = .ok (.if_icmp .ge 13, 3) := by decide +kernel
theorem dJ7_fill_53178_10 : decode cJ7_fill_53178 10 = .ok (.aload_n 0, 1) := by decide +kernel
theorem dJ7_fill_53178_11 : decode cJ7_fill_53178 11 = .ok (.iload_n 2, 1) := by decide +kernel
theorem dJ7_fill_53178_12 : decode cJ7_fill_53178 12 = .ok (.iload_n 1, 1) := by decide +kernel
theorem dJ7_fill_53178_13 : decode cJ7_fill_53178 13 = .ok (.iastore, 1) := by decide +kernel
theorem dJ7_fill_53178_14 : decode cJ7_fill_53178 14 = .ok (.iinc 2 1, 3) := by decide +kernel
theorem dJ7_fill_53178_17 : decode cJ7_fill_53178 17 = .ok (.goto (-12), 3) := by decide +kernel
theorem dJ7_fill_53178_20 : decode cJ7_fill_53178 20 = .ok (.return_, 1) := by decide +kernel
theorem dX10_isIn_0 : decode cX10_isIn 0 = .ok (.iload_n 0, 1) := by decide +kernel
theorem dX10_isIn_1 : decode cX10_isIn 1 = .ok (.iload_n 1, 1) := by decide +kernel
theorem dX10_isIn_2 : decode cX10_isIn 2 = .ok (.iushr, 1) := by decide +kernel
theorem dX10_isIn_3 : decode cX10_isIn 3 = .ok (.iconst 1, 1) := by decide +kernel
theorem dX10_isIn_4 : decode cX10_isIn 4 = .ok (.iand, 1) := by decide +kernel
theorem dX10_isIn_5 : decode cX10_isIn 5 = .ok (.ifCond .eq 7, 3) := by decide +kernel
theorem dX10_isIn_8 : decode cX10_isIn 8 = .ok (.iconst 1, 1) := by decide +kernel
theorem dX10_isIn_9 : decode cX10_isIn 9 = .ok (.goto 4, 3) := by decide +kernel
theorem dX10_isIn_12 : decode cX10_isIn 12 = .ok (.iconst 0, 1) := by decide +kernel
theorem dX10_isIn_13 : decode cX10_isIn 13 = .ok (.ireturn, 1) := by decide +kernel
theorem dX8_addAlike_0 : decode cX8_addAlike 0 = .ok (.aload_n 0, 1) := by decide +kernel
theorem dX8_addAlike_1 : decode cX8_addAlike 1 = .ok (.getfield 40, 3) := by decide +kernel
theorem dX8_addAlike_4 : decode cX8_addAlike 4 = .ok (.iload_n 1, 1) := by decide +kernel
theorem dX8_addAlike_5 : decode cX8_addAlike 5 = .ok (.iaload, 1) := by decide +kernel
theorem dX8_addAlike_6 : decode cX8_addAlike 6 = .ok (.aload_n 0, 1) := by decide +kernel
theorem dX8_addAlike_7 : decode cX8_addAlike 7 = .ok (.getfield 40, 3) := by decide +kernel
theorem dX8_addAlike_10 : decode cX8_addAlike 10 = .ok (.iload_n 2, 1) := by decide +kernel
theorem dX8_addAlike_11 : decode cX8_addAlike 11 = .ok (.iaload, 1) := by decide +kernel
theorem dX8_addAlike_12 : decode cX8_addAlike 12 = .ok (.invokestatic 81, 3) := by decide +kernel
theorem dX8_addAlike_15 : decode cX8_addAlike 15 = .ok (.istore_n 3, 1) := by decide +kernel
theorem dX8_addAlike_16 : decode cX8_addAlike 16 = .ok (.aload_n 0, 1) := by decide +kernel
theorem dX8_addAlike_17 : decode cX8_addAlike 17 = .ok (.getfield 40, 3) := by decide +kernel
theorem dX8_addAlike_20 : decode cX8_addAlike 20 = .ok (.iload_n 1, 1) := by decide +kernel
theorem dX8_addAlike_21 : decode cX8_addAlike 21 = .ok (.iaload, 1) := by decide +kernel
theorem dX8_addAlike_22 : decode cX8_addAlike 22 = .ok (.aload_n 0, 1) := by decide +kernel
theorem dX8_addAlike_23 : decode cX8_addAlike 23 = .ok (.getfield 40, 3) := by decide +kernel
theorem dX8_addAlike_26 : decode cX8_addAlike 26 = .ok (.iload_n 2, 1) := by decide +kernel
theorem dX8_addAlike_27 : decode cX8_addAlike 27 = .ok (.iaload, 1) := by decide +kernel
theorem dX8_addAlike_28 : decode cX8_addAlike 28 = .ok (.invokestatic 87, 3) := by decide +kernel
theorem dX8_addAlike_31 : decode cX8_addAlike 31 = .ok (.istore 4, 2) := by decide +kernel
theorem dX8_addAlike_33 : decode cX8_addAlike 33 = .ok (.iconst 0, 1) := by decide +kernel
theorem dX8_addAlike_34 : decode cX8_addAlike 34 = .ok (.istore 5, 2) := by decide +kernel
theorem dX8_addAlike_36 : decode cX8_addAlike 36 = .ok (.iload 5, 2) := by decide +kernel
theorem dX8_addAlike_38 : decode cX8_addAlike 38 = .ok (.bipush 26, 2) := by decide +kernel
theorem dX8_addAlike_40 : decode cX8_addAlike 40 = .ok (.if_icmp .ge 29, 3) := by decide +kernel
theorem dX8_addAlike_43 : decode cX8_addAlike 43 = .ok (.aload_n 0, 1) := by decide +kernel
theorem dX8_addAlike_44 : decode cX8_addAlike 44 = .ok (.getfield 40, 3) := by decide +kernel
theorem dX8_addAlike_47 : decode cX8_addAlike 47 = .ok (.iload 5, 2) := by decide +kernel
theorem dX8_addAlike_49 : decode cX8_addAlike 49 = .ok (.iaload, 1) := by decide +kernel
theorem dX8_addAlike_50 : decode cX8_addAlike 50 = .ok (.iload 4, 2) := by decide +kernel
theorem dX8_addAlike_52 : decode cX8_addAlike 52 = .ok (.if_icmp .ne 11, 3) := by decide +kernel
theorem dX8_addAlike_55 : decode cX8_addAlike 55 = .ok (.aload_n 0, 1) := by decide +kernel
theorem dX8_addAlike_56 : decode cX8_addAlike 56 = .ok (.getfield 40, 3) := by decide +kernel
theorem dX8_addAlike_59 : decode cX8_addAlike 59 = .ok (.iload 5, 2) := by decide +kernel
theorem dX8_addAlike_61 : decode cX8_addAlike 61 = .ok (.iload_n 3, 1) := by decide +kernel
theorem dX8_addAlike_62 : decode cX8_addAlike 62 = .ok (.iastore, 1) := by decide +kernel
theorem dX8_addAlike_63 : decode cX8_addAlike 63 = .ok (.iinc 5 1, 3) := by decide +kernel
theorem dX8_addAlike_66 : decode cX8_addAlike 66 = .ok (.goto (-30), 3) := by decide +kernel
theorem dX8_addAlike_69 : decode cX8_addAlike 69 = .ok (.aload_n 0, 1) := by decide +kernel
theorem dX8_addAlike_70 : decode cX8_addAlike 70 = .ok (.dup, 1) := by decide +kernel
theorem dX8_addAlike_71 : decode cX8_addAlike 71 = .ok (.getfield 59, 3) := by decide +kernel
theorem dX8_addAlike_74 : decode cX8_addAlike 74 = .ok (.iconst 1, 1) := by decide +kernel
theorem dX8_addAlike_75 : decode cX8_addAlike 75 = .ok (.iadd, 1) := by decide +kernel
theorem dX8_addAlike_76 : decode cX8_addAlike 76 = .ok (.putfield 59, 3) := by decide +kernel
theorem dX8_addAlike_79 : decode cX8_addAlike 79 = .ok (.return_, 1) := by decide +kernel
theorem dX8_addErrand_0 : decode cX8_addErrand 0 = .ok (.aload_n 0, 1) := by decide +kernel
theorem dX8_addErrand_1 : decode cX8_addErrand 1 = .ok (.getfield 56, 3) := by decide +kernel
theorem dX8_addErrand_4 : decode cX8_addErrand 4 = .ok (.bipush 6, 2) := by decide +kernel
theorem dX8_addErrand_6 : decode cX8_addErrand 6 = .ok (.if_icmp .ge 41, 3) := by decide +kernel
theorem dX8_addErrand_9 : decode cX8_addErrand 9 = .ok (.aload_n 0, 1) := by decide +kernel
theorem dX8_addErrand_10 : decode cX8_addErrand 10 = .ok (.iload_n 1, 1) := by decide +kernel
theorem dX8_addErrand_11 : decode cX8_addErrand 11 = .ok (.invokevirtual 90, 3) := by decide +kernel
theorem dX8_addErrand_14 : decode cX8_addErrand 14 = .ok (.ifCond .eq 33, 3) := by decide +kernel
theorem dX8_addErrand_17 : decode cX8_addErrand 17 = .ok (.aload_n 0, 1) := by decide +kernel
theorem dX8_addErrand_18 : decode cX8_addErrand 18 = .ok (.getfield 37, 3) := by decide +kernel
theorem dX8_addErrand_21 : decode cX8_addErrand 21 = .ok (.aload_n 0, 1) := by decide +kernel
theorem dX8_addErrand_22 : decode cX8_addErrand 22 = .ok (.getfield 56, 3) := by decide +kernel
theorem dX8_addErrand_25 : decode cX8_addErrand 25 = .ok (.iload_n 2, 1) := by decide +kernel
theorem dX8_addErrand_26 : decode cX8_addErrand 26 = .ok (.iastore, 1) := by decide +kernel
theorem dX8_addErrand_27 : decode cX8_addErrand 27 = .ok (.aload_n 0, 1) := by decide +kernel
theorem dX8_addErrand_28 : decode cX8_addErrand 28 = .ok (.getfield 34, 3) := by decide +kernel
theorem dX8_addErrand_31 : decode cX8_addErrand 31 = .ok (.iload_n 1, 1) := by decide +kernel
theorem dX8_addErrand_32 : decode cX8_addErrand 32 = .ok (.aload_n 0, 1) := by decide +kernel
theorem dX8_addErrand_33 : decode cX8_addErrand 33 = .ok (.getfield 56, 3) := by decide +kernel
theorem dX8_addErrand_36 : decode cX8_addErrand 36 = .ok (.iastore, 1) := by decide +kernel
theorem dX8_addErrand_37 : decode cX8_addErrand 37 = .ok (.aload_n 0, 1) := by decide +kernel
theorem dX8_addErrand_38 : decode cX8_addErrand 38 = .ok (.dup, 1) := by decide +kernel
theorem dX8_addErrand_39 : decode cX8_addErrand 39 = .ok (.getfield 56, 3) := by decide +kernel
theorem dX8_addErrand_42 : decode cX8_addErrand 42 = .ok (.iconst 1, 1) := by decide +kernel
theorem dX8_addErrand_43 : decode cX8_addErrand 43 = .ok (.iadd, 1) := by decide +kernel
theorem dX8_addErrand_44 : decode cX8_addErrand 44 = .ok (.putfield 56, 3) := by decide +kernel
theorem dX8_addErrand_47 : decode cX8_addErrand 47 = .ok (.return_, 1) := by decide +kernel
theorem dX8_addWord_0 : decode cX8_addWord 0 = .ok (.aload_n 0, 1) := by decide +kernel
theorem dX8_addWord_1 : decode cX8_addWord 1 = .ok (.getfield 52, 3) := by decide +kernel
theorem dX8_addWord_4 : decode cX8_addWord 4 = .ok (.bipush 24, 2) := by decide +kernel
theorem dX8_addWord_6 : decode cX8_addWord 6 = .ok (.if_icmp .ge 44, 3) := by decide +kernel
theorem dX8_addWord_9 : decode cX8_addWord 9 = .ok (.aload_n 0, 1) := by decide +kernel
theorem dX8_addWord_10 : decode cX8_addWord 10 = .ok (.getfield 9, 3) := by decide +kernel
theorem dX8_addWord_13 : decode cX8_addWord 13 = .ok (.aload_n 0, 1) := by decide +kernel
theorem dX8_addWord_14 : decode cX8_addWord 14 = .ok (.getfield 52, 3) := by decide +kernel
theorem dX8_addWord_17 : decode cX8_addWord 17 = .ok (.lload_n 1, 1) := by decide +kernel
theorem dX8_addWord_18 : decode cX8_addWord 18 = .ok (.lastore, 1) := by decide +kernel
theorem dX8_addWord_19 : decode cX8_addWord 19 = .ok (.aload_n 0, 1) := by decide +kernel
theorem dX8_addWord_20 : decode cX8_addWord 20 = .ok (.getfield 15, 3) := by decide +kernel
theorem dX8_addWord_23 : decode cX8_addWord 23 = .ok (.aload_n 0, 1) := by decide +kernel
theorem dX8_addWord_24 : decode cX8_addWord 24 = .ok (.getfield 52, 3) := by decide +kernel
theorem dX8_addWord_27 : decode cX8_addWord 27 = .ok (.iload_n 3, 1) := by decide +kernel
theorem dX8_addWord_28 : decode cX8_addWord 28 = .ok (.iastore, 1) := by decide +kernel
theorem dX8_addWord_29 : decode cX8_addWord 29 = .ok (.aload_n 0, 1) := by decide +kernel
theorem dX8_addWord_30 : decode cX8_addWord 30 = .ok (.getfield 19, 3) := by decide +kernel
theorem dX8_addWord_33 : decode cX8_addWord 33 = .ok (.aload_n 0, 1) := by decide +kernel
theorem dX8_addWord_34 : decode cX8_addWord 34 = .ok (.getfield 52, 3) := by decide +kernel
theorem dX8_addWord_37 : decode cX8_addWord 37 = .ok (.iload 4, 2) := by decide +kernel
theorem dX8_addWord_39 : decode cX8_addWord 39 = .ok (.iastore, 1) := by decide +kernel
theorem dX8_addWord_40 : decode cX8_addWord 40 = .ok (.aload_n 0, 1) := by decide +kernel
theorem dX8_addWord_41 : decode cX8_addWord 41 = .ok (.dup, 1) := by decide +kernel
theorem dX8_addWord_42 : decode cX8_addWord 42 = .ok (.getfield 52, 3) := by decide +kernel
theorem dX8_addWord_45 : decode cX8_addWord 45 = .ok (.iconst 1, 1) := by decide +kernel
theorem dX8_addWord_46 : decode cX8_addWord 46 = .ok (.iadd, 1) := by decide +kernel
theorem dX8_addWord_47 : decode cX8_addWord 47 = .ok (.putfield 52, 3) := by decide +kernel
theorem dX8_addWord_50 : decode cX8_addWord 50 = .ok (.return_, 1) := by decide +kernel
theorem dX8_allows_0 : decode cX8_allows 0 = .ok (.aload_n 0, 1) := by decide +kernel
theorem dX8_allows_1 : decode cX8_allows 1 = .ok (.aload_n 0, 1) := by decide +kernel
theorem dX8_allows_2 : decode cX8_allows 2 = .ok (.getfield 31, 3) := by decide +kernel
theorem dX8_allows_5 : decode cX8_allows 5 = .ok (.iload_n 1, 1) := by decide +kernel
theorem dX8_allows_6 : decode cX8_allows 6 = .ok (.iaload, 1) := by decide +kernel
theorem dX8_allows_7 : decode cX8_allows 7 = .ok (.aload_n 0, 1) := by decide +kernel
theorem dX8_allows_8 : decode cX8_allows 8 = .ok (.getfield 22, 3) := by decide +kernel
theorem dX8_allows_11 : decode cX8_allows 11 = .ok (.iload_n 2, 1) := by decide +kernel
theorem dX8_allows_12 : decode cX8_allows 12 = .ok (.iaload, 1) := by decide +kernel
theorem dX8_allows_13 : decode cX8_allows 13 = .ok (.invokevirtual 98, 3) := by decide +kernel
theorem dX8_allows_16 : decode cX8_allows 16 = .ok (.istore_n 3, 1) := by decide +kernel
theorem dX8_allows_17 : decode cX8_allows 17 = .ok (.aload_n 0, 1) := by decide +kernel
theorem dX8_allows_18 : decode cX8_allows 18 = .ok (.getfield 62, 3) := by decide +kernel
theorem dX8_allows_21 : decode cX8_allows 21 = .ok (.lookupswitch 81 #[(2, 27), (3, 71)], 27) := by decide +kernel
theorem dX8_allows_48 : decode cX8_allows 48 = .ok (.aload_n 0, 1) := by decide +kernel
theorem dX8_allows_49 : decode cX8_allows 49 = .ok (.aload_n 0, 1) := by decide +kernel
theorem dX8_allows_50 : decode cX8_allows 50 = .ok (.getfield 28, 3) := by decide +kernel
theorem dX8_allows_53 : decode cX8_allows 53 = .ok (.iload_n 1, 1) := by decide +kernel
theorem dX8_allows_54 : decode cX8_allows 54 = .ok (.iaload, 1) := by decide +kernel
theorem dX8_allows_55 : decode cX8_allows 55 = .ok (.aload_n 0, 1) := by decide +kernel
theorem dX8_allows_56 : decode cX8_allows 56 = .ok (.getfield 22, 3) := by decide +kernel
theorem dX8_allows_59 : decode cX8_allows 59 = .ok (.iload_n 2, 1) := by decide +kernel
theorem dX8_allows_60 : decode cX8_allows 60 = .ok (.iaload, 1) := by decide +kernel
theorem dX8_allows_61 : decode cX8_allows 61 = .ok (.invokevirtual 98, 3) := by decide +kernel
theorem dX8_allows_64 : decode cX8_allows 64 = .ok (.ifCond .eq 26, 3) := by decide +kernel
theorem dX8_allows_67 : decode cX8_allows 67 = .ok (.aload_n 0, 1) := by decide +kernel
theorem dX8_allows_68 : decode cX8_allows 68 = .ok (.aload_n 0, 1) := by decide +kernel
theorem dX8_allows_69 : decode cX8_allows 69 = .ok (.getfield 31, 3) := by decide +kernel
theorem dX8_allows_72 : decode cX8_allows 72 = .ok (.iload_n 1, 1) := by decide +kernel
theorem dX8_allows_73 : decode cX8_allows 73 = .ok (.iaload, 1) := by decide +kernel
theorem dX8_allows_74 : decode cX8_allows 74 = .ok (.aload_n 0, 1) := by decide +kernel
theorem dX8_allows_75 : decode cX8_allows 75 = .ok (.getfield 25, 3) := by decide +kernel
theorem dX8_allows_78 : decode cX8_allows 78 = .ok (.iload_n 2, 1) := by decide +kernel
theorem dX8_allows_79 : decode cX8_allows 79 = .ok (.iaload, 1) := by decide +kernel
theorem dX8_allows_80 : decode cX8_allows 80 = .ok (.invokevirtual 98, 3) := by decide +kernel
theorem dX8_allows_83 : decode cX8_allows 83 = .ok (.ifCond .eq 7, 3) := by decide +kernel
theorem dX8_allows_86 : decode cX8_allows 86 = .ok (.iconst 1, 1) := by decide +kernel
theorem dX8_allows_87 : decode cX8_allows 87 = .ok (.goto 4, 3) := by decide +kernel
theorem dX8_allows_90 : decode cX8_allows 90 = .ok (.iconst 0, 1) := by decide +kernel
theorem dX8_allows_91 : decode cX8_allows 91 = .ok (.ireturn, 1) := by decide +kernel
theorem dX8_allows_92 : decode cX8_allows 92 = .ok (.iload_n 3, 1) := by decide +kernel
theorem dX8_allows_93 : decode cX8_allows 93 = .ok (.ifCond .ne 7, 3) := by decide +kernel
theorem dX8_allows_96 : decode cX8_allows 96 = .ok (.iconst 1, 1) := by decide +kernel
theorem dX8_allows_97 : decode cX8_allows 97 = .ok (.goto 4, 3) := by decide +kernel
theorem dX8_allows_100 : decode cX8_allows 100 = .ok (.iconst 0, 1) := by decide +kernel
theorem dX8_allows_101 : decode cX8_allows 101 = .ok (.ireturn, 1) := by decide +kernel
theorem dX8_allows_102 : decode cX8_allows 102 = .ok (.iload_n 3, 1) := by decide +kernel
theorem dX8_allows_103 : decode cX8_allows 103 = .ok (.ireturn, 1) := by decide +kernel
theorem dX8_areAlike_0 : decode cX8_areAlike 0 = .ok (.iload_n 1, 1) := by decide +kernel
theorem dX8_areAlike_1 : decode cX8_areAlike 1 = .ok (.iconst (-1), 1) := by decide +kernel
theorem dX8_areAlike_2 : decode cX8_areAlike 2 = .ok (.if_icmp .eq 27, 3) := by decide +kernel
theorem dX8_areAlike_5 : decode cX8_areAlike 5 = .ok (.iload_n 2, 1) := by decide +kernel
theorem dX8_areAlike_6 : decode cX8_areAlike 6 = .ok (.iconst (-1), 1) := by decide +kernel
theorem dX8_areAlike_7 : decode cX8_areAlike 7 = .ok (.if_icmp .eq 22, 3) := by decide +kernel
theorem dX8_areAlike_10 : decode cX8_areAlike 10 = .ok (.aload_n 0, 1) := by decide +kernel
theorem dX8_areAlike_11 : decode cX8_areAlike 11 = .ok (.getfield 40, 3) := by decide +kernel
theorem dX8_areAlike_14 : decode cX8_areAlike 14 = .ok (.iload_n 1, 1) := by decide +kernel
theorem dX8_areAlike_15 : decode cX8_areAlike 15 = .ok (.iaload, 1) := by decide +kernel
theorem dX8_areAlike_16 : decode cX8_areAlike 16 = .ok (.aload_n 0, 1) := by decide +kernel
theorem dX8_areAlike_17 : decode cX8_areAlike 17 = .ok (.getfield 40, 3) := by decide +kernel
theorem dX8_areAlike_20 : decode cX8_areAlike 20 = .ok (.iload_n 2, 1) := by decide +kernel
theorem dX8_areAlike_21 : decode cX8_areAlike 21 = .ok (.iaload, 1) := by decide +kernel
theorem dX8_areAlike_22 : decode cX8_areAlike 22 = .ok (.if_icmp .ne 7, 3) := by decide +kernel
theorem dX8_areAlike_25 : decode cX8_areAlike 25 = .ok (.iconst 1, 1) := by decide +kernel
theorem dX8_areAlike_26 : decode cX8_areAlike 26 = .ok (.goto 4, 3) := by decide +kernel
theorem dX8_areAlike_29 : decode cX8_areAlike 29 = .ok (.iconst 0, 1) := by decide +kernel
theorem dX8_areAlike_30 : decode cX8_areAlike 30 = .ok (.ireturn, 1) := by decide +kernel
theorem dX8_clear_0 : decode cX8_clear 0 = .ok (.aload_n 0, 1) := by decide +kernel
theorem dX8_clear_1 : decode cX8_clear 1 = .ok (.iconst 0, 1) := by decide +kernel
theorem dX8_clear_2 : decode cX8_clear 2 = .ok (.putfield 52, 3) := by decide +kernel
theorem dX8_clear_5 : decode cX8_clear 5 = .ok (.aload_n 0, 1) := by decide +kernel
theorem dX8_clear_6 : decode cX8_clear 6 = .ok (.iconst 0, 1) := by decide +kernel
theorem dX8_clear_7 : decode cX8_clear 7 = .ok (.putfield 56, 3) := by decide +kernel
theorem dX8_clear_10 : decode cX8_clear 10 = .ok (.aload_n 0, 1) := by decide +kernel
theorem dX8_clear_11 : decode cX8_clear 11 = .ok (.iconst 0, 1) := by decide +kernel
theorem dX8_clear_12 : decode cX8_clear 12 = .ok (.putfield 59, 3) := by decide +kernel
theorem dX8_clear_15 : decode cX8_clear 15 = .ok (.aload_n 0, 1) := by decide +kernel
theorem dX8_clear_16 : decode cX8_clear 16 = .ok (.iconst (-1), 1) := by decide +kernel
theorem dX8_clear_17 : decode cX8_clear 17 = .ok (.putfield 62, 3) := by decide +kernel
theorem dX8_clear_20 : decode cX8_clear 20 = .ok (.aload_n 0, 1) := by decide +kernel
theorem dX8_clear_21 : decode cX8_clear 21 = .ok (.getfield 34, 3) := by decide +kernel
theorem dX8_clear_24 : decode cX8_clear 24 = .ok (.iconst (-1), 1) := by decide +kernel
theorem dX8_clear_25 : decode cX8_clear 25 = .ok (.invokestatic 65, 3) := by decide +kernel
theorem dX8_clear_28 : decode cX8_clear 28 = .ok (.iconst 0, 1) := by decide +kernel
theorem dX8_clear_29 : decode cX8_clear 29 = .ok (.istore_n 1, 1) := by decide +kernel
theorem dX8_clear_30 : decode cX8_clear 30 = .ok (.iload_n 1, 1) := by decide +kernel
theorem dX8_clear_31 : decode cX8_clear 31 = .ok (.bipush 26, 2) := by decide +kernel
theorem dX8_clear_33 : decode cX8_clear 33 = .ok (.if_icmp .ge 16, 3) := by decide +kernel
theorem dX8_clear_36 : decode cX8_clear 36 = .ok (.aload_n 0, 1) := by decide +kernel
theorem dX8_clear_37 : decode cX8_clear 37 = .ok (.getfield 40, 3) := by decide +kernel
theorem dX8_clear_40 : decode cX8_clear 40 = .ok (.iload_n 1, 1) := by decide +kernel
theorem dX8_clear_41 : decode cX8_clear 41 = .ok (.iload_n 1, 1) := by decide +kernel
theorem dX8_clear_42 : decode cX8_clear 42 = .ok (.iastore, 1) := by decide +kernel
theorem dX8_clear_43 : decode cX8_clear 43 = .ok (.iinc 1 1, 3) := by decide +kernel
theorem dX8_clear_46 : decode cX8_clear 46 = .ok (.goto (-16), 3) := by decide +kernel
theorem dX8_clear_49 : decode cX8_clear 49 = .ok (.return_, 1) := by decide +kernel
theorem dX8_doneBehind_0 : decode cX8_doneBehind 0 = .ok (.aload_n 0, 1) := by decide +kernel
theorem dX8_doneBehind_1 : decode cX8_doneBehind 1 = .ok (.getfield 34, 3) := by decide +kernel
theorem dX8_doneBehind_4 : decode cX8_doneBehind 4 = .ok (.iload_n 2, 1) := by decide +kernel
theorem dX8_doneBehind_5 : decode cX8_doneBehind 5 = .ok (.iaload, 1) := by decide +kernel
theorem dX8_doneBehind_6 : decode cX8_doneBehind 6 = .ok (.istore_n 3, 1) := by decide +kernel
theorem dX8_doneBehind_7 : decode cX8_doneBehind 7 = .ok (.iload_n 3, 1) := by decide +kernel
theorem dX8_doneBehind_8 : decode cX8_doneBehind 8 = .ok (.iconst (-1), 1) := by decide +kernel
theorem dX8_doneBehind_9 : decode cX8_doneBehind 9 = .ok (.if_icmp .ne 5, 3) := by decide +kernel
theorem dX8_doneBehind_12 : decode cX8_doneBehind 12 = .ok (.iload_n 1, 1) := by decide +kernel
theorem dX8_doneBehind_13 : decode cX8_doneBehind 13 = .ok (.ireturn, 1) := by decide +kernel
theorem dX8_doneBehind_14 : decode cX8_doneBehind 14 = .ok (.aload_n 0, 1) := by decide +kernel
theorem dX8_doneBehind_15 : decode cX8_doneBehind 15 = .ok (.getfield 37, 3) := by decide +kernel
theorem dX8_doneBehind_18 : decode cX8_doneBehind 18 = .ok (.iload_n 3, 1) := by decide +kernel
theorem dX8_doneBehind_19 : decode cX8_doneBehind 19 = .ok (.iaload, 1) := by decide +kernel
theorem dX8_doneBehind_20 : decode cX8_doneBehind 20 = .ok (.istore 4, 2) := by decide +kernel
theorem dX8_doneBehind_22 : decode cX8_doneBehind 22 = .ok (.iload 4, 2) := by decide +kernel
theorem dX8_doneBehind_24 : decode cX8_doneBehind 24 = .ok (.iconst (-1), 1) := by decide +kernel
theorem dX8_doneBehind_25 : decode cX8_doneBehind 25 = .ok (.if_icmp .eq 12, 3) := by decide +kernel
theorem dX8_doneBehind_28 : decode cX8_doneBehind 28 = .ok (.iload_n 1, 1) := by decide +kernel
theorem dX8_doneBehind_29 : decode cX8_doneBehind 29 = .ok (.iload 4, 2) := by decide +kernel
theorem dX8_doneBehind_31 : decode cX8_doneBehind 31 = .ok (.invokestatic 101, 3) := by decide +kernel
theorem dX8_doneBehind_34 : decode cX8_doneBehind 34 = .ok (.ifCond .eq 11, 3) := by decide +kernel
theorem dX8_doneBehind_37 : decode cX8_doneBehind 37 = .ok (.iload_n 1, 1) := by decide +kernel
theorem dX8_doneBehind_38 : decode cX8_doneBehind 38 = .ok (.iconst 1, 1) := by decide +kernel
theorem dX8_doneBehind_39 : decode cX8_doneBehind 39 = .ok (.iload_n 3, 1) := by decide +kernel
theorem dX8_doneBehind_40 : decode cX8_doneBehind 40 = .ok (.ishl, 1) := by decide +kernel
theorem dX8_doneBehind_41 : decode cX8_doneBehind 41 = .ok (.ior, 1) := by decide +kernel
theorem dX8_doneBehind_42 : decode cX8_doneBehind 42 = .ok (.goto 4, 3) := by decide +kernel
theorem dX8_doneBehind_45 : decode cX8_doneBehind 45 = .ok (.iload_n 1, 1) := by decide +kernel
theorem dX8_doneBehind_46 : decode cX8_doneBehind 46 = .ok (.ireturn, 1) := by decide +kernel
theorem dX8_errandNamed_0 : decode cX8_errandNamed 0 = .ok (.aload_n 0, 1) := by decide +kernel
theorem dX8_errandNamed_1 : decode cX8_errandNamed 1 = .ok (.lload_n 1, 1) := by decide +kernel
theorem dX8_errandNamed_2 : decode cX8_errandNamed 2 = .ok (.invokevirtual 71, 3) := by decide +kernel
theorem dX8_errandNamed_5 : decode cX8_errandNamed 5 = .ok (.istore_n 3, 1) := by decide +kernel
theorem dX8_errandNamed_6 : decode cX8_errandNamed 6 = .ok (.iload_n 3, 1) := by decide +kernel
theorem dX8_errandNamed_7 : decode cX8_errandNamed 7 = .ok (.iconst (-1), 1) := by decide +kernel
theorem dX8_errandNamed_8 : decode cX8_errandNamed 8 = .ok (.if_icmp .ne 7, 3) := by decide +kernel
theorem dX8_errandNamed_11 : decode cX8_errandNamed 11 = .ok (.iconst (-1), 1) := by decide +kernel
theorem dX8_errandNamed_12 : decode cX8_errandNamed 12 = .ok (.goto 9, 3) := by decide +kernel
theorem dX8_errandNamed_15 : decode cX8_errandNamed 15 = .ok (.aload_n 0, 1) := by decide +kernel
theorem dX8_errandNamed_16 : decode cX8_errandNamed 16 = .ok (.getfield 34, 3) := by decide +kernel
theorem dX8_errandNamed_19 : decode cX8_errandNamed 19 = .ok (.iload_n 3, 1) := by decide +kernel
theorem dX8_errandNamed_20 : decode cX8_errandNamed 20 = .ok (.iaload, 1) := by decide +kernel
theorem dX8_errandNamed_21 : decode cX8_errandNamed 21 = .ok (.ireturn, 1) := by decide +kernel
theorem dX8_everyWord_0 : decode cX8_everyWord 0 = .ok (.iconst 1, 1) := by decide +kernel
theorem dX8_everyWord_1 : decode cX8_everyWord 1 = .ok (.aload_n 0, 1) := by decide +kernel
theorem dX8_everyWord_2 : decode cX8_everyWord 2 = .ok (.getfield 52, 3) := by decide +kernel
theorem dX8_everyWord_5 : decode cX8_everyWord 5 = .ok (.ishl, 1) := by decide +kernel
theorem dX8_everyWord_6 : decode cX8_everyWord 6 = .ok (.iconst 1, 1) := by decide +kernel
theorem dX8_everyWord_7 : decode cX8_everyWord 7 = .ok (.isub, 1) := by decide +kernel
theorem dX8_everyWord_8 : decode cX8_everyWord 8 = .ok (.ireturn, 1) := by decide +kernel
theorem dX8_find_0 : decode cX8_find 0 = .ok (.iconst 0, 1) := by decide +kernel
theorem dX8_find_1 : decode cX8_find 1 = .ok (.istore_n 3, 1) := by decide +kernel
theorem dX8_find_2 : decode cX8_find 2 = .ok (.iload_n 3, 1) := by decide +kernel
theorem dX8_find_3 : decode cX8_find 3 = .ok (.aload_n 0, 1) := by decide +kernel
theorem dX8_find_4 : decode cX8_find 4 = .ok (.getfield 52, 3) := by decide +kernel
theorem dX8_find_7 : decode cX8_find 7 = .ok (.if_icmp .ge 22, 3) := by decide +kernel
theorem dX8_find_10 : decode cX8_find 10 = .ok (.aload_n 0, 1) := by decide +kernel
theorem dX8_find_11 : decode cX8_find 11 = .ok (.getfield 9, 3) := by decide +kernel
theorem dX8_find_14 : decode cX8_find 14 = .ok (.iload_n 3, 1) := by decide +kernel
theorem dX8_find_15 : decode cX8_find 15 = .ok (.laload, 1) := by decide +kernel
theorem dX8_find_16 : decode cX8_find 16 = .ok (.lload_n 1, 1) := by decide +kernel
theorem dX8_find_17 : decode cX8_find 17 = .ok (.lcmp, 1) := by decide +kernel
theorem dX8_find_18 : decode cX8_find 18 = .ok (.ifCond .ne 5, 3) := by decide +kernel
theorem dX8_find_21 : decode cX8_find 21 = .ok (.iload_n 3, 1) := by decide +kernel
theorem dX8_find_22 : decode cX8_find 22 = .ok (.ireturn, 1) := by decide +kernel
theorem dX8_find_23 : decode cX8_find 23 = .ok (.iinc 3 1, 3) := by decide +kernel
theorem dX8_find_26 : decode cX8_find 26 = .ok (.goto (-24), 3) := by decide +kernel
theorem dX8_find_29 : decode cX8_find 29 = .ok (.iconst (-1), 1) := by decide +kernel
theorem dX8_find_30 : decode cX8_find 30 = .ok (.ireturn, 1) := by decide +kernel
theorem dX8_has_0 : decode cX8_has 0 = .ok (.iload_n 1, 1) := by decide +kernel
theorem dX8_has_1 : decode cX8_has 1 = .ok (.ifCond .lt 15, 3) := by decide +kernel
theorem dX8_has_4 : decode cX8_has 4 = .ok (.iload_n 1, 1) := by decide +kernel
theorem dX8_has_5 : decode cX8_has 5 = .ok (.aload_n 0, 1) := by decide +kernel
theorem dX8_has_6 : decode cX8_has 6 = .ok (.getfield 52, 3) := by decide +kernel
theorem dX8_has_9 : decode cX8_has 9 = .ok (.if_icmp .ge 7, 3) := by decide +kernel
theorem dX8_has_12 : decode cX8_has 12 = .ok (.iconst 1, 1) := by decide +kernel
theorem dX8_has_13 : decode cX8_has 13 = .ok (.goto 4, 3) := by decide +kernel
theorem dX8_has_16 : decode cX8_has 16 = .ok (.iconst 0, 1) := by decide +kernel
theorem dX8_has_17 : decode cX8_has 17 = .ok (.ireturn, 1) := by decide +kernel
theorem dX8_isTooBig_0 : decode cX8_isTooBig 0 = .ok (.aload_n 0, 1) := by decide +kernel
theorem dX8_isTooBig_1 : decode cX8_isTooBig 1 = .ok (.getfield 52, 3) := by decide +kernel
theorem dX8_isTooBig_4 : decode cX8_isTooBig 4 = .ok (.bipush 14, 2) := by decide +kernel
theorem dX8_isTooBig_6 : decode cX8_isTooBig 6 = .ok (.if_icmp .le 7, 3) := by decide +kernel
theorem dX8_isTooBig_9 : decode cX8_isTooBig 9 = .ok (.iconst 1, 1) := by decide +kernel
theorem dX8_isTooBig_10 : decode cX8_isTooBig 10 = .ok (.goto 4, 3) := by decide +kernel
theorem dX8_isTooBig_13 : decode cX8_isTooBig 13 = .ok (.iconst 0, 1) := by decide +kernel
theorem dX8_isTooBig_14 : decode cX8_isTooBig 14 = .ok (.ireturn, 1) := by decide +kernel
theorem dX8_link_0 : decode cX8_link 0 = .ok (.aload_n 0, 1) := by decide +kernel
theorem dX8_link_1 : decode cX8_link 1 = .ok (.getfield 43, 3) := by decide +kernel
theorem dX8_link_4 : decode cX8_link 4 = .ok (.iconst 0, 1) := by decide +kernel
theorem dX8_link_5 : decode cX8_link 5 = .ok (.invokestatic 65, 3) := by decide +kernel
theorem dX8_link_8 : decode cX8_link 8 = .ok (.aload_n 0, 1) := by decide +kernel
theorem dX8_link_9 : decode cX8_link 9 = .ok (.getfield 46, 3) := by decide +kernel
theorem dX8_link_12 : decode cX8_link 12 = .ok (.iconst 0, 1) := by decide +kernel
theorem dX8_link_13 : decode cX8_link 13 = .ok (.invokestatic 65, 3) := by decide +kernel
theorem dX8_link_16 : decode cX8_link 16 = .ok (.iconst 0, 1) := by decide +kernel
theorem dX8_link_17 : decode cX8_link 17 = .ok (.istore_n 1, 1) := by decide +kernel
theorem dX8_link_18 : decode cX8_link 18 = .ok (.iload_n 1, 1) := by decide +kernel
theorem dX8_link_19 : decode cX8_link 19 = .ok (.aload_n 0, 1) := by decide +kernel
theorem dX8_link_20 : decode cX8_link 20 = .ok (.getfield 52, 3) := by decide +kernel
theorem dX8_link_23 : decode cX8_link 23 = .ok (.if_icmp .ge 58, 3) := by decide +kernel
theorem dX8_link_26 : decode cX8_link 26 = .ok (.iconst 0, 1) := by decide +kernel
theorem dX8_link_27 : decode cX8_link 27 = .ok (.istore_n 2, 1) := by decide +kernel
theorem dX8_link_28 : decode cX8_link 28 = .ok (.iload_n 2, 1) := by decide +kernel
theorem dX8_link_29 : decode cX8_link 29 = .ok (.aload_n 0, 1) := by decide +kernel
theorem dX8_link_30 : decode cX8_link 30 = .ok (.getfield 52, 3) := by decide +kernel
theorem dX8_link_33 : decode cX8_link 33 = .ok (.if_icmp .ge 42, 3) := by decide +kernel
theorem dX8_link_36 : decode cX8_link 36 = .ok (.aload_n 0, 1) := by decide +kernel
theorem dX8_link_37 : decode cX8_link 37 = .ok (.iload_n 1, 1) := by decide +kernel
theorem dX8_link_38 : decode cX8_link 38 = .ok (.iload_n 2, 1) := by decide +kernel
theorem dX8_link_39 : decode cX8_link 39 = .ok (.invokevirtual 94, 3) := by decide +kernel
theorem dX8_link_42 : decode cX8_link 42 = .ok (.ifCond .eq 27, 3) := by decide +kernel
theorem dX8_link_45 : decode cX8_link 45 = .ok (.aload_n 0, 1) := by decide +kernel
theorem dX8_link_46 : decode cX8_link 46 = .ok (.getfield 43, 3) := by decide +kernel
theorem dX8_link_49 : decode cX8_link 49 = .ok (.iload_n 1, 1) := by decide +kernel
theorem dX8_link_50 : decode cX8_link 50 = .ok (.dup2, 1) := by decide +kernel
theorem dX8_link_51 : decode cX8_link 51 = .ok (.iaload, 1) := by decide +kernel
theorem dX8_link_52 : decode cX8_link 52 = .ok (.iconst 1, 1) := by decide +kernel
theorem dX8_link_53 : decode cX8_link 53 = .ok (.iload_n 2, 1) := by decide +kernel
theorem dX8_link_54 : decode cX8_link 54 = .ok (.ishl, 1) := by decide +kernel
theorem dX8_link_55 : decode cX8_link 55 = .ok (.ior, 1) := by decide +kernel
theorem dX8_link_56 : decode cX8_link 56 = .ok (.iastore, 1) := by decide +kernel
theorem dX8_link_57 : decode cX8_link 57 = .ok (.aload_n 0, 1) := by decide +kernel
theorem dX8_link_58 : decode cX8_link 58 = .ok (.getfield 46, 3) := by decide +kernel
theorem dX8_link_61 : decode cX8_link 61 = .ok (.iload_n 2, 1) := by decide +kernel
theorem dX8_link_62 : decode cX8_link 62 = .ok (.dup2, 1) := by decide +kernel
theorem dX8_link_63 : decode cX8_link 63 = .ok (.iaload, 1) := by decide +kernel
theorem dX8_link_64 : decode cX8_link 64 = .ok (.iconst 1, 1) := by decide +kernel
theorem dX8_link_65 : decode cX8_link 65 = .ok (.iload_n 1, 1) := by decide +kernel
theorem dX8_link_66 : decode cX8_link 66 = .ok (.ishl, 1) := by decide +kernel
theorem dX8_link_67 : decode cX8_link 67 = .ok (.ior, 1) := by decide +kernel
theorem dX8_link_68 : decode cX8_link 68 = .ok (.iastore, 1) := by decide +kernel
theorem dX8_link_69 : decode cX8_link 69 = .ok (.iinc 2 1, 3) := by decide +kernel
theorem dX8_link_72 : decode cX8_link 72 = .ok (.goto (-44), 3) := by decide +kernel
theorem dX8_link_75 : decode cX8_link 75 = .ok (.iinc 1 1, 3) := by decide +kernel
theorem dX8_link_78 : decode cX8_link 78 = .ok (.goto (-60), 3) := by decide +kernel
theorem dX8_link_81 : decode cX8_link 81 = .ok (.return_, 1) := by decide +kernel
set_option maxRecDepth 20000 in
theorem ggX8_addErrand_X8_has : GoodIn wsX8_addErrand wsX8_has := goodIn_r _ [8, 9, 10, 11, 12, 13, 14, 15, 16, 17, 18, 19, 20, 21, 22, 23, 24, 25] (by decide +kernel) (by decide +kernel)
set_option maxRecDepth 20000 in
theorem gX8_addErrand_X8_has : GoodIn wsX8_addErrand (wsV RX8 90 RX8 yX8_has wsX8_has) := goodIn_app (goodIn_of _ (by decide +kernel)) ggX8_addErrand_X8_has
set_option maxRecDepth 20000 in
theorem ggX8_allows_X8_areAlike : GoodIn wsX8_allows wsX8_areAlike := goodIn_r _ [10, 11, 12, 13, 14, 15, 16, 17, 18, 19, 20, 21, 22, 23, 24, 25, 26, 27] (by decide +kernel) (by decide +kernel)
set_option maxRecDepth 20000 in
theorem gX8_allows_X8_areAlike : GoodIn wsX8_allows (wsV RX8 98 RX8 yX8_areAlike wsX8_areAlike) := goodIn_app (goodIn_of _ (by decide +kernel)) ggX8_allows_X8_areAlike
set_option maxRecDepth 20000 in
theorem ggX8_clear_J7_fill_53178 : GoodIn wsX8_clear wsJ7_fill_53178 := goodIn_r _ [10] (by decide +kernel) (by decide +kernel)
set_option maxRecDepth 20000 in
theorem gX8_clear_J7_fill_53178 : GoodIn wsX8_clear (va_wsS RX8 65 yJ7_fill_53178 wsJ7_fill_53178) := goodIn_app (goodIn_of _ (by decide +kernel)) ggX8_clear_J7_fill_53178
set_option maxRecDepth 20000 in
theorem ggX8_doneBehind_X10_isIn : GoodIn wsX8_doneBehind wsX10_isIn := goodIn_r _ [5] (by decide +kernel) (by decide +kernel)
set_option maxRecDepth 20000 in
theorem gX8_doneBehind_X10_isIn_n101 : GoodIn wsX8_doneBehind (wsX10_isIn) := ggX8_doneBehind_X10_isIn
set_option maxRecDepth 20000 in
theorem ggX8_errandNamed_X8_find : GoodIn wsX8_errandNamed wsX8_find := goodIn_r _ [6, 7, 8, 9, 10, 11, 12, 13, 14, 15, 16, 17, 18, 19, 20, 21, 22, 23, 24] (by decide +kernel) (by decide +kernel)
set_option maxRecDepth 20000 in
theorem gX8_errandNamed_X8_find : GoodIn wsX8_errandNamed (wsV RX8 71 RX8 yX8_find wsX8_find) := goodIn_app (goodIn_of _ (by decide +kernel)) ggX8_errandNamed_X8_find
set_option maxRecDepth 20000 in
theorem ggX8_link_J7_fill_53178 : GoodIn wsX8_link wsJ7_fill_53178 := goodIn_r _ [7] (by decide +kernel) (by decide +kernel)
set_option maxRecDepth 20000 in
theorem gX8_link_J7_fill_53178 : GoodIn wsX8_link (va_wsS RX8 65 yJ7_fill_53178 wsJ7_fill_53178) := goodIn_app (goodIn_of _ (by decide +kernel)) ggX8_link_J7_fill_53178
set_option maxRecDepth 20000 in
theorem ggX8_link_X8_allows : GoodIn wsX8_link wsX8_allows := goodIn_r _ [12, 13, 14, 15, 16, 17, 18, 19, 20, 11, 21, 22, 23, 24, 25, 26, 27, 28, 29, 30, 31, 32, 33, 34, 35, 36, 37, 38] (by decide +kernel) (by decide +kernel)
set_option maxRecDepth 20000 in
theorem gX8_link_X8_allows : GoodIn wsX8_link (wsV RX8 94 RX8 yX8_allows wsX8_allows) := goodIn_app (goodIn_of _ (by decide +kernel)) ggX8_link_X8_allows
set_option maxHeartbeats 4000000 in
set_option maxRecDepth 100000 in
theorem c_J7_fill_53178 (l : Launch) (D : va_G) (cB cI cJ cS cZ cO : ClassId) (sz : Nat) (a : Nat) (v : Int32) (n : Nat) (f : Nat → Int32) (hn : n < 2 ^ 31) : Met l yJ7_fill_53178 wsJ7_fill_53178 ({ frames := 0, cells := 0, slots := 0, locals := 0 }) (xPre D (tyL cB cI cJ cS cZ cO) [(a, .inl (cI, n, .inl f))] sz [.ref a, .int v]) (xQv D (tyL cB cI cJ cS cZ cO) (va_A [(a, .inl (cI, n, .inl f))] sz) (fun u : va_W => ∃ g : Nat → Int32, u = [(a, .inl (cI, n, .inl g))] ∧ (∀ j : Nat, j < n → g j = v))) 0 0 (va_A [(a, .inl (cI, n, .inl f))] sz) := by
  refine Met.ofW (cc := cJ7_fill_53178) (maxL := 4) (ret := none) (by decide) rfl ?_
  intro p e s m args below meth c s₁ B hml hv
  obtain ⟨rfl, hsz, hP, hK, hD0, hN⟩ := hv
  have hx := B.exec
  have hb := B.bytes
  have hr := B.returns
  have hts := atoms_spec (ws := wsJ7_fill_53178) B.pre
  have hown : s.vm.findClass RJ7 = some m.cls := findClass_of_methodNamed B.named
  have hlocks := B.notSynchronized
  subst hsz
  have hD := hD0.self (sz := s.heap.size)
  generalize hAe : va_A [(a, .inl (cI, n, .inl f))] s.heap.size = A at hD ⊢
  have hA : ∀ q : Nat, s.heap.size ≤ q → A q := fun q h => by rw [← hAe]; exact Or.inr h
  have hS : va_S A s.heap s.heap [] := va_S.rf
  have hP : va_P D vwCl [(a, .inl (cI, n, .inl f))] s.heap := hP
  have hl := lv_entry ([.ref a, .int v]) (n := 4) (Nat.le_of_ble_eq_true rfl)
  rw [lg_entry_eq]
  generalize (lg_sl ([.ref a, .int v]) ++ List.replicate (4 - (lg_sl ([.ref a, .int v])).length) Slot.unset).toArray = ls at hl ⊢
  have hl : lv_has ls 4 [(0, .ref a), (1, .int v)] := hl
  refine lv_iconst (v := 0) hx hb dJ7_fill_53178_0 (by decide) ?_
  refine lv_istore_n (lv' := [(2, .int 0), (0, .ref a), (1, .int v)]) hx hb dJ7_fill_53178_1 rfl hl (by decide) rfl (fun ls hl => ?_)
  refine lv_aload_n hx hb dJ7_fill_53178_2 rfl (lv_at hl 1 rfl) ?_
  refine va_alen (v := nI n) hx hb hK hP 0 1 rfl rfl rfl dJ7_fill_53178_3 ?_
  refine lv_istore_n (lv' := [(3, .int (nI n)), (2, .int 0), (0, .ref a), (1, .int v)]) hx hb dJ7_fill_53178_4 rfl hl (by decide) rfl (fun ls hl => ?_)
  refine xb_wh (fun (n9 : Nat) H locs ls => ∃ i : Nat, ∃ g : Nat → Int32, (n - i) = n9 ∧ va_P D vwCl [(a, .inl (cI, n, .inl g))] H ∧ va_D A [(a, .inl (cI, n, .inl g))] ∧ va_S A s.heap H locs ∧ lv_has ls 4 [(3, .int (nI n)), (2, .int (nI i)), (0, .ref a), (1, .int v)] ∧ (i ≤ n) ∧ (∀ j : Nat, j < i → g j = v)) ⟨0, f, rfl, hP, hD, hS, lv_sub hl [0, 1, 2, 3] rfl, (Nat.zero_le _), (fun j h => absurd h (Nat.not_lt_zero j))⟩ (fun n9 H locs ls hI kk_5 => ?_)
  obtain ⟨i, g, hn_5, hP, hD, hS, hl, hF_h_1, hF_h_2⟩ := hI
  refine lv_iload_n hx hb dJ7_fill_53178_5 rfl (lv_at hl 1 rfl) ?_
  refine lv_iload_n hx hb dJ7_fill_53178_6 rfl (lv_at hl 0 rfl) ?_
  refine lv_icmp_ge (tgt := 20) hx hb dJ7_fill_53178_7 (by decide) (fun c_3 => ?_) (fun c_3 => ?_)
  · have dc_3 : n ≤ i := (nI_leI (a := n) (b := i) (by omega) (by omega)).mp c_3
    have hP9 := hP.sub (ws' := [(a, .inl (cI, n, .inl g))]) [0] rfl
    have hD9 := hD.sub (ws' := [(a, .inl (cI, n, .inl g))]) [0] (by decide) rfl
    refine W.widen (k := 0) (n := 0) (Nat.le_of_ble_eq_true rfl) (Nat.le_of_ble_eq_true rfl) ?_
    exact W.vret hx hb hr (fun tz htz hWz => ⟨⟨[(a, .inl (cI, n, .inl g))], rfl, ⟨g, rfl, (fun j hj => hF_h_2 j (by omega))⟩, by rw [htz]; exact hP9, va_K.moved hWz.alike hK, hD9⟩, hS.F htz⟩) hS.2.2 dJ7_fill_53178_20
  · have dc_3 : ¬ n ≤ i := fun h => c_3 ((nI_leI (a := n) (b := i) (by omega) (by omega)).mpr h)
    refine lv_aload_n hx hb dJ7_fill_53178_10 rfl (lv_at hl 2 rfl) ?_
    refine lv_iload_n hx hb dJ7_fill_53178_11 rfl (lv_at hl 1 rfl) ?_
    refine lv_iload_n hx hb dJ7_fill_53178_12 rfl (lv_at hl 3 rfl) ?_
    refine va_iast hx hb hK hP hD hS 0 1 rfl rfl (vp_in_nI (by omega) hn) dJ7_fill_53178_13 (fun H locs hP hD hS => ?_)
    have hP : va_P D vwCl [(a, .inl (cI, n, .inl (upd g (Int32.toNatClampNeg (nI i)) v)))] H := hP
    have hD : va_D A [(a, .inl (cI, n, .inl (upd g (Int32.toNatClampNeg (nI i)) v)))] := hD
    generalize eg_4 : upd g (Int32.toNatClampNeg (nI i)) v = g_4 at hP hD
    refine lv_iinc (v := nI (i + 1)) (lv' := [(2, .int (nI (i + 1))), (3, .int (nI n)), (0, .ref a), (1, .int v)]) hx hb dJ7_fill_53178_14 hl (k := 1) rfl (nI_1 i) (by decide) rfl (fun ls hl => ?_)
    refine lv_goto (tgt := 5) hx hb dJ7_fill_53178_17 (by decide) ?_
    exact kk_5 _ _ _ _ (by rw [← hn_5]; omega) ⟨(i + 1), g_4, rfl, hP, hD, hS, lv_sub hl [1, 0, 2, 3] rfl, (by omega), (up_fill (n := n) (by omega) hn hF_h_2 eg_4)⟩

set_option maxHeartbeats 4000000 in
set_option maxRecDepth 100000 in
theorem c_X8_has (l : Launch) (D : va_G) (cB cI cJ cS cZ cO : ClassId) (sz : Nat) (o : Nat) (x : Int32) (k_name : Nat) (k_worth : Nat) (k_times : Nat) (k_first : Nat) (k_second : Nat) (k_beforeLast : Nat) (k_last : Nat) (k_errandOf : Nat) (k_errandAfter : Nat) (k_sound : Nat) (k_followers : Nat) (k_leaders : Nat) (w : Nat) (k_errands : Int32) (k_alikes : Int32) (k_law : Int32) (hw : w ≤ 24) : Met l yX8_has wsX8_has ({ frames := 0, cells := 0, slots := 0, locals := 0 }) (xPre D (tyL cB cI cJ cS cZ cO) [(o, .inr (8, [.ref k_name, .ref k_worth, .ref k_times, .ref k_first, .ref k_second, .ref k_beforeLast, .ref k_last, .ref k_errandOf, .ref k_errandAfter, .ref k_sound, .ref k_followers, .ref k_leaders, .int (nI w), .int k_errands, .int k_alikes, .int k_law]))] sz [.ref o, .int x]) (xQi D (tyL cB cI cJ cS cZ cO) (va_A [(o, .inr (8, [.ref k_name, .ref k_worth, .ref k_times, .ref k_first, .ref k_second, .ref k_beforeLast, .ref k_last, .ref k_errandOf, .ref k_errandAfter, .ref k_sound, .ref k_followers, .ref k_leaders, .int (nI w), .int k_errands, .int k_alikes, .int k_law]))] sz) (fun (r : Int32) (u : va_W) => u = [(o, .inr (8, [.ref k_name, .ref k_worth, .ref k_times, .ref k_first, .ref k_second, .ref k_beforeLast, .ref k_last, .ref k_errandOf, .ref k_errandAfter, .ref k_sound, .ref k_followers, .ref k_leaders, .int (nI w), .int k_errands, .int k_alikes, .int k_law]))] ∧ (r = 0 ∨ (r = 1 ∧ ∃ q, q < w ∧ x = nI q)))) 0 0 (va_A [(o, .inr (8, [.ref k_name, .ref k_worth, .ref k_times, .ref k_first, .ref k_second, .ref k_beforeLast, .ref k_last, .ref k_errandOf, .ref k_errandAfter, .ref k_sound, .ref k_followers, .ref k_leaders, .int (nI w), .int k_errands, .int k_alikes, .int k_law]))] sz) := by
  refine Met.ofW (cc := cX8_has) (maxL := 2) (ret := (some .boolean)) (by decide) rfl ?_
  intro p e s m args below meth c s₁ B hml hv
  obtain ⟨rfl, hsz, hP, hK, hD0, hN⟩ := hv
  have hx := B.exec
  have hb := B.bytes
  have hr := B.returns
  have hts := atoms_spec (ws := wsX8_has) B.pre
  have hown : s.vm.findClass RX8 = some m.cls := findClass_of_methodNamed B.named
  have hlocks := B.notSynchronized
  subst hsz
  have hD := hD0.self (sz := s.heap.size)
  generalize hAe : va_A [(o, .inr (8, [.ref k_name, .ref k_worth, .ref k_times, .ref k_first, .ref k_second, .ref k_beforeLast, .ref k_last, .ref k_errandOf, .ref k_errandAfter, .ref k_sound, .ref k_followers, .ref k_leaders, .int (nI w), .int k_errands, .int k_alikes, .int k_law]))] s.heap.size = A at hD ⊢
  have hA : ∀ q : Nat, s.heap.size ≤ q → A q := fun q h => by rw [← hAe]; exact Or.inr h
  have hS : va_S A s.heap s.heap [] := va_S.rf
  have hP : va_P D vwCl [(o, .inr (8, [.ref k_name, .ref k_worth, .ref k_times, .ref k_first, .ref k_second, .ref k_beforeLast, .ref k_last, .ref k_errandOf, .ref k_errandAfter, .ref k_sound, .ref k_followers, .ref k_leaders, .int (nI w), .int k_errands, .int k_alikes, .int k_law]))] s.heap := hP
  have hl := lv_entry ([.ref o, .int x]) (n := 2) (Nat.le_of_ble_eq_true rfl)
  rw [lg_entry_eq]
  generalize (lg_sl ([.ref o, .int x]) ++ List.replicate (2 - (lg_sl ([.ref o, .int x])).length) Slot.unset).toArray = ls at hl ⊢
  have hl : lv_has ls 2 [(0, .ref o), (1, .int x)] := hl
  refine lv_iload_n hx hb dX8_has_0 rfl (lv_at hl 1 rfl) ?_
  refine lv_if_lt (tgt := 16) hx hb dX8_has_1 (by decide) (fun c_1 => ?_) (fun c_1 => ?_)
  · refine lv_iconst (v := 0) hx hb dX8_has_16 (by decide) ?_
    have hP9 := hP.sub (ws' := [(o, .inr (8, [.ref k_name, .ref k_worth, .ref k_times, .ref k_first, .ref k_second, .ref k_beforeLast, .ref k_last, .ref k_errandOf, .ref k_errandAfter, .ref k_sound, .ref k_followers, .ref k_leaders, .int (nI w), .int k_errands, .int k_alikes, .int k_law]))]) [0] rfl
    have hD9 := hD.sub (ws' := [(o, .inr (8, [.ref k_name, .ref k_worth, .ref k_times, .ref k_first, .ref k_second, .ref k_beforeLast, .ref k_last, .ref k_errandOf, .ref k_errandAfter, .ref k_sound, .ref k_followers, .ref k_leaders, .int (nI w), .int k_errands, .int k_alikes, .int k_law]))]) [0] (by decide) rfl
    refine W.widen (k := 0) (n := 0) (Nat.le_of_ble_eq_true rfl) (Nat.le_of_ble_eq_true rfl) ?_
    exact W.zret (v := 0) hx hb hr (by decide) (fun tz htz hWz => ⟨⟨0, [(o, .inr (8, [.ref k_name, .ref k_worth, .ref k_times, .ref k_first, .ref k_second, .ref k_beforeLast, .ref k_last, .ref k_errandOf, .ref k_errandAfter, .ref k_sound, .ref k_followers, .ref k_leaders, .int (nI w), .int k_errands, .int k_alikes, .int k_law]))], rfl, ⟨rfl, (Or.inl rfl)⟩, by rw [htz]; exact hP9, va_K.moved hWz.alike hK, hD9⟩, hS.F htz⟩) hS.2.2 dX8_has_17
  · refine lv_iload_n hx hb dX8_has_4 rfl (lv_at hl 1 rfl) ?_
    refine lv_aload_n hx hb dX8_has_5 rfl (lv_at hl 0 rfl) ?_
    refine va_get (D := D) (ci := 8) (v := .int (nI w)) (C := RX8) (T := TX8) (N := 16) hx hb hts (by decide +kernel) hown hK hP 0 rfl rfl 12 (by decide) (hts (.fieldLink RX8 52 "LastLetter$Tongue" "words" "I") (by decide +kernel)) (fun _ h9 => h9) rfl dX8_has_6 ?_
    refine lv_icmp_ge (tgt := 16) hx hb dX8_has_9 (by decide) (fun c_2 => ?_) (fun c_2 => ?_)
    · refine lv_iconst (v := 0) hx hb dX8_has_16 (by decide) ?_
      have hP9 := hP.sub (ws' := [(o, .inr (8, [.ref k_name, .ref k_worth, .ref k_times, .ref k_first, .ref k_second, .ref k_beforeLast, .ref k_last, .ref k_errandOf, .ref k_errandAfter, .ref k_sound, .ref k_followers, .ref k_leaders, .int (nI w), .int k_errands, .int k_alikes, .int k_law]))]) [0] rfl
      have hD9 := hD.sub (ws' := [(o, .inr (8, [.ref k_name, .ref k_worth, .ref k_times, .ref k_first, .ref k_second, .ref k_beforeLast, .ref k_last, .ref k_errandOf, .ref k_errandAfter, .ref k_sound, .ref k_followers, .ref k_leaders, .int (nI w), .int k_errands, .int k_alikes, .int k_law]))]) [0] (by decide) rfl
      refine W.widen (k := 0) (n := 0) (Nat.le_of_ble_eq_true rfl) (Nat.le_of_ble_eq_true rfl) ?_
      exact W.zret (v := 0) hx hb hr (by decide) (fun tz htz hWz => ⟨⟨0, [(o, .inr (8, [.ref k_name, .ref k_worth, .ref k_times, .ref k_first, .ref k_second, .ref k_beforeLast, .ref k_last, .ref k_errandOf, .ref k_errandAfter, .ref k_sound, .ref k_followers, .ref k_leaders, .int (nI w), .int k_errands, .int k_alikes, .int k_law]))], rfl, ⟨rfl, (Or.inl rfl)⟩, by rw [htz]; exact hP9, va_K.moved hWz.alike hK, hD9⟩, hS.F htz⟩) hS.2.2 dX8_has_17
    · refine lv_iconst (v := 1) hx hb dX8_has_12 (by decide) ?_
      refine lv_goto (tgt := 17) hx hb dX8_has_13 (by decide) ?_
      have hP9 := hP.sub (ws' := [(o, .inr (8, [.ref k_name, .ref k_worth, .ref k_times, .ref k_first, .ref k_second, .ref k_beforeLast, .ref k_last, .ref k_errandOf, .ref k_errandAfter, .ref k_sound, .ref k_followers, .ref k_leaders, .int (nI w), .int k_errands, .int k_alikes, .int k_law]))]) [0] rfl
      have hD9 := hD.sub (ws' := [(o, .inr (8, [.ref k_name, .ref k_worth, .ref k_times, .ref k_first, .ref k_second, .ref k_beforeLast, .ref k_last, .ref k_errandOf, .ref k_errandAfter, .ref k_sound, .ref k_followers, .ref k_leaders, .int (nI w), .int k_errands, .int k_alikes, .int k_law]))]) [0] (by decide) rfl
      refine W.widen (k := 0) (n := 0) (Nat.le_of_ble_eq_true rfl) (Nat.le_of_ble_eq_true rfl) ?_
      exact W.zret (v := 1) hx hb hr (by decide) (fun tz htz hWz => ⟨⟨1, [(o, .inr (8, [.ref k_name, .ref k_worth, .ref k_times, .ref k_first, .ref k_second, .ref k_beforeLast, .ref k_last, .ref k_errandOf, .ref k_errandAfter, .ref k_sound, .ref k_followers, .ref k_leaders, .int (nI w), .int k_errands, .int k_alikes, .int k_law]))], rfl, ⟨rfl, (Or.inr ⟨rfl, has_of c_1 c_2 (by omega)⟩)⟩, by rw [htz]; exact hP9, va_K.moved hWz.alike hK, hD9⟩, hS.F htz⟩) hS.2.2 dX8_has_17

set_option maxHeartbeats 4000000 in
set_option maxRecDepth 100000 in
theorem c_X8_isTooBig (l : Launch) (D : va_G) (cB cI cJ cS cZ cO : ClassId) (sz : Nat) (o : Nat) (k_name : Nat) (k_worth : Nat) (k_times : Nat) (k_first : Nat) (k_second : Nat) (k_beforeLast : Nat) (k_last : Nat) (k_errandOf : Nat) (k_errandAfter : Nat) (k_sound : Nat) (k_followers : Nat) (k_leaders : Nat) (w : Nat) (k_errands : Int32) (k_alikes : Int32) (k_law : Int32) (hw : w ≤ 24) : Met l yX8_isTooBig wsX8_isTooBig ({ frames := 0, cells := 0, slots := 0, locals := 0 }) (xPre D (tyL cB cI cJ cS cZ cO) [(o, .inr (8, [.ref k_name, .ref k_worth, .ref k_times, .ref k_first, .ref k_second, .ref k_beforeLast, .ref k_last, .ref k_errandOf, .ref k_errandAfter, .ref k_sound, .ref k_followers, .ref k_leaders, .int (nI w), .int k_errands, .int k_alikes, .int k_law]))] sz [.ref o]) (xQi D (tyL cB cI cJ cS cZ cO) (va_A [(o, .inr (8, [.ref k_name, .ref k_worth, .ref k_times, .ref k_first, .ref k_second, .ref k_beforeLast, .ref k_last, .ref k_errandOf, .ref k_errandAfter, .ref k_sound, .ref k_followers, .ref k_leaders, .int (nI w), .int k_errands, .int k_alikes, .int k_law]))] sz) (fun (r : Int32) (u : va_W) => u = [(o, .inr (8, [.ref k_name, .ref k_worth, .ref k_times, .ref k_first, .ref k_second, .ref k_beforeLast, .ref k_last, .ref k_errandOf, .ref k_errandAfter, .ref k_sound, .ref k_followers, .ref k_leaders, .int (nI w), .int k_errands, .int k_alikes, .int k_law]))] ∧ ((r = 0 ∧ w ≤ 14) ∨ r = 1))) 0 0 (va_A [(o, .inr (8, [.ref k_name, .ref k_worth, .ref k_times, .ref k_first, .ref k_second, .ref k_beforeLast, .ref k_last, .ref k_errandOf, .ref k_errandAfter, .ref k_sound, .ref k_followers, .ref k_leaders, .int (nI w), .int k_errands, .int k_alikes, .int k_law]))] sz) := by
  refine Met.ofW (cc := cX8_isTooBig) (maxL := 1) (ret := (some .boolean)) (by decide) rfl ?_
  intro p e s m args below meth c s₁ B hml hv
  obtain ⟨rfl, hsz, hP, hK, hD0, hN⟩ := hv
  have hx := B.exec
  have hb := B.bytes
  have hr := B.returns
  have hts := atoms_spec (ws := wsX8_isTooBig) B.pre
  have hown : s.vm.findClass RX8 = some m.cls := findClass_of_methodNamed B.named
  have hlocks := B.notSynchronized
  subst hsz
  have hD := hD0.self (sz := s.heap.size)
  generalize hAe : va_A [(o, .inr (8, [.ref k_name, .ref k_worth, .ref k_times, .ref k_first, .ref k_second, .ref k_beforeLast, .ref k_last, .ref k_errandOf, .ref k_errandAfter, .ref k_sound, .ref k_followers, .ref k_leaders, .int (nI w), .int k_errands, .int k_alikes, .int k_law]))] s.heap.size = A at hD ⊢
  have hA : ∀ q : Nat, s.heap.size ≤ q → A q := fun q h => by rw [← hAe]; exact Or.inr h
  have hS : va_S A s.heap s.heap [] := va_S.rf
  have hP : va_P D vwCl [(o, .inr (8, [.ref k_name, .ref k_worth, .ref k_times, .ref k_first, .ref k_second, .ref k_beforeLast, .ref k_last, .ref k_errandOf, .ref k_errandAfter, .ref k_sound, .ref k_followers, .ref k_leaders, .int (nI w), .int k_errands, .int k_alikes, .int k_law]))] s.heap := hP
  have hl := lv_entry ([.ref o]) (n := 1) (Nat.le_of_ble_eq_true rfl)
  rw [lg_entry_eq]
  generalize (lg_sl ([.ref o]) ++ List.replicate (1 - (lg_sl ([.ref o])).length) Slot.unset).toArray = ls at hl ⊢
  have hl : lv_has ls 1 [(0, .ref o)] := hl
  refine lv_aload_n hx hb dX8_isTooBig_0 rfl (lv_at hl 0 rfl) ?_
  refine va_get (D := D) (ci := 8) (v := .int (nI w)) (C := RX8) (T := TX8) (N := 16) hx hb hts (by decide +kernel) hown hK hP 0 rfl rfl 12 (by decide) (hts (.fieldLink RX8 52 "LastLetter$Tongue" "words" "I") (by decide +kernel)) (fun _ h9 => h9) rfl dX8_isTooBig_1 ?_
  refine lv_bipush (v := 14) hx hb dX8_isTooBig_4 (by decide) ?_
  refine lv_icmp_le (tgt := 13) hx hb dX8_isTooBig_6 (by decide) (fun c_1 => ?_) (fun c_1 => ?_)
  · have dc_1 : w ≤ 14 := (nI_leI (a := w) (b := 14) (by omega) (by omega)).mp c_1
    refine lv_iconst (v := 0) hx hb dX8_isTooBig_13 (by decide) ?_
    have hP9 := hP.sub (ws' := [(o, .inr (8, [.ref k_name, .ref k_worth, .ref k_times, .ref k_first, .ref k_second, .ref k_beforeLast, .ref k_last, .ref k_errandOf, .ref k_errandAfter, .ref k_sound, .ref k_followers, .ref k_leaders, .int (nI w), .int k_errands, .int k_alikes, .int k_law]))]) [0] rfl
    have hD9 := hD.sub (ws' := [(o, .inr (8, [.ref k_name, .ref k_worth, .ref k_times, .ref k_first, .ref k_second, .ref k_beforeLast, .ref k_last, .ref k_errandOf, .ref k_errandAfter, .ref k_sound, .ref k_followers, .ref k_leaders, .int (nI w), .int k_errands, .int k_alikes, .int k_law]))]) [0] (by decide) rfl
    refine W.widen (k := 0) (n := 0) (Nat.le_of_ble_eq_true rfl) (Nat.le_of_ble_eq_true rfl) ?_
    exact W.zret (v := 0) hx hb hr (by decide) (fun tz htz hWz => ⟨⟨0, [(o, .inr (8, [.ref k_name, .ref k_worth, .ref k_times, .ref k_first, .ref k_second, .ref k_beforeLast, .ref k_last, .ref k_errandOf, .ref k_errandAfter, .ref k_sound, .ref k_followers, .ref k_leaders, .int (nI w), .int k_errands, .int k_alikes, .int k_law]))], rfl, ⟨rfl, (Or.inl ⟨rfl, by omega⟩)⟩, by rw [htz]; exact hP9, va_K.moved hWz.alike hK, hD9⟩, hS.F htz⟩) hS.2.2 dX8_isTooBig_14
  · have dc_1 : ¬ w ≤ 14 := fun h => c_1 ((nI_leI (a := w) (b := 14) (by omega) (by omega)).mpr h)
    refine lv_iconst (v := 1) hx hb dX8_isTooBig_9 (by decide) ?_
    refine lv_goto (tgt := 14) hx hb dX8_isTooBig_10 (by decide) ?_
    have hP9 := hP.sub (ws' := [(o, .inr (8, [.ref k_name, .ref k_worth, .ref k_times, .ref k_first, .ref k_second, .ref k_beforeLast, .ref k_last, .ref k_errandOf, .ref k_errandAfter, .ref k_sound, .ref k_followers, .ref k_leaders, .int (nI w), .int k_errands, .int k_alikes, .int k_law]))]) [0] rfl
    have hD9 := hD.sub (ws' := [(o, .inr (8, [.ref k_name, .ref k_worth, .ref k_times, .ref k_first, .ref k_second, .ref k_beforeLast, .ref k_last, .ref k_errandOf, .ref k_errandAfter, .ref k_sound, .ref k_followers, .ref k_leaders, .int (nI w), .int k_errands, .int k_alikes, .int k_law]))]) [0] (by decide) rfl
    refine W.widen (k := 0) (n := 0) (Nat.le_of_ble_eq_true rfl) (Nat.le_of_ble_eq_true rfl) ?_
    exact W.zret (v := 1) hx hb hr (by decide) (fun tz htz hWz => ⟨⟨1, [(o, .inr (8, [.ref k_name, .ref k_worth, .ref k_times, .ref k_first, .ref k_second, .ref k_beforeLast, .ref k_last, .ref k_errandOf, .ref k_errandAfter, .ref k_sound, .ref k_followers, .ref k_leaders, .int (nI w), .int k_errands, .int k_alikes, .int k_law]))], rfl, ⟨rfl, (Or.inr rfl)⟩, by rw [htz]; exact hP9, va_K.moved hWz.alike hK, hD9⟩, hS.F htz⟩) hS.2.2 dX8_isTooBig_14

set_option maxHeartbeats 4000000 in
set_option maxRecDepth 100000 in
theorem c_X8_everyWord (l : Launch) (D : va_G) (cB cI cJ cS cZ cO : ClassId) (sz : Nat) (o : Nat) (k_name : Nat) (k_worth : Nat) (k_times : Nat) (k_first : Nat) (k_second : Nat) (k_beforeLast : Nat) (k_last : Nat) (k_errandOf : Nat) (k_errandAfter : Nat) (k_sound : Nat) (k_followers : Nat) (k_leaders : Nat) (w : Nat) (k_errands : Int32) (k_alikes : Int32) (k_law : Int32) (hw : w ≤ 24) : Met l yX8_everyWord wsX8_everyWord ({ frames := 0, cells := 0, slots := 0, locals := 0 }) (xPre D (tyL cB cI cJ cS cZ cO) [(o, .inr (8, [.ref k_name, .ref k_worth, .ref k_times, .ref k_first, .ref k_second, .ref k_beforeLast, .ref k_last, .ref k_errandOf, .ref k_errandAfter, .ref k_sound, .ref k_followers, .ref k_leaders, .int (nI w), .int k_errands, .int k_alikes, .int k_law]))] sz [.ref o]) (xQi D (tyL cB cI cJ cS cZ cO) (va_A [(o, .inr (8, [.ref k_name, .ref k_worth, .ref k_times, .ref k_first, .ref k_second, .ref k_beforeLast, .ref k_last, .ref k_errandOf, .ref k_errandAfter, .ref k_sound, .ref k_followers, .ref k_leaders, .int (nI w), .int k_errands, .int k_alikes, .int k_law]))] sz) (fun (r : Int32) (u : va_W) => u = [(o, .inr (8, [.ref k_name, .ref k_worth, .ref k_times, .ref k_first, .ref k_second, .ref k_beforeLast, .ref k_last, .ref k_errandOf, .ref k_errandAfter, .ref k_sound, .ref k_followers, .ref k_leaders, .int (nI w), .int k_errands, .int k_alikes, .int k_law]))] ∧ r = nI (2 ^ w - 1))) 0 0 (va_A [(o, .inr (8, [.ref k_name, .ref k_worth, .ref k_times, .ref k_first, .ref k_second, .ref k_beforeLast, .ref k_last, .ref k_errandOf, .ref k_errandAfter, .ref k_sound, .ref k_followers, .ref k_leaders, .int (nI w), .int k_errands, .int k_alikes, .int k_law]))] sz) := by
  refine Met.ofW (cc := cX8_everyWord) (maxL := 1) (ret := (some .int)) (by decide) rfl ?_
  intro p e s m args below meth c s₁ B hml hv
  obtain ⟨rfl, hsz, hP, hK, hD0, hN⟩ := hv
  have hx := B.exec
  have hb := B.bytes
  have hr := B.returns
  have hts := atoms_spec (ws := wsX8_everyWord) B.pre
  have hown : s.vm.findClass RX8 = some m.cls := findClass_of_methodNamed B.named
  have hlocks := B.notSynchronized
  subst hsz
  have hD := hD0.self (sz := s.heap.size)
  generalize hAe : va_A [(o, .inr (8, [.ref k_name, .ref k_worth, .ref k_times, .ref k_first, .ref k_second, .ref k_beforeLast, .ref k_last, .ref k_errandOf, .ref k_errandAfter, .ref k_sound, .ref k_followers, .ref k_leaders, .int (nI w), .int k_errands, .int k_alikes, .int k_law]))] s.heap.size = A at hD ⊢
  have hA : ∀ q : Nat, s.heap.size ≤ q → A q := fun q h => by rw [← hAe]; exact Or.inr h
  have hS : va_S A s.heap s.heap [] := va_S.rf
  have hP : va_P D vwCl [(o, .inr (8, [.ref k_name, .ref k_worth, .ref k_times, .ref k_first, .ref k_second, .ref k_beforeLast, .ref k_last, .ref k_errandOf, .ref k_errandAfter, .ref k_sound, .ref k_followers, .ref k_leaders, .int (nI w), .int k_errands, .int k_alikes, .int k_law]))] s.heap := hP
  have hl := lv_entry ([.ref o]) (n := 1) (Nat.le_of_ble_eq_true rfl)
  rw [lg_entry_eq]
  generalize (lg_sl ([.ref o]) ++ List.replicate (1 - (lg_sl ([.ref o])).length) Slot.unset).toArray = ls at hl ⊢
  have hl : lv_has ls 1 [(0, .ref o)] := hl
  refine lv_iconst (v := 1) hx hb dX8_everyWord_0 (by decide) ?_
  refine lv_aload_n hx hb dX8_everyWord_1 rfl (lv_at hl 0 rfl) ?_
  refine va_get (D := D) (ci := 8) (v := .int (nI w)) (C := RX8) (T := TX8) (N := 16) hx hb hts (by decide +kernel) hown hK hP 0 rfl rfl 12 (by decide) (hts (.fieldLink RX8 52 "LastLetter$Tongue" "words" "I") (by decide +kernel)) (fun _ h9 => h9) rfl dX8_everyWord_2 ?_
  refine lv_ishl hx hb dX8_everyWord_5 ?_
  refine xb_top (y := nI (1 * 2 ^ w)) (nb_shl (a := 1) (i := w) (by omega)) ?_
  refine lv_iconst (v := 1) hx hb dX8_everyWord_6 (by decide) ?_
  refine lv_isub hx hb dX8_everyWord_7 ?_
  refine xb_top (y := nI (2 ^ w - 1)) (by rw [Nat.one_mul]; exact pk_sub (a := 2 ^ w) (b := 1) (Nat.one_le_two_pow)) ?_
  have hP9 := hP.sub (ws' := [(o, .inr (8, [.ref k_name, .ref k_worth, .ref k_times, .ref k_first, .ref k_second, .ref k_beforeLast, .ref k_last, .ref k_errandOf, .ref k_errandAfter, .ref k_sound, .ref k_followers, .ref k_leaders, .int (nI w), .int k_errands, .int k_alikes, .int k_law]))]) [0] rfl
  have hD9 := hD.sub (ws' := [(o, .inr (8, [.ref k_name, .ref k_worth, .ref k_times, .ref k_first, .ref k_second, .ref k_beforeLast, .ref k_last, .ref k_errandOf, .ref k_errandAfter, .ref k_sound, .ref k_followers, .ref k_leaders, .int (nI w), .int k_errands, .int k_alikes, .int k_law]))]) [0] (by decide) rfl
  refine W.widen (k := 0) (n := 0) (Nat.le_of_ble_eq_true rfl) (Nat.le_of_ble_eq_true rfl) ?_
  exact W.iret (v := nI (2 ^ w - 1)) hx hb hr (fun tz htz hWz => ⟨⟨nI (2 ^ w - 1), [(o, .inr (8, [.ref k_name, .ref k_worth, .ref k_times, .ref k_first, .ref k_second, .ref k_beforeLast, .ref k_last, .ref k_errandOf, .ref k_errandAfter, .ref k_sound, .ref k_followers, .ref k_leaders, .int (nI w), .int k_errands, .int k_alikes, .int k_law]))], rfl, ⟨rfl, rfl⟩, by rw [htz]; exact hP9, va_K.moved hWz.alike hK, hD9⟩, hS.F htz⟩) hS.2.2 dX8_everyWord_8

set_option maxHeartbeats 4000000 in
set_option maxRecDepth 100000 in
theorem c_X8_find (l : Launch) (D : va_G) (cB cI cJ cS cZ cO : ClassId) (sz : Nat) (o : Nat) (y : Int64) (k_name : Nat) (k_worth : Nat) (k_times : Nat) (k_first : Nat) (k_second : Nat) (k_beforeLast : Nat) (k_last : Nat) (k_errandOf : Nat) (k_errandAfter : Nat) (k_sound : Nat) (k_followers : Nat) (k_leaders : Nat) (w : Nat) (k_errands : Int32) (k_alikes : Int32) (k_law : Int32) (f_name : Nat → Int64) (hw : w ≤ 24) : Met l yX8_find wsX8_find ({ frames := 0, cells := 0, slots := 0, locals := 0 }) (xPre D (tyL cB cI cJ cS cZ cO) [(o, .inr (8, [.ref k_name, .ref k_worth, .ref k_times, .ref k_first, .ref k_second, .ref k_beforeLast, .ref k_last, .ref k_errandOf, .ref k_errandAfter, .ref k_sound, .ref k_followers, .ref k_leaders, .int (nI w), .int k_errands, .int k_alikes, .int k_law])), (k_name, .inl (cJ, 24, .inr (.inl f_name)))] sz [.ref o, .long y]) (xQi D (tyL cB cI cJ cS cZ cO) (va_A [(o, .inr (8, [.ref k_name, .ref k_worth, .ref k_times, .ref k_first, .ref k_second, .ref k_beforeLast, .ref k_last, .ref k_errandOf, .ref k_errandAfter, .ref k_sound, .ref k_followers, .ref k_leaders, .int (nI w), .int k_errands, .int k_alikes, .int k_law])), (k_name, .inl (cJ, 24, .inr (.inl f_name)))] sz) (fun (r : Int32) (u : va_W) => u = [(o, .inr (8, [.ref k_name, .ref k_worth, .ref k_times, .ref k_first, .ref k_second, .ref k_beforeLast, .ref k_last, .ref k_errandOf, .ref k_errandAfter, .ref k_sound, .ref k_followers, .ref k_leaders, .int (nI w), .int k_errands, .int k_alikes, .int k_law])), (k_name, .inl (cJ, 24, .inr (.inl f_name)))] ∧ (r = -1 ∨ ∃ q, q < w ∧ r = nI q))) 0 0 (va_A [(o, .inr (8, [.ref k_name, .ref k_worth, .ref k_times, .ref k_first, .ref k_second, .ref k_beforeLast, .ref k_last, .ref k_errandOf, .ref k_errandAfter, .ref k_sound, .ref k_followers, .ref k_leaders, .int (nI w), .int k_errands, .int k_alikes, .int k_law])), (k_name, .inl (cJ, 24, .inr (.inl f_name)))] sz) := by
  refine Met.ofW (cc := cX8_find) (maxL := 4) (ret := (some .int)) (by decide) rfl ?_
  intro p e s m args below meth c s₁ B hml hv
  obtain ⟨rfl, hsz, hP, hK, hD0, hN⟩ := hv
  have hx := B.exec
  have hb := B.bytes
  have hr := B.returns
  have hts := atoms_spec (ws := wsX8_find) B.pre
  have hown : s.vm.findClass RX8 = some m.cls := findClass_of_methodNamed B.named
  have hlocks := B.notSynchronized
  subst hsz
  have hD := hD0.self (sz := s.heap.size)
  generalize hAe : va_A [(o, .inr (8, [.ref k_name, .ref k_worth, .ref k_times, .ref k_first, .ref k_second, .ref k_beforeLast, .ref k_last, .ref k_errandOf, .ref k_errandAfter, .ref k_sound, .ref k_followers, .ref k_leaders, .int (nI w), .int k_errands, .int k_alikes, .int k_law])), (k_name, .inl (cJ, 24, .inr (.inl f_name)))] s.heap.size = A at hD ⊢
  have hA : ∀ q : Nat, s.heap.size ≤ q → A q := fun q h => by rw [← hAe]; exact Or.inr h
  have hS : va_S A s.heap s.heap [] := va_S.rf
  have hP : va_P D vwCl [(o, .inr (8, [.ref k_name, .ref k_worth, .ref k_times, .ref k_first, .ref k_second, .ref k_beforeLast, .ref k_last, .ref k_errandOf, .ref k_errandAfter, .ref k_sound, .ref k_followers, .ref k_leaders, .int (nI w), .int k_errands, .int k_alikes, .int k_law])), (k_name, .inl (cJ, 24, .inr (.inl f_name)))] s.heap := hP
  have hl := lv_entry ([.ref o, .long y]) (n := 4) (Nat.le_of_ble_eq_true rfl)
  rw [lg_entry_eq]
  generalize (lg_sl ([.ref o, .long y]) ++ List.replicate (4 - (lg_sl ([.ref o, .long y])).length) Slot.unset).toArray = ls at hl ⊢
  have hl : lv_has ls 4 [(0, .ref o), (1, .long y)] := hl
  refine lv_iconst (v := 0) hx hb dX8_find_0 (by decide) ?_
  refine lv_istore_n (lv' := [(3, .int 0), (0, .ref o), (1, .long y)]) hx hb dX8_find_1 rfl hl (by decide) rfl (fun ls hl => ?_)
  refine xb_wh (fun (n9 : Nat) H locs ls => ∃ i : Nat, (w - i) = n9 ∧ va_P D vwCl [(o, .inr (8, [.ref k_name, .ref k_worth, .ref k_times, .ref k_first, .ref k_second, .ref k_beforeLast, .ref k_last, .ref k_errandOf, .ref k_errandAfter, .ref k_sound, .ref k_followers, .ref k_leaders, .int (nI w), .int k_errands, .int k_alikes, .int k_law])), (k_name, .inl (cJ, 24, .inr (.inl f_name)))] H ∧ va_D A [(o, .inr (8, [.ref k_name, .ref k_worth, .ref k_times, .ref k_first, .ref k_second, .ref k_beforeLast, .ref k_last, .ref k_errandOf, .ref k_errandAfter, .ref k_sound, .ref k_followers, .ref k_leaders, .int (nI w), .int k_errands, .int k_alikes, .int k_law])), (k_name, .inl (cJ, 24, .inr (.inl f_name)))] ∧ va_S A s.heap H locs ∧ lv_has ls 4 [(3, .int (nI i)), (0, .ref o), (1, .long y)] ∧ (i ≤ w)) ⟨0, rfl, hP, hD, hS, lv_sub hl [0, 1, 2] rfl, (by first | assumption | omega)⟩ (fun n9 H locs ls hI kk_2 => ?_)
  obtain ⟨i, hn_2, hP, hD, hS, hl, hF_h_1⟩ := hI
  refine lv_iload_n hx hb dX8_find_2 rfl (lv_at hl 0 rfl) ?_
  refine lv_aload_n hx hb dX8_find_3 rfl (lv_at hl 1 rfl) ?_
  refine va_get (D := D) (ci := 8) (v := .int (nI w)) (C := RX8) (T := TX8) (N := 16) hx hb hts (by decide +kernel) hown hK hP 0 rfl rfl 12 (by decide) (hts (.fieldLink RX8 52 "LastLetter$Tongue" "words" "I") (by decide +kernel)) (fun _ h9 => h9) rfl dX8_find_4 ?_
  refine lv_icmp_ge (tgt := 29) hx hb dX8_find_7 (by decide) (fun c_2 => ?_) (fun c_2 => ?_)
  · have dc_2 : w ≤ i := (nI_leI (a := w) (b := i) (by omega) (by omega)).mp c_2
    refine lv_iconst (v := (-1)) hx hb dX8_find_29 (by decide) ?_
    have hP9 := hP.sub (ws' := [(o, .inr (8, [.ref k_name, .ref k_worth, .ref k_times, .ref k_first, .ref k_second, .ref k_beforeLast, .ref k_last, .ref k_errandOf, .ref k_errandAfter, .ref k_sound, .ref k_followers, .ref k_leaders, .int (nI w), .int k_errands, .int k_alikes, .int k_law])), (k_name, .inl (cJ, 24, .inr (.inl f_name)))]) [0, 1] rfl
    have hD9 := hD.sub (ws' := [(o, .inr (8, [.ref k_name, .ref k_worth, .ref k_times, .ref k_first, .ref k_second, .ref k_beforeLast, .ref k_last, .ref k_errandOf, .ref k_errandAfter, .ref k_sound, .ref k_followers, .ref k_leaders, .int (nI w), .int k_errands, .int k_alikes, .int k_law])), (k_name, .inl (cJ, 24, .inr (.inl f_name)))]) [0, 1] (by decide) rfl
    refine W.widen (k := 0) (n := 0) (Nat.le_of_ble_eq_true rfl) (Nat.le_of_ble_eq_true rfl) ?_
    exact W.iret (v := (-1)) hx hb hr (fun tz htz hWz => ⟨⟨(-1), [(o, .inr (8, [.ref k_name, .ref k_worth, .ref k_times, .ref k_first, .ref k_second, .ref k_beforeLast, .ref k_last, .ref k_errandOf, .ref k_errandAfter, .ref k_sound, .ref k_followers, .ref k_leaders, .int (nI w), .int k_errands, .int k_alikes, .int k_law])), (k_name, .inl (cJ, 24, .inr (.inl f_name)))], rfl, ⟨rfl, (Or.inl rfl)⟩, by rw [htz]; exact hP9, va_K.moved hWz.alike hK, hD9⟩, hS.F htz⟩) hS.2.2 dX8_find_30
  · have dc_2 : ¬ w ≤ i := fun h => c_2 ((nI_leI (a := w) (b := i) (by omega) (by omega)).mpr h)
    refine lv_aload_n hx hb dX8_find_10 rfl (lv_at hl 1 rfl) ?_
    refine va_get (D := D) (ci := 8) (v := .ref k_name) (C := RX8) (T := TX8) (N := 16) hx hb hts (by decide +kernel) hown hK hP 0 rfl rfl 0 (by decide) (hts (.fieldLink RX8 9 "LastLetter$Tongue" "name" "[J") (by decide +kernel)) (fun _ h9 => h9) rfl dX8_find_11 ?_
    refine lv_iload_n hx hb dX8_find_14 rfl (lv_at hl 0 rfl) ?_
    refine va_lald hx hb hK hP 1 2 rfl rfl (vp_in_nI (by omega) (by omega)) dX8_find_15 ?_
    refine xb_topl (y := f_name i) (by rw [nI_clamp (by omega)]) ?_
    refine lv_lload_n hx hb dX8_find_16 rfl (lv_at hl 2 rfl) ?_
    refine W.lcmp hx hb dX8_find_17 ?_
    refine lv_if_ne (tgt := 23) hx hb dX8_find_18 (by decide) (fun c_3 => ?_) (fun c_3 => ?_)
    · refine lv_iinc (v := nI (i + 1)) (lv' := [(3, .int (nI (i + 1))), (0, .ref o), (1, .long y)]) hx hb dX8_find_23 hl (k := 0) rfl (nI_1 i) (by decide) rfl (fun ls hl => ?_)
      refine lv_goto (tgt := 2) hx hb dX8_find_26 (by decide) ?_
      exact kk_2 _ _ _ _ (by rw [← hn_2]; omega) ⟨(i + 1), rfl, hP, hD, hS, lv_sub hl [0, 1, 2] rfl, (by first | assumption | omega)⟩
    · refine lv_iload_n hx hb dX8_find_21 rfl (lv_at hl 0 rfl) ?_
      have hP9 := hP.sub (ws' := [(o, .inr (8, [.ref k_name, .ref k_worth, .ref k_times, .ref k_first, .ref k_second, .ref k_beforeLast, .ref k_last, .ref k_errandOf, .ref k_errandAfter, .ref k_sound, .ref k_followers, .ref k_leaders, .int (nI w), .int k_errands, .int k_alikes, .int k_law])), (k_name, .inl (cJ, 24, .inr (.inl f_name)))]) [0, 1] rfl
      have hD9 := hD.sub (ws' := [(o, .inr (8, [.ref k_name, .ref k_worth, .ref k_times, .ref k_first, .ref k_second, .ref k_beforeLast, .ref k_last, .ref k_errandOf, .ref k_errandAfter, .ref k_sound, .ref k_followers, .ref k_leaders, .int (nI w), .int k_errands, .int k_alikes, .int k_law])), (k_name, .inl (cJ, 24, .inr (.inl f_name)))]) [0, 1] (by decide) rfl
      refine W.widen (k := 0) (n := 0) (Nat.le_of_ble_eq_true rfl) (Nat.le_of_ble_eq_true rfl) ?_
      exact W.iret (v := nI i) hx hb hr (fun tz htz hWz => ⟨⟨nI i, [(o, .inr (8, [.ref k_name, .ref k_worth, .ref k_times, .ref k_first, .ref k_second, .ref k_beforeLast, .ref k_last, .ref k_errandOf, .ref k_errandAfter, .ref k_sound, .ref k_followers, .ref k_leaders, .int (nI w), .int k_errands, .int k_alikes, .int k_law])), (k_name, .inl (cJ, 24, .inr (.inl f_name)))], rfl, ⟨rfl, (Or.inr ⟨i, by omega, rfl⟩)⟩, by rw [htz]; exact hP9, va_K.moved hWz.alike hK, hD9⟩, hS.F htz⟩) hS.2.2 dX8_find_22

set_option maxHeartbeats 4000000 in
set_option maxRecDepth 100000 in
theorem c_X8_errandNamed (l : Launch) (D : va_G) (cB cI cJ cS cZ cO : ClassId) (sz : Nat) (o : Nat) (y : Int64) (k_name : Nat) (k_worth : Nat) (k_times : Nat) (k_first : Nat) (k_second : Nat) (k_beforeLast : Nat) (k_last : Nat) (k_errandOf : Nat) (k_errandAfter : Nat) (k_sound : Nat) (k_followers : Nat) (k_leaders : Nat) (w : Nat) (k_errands : Int32) (k_alikes : Int32) (k_law : Int32) (f_name : Nat → Int64) (f_errandOf : Nat → Int32) (hw : w ≤ 24) : Met l yX8_errandNamed wsX8_errandNamed ({ frames := 1, cells := 0, slots := 0, locals := 23 }) (xPre D (tyL cB cI cJ cS cZ cO) [(o, .inr (8, [.ref k_name, .ref k_worth, .ref k_times, .ref k_first, .ref k_second, .ref k_beforeLast, .ref k_last, .ref k_errandOf, .ref k_errandAfter, .ref k_sound, .ref k_followers, .ref k_leaders, .int (nI w), .int k_errands, .int k_alikes, .int k_law])), (k_name, .inl (cJ, 24, .inr (.inl f_name))), (k_errandOf, .inl (cI, 24, .inl f_errandOf))] sz [.ref o, .long y]) (xQi D (tyL cB cI cJ cS cZ cO) (va_A [(o, .inr (8, [.ref k_name, .ref k_worth, .ref k_times, .ref k_first, .ref k_second, .ref k_beforeLast, .ref k_last, .ref k_errandOf, .ref k_errandAfter, .ref k_sound, .ref k_followers, .ref k_leaders, .int (nI w), .int k_errands, .int k_alikes, .int k_law])), (k_name, .inl (cJ, 24, .inr (.inl f_name))), (k_errandOf, .inl (cI, 24, .inl f_errandOf))] sz) (fun (r : Int32) (u : va_W) => u = [(o, .inr (8, [.ref k_name, .ref k_worth, .ref k_times, .ref k_first, .ref k_second, .ref k_beforeLast, .ref k_last, .ref k_errandOf, .ref k_errandAfter, .ref k_sound, .ref k_followers, .ref k_leaders, .int (nI w), .int k_errands, .int k_alikes, .int k_law])), (k_name, .inl (cJ, 24, .inr (.inl f_name))), (k_errandOf, .inl (cI, 24, .inl f_errandOf))])) 0 0 (va_A [(o, .inr (8, [.ref k_name, .ref k_worth, .ref k_times, .ref k_first, .ref k_second, .ref k_beforeLast, .ref k_last, .ref k_errandOf, .ref k_errandAfter, .ref k_sound, .ref k_followers, .ref k_leaders, .int (nI w), .int k_errands, .int k_alikes, .int k_law])), (k_name, .inl (cJ, 24, .inr (.inl f_name))), (k_errandOf, .inl (cI, 24, .inl f_errandOf))] sz) := by
  refine Met.ofW (cc := cX8_errandNamed) (maxL := 4) (ret := (some .int)) (by decide) rfl ?_
  intro p e s m args below meth c s₁ B hml hv
  obtain ⟨rfl, hsz, hP, hK, hD0, hN⟩ := hv
  have hx := B.exec
  have hb := B.bytes
  have hr := B.returns
  have hts := atoms_spec (ws := wsX8_errandNamed) B.pre
  have hown : s.vm.findClass RX8 = some m.cls := findClass_of_methodNamed B.named
  have hlocks := B.notSynchronized
  subst hsz
  have hD := hD0.self (sz := s.heap.size)
  generalize hAe : va_A [(o, .inr (8, [.ref k_name, .ref k_worth, .ref k_times, .ref k_first, .ref k_second, .ref k_beforeLast, .ref k_last, .ref k_errandOf, .ref k_errandAfter, .ref k_sound, .ref k_followers, .ref k_leaders, .int (nI w), .int k_errands, .int k_alikes, .int k_law])), (k_name, .inl (cJ, 24, .inr (.inl f_name))), (k_errandOf, .inl (cI, 24, .inl f_errandOf))] s.heap.size = A at hD ⊢
  have hA : ∀ q : Nat, s.heap.size ≤ q → A q := fun q h => by rw [← hAe]; exact Or.inr h
  have hS : va_S A s.heap s.heap [] := va_S.rf
  have hP : va_P D vwCl [(o, .inr (8, [.ref k_name, .ref k_worth, .ref k_times, .ref k_first, .ref k_second, .ref k_beforeLast, .ref k_last, .ref k_errandOf, .ref k_errandAfter, .ref k_sound, .ref k_followers, .ref k_leaders, .int (nI w), .int k_errands, .int k_alikes, .int k_law])), (k_name, .inl (cJ, 24, .inr (.inl f_name))), (k_errandOf, .inl (cI, 24, .inl f_errandOf))] s.heap := hP
  have hl := lv_entry ([.ref o, .long y]) (n := 4) (Nat.le_of_ble_eq_true rfl)
  rw [lg_entry_eq]
  generalize (lg_sl ([.ref o, .long y]) ++ List.replicate (4 - (lg_sl ([.ref o, .long y])).length) Slot.unset).toArray = ls at hl ⊢
  have hl : lv_has ls 4 [(0, .ref o), (1, .long y)] := hl
  refine lv_aload_n hx hb dX8_errandNamed_0 rfl (lv_at hl 0 rfl) ?_
  refine lv_lload_n hx hb dX8_errandNamed_1 rfl (lv_at hl 1 rfl) ?_
  refine xCi (wr := [(k_errandOf, .inl (cI, 24, .inl f_errandOf))]) (win := [(o, .inr (8, [.ref k_name, .ref k_worth, .ref k_times, .ref k_first, .ref k_second, .ref k_beforeLast, .ref k_last, .ref k_errandOf, .ref k_errandAfter, .ref k_sound, .ref k_followers, .ref k_leaders, .int (nI w), .int k_errands, .int k_alikes, .int k_law])), (k_name, .inl (cJ, 24, .inr (.inl f_name)))]) hP hD hS hA [0, 1] [2] rfl rfl (by decide) (by decide) (va_runV (As := [.long y]) (rest := []) ⟨hx, hb, hml, hown, hts⟩ (c_X8_find l D cB cI cJ cS cZ cO s.heap.size o y k_name k_worth k_times k_first k_second k_beforeLast k_last k_errandOf k_errandAfter k_sound k_followers k_leaders w k_errands k_alikes k_law f_name (by first | assumption | omega | decide)) (cwV 1 hts gX8_errandNamed_X8_find rfl rfl rfl (by decide +kernel) ⟨Nat.le_of_ble_eq_true rfl, Nat.le_of_ble_eq_true rfl⟩) (xPreV (win := [(o, .inr (8, [.ref k_name, .ref k_worth, .ref k_times, .ref k_first, .ref k_second, .ref k_beforeLast, .ref k_last, .ref k_errandOf, .ref k_errandAfter, .ref k_sound, .ref k_followers, .ref k_leaders, .int (nI w), .int k_errands, .int k_alikes, .int k_law])), (k_name, .inl (cJ, 24, .inr (.inl f_name)))]) hN hK hP hD [0, 1] (by decide) rfl 0 8 rfl rfl rfl) rfl rfl hl.1 rfl (lv_room (Nat.le_of_ble_eq_true rfl)) dX8_errandNamed_2 ⟨Nat.le_of_ble_eq_true rfl, Nat.le_of_ble_eq_true rfl⟩) (fun r_1 w0 H locs hw hP hD hS => ?_)
  obtain ⟨rfl, hf_2⟩ := hw
  have hP : va_P D vwCl [(k_errandOf, .inl (cI, 24, .inl f_errandOf)), (o, .inr (8, [.ref k_name, .ref k_worth, .ref k_times, .ref k_first, .ref k_second, .ref k_beforeLast, .ref k_last, .ref k_errandOf, .ref k_errandAfter, .ref k_sound, .ref k_followers, .ref k_leaders, .int (nI w), .int k_errands, .int k_alikes, .int k_law])), (k_name, .inl (cJ, 24, .inr (.inl f_name)))] H := hP
  have hD : va_D A [(k_errandOf, .inl (cI, 24, .inl f_errandOf)), (o, .inr (8, [.ref k_name, .ref k_worth, .ref k_times, .ref k_first, .ref k_second, .ref k_beforeLast, .ref k_last, .ref k_errandOf, .ref k_errandAfter, .ref k_sound, .ref k_followers, .ref k_leaders, .int (nI w), .int k_errands, .int k_alikes, .int k_law])), (k_name, .inl (cJ, 24, .inr (.inl f_name)))] := hD
  refine lv_istore_n (lv' := [(3, .int r_1), (0, .ref o), (1, .long y)]) hx hb dX8_errandNamed_5 rfl hl (by decide) rfl (fun ls hl => ?_)
  refine lv_iload_n hx hb dX8_errandNamed_6 rfl (lv_at hl 0 rfl) ?_
  refine lv_iconst (v := (-1)) hx hb dX8_errandNamed_7 (by decide) ?_
  refine lv_icmp_ne (tgt := 15) hx hb dX8_errandNamed_8 (by decide) (fun c_3 => ?_) (fun c_3 => ?_)
  · obtain ⟨q1, hq1, rfl⟩ := hf_2.resolve_left c_3
    refine lv_aload_n hx hb dX8_errandNamed_15 rfl (lv_at hl 1 rfl) ?_
    refine va_get (D := D) (ci := 8) (v := .ref k_errandOf) (C := RX8) (T := TX8) (N := 16) hx hb hts (by decide +kernel) hown hK hP 1 rfl rfl 7 (by decide) (hts (.fieldLink RX8 34 "LastLetter$Tongue" "errandOf" "[I") (by decide +kernel)) (fun _ h9 => h9) rfl dX8_errandNamed_16 ?_
    refine lv_iload_n hx hb dX8_errandNamed_19 rfl (lv_at hl 0 rfl) ?_
    refine va_iald hx hb hK hP 0 1 rfl rfl (vp_in_nI (by omega) (by omega)) dX8_errandNamed_20 ?_
    refine xb_top (y := f_errandOf q1) (by rw [nI_clamp (by omega)]) ?_
    have hP9 := hP.sub (ws' := [(o, .inr (8, [.ref k_name, .ref k_worth, .ref k_times, .ref k_first, .ref k_second, .ref k_beforeLast, .ref k_last, .ref k_errandOf, .ref k_errandAfter, .ref k_sound, .ref k_followers, .ref k_leaders, .int (nI w), .int k_errands, .int k_alikes, .int k_law])), (k_name, .inl (cJ, 24, .inr (.inl f_name))), (k_errandOf, .inl (cI, 24, .inl f_errandOf))]) [1, 2, 0] rfl
    have hD9 := hD.sub (ws' := [(o, .inr (8, [.ref k_name, .ref k_worth, .ref k_times, .ref k_first, .ref k_second, .ref k_beforeLast, .ref k_last, .ref k_errandOf, .ref k_errandAfter, .ref k_sound, .ref k_followers, .ref k_leaders, .int (nI w), .int k_errands, .int k_alikes, .int k_law])), (k_name, .inl (cJ, 24, .inr (.inl f_name))), (k_errandOf, .inl (cI, 24, .inl f_errandOf))]) [1, 2, 0] (by decide) rfl
    refine W.widen (k := 0) (n := 0) (Nat.le_of_ble_eq_true rfl) (Nat.le_of_ble_eq_true rfl) ?_
    exact W.iret (v := f_errandOf q1) hx hb hr (fun tz htz hWz => ⟨⟨f_errandOf q1, [(o, .inr (8, [.ref k_name, .ref k_worth, .ref k_times, .ref k_first, .ref k_second, .ref k_beforeLast, .ref k_last, .ref k_errandOf, .ref k_errandAfter, .ref k_sound, .ref k_followers, .ref k_leaders, .int (nI w), .int k_errands, .int k_alikes, .int k_law])), (k_name, .inl (cJ, 24, .inr (.inl f_name))), (k_errandOf, .inl (cI, 24, .inl f_errandOf))], rfl, rfl, by rw [htz]; exact hP9, va_K.moved hWz.alike hK, hD9⟩, hS.F htz⟩) hS.2.2 dX8_errandNamed_21
  · refine lv_iconst (v := (-1)) hx hb dX8_errandNamed_11 (by decide) ?_
    refine lv_goto (tgt := 21) hx hb dX8_errandNamed_12 (by decide) ?_
    have hP9 := hP.sub (ws' := [(o, .inr (8, [.ref k_name, .ref k_worth, .ref k_times, .ref k_first, .ref k_second, .ref k_beforeLast, .ref k_last, .ref k_errandOf, .ref k_errandAfter, .ref k_sound, .ref k_followers, .ref k_leaders, .int (nI w), .int k_errands, .int k_alikes, .int k_law])), (k_name, .inl (cJ, 24, .inr (.inl f_name))), (k_errandOf, .inl (cI, 24, .inl f_errandOf))]) [1, 2, 0] rfl
    have hD9 := hD.sub (ws' := [(o, .inr (8, [.ref k_name, .ref k_worth, .ref k_times, .ref k_first, .ref k_second, .ref k_beforeLast, .ref k_last, .ref k_errandOf, .ref k_errandAfter, .ref k_sound, .ref k_followers, .ref k_leaders, .int (nI w), .int k_errands, .int k_alikes, .int k_law])), (k_name, .inl (cJ, 24, .inr (.inl f_name))), (k_errandOf, .inl (cI, 24, .inl f_errandOf))]) [1, 2, 0] (by decide) rfl
    refine W.widen (k := 0) (n := 0) (Nat.le_of_ble_eq_true rfl) (Nat.le_of_ble_eq_true rfl) ?_
    exact W.iret (v := (-1)) hx hb hr (fun tz htz hWz => ⟨⟨(-1), [(o, .inr (8, [.ref k_name, .ref k_worth, .ref k_times, .ref k_first, .ref k_second, .ref k_beforeLast, .ref k_last, .ref k_errandOf, .ref k_errandAfter, .ref k_sound, .ref k_followers, .ref k_leaders, .int (nI w), .int k_errands, .int k_alikes, .int k_law])), (k_name, .inl (cJ, 24, .inr (.inl f_name))), (k_errandOf, .inl (cI, 24, .inl f_errandOf))], rfl, rfl, by rw [htz]; exact hP9, va_K.moved hWz.alike hK, hD9⟩, hS.F htz⟩) hS.2.2 dX8_errandNamed_21

set_option maxHeartbeats 4000000 in
set_option maxRecDepth 100000 in
theorem c_X8_addWord (l : Launch) (D : va_G) (cB cI cJ cS cZ cO : ClassId) (sz : Nat) (o : Nat) (y : Int64) (x : Int32) (z : Int32) (k_name : Nat) (k_worth : Nat) (k_times : Nat) (k_first : Nat) (k_second : Nat) (k_beforeLast : Nat) (k_last : Nat) (k_errandOf : Nat) (k_errandAfter : Nat) (k_sound : Nat) (k_followers : Nat) (k_leaders : Nat) (w : Nat) (k_errands : Int32) (k_alikes : Int32) (k_law : Int32) (f_name : Nat → Int64) (f_worth : Nat → Int32) (f_times : Nat → Int32) (hw : w < 24) : Met l yX8_addWord wsX8_addWord ({ frames := 0, cells := 0, slots := 0, locals := 0 }) (xPre D (tyL cB cI cJ cS cZ cO) [(o, .inr (8, [.ref k_name, .ref k_worth, .ref k_times, .ref k_first, .ref k_second, .ref k_beforeLast, .ref k_last, .ref k_errandOf, .ref k_errandAfter, .ref k_sound, .ref k_followers, .ref k_leaders, .int (nI w), .int k_errands, .int k_alikes, .int k_law])), (k_name, .inl (cJ, 24, .inr (.inl f_name))), (k_worth, .inl (cI, 24, .inl f_worth)), (k_times, .inl (cI, 24, .inl f_times))] sz [.ref o, .long y, .int x, .int z]) (xQv D (tyL cB cI cJ cS cZ cO) (va_A [(o, .inr (8, [.ref k_name, .ref k_worth, .ref k_times, .ref k_first, .ref k_second, .ref k_beforeLast, .ref k_last, .ref k_errandOf, .ref k_errandAfter, .ref k_sound, .ref k_followers, .ref k_leaders, .int (nI w), .int k_errands, .int k_alikes, .int k_law])), (k_name, .inl (cJ, 24, .inr (.inl f_name))), (k_worth, .inl (cI, 24, .inl f_worth)), (k_times, .inl (cI, 24, .inl f_times))] sz) (fun u : va_W => ∃ g_name : Nat → Int64, ∃ g_worth : Nat → Int32, ∃ g_times : Nat → Int32, u = [(o, .inr (8, [.ref k_name, .ref k_worth, .ref k_times, .ref k_first, .ref k_second, .ref k_beforeLast, .ref k_last, .ref k_errandOf, .ref k_errandAfter, .ref k_sound, .ref k_followers, .ref k_leaders, .int (nI (w + 1)), .int k_errands, .int k_alikes, .int k_law])), (k_name, .inl (cJ, 24, .inr (.inl g_name))), (k_worth, .inl (cI, 24, .inl g_worth)), (k_times, .inl (cI, 24, .inl g_times))])) 0 0 (va_A [(o, .inr (8, [.ref k_name, .ref k_worth, .ref k_times, .ref k_first, .ref k_second, .ref k_beforeLast, .ref k_last, .ref k_errandOf, .ref k_errandAfter, .ref k_sound, .ref k_followers, .ref k_leaders, .int (nI w), .int k_errands, .int k_alikes, .int k_law])), (k_name, .inl (cJ, 24, .inr (.inl f_name))), (k_worth, .inl (cI, 24, .inl f_worth)), (k_times, .inl (cI, 24, .inl f_times))] sz) := by
  refine Met.ofW (cc := cX8_addWord) (maxL := 5) (ret := none) (by decide) rfl ?_
  intro p e s m args below meth c s₁ B hml hv
  obtain ⟨rfl, hsz, hP, hK, hD0, hN⟩ := hv
  have hx := B.exec
  have hb := B.bytes
  have hr := B.returns
  have hts := atoms_spec (ws := wsX8_addWord) B.pre
  have hown : s.vm.findClass RX8 = some m.cls := findClass_of_methodNamed B.named
  have hlocks := B.notSynchronized
  subst hsz
  have hD := hD0.self (sz := s.heap.size)
  generalize hAe : va_A [(o, .inr (8, [.ref k_name, .ref k_worth, .ref k_times, .ref k_first, .ref k_second, .ref k_beforeLast, .ref k_last, .ref k_errandOf, .ref k_errandAfter, .ref k_sound, .ref k_followers, .ref k_leaders, .int (nI w), .int k_errands, .int k_alikes, .int k_law])), (k_name, .inl (cJ, 24, .inr (.inl f_name))), (k_worth, .inl (cI, 24, .inl f_worth)), (k_times, .inl (cI, 24, .inl f_times))] s.heap.size = A at hD ⊢
  have hA : ∀ q : Nat, s.heap.size ≤ q → A q := fun q h => by rw [← hAe]; exact Or.inr h
  have hS : va_S A s.heap s.heap [] := va_S.rf
  have hP : va_P D vwCl [(o, .inr (8, [.ref k_name, .ref k_worth, .ref k_times, .ref k_first, .ref k_second, .ref k_beforeLast, .ref k_last, .ref k_errandOf, .ref k_errandAfter, .ref k_sound, .ref k_followers, .ref k_leaders, .int (nI w), .int k_errands, .int k_alikes, .int k_law])), (k_name, .inl (cJ, 24, .inr (.inl f_name))), (k_worth, .inl (cI, 24, .inl f_worth)), (k_times, .inl (cI, 24, .inl f_times))] s.heap := hP
  have hl := lv_entry ([.ref o, .long y, .int x, .int z]) (n := 5) (Nat.le_of_ble_eq_true rfl)
  rw [lg_entry_eq]
  generalize (lg_sl ([.ref o, .long y, .int x, .int z]) ++ List.replicate (5 - (lg_sl ([.ref o, .long y, .int x, .int z])).length) Slot.unset).toArray = ls at hl ⊢
  have hl : lv_has ls 5 [(0, .ref o), (1, .long y), (3, .int x), (4, .int z)] := hl
  refine lv_aload_n hx hb dX8_addWord_0 rfl (lv_at hl 0 rfl) ?_
  refine va_get (D := D) (ci := 8) (v := .int (nI w)) (C := RX8) (T := TX8) (N := 16) hx hb hts (by decide +kernel) hown hK hP 0 rfl rfl 12 (by decide) (hts (.fieldLink RX8 52 "LastLetter$Tongue" "words" "I") (by decide +kernel)) (fun _ h9 => h9) rfl dX8_addWord_1 ?_
  refine lv_bipush (v := 24) hx hb dX8_addWord_4 (by decide) ?_
  refine lv_icmp_ge (tgt := 50) hx hb dX8_addWord_6 (by decide) (fun c_1 => absurd c_1 (nI_ge (b := 24) hw (by decide))) (fun c_1 => ?_)
  refine lv_aload_n hx hb dX8_addWord_9 rfl (lv_at hl 0 rfl) ?_
  refine va_get (D := D) (ci := 8) (v := .ref k_name) (C := RX8) (T := TX8) (N := 16) hx hb hts (by decide +kernel) hown hK hP 0 rfl rfl 0 (by decide) (hts (.fieldLink RX8 9 "LastLetter$Tongue" "name" "[J") (by decide +kernel)) (fun _ h9 => h9) rfl dX8_addWord_10 ?_
  refine lv_aload_n hx hb dX8_addWord_13 rfl (lv_at hl 0 rfl) ?_
  refine va_get (D := D) (ci := 8) (v := .int (nI w)) (C := RX8) (T := TX8) (N := 16) hx hb hts (by decide +kernel) hown hK hP 0 rfl rfl 12 (by decide) (hts (.fieldLink RX8 52 "LastLetter$Tongue" "words" "I") (by decide +kernel)) (fun _ h9 => h9) rfl dX8_addWord_14 ?_
  refine lv_lload_n hx hb dX8_addWord_17 rfl (lv_at hl 1 rfl) ?_
  refine va_last hx hb hK hP hD hS 1 2 rfl rfl (vp_in_nI (by omega) (by omega)) dX8_addWord_18 (fun H locs hP hD hS => ?_)
  have hP : va_P D vwCl [(o, .inr (8, [.ref k_name, .ref k_worth, .ref k_times, .ref k_first, .ref k_second, .ref k_beforeLast, .ref k_last, .ref k_errandOf, .ref k_errandAfter, .ref k_sound, .ref k_followers, .ref k_leaders, .int (nI w), .int k_errands, .int k_alikes, .int k_law])), (k_name, .inl (cJ, 24, .inr (.inl (vp_updL f_name (Int32.toNatClampNeg (nI w)) y)))), (k_worth, .inl (cI, 24, .inl f_worth)), (k_times, .inl (cI, 24, .inl f_times))] H := hP
  have hD : va_D A [(o, .inr (8, [.ref k_name, .ref k_worth, .ref k_times, .ref k_first, .ref k_second, .ref k_beforeLast, .ref k_last, .ref k_errandOf, .ref k_errandAfter, .ref k_sound, .ref k_followers, .ref k_leaders, .int (nI w), .int k_errands, .int k_alikes, .int k_law])), (k_name, .inl (cJ, 24, .inr (.inl (vp_updL f_name (Int32.toNatClampNeg (nI w)) y)))), (k_worth, .inl (cI, 24, .inl f_worth)), (k_times, .inl (cI, 24, .inl f_times))] := hD
  generalize eg_2 : vp_updL f_name (Int32.toNatClampNeg (nI w)) y = g_2 at hP hD
  refine lv_aload_n hx hb dX8_addWord_19 rfl (lv_at hl 0 rfl) ?_
  refine va_get (D := D) (ci := 8) (v := .ref k_worth) (C := RX8) (T := TX8) (N := 16) hx hb hts (by decide +kernel) hown hK hP 0 rfl rfl 1 (by decide) (hts (.fieldLink RX8 15 "LastLetter$Tongue" "worth" "[I") (by decide +kernel)) (fun _ h9 => h9) rfl dX8_addWord_20 ?_
  refine lv_aload_n hx hb dX8_addWord_23 rfl (lv_at hl 0 rfl) ?_
  refine va_get (D := D) (ci := 8) (v := .int (nI w)) (C := RX8) (T := TX8) (N := 16) hx hb hts (by decide +kernel) hown hK hP 0 rfl rfl 12 (by decide) (hts (.fieldLink RX8 52 "LastLetter$Tongue" "words" "I") (by decide +kernel)) (fun _ h9 => h9) rfl dX8_addWord_24 ?_
  refine lv_iload_n hx hb dX8_addWord_27 rfl (lv_at hl 2 rfl) ?_
  refine va_iast hx hb hK hP hD hS 2 1 rfl rfl (vp_in_nI (by omega) (by omega)) dX8_addWord_28 (fun H locs hP hD hS => ?_)
  have hP : va_P D vwCl [(o, .inr (8, [.ref k_name, .ref k_worth, .ref k_times, .ref k_first, .ref k_second, .ref k_beforeLast, .ref k_last, .ref k_errandOf, .ref k_errandAfter, .ref k_sound, .ref k_followers, .ref k_leaders, .int (nI w), .int k_errands, .int k_alikes, .int k_law])), (k_name, .inl (cJ, 24, .inr (.inl g_2))), (k_worth, .inl (cI, 24, .inl (upd f_worth (Int32.toNatClampNeg (nI w)) x))), (k_times, .inl (cI, 24, .inl f_times))] H := hP
  have hD : va_D A [(o, .inr (8, [.ref k_name, .ref k_worth, .ref k_times, .ref k_first, .ref k_second, .ref k_beforeLast, .ref k_last, .ref k_errandOf, .ref k_errandAfter, .ref k_sound, .ref k_followers, .ref k_leaders, .int (nI w), .int k_errands, .int k_alikes, .int k_law])), (k_name, .inl (cJ, 24, .inr (.inl g_2))), (k_worth, .inl (cI, 24, .inl (upd f_worth (Int32.toNatClampNeg (nI w)) x))), (k_times, .inl (cI, 24, .inl f_times))] := hD
  generalize eg_3 : upd f_worth (Int32.toNatClampNeg (nI w)) x = g_3 at hP hD
  refine lv_aload_n hx hb dX8_addWord_29 rfl (lv_at hl 0 rfl) ?_
  refine va_get (D := D) (ci := 8) (v := .ref k_times) (C := RX8) (T := TX8) (N := 16) hx hb hts (by decide +kernel) hown hK hP 0 rfl rfl 2 (by decide) (hts (.fieldLink RX8 19 "LastLetter$Tongue" "times" "[I") (by decide +kernel)) (fun _ h9 => h9) rfl dX8_addWord_30 ?_
  refine lv_aload_n hx hb dX8_addWord_33 rfl (lv_at hl 0 rfl) ?_
  refine va_get (D := D) (ci := 8) (v := .int (nI w)) (C := RX8) (T := TX8) (N := 16) hx hb hts (by decide +kernel) hown hK hP 0 rfl rfl 12 (by decide) (hts (.fieldLink RX8 52 "LastLetter$Tongue" "words" "I") (by decide +kernel)) (fun _ h9 => h9) rfl dX8_addWord_34 ?_
  refine lv_iload hx hb dX8_addWord_37 (lv_at hl 3 rfl) ?_
  refine va_iast hx hb hK hP hD hS 3 1 rfl rfl (vp_in_nI (by omega) (by omega)) dX8_addWord_39 (fun H locs hP hD hS => ?_)
  have hP : va_P D vwCl [(o, .inr (8, [.ref k_name, .ref k_worth, .ref k_times, .ref k_first, .ref k_second, .ref k_beforeLast, .ref k_last, .ref k_errandOf, .ref k_errandAfter, .ref k_sound, .ref k_followers, .ref k_leaders, .int (nI w), .int k_errands, .int k_alikes, .int k_law])), (k_name, .inl (cJ, 24, .inr (.inl g_2))), (k_worth, .inl (cI, 24, .inl g_3)), (k_times, .inl (cI, 24, .inl (upd f_times (Int32.toNatClampNeg (nI w)) z)))] H := hP
  have hD : va_D A [(o, .inr (8, [.ref k_name, .ref k_worth, .ref k_times, .ref k_first, .ref k_second, .ref k_beforeLast, .ref k_last, .ref k_errandOf, .ref k_errandAfter, .ref k_sound, .ref k_followers, .ref k_leaders, .int (nI w), .int k_errands, .int k_alikes, .int k_law])), (k_name, .inl (cJ, 24, .inr (.inl g_2))), (k_worth, .inl (cI, 24, .inl g_3)), (k_times, .inl (cI, 24, .inl (upd f_times (Int32.toNatClampNeg (nI w)) z)))] := hD
  generalize eg_4 : upd f_times (Int32.toNatClampNeg (nI w)) z = g_4 at hP hD
  refine lv_aload_n hx hb dX8_addWord_40 rfl (lv_at hl 0 rfl) ?_
  refine lv_dup hx hb dX8_addWord_41 rfl ?_
  refine va_get (D := D) (ci := 8) (v := .int (nI w)) (C := RX8) (T := TX8) (N := 16) hx hb hts (by decide +kernel) hown hK hP 0 rfl rfl 12 (by decide) (hts (.fieldLink RX8 52 "LastLetter$Tongue" "words" "I") (by decide +kernel)) (fun _ h9 => h9) rfl dX8_addWord_42 ?_
  refine lv_iconst (v := 1) hx hb dX8_addWord_45 (by decide) ?_
  refine lv_iadd hx hb dX8_addWord_46 ?_
  refine xb_top (y := nI (w + 1)) (nI_add w 1) ?_
  refine va_put (D := D) (ci := 8) (v := .int (nI (w + 1))) (ty := .int) (C := RX8) (T := TX8) (N := 16) hx hb hts (by decide +kernel) tyX8 tyX8_ok nmX8 hown hK hP hD hS 0 rfl rfl 12 (by decide) (hts (.fieldLink RX8 52 "LastLetter$Tongue" "words" "I") (by decide +kernel)) (fun _ h9 => h9) rfl (by decide +kernel) rfl rfl (Nat.le_of_ble_eq_true rfl) dX8_addWord_47 (fun H locs hP hD hS => ?_)
  have hP : va_P D vwCl [(o, .inr (8, [.ref k_name, .ref k_worth, .ref k_times, .ref k_first, .ref k_second, .ref k_beforeLast, .ref k_last, .ref k_errandOf, .ref k_errandAfter, .ref k_sound, .ref k_followers, .ref k_leaders, .int (nI (w + 1)), .int k_errands, .int k_alikes, .int k_law])), (k_name, .inl (cJ, 24, .inr (.inl g_2))), (k_worth, .inl (cI, 24, .inl g_3)), (k_times, .inl (cI, 24, .inl g_4))] H := hP
  have hD : va_D A [(o, .inr (8, [.ref k_name, .ref k_worth, .ref k_times, .ref k_first, .ref k_second, .ref k_beforeLast, .ref k_last, .ref k_errandOf, .ref k_errandAfter, .ref k_sound, .ref k_followers, .ref k_leaders, .int (nI (w + 1)), .int k_errands, .int k_alikes, .int k_law])), (k_name, .inl (cJ, 24, .inr (.inl g_2))), (k_worth, .inl (cI, 24, .inl g_3)), (k_times, .inl (cI, 24, .inl g_4))] := hD
  have hP9 := hP.sub (ws' := [(o, .inr (8, [.ref k_name, .ref k_worth, .ref k_times, .ref k_first, .ref k_second, .ref k_beforeLast, .ref k_last, .ref k_errandOf, .ref k_errandAfter, .ref k_sound, .ref k_followers, .ref k_leaders, .int (nI (w + 1)), .int k_errands, .int k_alikes, .int k_law])), (k_name, .inl (cJ, 24, .inr (.inl g_2))), (k_worth, .inl (cI, 24, .inl g_3)), (k_times, .inl (cI, 24, .inl g_4))]) [0, 1, 2, 3] rfl
  have hD9 := hD.sub (ws' := [(o, .inr (8, [.ref k_name, .ref k_worth, .ref k_times, .ref k_first, .ref k_second, .ref k_beforeLast, .ref k_last, .ref k_errandOf, .ref k_errandAfter, .ref k_sound, .ref k_followers, .ref k_leaders, .int (nI (w + 1)), .int k_errands, .int k_alikes, .int k_law])), (k_name, .inl (cJ, 24, .inr (.inl g_2))), (k_worth, .inl (cI, 24, .inl g_3)), (k_times, .inl (cI, 24, .inl g_4))]) [0, 1, 2, 3] (by decide) rfl
  refine W.widen (k := 0) (n := 0) (Nat.le_of_ble_eq_true rfl) (Nat.le_of_ble_eq_true rfl) ?_
  exact W.vret hx hb hr (fun tz htz hWz => ⟨⟨[(o, .inr (8, [.ref k_name, .ref k_worth, .ref k_times, .ref k_first, .ref k_second, .ref k_beforeLast, .ref k_last, .ref k_errandOf, .ref k_errandAfter, .ref k_sound, .ref k_followers, .ref k_leaders, .int (nI (w + 1)), .int k_errands, .int k_alikes, .int k_law])), (k_name, .inl (cJ, 24, .inr (.inl g_2))), (k_worth, .inl (cI, 24, .inl g_3)), (k_times, .inl (cI, 24, .inl g_4))], rfl, ⟨g_2, g_3, g_4, rfl⟩, by rw [htz]; exact hP9, va_K.moved hWz.alike hK, hD9⟩, hS.F htz⟩) hS.2.2 dX8_addWord_50

set_option maxHeartbeats 4000000 in
set_option maxRecDepth 100000 in
theorem c_X8_addAlike (l : Launch) (D : va_G) (cB cI cJ cS cZ cO : ClassId) (sz : Nat) (o : Nat) (a1 : Nat) (b1 : Nat) (k_name : Nat) (k_worth : Nat) (k_times : Nat) (k_first : Nat) (k_second : Nat) (k_beforeLast : Nat) (k_last : Nat) (k_errandOf : Nat) (k_errandAfter : Nat) (k_sound : Nat) (k_followers : Nat) (k_leaders : Nat) (k_words : Int32) (k_errands : Int32) (k_alikes : Int32) (k_law : Int32) (f_sound : Nat → Int32) (ha1 : a1 < 26) (hb1 : b1 < 26) : Met l yX8_addAlike wsX8_addAlike ({ frames := 1, cells := 0, slots := 0, locals := 13 }) (xPre D (tyL cB cI cJ cS cZ cO) [(o, .inr (8, [.ref k_name, .ref k_worth, .ref k_times, .ref k_first, .ref k_second, .ref k_beforeLast, .ref k_last, .ref k_errandOf, .ref k_errandAfter, .ref k_sound, .ref k_followers, .ref k_leaders, .int k_words, .int k_errands, .int k_alikes, .int k_law])), (k_sound, .inl (cI, 26, .inl f_sound))] sz [.ref o, .int (nI a1), .int (nI b1)]) (xQv D (tyL cB cI cJ cS cZ cO) (va_A [(o, .inr (8, [.ref k_name, .ref k_worth, .ref k_times, .ref k_first, .ref k_second, .ref k_beforeLast, .ref k_last, .ref k_errandOf, .ref k_errandAfter, .ref k_sound, .ref k_followers, .ref k_leaders, .int k_words, .int k_errands, .int k_alikes, .int k_law])), (k_sound, .inl (cI, 26, .inl f_sound))] sz) (fun u : va_W => ∃ g : Nat → Int32, ∃ al : Int32, u = [(o, .inr (8, [.ref k_name, .ref k_worth, .ref k_times, .ref k_first, .ref k_second, .ref k_beforeLast, .ref k_last, .ref k_errandOf, .ref k_errandAfter, .ref k_sound, .ref k_followers, .ref k_leaders, .int k_words, .int k_errands, .int al, .int k_law])), (k_sound, .inl (cI, 26, .inl g))])) 0 0 (va_A [(o, .inr (8, [.ref k_name, .ref k_worth, .ref k_times, .ref k_first, .ref k_second, .ref k_beforeLast, .ref k_last, .ref k_errandOf, .ref k_errandAfter, .ref k_sound, .ref k_followers, .ref k_leaders, .int k_words, .int k_errands, .int k_alikes, .int k_law])), (k_sound, .inl (cI, 26, .inl f_sound))] sz) := by
  refine Met.ofW (cc := cX8_addAlike) (maxL := 6) (ret := none) (by decide) rfl ?_
  intro p e s m args below meth c s₁ B hml hv
  obtain ⟨rfl, hsz, hP, hK, hD0, hN⟩ := hv
  have hx := B.exec
  have hb := B.bytes
  have hr := B.returns
  have hts := atoms_spec (ws := wsX8_addAlike) B.pre
  have hown : s.vm.findClass RX8 = some m.cls := findClass_of_methodNamed B.named
  have hlocks := B.notSynchronized
  subst hsz
  have hD := hD0.self (sz := s.heap.size)
  generalize hAe : va_A [(o, .inr (8, [.ref k_name, .ref k_worth, .ref k_times, .ref k_first, .ref k_second, .ref k_beforeLast, .ref k_last, .ref k_errandOf, .ref k_errandAfter, .ref k_sound, .ref k_followers, .ref k_leaders, .int k_words, .int k_errands, .int k_alikes, .int k_law])), (k_sound, .inl (cI, 26, .inl f_sound))] s.heap.size = A at hD ⊢
  have hA : ∀ q : Nat, s.heap.size ≤ q → A q := fun q h => by rw [← hAe]; exact Or.inr h
  have hS : va_S A s.heap s.heap [] := va_S.rf
  have hP : va_P D vwCl [(o, .inr (8, [.ref k_name, .ref k_worth, .ref k_times, .ref k_first, .ref k_second, .ref k_beforeLast, .ref k_last, .ref k_errandOf, .ref k_errandAfter, .ref k_sound, .ref k_followers, .ref k_leaders, .int k_words, .int k_errands, .int k_alikes, .int k_law])), (k_sound, .inl (cI, 26, .inl f_sound))] s.heap := hP
  have hl := lv_entry ([.ref o, .int (nI a1), .int (nI b1)]) (n := 6) (Nat.le_of_ble_eq_true rfl)
  rw [lg_entry_eq]
  generalize (lg_sl ([.ref o, .int (nI a1), .int (nI b1)]) ++ List.replicate (6 - (lg_sl ([.ref o, .int (nI a1), .int (nI b1)])).length) Slot.unset).toArray = ls at hl ⊢
  have hl : lv_has ls 6 [(0, .ref o), (1, .int (nI a1)), (2, .int (nI b1))] := hl
  refine lv_aload_n hx hb dX8_addAlike_0 rfl (lv_at hl 0 rfl) ?_
  refine va_get (D := D) (ci := 8) (v := .ref k_sound) (C := RX8) (T := TX8) (N := 16) hx hb hts (by decide +kernel) hown hK hP 0 rfl rfl 9 (by decide) (hts (.fieldLink RX8 40 "LastLetter$Tongue" "sound" "[I") (by decide +kernel)) (fun _ h9 => h9) rfl dX8_addAlike_1 ?_
  refine lv_iload_n hx hb dX8_addAlike_4 rfl (lv_at hl 1 rfl) ?_
  refine va_iald hx hb hK hP 1 1 rfl rfl (vp_in_nI (by omega) (by omega)) dX8_addAlike_5 ?_
  refine xb_top (y := f_sound a1) (by rw [nI_clamp (by omega)]) ?_
  refine lv_aload_n hx hb dX8_addAlike_6 rfl (lv_at hl 0 rfl) ?_
  refine va_get (D := D) (ci := 8) (v := .ref k_sound) (C := RX8) (T := TX8) (N := 16) hx hb hts (by decide +kernel) hown hK hP 0 rfl rfl 9 (by decide) (hts (.fieldLink RX8 40 "LastLetter$Tongue" "sound" "[I") (by decide +kernel)) (fun _ h9 => h9) rfl dX8_addAlike_7 ?_
  refine lv_iload_n hx hb dX8_addAlike_10 rfl (lv_at hl 2 rfl) ?_
  refine va_iald hx hb hK hP 1 1 rfl rfl (vp_in_nI (by omega) (by omega)) dX8_addAlike_11 ?_
  refine xb_top (y := f_sound b1) (by rw [nI_clamp (by omega)]) ?_
  refine va_mmin hx hb (hml.trans hl.1.symm) hown (hts (.methodLink RX8 81 Lib.Math.min.name) (by decide +kernel)) (hts (.static Lib.Math.min.name) (by decide +kernel)) (hts (.initialized "java/lang/Math") (by decide +kernel)) (hts (.code Lib.Math.min.name Lib.Math.min.code 2 (some .int)) (by decide +kernel)) (Nat.le_of_ble_eq_true rfl) (Nat.le_of_ble_eq_true rfl) (Nat.le_of_ble_eq_true rfl) (Nat.le_of_ble_eq_true rfl) dX8_addAlike_12 ?_
  refine lv_topi (fun v_1 ev_1 => ?_)
  refine lv_istore_n (lv' := [(3, .int v_1), (0, .ref o), (1, .int (nI a1)), (2, .int (nI b1))]) hx hb dX8_addAlike_15 rfl hl (by decide) rfl (fun ls hl => ?_)
  refine lv_aload_n hx hb dX8_addAlike_16 rfl (lv_at hl 1 rfl) ?_
  refine va_get (D := D) (ci := 8) (v := .ref k_sound) (C := RX8) (T := TX8) (N := 16) hx hb hts (by decide +kernel) hown hK hP 0 rfl rfl 9 (by decide) (hts (.fieldLink RX8 40 "LastLetter$Tongue" "sound" "[I") (by decide +kernel)) (fun _ h9 => h9) rfl dX8_addAlike_17 ?_
  refine lv_iload_n hx hb dX8_addAlike_20 rfl (lv_at hl 2 rfl) ?_
  refine va_iald hx hb hK hP 1 1 rfl rfl (vp_in_nI (by omega) (by omega)) dX8_addAlike_21 ?_
  refine xb_top (y := f_sound a1) (by rw [nI_clamp (by omega)]) ?_
  refine lv_aload_n hx hb dX8_addAlike_22 rfl (lv_at hl 1 rfl) ?_
  refine va_get (D := D) (ci := 8) (v := .ref k_sound) (C := RX8) (T := TX8) (N := 16) hx hb hts (by decide +kernel) hown hK hP 0 rfl rfl 9 (by decide) (hts (.fieldLink RX8 40 "LastLetter$Tongue" "sound" "[I") (by decide +kernel)) (fun _ h9 => h9) rfl dX8_addAlike_23 ?_
  refine lv_iload_n hx hb dX8_addAlike_26 rfl (lv_at hl 3 rfl) ?_
  refine va_iald hx hb hK hP 1 1 rfl rfl (vp_in_nI (by omega) (by omega)) dX8_addAlike_27 ?_
  refine xb_top (y := f_sound b1) (by rw [nI_clamp (by omega)]) ?_
  refine va_mmax hx hb (hml.trans hl.1.symm) hown (hts (.methodLink RX8 87 Lib.Math.max.name) (by decide +kernel)) (hts (.static Lib.Math.max.name) (by decide +kernel)) (hts (.initialized "java/lang/Math") (by decide +kernel)) (hts (.code Lib.Math.max.name Lib.Math.max.code 2 (some .int)) (by decide +kernel)) (Nat.le_of_ble_eq_true rfl) (Nat.le_of_ble_eq_true rfl) (Nat.le_of_ble_eq_true rfl) (Nat.le_of_ble_eq_true rfl) dX8_addAlike_28 ?_
  refine lv_topi (fun v_2 ev_2 => ?_)
  refine lv_istore (lv' := [(4, .int v_2), (3, .int v_1), (0, .ref o), (1, .int (nI a1)), (2, .int (nI b1))]) hx hb dX8_addAlike_31 hl (by decide) rfl (fun ls hl => ?_)
  refine lv_iconst (v := 0) hx hb dX8_addAlike_33 (by decide) ?_
  refine lv_istore (lv' := [(5, .int 0), (4, .int v_2), (3, .int v_1), (0, .ref o), (1, .int (nI a1)), (2, .int (nI b1))]) hx hb dX8_addAlike_34 hl (by decide) rfl (fun ls hl => ?_)
  refine xb_wh (fun (n9 : Nat) H locs ls => ∃ i : Nat, ∃ g : Nat → Int32, (26 - i) = n9 ∧ va_P D vwCl [(o, .inr (8, [.ref k_name, .ref k_worth, .ref k_times, .ref k_first, .ref k_second, .ref k_beforeLast, .ref k_last, .ref k_errandOf, .ref k_errandAfter, .ref k_sound, .ref k_followers, .ref k_leaders, .int k_words, .int k_errands, .int k_alikes, .int k_law])), (k_sound, .inl (cI, 26, .inl g))] H ∧ va_D A [(o, .inr (8, [.ref k_name, .ref k_worth, .ref k_times, .ref k_first, .ref k_second, .ref k_beforeLast, .ref k_last, .ref k_errandOf, .ref k_errandAfter, .ref k_sound, .ref k_followers, .ref k_leaders, .int k_words, .int k_errands, .int k_alikes, .int k_law])), (k_sound, .inl (cI, 26, .inl g))] ∧ va_S A s.heap H locs ∧ lv_has ls 6 [(5, .int (nI i)), (4, .int v_2), (3, .int v_1), (0, .ref o), (1, .int (nI a1)), (2, .int (nI b1))] ∧ (i ≤ 26)) ⟨0, f_sound, rfl, hP, hD, hS, lv_sub hl [0, 1, 2, 3, 4, 5] rfl, (by first | assumption | omega)⟩ (fun n9 H locs ls hI kk_36 => ?_)
  obtain ⟨i, g, hn_36, hP, hD, hS, hl, hF_h_3⟩ := hI
  refine lv_iload hx hb dX8_addAlike_36 (lv_at hl 0 rfl) ?_
  refine lv_bipush (v := 26) hx hb dX8_addAlike_38 (by decide) ?_
  refine lv_icmp_ge (tgt := 69) hx hb dX8_addAlike_40 (by decide) (fun c_4 => ?_) (fun c_4 => ?_)
  · have dc_4 : 26 ≤ i := (nI_leI (a := 26) (b := i) (by omega) (by omega)).mp c_4
    refine lv_aload_n hx hb dX8_addAlike_69 rfl (lv_at hl 3 rfl) ?_
    refine lv_dup hx hb dX8_addAlike_70 rfl ?_
    refine va_get (D := D) (ci := 8) (v := .int k_alikes) (C := RX8) (T := TX8) (N := 16) hx hb hts (by decide +kernel) hown hK hP 0 rfl rfl 14 (by decide) (hts (.fieldLink RX8 59 "LastLetter$Tongue" "alikes" "I") (by decide +kernel)) (fun _ h9 => h9) rfl dX8_addAlike_71 ?_
    refine lv_iconst (v := 1) hx hb dX8_addAlike_74 (by decide) ?_
    refine lv_iadd hx hb dX8_addAlike_75 ?_
    refine lv_topi (fun f_5 ef_5 => ?_)
    refine va_put (D := D) (ci := 8) (v := .int f_5) (ty := .int) (C := RX8) (T := TX8) (N := 16) hx hb hts (by decide +kernel) tyX8 tyX8_ok nmX8 hown hK hP hD hS 0 rfl rfl 14 (by decide) (hts (.fieldLink RX8 59 "LastLetter$Tongue" "alikes" "I") (by decide +kernel)) (fun _ h9 => h9) rfl (by decide +kernel) rfl rfl (Nat.le_of_ble_eq_true rfl) dX8_addAlike_76 (fun H locs hP hD hS => ?_)
    have hP : va_P D vwCl [(o, .inr (8, [.ref k_name, .ref k_worth, .ref k_times, .ref k_first, .ref k_second, .ref k_beforeLast, .ref k_last, .ref k_errandOf, .ref k_errandAfter, .ref k_sound, .ref k_followers, .ref k_leaders, .int k_words, .int k_errands, .int f_5, .int k_law])), (k_sound, .inl (cI, 26, .inl g))] H := hP
    have hD : va_D A [(o, .inr (8, [.ref k_name, .ref k_worth, .ref k_times, .ref k_first, .ref k_second, .ref k_beforeLast, .ref k_last, .ref k_errandOf, .ref k_errandAfter, .ref k_sound, .ref k_followers, .ref k_leaders, .int k_words, .int k_errands, .int f_5, .int k_law])), (k_sound, .inl (cI, 26, .inl g))] := hD
    have hP9 := hP.sub (ws' := [(o, .inr (8, [.ref k_name, .ref k_worth, .ref k_times, .ref k_first, .ref k_second, .ref k_beforeLast, .ref k_last, .ref k_errandOf, .ref k_errandAfter, .ref k_sound, .ref k_followers, .ref k_leaders, .int k_words, .int k_errands, .int f_5, .int k_law])), (k_sound, .inl (cI, 26, .inl g))]) [0, 1] rfl
    have hD9 := hD.sub (ws' := [(o, .inr (8, [.ref k_name, .ref k_worth, .ref k_times, .ref k_first, .ref k_second, .ref k_beforeLast, .ref k_last, .ref k_errandOf, .ref k_errandAfter, .ref k_sound, .ref k_followers, .ref k_leaders, .int k_words, .int k_errands, .int f_5, .int k_law])), (k_sound, .inl (cI, 26, .inl g))]) [0, 1] (by decide) rfl
    refine W.widen (k := 0) (n := 0) (Nat.le_of_ble_eq_true rfl) (Nat.le_of_ble_eq_true rfl) ?_
    exact W.vret hx hb hr (fun tz htz hWz => ⟨⟨[(o, .inr (8, [.ref k_name, .ref k_worth, .ref k_times, .ref k_first, .ref k_second, .ref k_beforeLast, .ref k_last, .ref k_errandOf, .ref k_errandAfter, .ref k_sound, .ref k_followers, .ref k_leaders, .int k_words, .int k_errands, .int f_5, .int k_law])), (k_sound, .inl (cI, 26, .inl g))], rfl, ⟨g, f_5, rfl⟩, by rw [htz]; exact hP9, va_K.moved hWz.alike hK, hD9⟩, hS.F htz⟩) hS.2.2 dX8_addAlike_79
  · have dc_4 : ¬ 26 ≤ i := fun h => c_4 ((nI_leI (a := 26) (b := i) (by omega) (by omega)).mpr h)
    refine lv_aload_n hx hb dX8_addAlike_43 rfl (lv_at hl 3 rfl) ?_
    refine va_get (D := D) (ci := 8) (v := .ref k_sound) (C := RX8) (T := TX8) (N := 16) hx hb hts (by decide +kernel) hown hK hP 0 rfl rfl 9 (by decide) (hts (.fieldLink RX8 40 "LastLetter$Tongue" "sound" "[I") (by decide +kernel)) (fun _ h9 => h9) rfl dX8_addAlike_44 ?_
    refine lv_iload hx hb dX8_addAlike_47 (lv_at hl 0 rfl) ?_
    refine va_iald hx hb hK hP 1 1 rfl rfl (vp_in_nI (by omega) (by omega)) dX8_addAlike_49 ?_
    refine xb_top (y := g i) (by rw [nI_clamp (by omega)]) ?_
    refine lv_iload hx hb dX8_addAlike_50 (lv_at hl 1 rfl) ?_
    refine lv_icmp_ne (tgt := 63) hx hb dX8_addAlike_52 (by decide) (fun c_6 => ?_) (fun c_6 => ?_)
    · refine lv_iinc (v := nI (i + 1)) (lv' := [(5, .int (nI (i + 1))), (4, .int v_2), (3, .int v_1), (0, .ref o), (1, .int (nI a1)), (2, .int (nI b1))]) hx hb dX8_addAlike_63 hl (k := 0) rfl (nI_1 i) (by decide) rfl (fun ls hl => ?_)
      refine lv_goto (tgt := 36) hx hb dX8_addAlike_66 (by decide) ?_
      exact kk_36 _ _ _ _ (by rw [← hn_36]; omega) ⟨(i + 1), g, rfl, hP, hD, hS, lv_sub hl [0, 1, 2, 3, 4, 5] rfl, (by first | assumption | omega)⟩
    · refine lv_aload_n hx hb dX8_addAlike_55 rfl (lv_at hl 3 rfl) ?_
      refine va_get (D := D) (ci := 8) (v := .ref k_sound) (C := RX8) (T := TX8) (N := 16) hx hb hts (by decide +kernel) hown hK hP 0 rfl rfl 9 (by decide) (hts (.fieldLink RX8 40 "LastLetter$Tongue" "sound" "[I") (by decide +kernel)) (fun _ h9 => h9) rfl dX8_addAlike_56 ?_
      refine lv_iload hx hb dX8_addAlike_59 (lv_at hl 0 rfl) ?_
      refine lv_iload_n hx hb dX8_addAlike_61 rfl (lv_at hl 2 rfl) ?_
      refine va_iast hx hb hK hP hD hS 1 1 rfl rfl (vp_in_nI (by omega) (by omega)) dX8_addAlike_62 (fun H locs hP hD hS => ?_)
      have hP : va_P D vwCl [(o, .inr (8, [.ref k_name, .ref k_worth, .ref k_times, .ref k_first, .ref k_second, .ref k_beforeLast, .ref k_last, .ref k_errandOf, .ref k_errandAfter, .ref k_sound, .ref k_followers, .ref k_leaders, .int k_words, .int k_errands, .int k_alikes, .int k_law])), (k_sound, .inl (cI, 26, .inl (upd g (Int32.toNatClampNeg (nI i)) v_1)))] H := hP
      have hD : va_D A [(o, .inr (8, [.ref k_name, .ref k_worth, .ref k_times, .ref k_first, .ref k_second, .ref k_beforeLast, .ref k_last, .ref k_errandOf, .ref k_errandAfter, .ref k_sound, .ref k_followers, .ref k_leaders, .int k_words, .int k_errands, .int k_alikes, .int k_law])), (k_sound, .inl (cI, 26, .inl (upd g (Int32.toNatClampNeg (nI i)) v_1)))] := hD
      generalize eg_7 : upd g (Int32.toNatClampNeg (nI i)) v_1 = g_7 at hP hD
      refine lv_iinc (v := nI (i + 1)) (lv' := [(5, .int (nI (i + 1))), (4, .int v_2), (3, .int v_1), (0, .ref o), (1, .int (nI a1)), (2, .int (nI b1))]) hx hb dX8_addAlike_63 hl (k := 0) rfl (nI_1 i) (by decide) rfl (fun ls hl => ?_)
      refine lv_goto (tgt := 36) hx hb dX8_addAlike_66 (by decide) ?_
      exact kk_36 _ _ _ _ (by rw [← hn_36]; omega) ⟨(i + 1), g_7, rfl, hP, hD, hS, lv_sub hl [0, 1, 2, 3, 4, 5] rfl, (by first | assumption | omega)⟩

set_option maxHeartbeats 4000000 in
set_option maxRecDepth 100000 in
theorem c_X8_addErrand (l : Launch) (D : va_G) (cB cI cJ cS cZ cO : ClassId) (sz : Nat) (o : Nat) (x : Int32) (y : Int32) (k_name : Nat) (k_worth : Nat) (k_times : Nat) (k_first : Nat) (k_second : Nat) (k_beforeLast : Nat) (k_last : Nat) (k_errandOf : Nat) (k_errandAfter : Nat) (k_sound : Nat) (k_followers : Nat) (k_leaders : Nat) (w : Nat) (er : Nat) (k_alikes : Int32) (k_law : Int32) (f_errandOf : Nat → Int32) (f_errandAfter : Nat → Int32) (hw : w ≤ 24) (he : er ≤ 6) (hm : rgM f_errandOf 24 6) : Met l yX8_addErrand wsX8_addErrand ({ frames := 1, cells := 0, slots := 0, locals := 21 }) (xPre D (tyL cB cI cJ cS cZ cO) [(o, .inr (8, [.ref k_name, .ref k_worth, .ref k_times, .ref k_first, .ref k_second, .ref k_beforeLast, .ref k_last, .ref k_errandOf, .ref k_errandAfter, .ref k_sound, .ref k_followers, .ref k_leaders, .int (nI w), .int (nI er), .int k_alikes, .int k_law])), (k_errandOf, .inl (cI, 24, .inl f_errandOf)), (k_errandAfter, .inl (cI, 6, .inl f_errandAfter))] sz [.ref o, .int x, .int y]) (xQv D (tyL cB cI cJ cS cZ cO) (va_A [(o, .inr (8, [.ref k_name, .ref k_worth, .ref k_times, .ref k_first, .ref k_second, .ref k_beforeLast, .ref k_last, .ref k_errandOf, .ref k_errandAfter, .ref k_sound, .ref k_followers, .ref k_leaders, .int (nI w), .int (nI er), .int k_alikes, .int k_law])), (k_errandOf, .inl (cI, 24, .inl f_errandOf)), (k_errandAfter, .inl (cI, 6, .inl f_errandAfter))] sz) (fun u : va_W => ∃ e2 : Nat, ∃ g1 : Nat → Int32, ∃ g2 : Nat → Int32, u = [(o, .inr (8, [.ref k_name, .ref k_worth, .ref k_times, .ref k_first, .ref k_second, .ref k_beforeLast, .ref k_last, .ref k_errandOf, .ref k_errandAfter, .ref k_sound, .ref k_followers, .ref k_leaders, .int (nI w), .int (nI e2), .int k_alikes, .int k_law])), (k_errandOf, .inl (cI, 24, .inl g1)), (k_errandAfter, .inl (cI, 6, .inl g2))] ∧ e2 ≤ 6 ∧ rgM g1 24 6)) 0 0 (va_A [(o, .inr (8, [.ref k_name, .ref k_worth, .ref k_times, .ref k_first, .ref k_second, .ref k_beforeLast, .ref k_last, .ref k_errandOf, .ref k_errandAfter, .ref k_sound, .ref k_followers, .ref k_leaders, .int (nI w), .int (nI er), .int k_alikes, .int k_law])), (k_errandOf, .inl (cI, 24, .inl f_errandOf)), (k_errandAfter, .inl (cI, 6, .inl f_errandAfter))] sz) := by
  refine Met.ofW (cc := cX8_addErrand) (maxL := 3) (ret := none) (by decide) rfl ?_
  intro p e s m args below meth c s₁ B hml hv
  obtain ⟨rfl, hsz, hP, hK, hD0, hN⟩ := hv
  have hx := B.exec
  have hb := B.bytes
  have hr := B.returns
  have hts := atoms_spec (ws := wsX8_addErrand) B.pre
  have hown : s.vm.findClass RX8 = some m.cls := findClass_of_methodNamed B.named
  have hlocks := B.notSynchronized
  subst hsz
  have hD := hD0.self (sz := s.heap.size)
  generalize hAe : va_A [(o, .inr (8, [.ref k_name, .ref k_worth, .ref k_times, .ref k_first, .ref k_second, .ref k_beforeLast, .ref k_last, .ref k_errandOf, .ref k_errandAfter, .ref k_sound, .ref k_followers, .ref k_leaders, .int (nI w), .int (nI er), .int k_alikes, .int k_law])), (k_errandOf, .inl (cI, 24, .inl f_errandOf)), (k_errandAfter, .inl (cI, 6, .inl f_errandAfter))] s.heap.size = A at hD ⊢
  have hA : ∀ q : Nat, s.heap.size ≤ q → A q := fun q h => by rw [← hAe]; exact Or.inr h
  have hS : va_S A s.heap s.heap [] := va_S.rf
  have hP : va_P D vwCl [(o, .inr (8, [.ref k_name, .ref k_worth, .ref k_times, .ref k_first, .ref k_second, .ref k_beforeLast, .ref k_last, .ref k_errandOf, .ref k_errandAfter, .ref k_sound, .ref k_followers, .ref k_leaders, .int (nI w), .int (nI er), .int k_alikes, .int k_law])), (k_errandOf, .inl (cI, 24, .inl f_errandOf)), (k_errandAfter, .inl (cI, 6, .inl f_errandAfter))] s.heap := hP
  have hl := lv_entry ([.ref o, .int x, .int y]) (n := 3) (Nat.le_of_ble_eq_true rfl)
  rw [lg_entry_eq]
  generalize (lg_sl ([.ref o, .int x, .int y]) ++ List.replicate (3 - (lg_sl ([.ref o, .int x, .int y])).length) Slot.unset).toArray = ls at hl ⊢
  have hl : lv_has ls 3 [(0, .ref o), (1, .int x), (2, .int y)] := hl
  refine lv_aload_n hx hb dX8_addErrand_0 rfl (lv_at hl 0 rfl) ?_
  refine va_get (D := D) (ci := 8) (v := .int (nI er)) (C := RX8) (T := TX8) (N := 16) hx hb hts (by decide +kernel) hown hK hP 0 rfl rfl 13 (by decide) (hts (.fieldLink RX8 56 "LastLetter$Tongue" "errands" "I") (by decide +kernel)) (fun _ h9 => h9) rfl dX8_addErrand_1 ?_
  refine lv_bipush (v := 6) hx hb dX8_addErrand_4 (by decide) ?_
  refine lv_icmp_ge (tgt := 47) hx hb dX8_addErrand_6 (by decide) (fun c_1 => ?_) (fun c_1 => ?_)
  · have dc_1 : 6 ≤ er := (nI_leI (a := 6) (b := er) (by omega) (by omega)).mp c_1
    have hP9 := hP.sub (ws' := [(o, .inr (8, [.ref k_name, .ref k_worth, .ref k_times, .ref k_first, .ref k_second, .ref k_beforeLast, .ref k_last, .ref k_errandOf, .ref k_errandAfter, .ref k_sound, .ref k_followers, .ref k_leaders, .int (nI w), .int (nI er), .int k_alikes, .int k_law])), (k_errandOf, .inl (cI, 24, .inl f_errandOf)), (k_errandAfter, .inl (cI, 6, .inl f_errandAfter))]) [0, 1, 2] rfl
    have hD9 := hD.sub (ws' := [(o, .inr (8, [.ref k_name, .ref k_worth, .ref k_times, .ref k_first, .ref k_second, .ref k_beforeLast, .ref k_last, .ref k_errandOf, .ref k_errandAfter, .ref k_sound, .ref k_followers, .ref k_leaders, .int (nI w), .int (nI er), .int k_alikes, .int k_law])), (k_errandOf, .inl (cI, 24, .inl f_errandOf)), (k_errandAfter, .inl (cI, 6, .inl f_errandAfter))]) [0, 1, 2] (by decide) rfl
    refine W.widen (k := 0) (n := 0) (Nat.le_of_ble_eq_true rfl) (Nat.le_of_ble_eq_true rfl) ?_
    exact W.vret hx hb hr (fun tz htz hWz => ⟨⟨[(o, .inr (8, [.ref k_name, .ref k_worth, .ref k_times, .ref k_first, .ref k_second, .ref k_beforeLast, .ref k_last, .ref k_errandOf, .ref k_errandAfter, .ref k_sound, .ref k_followers, .ref k_leaders, .int (nI w), .int (nI er), .int k_alikes, .int k_law])), (k_errandOf, .inl (cI, 24, .inl f_errandOf)), (k_errandAfter, .inl (cI, 6, .inl f_errandAfter))], rfl, ⟨er, f_errandOf, f_errandAfter, rfl, (by omega), hm⟩, by rw [htz]; exact hP9, va_K.moved hWz.alike hK, hD9⟩, hS.F htz⟩) hS.2.2 dX8_addErrand_47
  · have dc_1 : ¬ 6 ≤ er := fun h => c_1 ((nI_leI (a := 6) (b := er) (by omega) (by omega)).mpr h)
    refine lv_aload_n hx hb dX8_addErrand_9 rfl (lv_at hl 0 rfl) ?_
    refine lv_iload_n hx hb dX8_addErrand_10 rfl (lv_at hl 1 rfl) ?_
    refine xCi (wr := [(k_errandOf, .inl (cI, 24, .inl f_errandOf)), (k_errandAfter, .inl (cI, 6, .inl f_errandAfter))]) (win := [(o, .inr (8, [.ref k_name, .ref k_worth, .ref k_times, .ref k_first, .ref k_second, .ref k_beforeLast, .ref k_last, .ref k_errandOf, .ref k_errandAfter, .ref k_sound, .ref k_followers, .ref k_leaders, .int (nI w), .int (nI er), .int k_alikes, .int k_law]))]) hP hD hS hA [0] [1, 2] rfl rfl (by decide) (by decide) (va_runV (As := [.int x]) (rest := []) ⟨hx, hb, hml, hown, hts⟩ (c_X8_has l D cB cI cJ cS cZ cO s.heap.size o x k_name k_worth k_times k_first k_second k_beforeLast k_last k_errandOf k_errandAfter k_sound k_followers k_leaders w (nI er) k_alikes k_law (by first | assumption | omega | decide)) (cwV 1 hts gX8_addErrand_X8_has rfl rfl rfl (by decide +kernel) ⟨Nat.le_of_ble_eq_true rfl, Nat.le_of_ble_eq_true rfl⟩) (xPreV (win := [(o, .inr (8, [.ref k_name, .ref k_worth, .ref k_times, .ref k_first, .ref k_second, .ref k_beforeLast, .ref k_last, .ref k_errandOf, .ref k_errandAfter, .ref k_sound, .ref k_followers, .ref k_leaders, .int (nI w), .int (nI er), .int k_alikes, .int k_law]))]) hN hK hP hD [0] (by decide) rfl 0 8 rfl rfl rfl) rfl rfl hl.1 rfl (lv_room (Nat.le_of_ble_eq_true rfl)) dX8_addErrand_11 ⟨Nat.le_of_ble_eq_true rfl, Nat.le_of_ble_eq_true rfl⟩) (fun r_2 w0 H locs hw hP hD hS => ?_)
    obtain ⟨rfl, hf_3⟩ := hw
    have hP : va_P D vwCl [(k_errandOf, .inl (cI, 24, .inl f_errandOf)), (k_errandAfter, .inl (cI, 6, .inl f_errandAfter)), (o, .inr (8, [.ref k_name, .ref k_worth, .ref k_times, .ref k_first, .ref k_second, .ref k_beforeLast, .ref k_last, .ref k_errandOf, .ref k_errandAfter, .ref k_sound, .ref k_followers, .ref k_leaders, .int (nI w), .int (nI er), .int k_alikes, .int k_law]))] H := hP
    have hD : va_D A [(k_errandOf, .inl (cI, 24, .inl f_errandOf)), (k_errandAfter, .inl (cI, 6, .inl f_errandAfter)), (o, .inr (8, [.ref k_name, .ref k_worth, .ref k_times, .ref k_first, .ref k_second, .ref k_beforeLast, .ref k_last, .ref k_errandOf, .ref k_errandAfter, .ref k_sound, .ref k_followers, .ref k_leaders, .int (nI w), .int (nI er), .int k_alikes, .int k_law]))] := hD
    refine lv_if_eq (tgt := 47) hx hb dX8_addErrand_14 (by decide) (fun c_4 => ?_) (fun c_4 => ?_)
    · have hP9 := hP.sub (ws' := [(o, .inr (8, [.ref k_name, .ref k_worth, .ref k_times, .ref k_first, .ref k_second, .ref k_beforeLast, .ref k_last, .ref k_errandOf, .ref k_errandAfter, .ref k_sound, .ref k_followers, .ref k_leaders, .int (nI w), .int (nI er), .int k_alikes, .int k_law])), (k_errandOf, .inl (cI, 24, .inl f_errandOf)), (k_errandAfter, .inl (cI, 6, .inl f_errandAfter))]) [2, 0, 1] rfl
      have hD9 := hD.sub (ws' := [(o, .inr (8, [.ref k_name, .ref k_worth, .ref k_times, .ref k_first, .ref k_second, .ref k_beforeLast, .ref k_last, .ref k_errandOf, .ref k_errandAfter, .ref k_sound, .ref k_followers, .ref k_leaders, .int (nI w), .int (nI er), .int k_alikes, .int k_law])), (k_errandOf, .inl (cI, 24, .inl f_errandOf)), (k_errandAfter, .inl (cI, 6, .inl f_errandAfter))]) [2, 0, 1] (by decide) rfl
      refine W.widen (k := 0) (n := 0) (Nat.le_of_ble_eq_true rfl) (Nat.le_of_ble_eq_true rfl) ?_
      exact W.vret hx hb hr (fun tz htz hWz => ⟨⟨[(o, .inr (8, [.ref k_name, .ref k_worth, .ref k_times, .ref k_first, .ref k_second, .ref k_beforeLast, .ref k_last, .ref k_errandOf, .ref k_errandAfter, .ref k_sound, .ref k_followers, .ref k_leaders, .int (nI w), .int (nI er), .int k_alikes, .int k_law])), (k_errandOf, .inl (cI, 24, .inl f_errandOf)), (k_errandAfter, .inl (cI, 6, .inl f_errandAfter))], rfl, ⟨er, f_errandOf, f_errandAfter, rfl, (by omega), hm⟩, by rw [htz]; exact hP9, va_K.moved hWz.alike hK, hD9⟩, hS.F htz⟩) hS.2.2 dX8_addErrand_47
    · obtain ⟨-, q1, hq1, rfl⟩ := hf_3.resolve_left c_4
      refine lv_aload_n hx hb dX8_addErrand_17 rfl (lv_at hl 0 rfl) ?_
      refine va_get (D := D) (ci := 8) (v := .ref k_errandAfter) (C := RX8) (T := TX8) (N := 16) hx hb hts (by decide +kernel) hown hK hP 2 rfl rfl 8 (by decide) (hts (.fieldLink RX8 37 "LastLetter$Tongue" "errandAfter" "[I") (by decide +kernel)) (fun _ h9 => h9) rfl dX8_addErrand_18 ?_
      refine lv_aload_n hx hb dX8_addErrand_21 rfl (lv_at hl 0 rfl) ?_
      refine va_get (D := D) (ci := 8) (v := .int (nI er)) (C := RX8) (T := TX8) (N := 16) hx hb hts (by decide +kernel) hown hK hP 2 rfl rfl 13 (by decide) (hts (.fieldLink RX8 56 "LastLetter$Tongue" "errands" "I") (by decide +kernel)) (fun _ h9 => h9) rfl dX8_addErrand_22 ?_
      refine lv_iload_n hx hb dX8_addErrand_25 rfl (lv_at hl 2 rfl) ?_
      refine va_iast hx hb hK hP hD hS 1 1 rfl rfl (vp_in_nI (by omega) (by omega)) dX8_addErrand_26 (fun H locs hP hD hS => ?_)
      have hP : va_P D vwCl [(k_errandOf, .inl (cI, 24, .inl f_errandOf)), (k_errandAfter, .inl (cI, 6, .inl (upd f_errandAfter (Int32.toNatClampNeg (nI er)) y))), (o, .inr (8, [.ref k_name, .ref k_worth, .ref k_times, .ref k_first, .ref k_second, .ref k_beforeLast, .ref k_last, .ref k_errandOf, .ref k_errandAfter, .ref k_sound, .ref k_followers, .ref k_leaders, .int (nI w), .int (nI er), .int k_alikes, .int k_law]))] H := hP
      have hD : va_D A [(k_errandOf, .inl (cI, 24, .inl f_errandOf)), (k_errandAfter, .inl (cI, 6, .inl (upd f_errandAfter (Int32.toNatClampNeg (nI er)) y))), (o, .inr (8, [.ref k_name, .ref k_worth, .ref k_times, .ref k_first, .ref k_second, .ref k_beforeLast, .ref k_last, .ref k_errandOf, .ref k_errandAfter, .ref k_sound, .ref k_followers, .ref k_leaders, .int (nI w), .int (nI er), .int k_alikes, .int k_law]))] := hD
      generalize eg_5 : upd f_errandAfter (Int32.toNatClampNeg (nI er)) y = g_5 at hP hD
      refine lv_aload_n hx hb dX8_addErrand_27 rfl (lv_at hl 0 rfl) ?_
      refine va_get (D := D) (ci := 8) (v := .ref k_errandOf) (C := RX8) (T := TX8) (N := 16) hx hb hts (by decide +kernel) hown hK hP 2 rfl rfl 7 (by decide) (hts (.fieldLink RX8 34 "LastLetter$Tongue" "errandOf" "[I") (by decide +kernel)) (fun _ h9 => h9) rfl dX8_addErrand_28 ?_
      refine lv_iload_n hx hb dX8_addErrand_31 rfl (lv_at hl 1 rfl) ?_
      refine lv_aload_n hx hb dX8_addErrand_32 rfl (lv_at hl 0 rfl) ?_
      refine va_get (D := D) (ci := 8) (v := .int (nI er)) (C := RX8) (T := TX8) (N := 16) hx hb hts (by decide +kernel) hown hK hP 2 rfl rfl 13 (by decide) (hts (.fieldLink RX8 56 "LastLetter$Tongue" "errands" "I") (by decide +kernel)) (fun _ h9 => h9) rfl dX8_addErrand_33 ?_
      refine va_iast hx hb hK hP hD hS 0 1 rfl rfl (vp_in_nI (by omega) (by omega)) dX8_addErrand_36 (fun H locs hP hD hS => ?_)
      have hP : va_P D vwCl [(k_errandOf, .inl (cI, 24, .inl (upd f_errandOf (Int32.toNatClampNeg (nI q1)) (nI er)))), (k_errandAfter, .inl (cI, 6, .inl g_5)), (o, .inr (8, [.ref k_name, .ref k_worth, .ref k_times, .ref k_first, .ref k_second, .ref k_beforeLast, .ref k_last, .ref k_errandOf, .ref k_errandAfter, .ref k_sound, .ref k_followers, .ref k_leaders, .int (nI w), .int (nI er), .int k_alikes, .int k_law]))] H := hP
      have hD : va_D A [(k_errandOf, .inl (cI, 24, .inl (upd f_errandOf (Int32.toNatClampNeg (nI q1)) (nI er)))), (k_errandAfter, .inl (cI, 6, .inl g_5)), (o, .inr (8, [.ref k_name, .ref k_worth, .ref k_times, .ref k_first, .ref k_second, .ref k_beforeLast, .ref k_last, .ref k_errandOf, .ref k_errandAfter, .ref k_sound, .ref k_followers, .ref k_leaders, .int (nI w), .int (nI er), .int k_alikes, .int k_law]))] := hD
      generalize eg_6 : upd f_errandOf (Int32.toNatClampNeg (nI q1)) (nI er) = g_6 at hP hD
      refine lv_aload_n hx hb dX8_addErrand_37 rfl (lv_at hl 0 rfl) ?_
      refine lv_dup hx hb dX8_addErrand_38 rfl ?_
      refine va_get (D := D) (ci := 8) (v := .int (nI er)) (C := RX8) (T := TX8) (N := 16) hx hb hts (by decide +kernel) hown hK hP 2 rfl rfl 13 (by decide) (hts (.fieldLink RX8 56 "LastLetter$Tongue" "errands" "I") (by decide +kernel)) (fun _ h9 => h9) rfl dX8_addErrand_39 ?_
      refine lv_iconst (v := 1) hx hb dX8_addErrand_42 (by decide) ?_
      refine lv_iadd hx hb dX8_addErrand_43 ?_
      refine xb_top (y := nI (er + 1)) (nI_add er 1) ?_
      refine va_put (D := D) (ci := 8) (v := .int (nI (er + 1))) (ty := .int) (C := RX8) (T := TX8) (N := 16) hx hb hts (by decide +kernel) tyX8 tyX8_ok nmX8 hown hK hP hD hS 2 rfl rfl 13 (by decide) (hts (.fieldLink RX8 56 "LastLetter$Tongue" "errands" "I") (by decide +kernel)) (fun _ h9 => h9) rfl (by decide +kernel) rfl rfl (Nat.le_of_ble_eq_true rfl) dX8_addErrand_44 (fun H locs hP hD hS => ?_)
      have hP : va_P D vwCl [(k_errandOf, .inl (cI, 24, .inl g_6)), (k_errandAfter, .inl (cI, 6, .inl g_5)), (o, .inr (8, [.ref k_name, .ref k_worth, .ref k_times, .ref k_first, .ref k_second, .ref k_beforeLast, .ref k_last, .ref k_errandOf, .ref k_errandAfter, .ref k_sound, .ref k_followers, .ref k_leaders, .int (nI w), .int (nI (er + 1)), .int k_alikes, .int k_law]))] H := hP
      have hD : va_D A [(k_errandOf, .inl (cI, 24, .inl g_6)), (k_errandAfter, .inl (cI, 6, .inl g_5)), (o, .inr (8, [.ref k_name, .ref k_worth, .ref k_times, .ref k_first, .ref k_second, .ref k_beforeLast, .ref k_last, .ref k_errandOf, .ref k_errandAfter, .ref k_sound, .ref k_followers, .ref k_leaders, .int (nI w), .int (nI (er + 1)), .int k_alikes, .int k_law]))] := hD
      have hP9 := hP.sub (ws' := [(o, .inr (8, [.ref k_name, .ref k_worth, .ref k_times, .ref k_first, .ref k_second, .ref k_beforeLast, .ref k_last, .ref k_errandOf, .ref k_errandAfter, .ref k_sound, .ref k_followers, .ref k_leaders, .int (nI w), .int (nI (er + 1)), .int k_alikes, .int k_law])), (k_errandOf, .inl (cI, 24, .inl g_6)), (k_errandAfter, .inl (cI, 6, .inl g_5))]) [2, 0, 1] rfl
      have hD9 := hD.sub (ws' := [(o, .inr (8, [.ref k_name, .ref k_worth, .ref k_times, .ref k_first, .ref k_second, .ref k_beforeLast, .ref k_last, .ref k_errandOf, .ref k_errandAfter, .ref k_sound, .ref k_followers, .ref k_leaders, .int (nI w), .int (nI (er + 1)), .int k_alikes, .int k_law])), (k_errandOf, .inl (cI, 24, .inl g_6)), (k_errandAfter, .inl (cI, 6, .inl g_5))]) [2, 0, 1] (by decide) rfl
      refine W.widen (k := 0) (n := 0) (Nat.le_of_ble_eq_true rfl) (Nat.le_of_ble_eq_true rfl) ?_
      exact W.vret hx hb hr (fun tz htz hWz => ⟨⟨[(o, .inr (8, [.ref k_name, .ref k_worth, .ref k_times, .ref k_first, .ref k_second, .ref k_beforeLast, .ref k_last, .ref k_errandOf, .ref k_errandAfter, .ref k_sound, .ref k_followers, .ref k_leaders, .int (nI w), .int (nI (er + 1)), .int k_alikes, .int k_law])), (k_errandOf, .inl (cI, 24, .inl g_6)), (k_errandAfter, .inl (cI, 6, .inl g_5))], rfl, ⟨(er + 1), g_6, g_5, rfl, (by omega), (rgM_up hm rfl (by omega) (Or.inr ⟨er, by omega, rfl⟩) eg_6)⟩, by rw [htz]; exact hP9, va_K.moved hWz.alike hK, hD9⟩, hS.F htz⟩) hS.2.2 dX8_addErrand_47

set_option maxHeartbeats 4000000 in
set_option maxRecDepth 100000 in
theorem c_X8_areAlike (l : Launch) (D : va_G) (cB cI cJ cS cZ cO : ClassId) (sz : Nat) (o : Nat) (x : Int32) (y : Int32) (k_name : Nat) (k_worth : Nat) (k_times : Nat) (k_first : Nat) (k_second : Nat) (k_beforeLast : Nat) (k_last : Nat) (k_errandOf : Nat) (k_errandAfter : Nat) (k_sound : Nat) (k_followers : Nat) (k_leaders : Nat) (k_words : Int32) (k_errands : Int32) (k_alikes : Int32) (k_law : Int32) (f_sound : Nat → Int32) (hx1 : x = -1 ∨ ∃ q, q < 26 ∧ x = nI q) (hy1 : y = -1 ∨ ∃ q, q < 26 ∧ y = nI q) : Met l yX8_areAlike wsX8_areAlike ({ frames := 0, cells := 0, slots := 0, locals := 0 }) (xPre D (tyL cB cI cJ cS cZ cO) [(o, .inr (8, [.ref k_name, .ref k_worth, .ref k_times, .ref k_first, .ref k_second, .ref k_beforeLast, .ref k_last, .ref k_errandOf, .ref k_errandAfter, .ref k_sound, .ref k_followers, .ref k_leaders, .int k_words, .int k_errands, .int k_alikes, .int k_law])), (k_sound, .inl (cI, 26, .inl f_sound))] sz [.ref o, .int x, .int y]) (xQi D (tyL cB cI cJ cS cZ cO) (va_A [(o, .inr (8, [.ref k_name, .ref k_worth, .ref k_times, .ref k_first, .ref k_second, .ref k_beforeLast, .ref k_last, .ref k_errandOf, .ref k_errandAfter, .ref k_sound, .ref k_followers, .ref k_leaders, .int k_words, .int k_errands, .int k_alikes, .int k_law])), (k_sound, .inl (cI, 26, .inl f_sound))] sz) (fun (r : Int32) (u : va_W) => u = [(o, .inr (8, [.ref k_name, .ref k_worth, .ref k_times, .ref k_first, .ref k_second, .ref k_beforeLast, .ref k_last, .ref k_errandOf, .ref k_errandAfter, .ref k_sound, .ref k_followers, .ref k_leaders, .int k_words, .int k_errands, .int k_alikes, .int k_law])), (k_sound, .inl (cI, 26, .inl f_sound))] ∧ (r = 0 ∨ r = 1))) 0 0 (va_A [(o, .inr (8, [.ref k_name, .ref k_worth, .ref k_times, .ref k_first, .ref k_second, .ref k_beforeLast, .ref k_last, .ref k_errandOf, .ref k_errandAfter, .ref k_sound, .ref k_followers, .ref k_leaders, .int k_words, .int k_errands, .int k_alikes, .int k_law])), (k_sound, .inl (cI, 26, .inl f_sound))] sz) := by
  refine Met.ofW (cc := cX8_areAlike) (maxL := 3) (ret := (some .boolean)) (by decide) rfl ?_
  intro p e s m args below meth c s₁ B hml hv
  obtain ⟨rfl, hsz, hP, hK, hD0, hN⟩ := hv
  have hx := B.exec
  have hb := B.bytes
  have hr := B.returns
  have hts := atoms_spec (ws := wsX8_areAlike) B.pre
  have hown : s.vm.findClass RX8 = some m.cls := findClass_of_methodNamed B.named
  have hlocks := B.notSynchronized
  subst hsz
  have hD := hD0.self (sz := s.heap.size)
  generalize hAe : va_A [(o, .inr (8, [.ref k_name, .ref k_worth, .ref k_times, .ref k_first, .ref k_second, .ref k_beforeLast, .ref k_last, .ref k_errandOf, .ref k_errandAfter, .ref k_sound, .ref k_followers, .ref k_leaders, .int k_words, .int k_errands, .int k_alikes, .int k_law])), (k_sound, .inl (cI, 26, .inl f_sound))] s.heap.size = A at hD ⊢
  have hA : ∀ q : Nat, s.heap.size ≤ q → A q := fun q h => by rw [← hAe]; exact Or.inr h
  have hS : va_S A s.heap s.heap [] := va_S.rf
  have hP : va_P D vwCl [(o, .inr (8, [.ref k_name, .ref k_worth, .ref k_times, .ref k_first, .ref k_second, .ref k_beforeLast, .ref k_last, .ref k_errandOf, .ref k_errandAfter, .ref k_sound, .ref k_followers, .ref k_leaders, .int k_words, .int k_errands, .int k_alikes, .int k_law])), (k_sound, .inl (cI, 26, .inl f_sound))] s.heap := hP
  have hl := lv_entry ([.ref o, .int x, .int y]) (n := 3) (Nat.le_of_ble_eq_true rfl)
  rw [lg_entry_eq]
  generalize (lg_sl ([.ref o, .int x, .int y]) ++ List.replicate (3 - (lg_sl ([.ref o, .int x, .int y])).length) Slot.unset).toArray = ls at hl ⊢
  have hl : lv_has ls 3 [(0, .ref o), (1, .int x), (2, .int y)] := hl
  refine lv_iload_n hx hb dX8_areAlike_0 rfl (lv_at hl 1 rfl) ?_
  refine lv_iconst (v := (-1)) hx hb dX8_areAlike_1 (by decide) ?_
  refine lv_icmp_eq (tgt := 29) hx hb dX8_areAlike_2 (by decide) (fun c_1 => ?_) (fun c_1 => ?_)
  · refine lv_iconst (v := 0) hx hb dX8_areAlike_29 (by decide) ?_
    have hP9 := hP.sub (ws' := [(o, .inr (8, [.ref k_name, .ref k_worth, .ref k_times, .ref k_first, .ref k_second, .ref k_beforeLast, .ref k_last, .ref k_errandOf, .ref k_errandAfter, .ref k_sound, .ref k_followers, .ref k_leaders, .int k_words, .int k_errands, .int k_alikes, .int k_law])), (k_sound, .inl (cI, 26, .inl f_sound))]) [0, 1] rfl
    have hD9 := hD.sub (ws' := [(o, .inr (8, [.ref k_name, .ref k_worth, .ref k_times, .ref k_first, .ref k_second, .ref k_beforeLast, .ref k_last, .ref k_errandOf, .ref k_errandAfter, .ref k_sound, .ref k_followers, .ref k_leaders, .int k_words, .int k_errands, .int k_alikes, .int k_law])), (k_sound, .inl (cI, 26, .inl f_sound))]) [0, 1] (by decide) rfl
    refine W.widen (k := 0) (n := 0) (Nat.le_of_ble_eq_true rfl) (Nat.le_of_ble_eq_true rfl) ?_
    exact W.zret (v := 0) hx hb hr (by decide) (fun tz htz hWz => ⟨⟨0, [(o, .inr (8, [.ref k_name, .ref k_worth, .ref k_times, .ref k_first, .ref k_second, .ref k_beforeLast, .ref k_last, .ref k_errandOf, .ref k_errandAfter, .ref k_sound, .ref k_followers, .ref k_leaders, .int k_words, .int k_errands, .int k_alikes, .int k_law])), (k_sound, .inl (cI, 26, .inl f_sound))], rfl, ⟨rfl, (Or.inl rfl)⟩, by rw [htz]; exact hP9, va_K.moved hWz.alike hK, hD9⟩, hS.F htz⟩) hS.2.2 dX8_areAlike_30
  · refine lv_iload_n hx hb dX8_areAlike_5 rfl (lv_at hl 2 rfl) ?_
    refine lv_iconst (v := (-1)) hx hb dX8_areAlike_6 (by decide) ?_
    refine lv_icmp_eq (tgt := 29) hx hb dX8_areAlike_7 (by decide) (fun c_2 => ?_) (fun c_2 => ?_)
    · refine lv_iconst (v := 0) hx hb dX8_areAlike_29 (by decide) ?_
      have hP9 := hP.sub (ws' := [(o, .inr (8, [.ref k_name, .ref k_worth, .ref k_times, .ref k_first, .ref k_second, .ref k_beforeLast, .ref k_last, .ref k_errandOf, .ref k_errandAfter, .ref k_sound, .ref k_followers, .ref k_leaders, .int k_words, .int k_errands, .int k_alikes, .int k_law])), (k_sound, .inl (cI, 26, .inl f_sound))]) [0, 1] rfl
      have hD9 := hD.sub (ws' := [(o, .inr (8, [.ref k_name, .ref k_worth, .ref k_times, .ref k_first, .ref k_second, .ref k_beforeLast, .ref k_last, .ref k_errandOf, .ref k_errandAfter, .ref k_sound, .ref k_followers, .ref k_leaders, .int k_words, .int k_errands, .int k_alikes, .int k_law])), (k_sound, .inl (cI, 26, .inl f_sound))]) [0, 1] (by decide) rfl
      refine W.widen (k := 0) (n := 0) (Nat.le_of_ble_eq_true rfl) (Nat.le_of_ble_eq_true rfl) ?_
      exact W.zret (v := 0) hx hb hr (by decide) (fun tz htz hWz => ⟨⟨0, [(o, .inr (8, [.ref k_name, .ref k_worth, .ref k_times, .ref k_first, .ref k_second, .ref k_beforeLast, .ref k_last, .ref k_errandOf, .ref k_errandAfter, .ref k_sound, .ref k_followers, .ref k_leaders, .int k_words, .int k_errands, .int k_alikes, .int k_law])), (k_sound, .inl (cI, 26, .inl f_sound))], rfl, ⟨rfl, (Or.inl rfl)⟩, by rw [htz]; exact hP9, va_K.moved hWz.alike hK, hD9⟩, hS.F htz⟩) hS.2.2 dX8_areAlike_30
    · obtain ⟨q1, hq1, rfl⟩ := hx1.resolve_left c_1
      obtain ⟨q2, hq2, rfl⟩ := hy1.resolve_left c_2
      refine lv_aload_n hx hb dX8_areAlike_10 rfl (lv_at hl 0 rfl) ?_
      refine va_get (D := D) (ci := 8) (v := .ref k_sound) (C := RX8) (T := TX8) (N := 16) hx hb hts (by decide +kernel) hown hK hP 0 rfl rfl 9 (by decide) (hts (.fieldLink RX8 40 "LastLetter$Tongue" "sound" "[I") (by decide +kernel)) (fun _ h9 => h9) rfl dX8_areAlike_11 ?_
      refine lv_iload_n hx hb dX8_areAlike_14 rfl (lv_at hl 1 rfl) ?_
      refine va_iald hx hb hK hP 1 1 rfl rfl (vp_in_nI (by omega) (by omega)) dX8_areAlike_15 ?_
      refine xb_top (y := f_sound q1) (by rw [nI_clamp (by omega)]) ?_
      refine lv_aload_n hx hb dX8_areAlike_16 rfl (lv_at hl 0 rfl) ?_
      refine va_get (D := D) (ci := 8) (v := .ref k_sound) (C := RX8) (T := TX8) (N := 16) hx hb hts (by decide +kernel) hown hK hP 0 rfl rfl 9 (by decide) (hts (.fieldLink RX8 40 "LastLetter$Tongue" "sound" "[I") (by decide +kernel)) (fun _ h9 => h9) rfl dX8_areAlike_17 ?_
      refine lv_iload_n hx hb dX8_areAlike_20 rfl (lv_at hl 2 rfl) ?_
      refine va_iald hx hb hK hP 1 1 rfl rfl (vp_in_nI (by omega) (by omega)) dX8_areAlike_21 ?_
      refine xb_top (y := f_sound q2) (by rw [nI_clamp (by omega)]) ?_
      refine lv_icmp_ne (tgt := 29) hx hb dX8_areAlike_22 (by decide) (fun c_3 => ?_) (fun c_3 => ?_)
      · refine lv_iconst (v := 0) hx hb dX8_areAlike_29 (by decide) ?_
        have hP9 := hP.sub (ws' := [(o, .inr (8, [.ref k_name, .ref k_worth, .ref k_times, .ref k_first, .ref k_second, .ref k_beforeLast, .ref k_last, .ref k_errandOf, .ref k_errandAfter, .ref k_sound, .ref k_followers, .ref k_leaders, .int k_words, .int k_errands, .int k_alikes, .int k_law])), (k_sound, .inl (cI, 26, .inl f_sound))]) [0, 1] rfl
        have hD9 := hD.sub (ws' := [(o, .inr (8, [.ref k_name, .ref k_worth, .ref k_times, .ref k_first, .ref k_second, .ref k_beforeLast, .ref k_last, .ref k_errandOf, .ref k_errandAfter, .ref k_sound, .ref k_followers, .ref k_leaders, .int k_words, .int k_errands, .int k_alikes, .int k_law])), (k_sound, .inl (cI, 26, .inl f_sound))]) [0, 1] (by decide) rfl
        refine W.widen (k := 0) (n := 0) (Nat.le_of_ble_eq_true rfl) (Nat.le_of_ble_eq_true rfl) ?_
        exact W.zret (v := 0) hx hb hr (by decide) (fun tz htz hWz => ⟨⟨0, [(o, .inr (8, [.ref k_name, .ref k_worth, .ref k_times, .ref k_first, .ref k_second, .ref k_beforeLast, .ref k_last, .ref k_errandOf, .ref k_errandAfter, .ref k_sound, .ref k_followers, .ref k_leaders, .int k_words, .int k_errands, .int k_alikes, .int k_law])), (k_sound, .inl (cI, 26, .inl f_sound))], rfl, ⟨rfl, (Or.inl rfl)⟩, by rw [htz]; exact hP9, va_K.moved hWz.alike hK, hD9⟩, hS.F htz⟩) hS.2.2 dX8_areAlike_30
      · refine lv_iconst (v := 1) hx hb dX8_areAlike_25 (by decide) ?_
        refine lv_goto (tgt := 30) hx hb dX8_areAlike_26 (by decide) ?_
        have hP9 := hP.sub (ws' := [(o, .inr (8, [.ref k_name, .ref k_worth, .ref k_times, .ref k_first, .ref k_second, .ref k_beforeLast, .ref k_last, .ref k_errandOf, .ref k_errandAfter, .ref k_sound, .ref k_followers, .ref k_leaders, .int k_words, .int k_errands, .int k_alikes, .int k_law])), (k_sound, .inl (cI, 26, .inl f_sound))]) [0, 1] rfl
        have hD9 := hD.sub (ws' := [(o, .inr (8, [.ref k_name, .ref k_worth, .ref k_times, .ref k_first, .ref k_second, .ref k_beforeLast, .ref k_last, .ref k_errandOf, .ref k_errandAfter, .ref k_sound, .ref k_followers, .ref k_leaders, .int k_words, .int k_errands, .int k_alikes, .int k_law])), (k_sound, .inl (cI, 26, .inl f_sound))]) [0, 1] (by decide) rfl
        refine W.widen (k := 0) (n := 0) (Nat.le_of_ble_eq_true rfl) (Nat.le_of_ble_eq_true rfl) ?_
        exact W.zret (v := 1) hx hb hr (by decide) (fun tz htz hWz => ⟨⟨1, [(o, .inr (8, [.ref k_name, .ref k_worth, .ref k_times, .ref k_first, .ref k_second, .ref k_beforeLast, .ref k_last, .ref k_errandOf, .ref k_errandAfter, .ref k_sound, .ref k_followers, .ref k_leaders, .int k_words, .int k_errands, .int k_alikes, .int k_law])), (k_sound, .inl (cI, 26, .inl f_sound))], rfl, ⟨rfl, (Or.inr rfl)⟩, by rw [htz]; exact hP9, va_K.moved hWz.alike hK, hD9⟩, hS.F htz⟩) hS.2.2 dX8_areAlike_30

set_option maxHeartbeats 4000000 in
set_option maxRecDepth 100000 in
theorem c_X10_isIn_n (l : Launch) (D : va_G) (cB cI cJ cS cZ cO : ClassId) (sz : Nat) (bt : Nat) (ix : Nat) (hbt : bt < 2 ^ 31) (hix : ix < 32) : Met l yX10_isIn wsX10_isIn ({ frames := 0, cells := 0, slots := 0, locals := 0 }) (xPre D (tyL cB cI cJ cS cZ cO) [] sz [.int (nI bt), .int (nI ix)]) (xQi D (tyL cB cI cJ cS cZ cO) (va_A [] sz) (fun (r : Int32) (u : va_W) => u = [] ∧ (r = 0 ∨ (r = 1 ∧ bt / 2 ^ ix % 2 = 1)))) 0 0 (va_A [] sz) := by
  refine Met.ofW (cc := cX10_isIn) (maxL := 2) (ret := (some .boolean)) (by decide) rfl ?_
  intro p e s m args below meth c s₁ B hml hv
  obtain ⟨rfl, hsz, hP, hK, hD0, hN⟩ := hv
  have hx := B.exec
  have hb := B.bytes
  have hr := B.returns
  have hts := atoms_spec (ws := wsX10_isIn) B.pre
  have hown : s.vm.findClass RX10 = some m.cls := findClass_of_methodNamed B.named
  have hlocks := B.notSynchronized
  subst hsz
  have hD := hD0.self (sz := s.heap.size)
  generalize hAe : va_A [] s.heap.size = A at hD ⊢
  have hA : ∀ q : Nat, s.heap.size ≤ q → A q := fun q h => by rw [← hAe]; exact Or.inr h
  have hS : va_S A s.heap s.heap [] := va_S.rf
  have hP : va_P D vwCl [] s.heap := hP
  have hl := lv_entry ([.int (nI bt), .int (nI ix)]) (n := 2) (Nat.le_of_ble_eq_true rfl)
  rw [lg_entry_eq]
  generalize (lg_sl ([.int (nI bt), .int (nI ix)]) ++ List.replicate (2 - (lg_sl ([.int (nI bt), .int (nI ix)])).length) Slot.unset).toArray = ls at hl ⊢
  have hl : lv_has ls 2 [(0, .int (nI bt)), (1, .int (nI ix))] := hl
  refine lv_iload_n hx hb dX10_isIn_0 rfl (lv_at hl 0 rfl) ?_
  refine lv_iload_n hx hb dX10_isIn_1 rfl (lv_at hl 1 rfl) ?_
  refine lv_iushr (v := nI (bt / 2 ^ ix)) hx hb dX10_isIn_2 (nb_ushr (a := bt) (i := ix) (by omega) (by omega)) ?_
  refine lv_iconst (v := 1) hx hb dX10_isIn_3 (by decide) ?_
  refine lv_iand hx hb dX10_isIn_4 ?_
  refine xb_top (y := nI ((bt / 2 ^ ix) &&& 1)) (nb_and (bt / 2 ^ ix) 1) ?_
  refine lv_if_eq (tgt := 12) hx hb dX10_isIn_5 (by decide) (fun c_1 => ?_) (fun c_1 => ?_)
  · refine lv_iconst (v := 0) hx hb dX10_isIn_12 (by decide) ?_
    have hP9 := hP.sub (ws' := []) [] rfl
    have hD9 := hD.sub (ws' := []) [] (by decide) rfl
    refine W.widen (k := 0) (n := 0) (Nat.le_of_ble_eq_true rfl) (Nat.le_of_ble_eq_true rfl) ?_
    exact W.zret (v := 0) hx hb hr (by decide) (fun tz htz hWz => ⟨⟨0, [], rfl, ⟨rfl, (Or.inl rfl)⟩, by rw [htz]; exact hP9, va_K.moved hWz.alike hK, hD9⟩, hS.F htz⟩) hS.2.2 dX10_isIn_13
  · refine lv_iconst (v := 1) hx hb dX10_isIn_8 (by decide) ?_
    refine lv_goto (tgt := 13) hx hb dX10_isIn_9 (by decide) ?_
    have hP9 := hP.sub (ws' := []) [] rfl
    have hD9 := hD.sub (ws' := []) [] (by decide) rfl
    refine W.widen (k := 0) (n := 0) (Nat.le_of_ble_eq_true rfl) (Nat.le_of_ble_eq_true rfl) ?_
    exact W.zret (v := 1) hx hb hr (by decide) (fun tz htz hWz => ⟨⟨1, [], rfl, ⟨rfl, (Or.inr ⟨rfl, isin_bit c_1⟩)⟩, by rw [htz]; exact hP9, va_K.moved hWz.alike hK, hD9⟩, hS.F htz⟩) hS.2.2 dX10_isIn_13

set_option maxHeartbeats 4000000 in
set_option maxRecDepth 100000 in
theorem c_X10_isIn (l : Launch) (D : va_G) (cB cI cJ cS cZ cO : ClassId) (sz : Nat) (x : Int32) (y : Int32) : Met l yX10_isIn wsX10_isIn ({ frames := 0, cells := 0, slots := 0, locals := 0 }) (xPre D (tyL cB cI cJ cS cZ cO) [] sz [.int x, .int y]) (xQi D (tyL cB cI cJ cS cZ cO) (va_A [] sz) (fun (r : Int32) (u : va_W) => u = [] ∧ (r = 0 ∨ r = 1))) 0 0 (va_A [] sz) := by
  refine Met.ofW (cc := cX10_isIn) (maxL := 2) (ret := (some .boolean)) (by decide) rfl ?_
  intro p e s m args below meth c s₁ B hml hv
  obtain ⟨rfl, hsz, hP, hK, hD0, hN⟩ := hv
  have hx := B.exec
  have hb := B.bytes
  have hr := B.returns
  have hts := atoms_spec (ws := wsX10_isIn) B.pre
  have hown : s.vm.findClass RX10 = some m.cls := findClass_of_methodNamed B.named
  have hlocks := B.notSynchronized
  subst hsz
  have hD := hD0.self (sz := s.heap.size)
  generalize hAe : va_A [] s.heap.size = A at hD ⊢
  have hA : ∀ q : Nat, s.heap.size ≤ q → A q := fun q h => by rw [← hAe]; exact Or.inr h
  have hS : va_S A s.heap s.heap [] := va_S.rf
  have hP : va_P D vwCl [] s.heap := hP
  have hl := lv_entry ([.int x, .int y]) (n := 2) (Nat.le_of_ble_eq_true rfl)
  rw [lg_entry_eq]
  generalize (lg_sl ([.int x, .int y]) ++ List.replicate (2 - (lg_sl ([.int x, .int y])).length) Slot.unset).toArray = ls at hl ⊢
  have hl : lv_has ls 2 [(0, .int x), (1, .int y)] := hl
  refine lv_iload_n hx hb dX10_isIn_0 rfl (lv_at hl 0 rfl) ?_
  refine lv_iload_n hx hb dX10_isIn_1 rfl (lv_at hl 1 rfl) ?_
  refine lv_iushr (v := (x.toUInt32 >>> (Int32.toUInt32 y &&& Int32.toUInt32 31)).toInt32) hx hb dX10_isIn_2 rfl ?_
  refine lv_iconst (v := 1) hx hb dX10_isIn_3 (by decide) ?_
  refine lv_iand hx hb dX10_isIn_4 ?_
  refine lv_if_eq (tgt := 12) hx hb dX10_isIn_5 (by decide) (fun c_1 => ?_) (fun c_1 => ?_)
  · refine lv_iconst (v := 0) hx hb dX10_isIn_12 (by decide) ?_
    have hP9 := hP.sub (ws' := []) [] rfl
    have hD9 := hD.sub (ws' := []) [] (by decide) rfl
    refine W.widen (k := 0) (n := 0) (Nat.le_of_ble_eq_true rfl) (Nat.le_of_ble_eq_true rfl) ?_
    exact W.zret (v := 0) hx hb hr (by decide) (fun tz htz hWz => ⟨⟨0, [], rfl, ⟨rfl, (Or.inl rfl)⟩, by rw [htz]; exact hP9, va_K.moved hWz.alike hK, hD9⟩, hS.F htz⟩) hS.2.2 dX10_isIn_13
  · refine lv_iconst (v := 1) hx hb dX10_isIn_8 (by decide) ?_
    refine lv_goto (tgt := 13) hx hb dX10_isIn_9 (by decide) ?_
    have hP9 := hP.sub (ws' := []) [] rfl
    have hD9 := hD.sub (ws' := []) [] (by decide) rfl
    refine W.widen (k := 0) (n := 0) (Nat.le_of_ble_eq_true rfl) (Nat.le_of_ble_eq_true rfl) ?_
    exact W.zret (v := 1) hx hb hr (by decide) (fun tz htz hWz => ⟨⟨1, [], rfl, ⟨rfl, (Or.inr rfl)⟩, by rw [htz]; exact hP9, va_K.moved hWz.alike hK, hD9⟩, hS.F htz⟩) hS.2.2 dX10_isIn_13

set_option maxHeartbeats 4000000 in
set_option maxRecDepth 100000 in
theorem c_X8_doneBehind (l : Launch) (D : va_G) (cB cI cJ cS cZ cO : ClassId) (sz : Nat) (o : Nat) (dn : Nat) (sp : Nat) (k_name : Nat) (k_worth : Nat) (k_times : Nat) (k_first : Nat) (k_second : Nat) (k_beforeLast : Nat) (k_last : Nat) (k_errandOf : Nat) (k_errandAfter : Nat) (k_sound : Nat) (k_followers : Nat) (k_leaders : Nat) (k_words : Int32) (k_errands : Int32) (k_alikes : Int32) (k_law : Int32) (f_errandOf : Nat → Int32) (f_errandAfter : Nat → Int32) (hdn : dn < 64) (hsp : sp < 24) (hm : rgM f_errandOf 24 6) : Met l yX8_doneBehind wsX8_doneBehind ({ frames := 1, cells := 0, slots := 0, locals := 21 }) (xPre D (tyL cB cI cJ cS cZ cO) [(o, .inr (8, [.ref k_name, .ref k_worth, .ref k_times, .ref k_first, .ref k_second, .ref k_beforeLast, .ref k_last, .ref k_errandOf, .ref k_errandAfter, .ref k_sound, .ref k_followers, .ref k_leaders, .int k_words, .int k_errands, .int k_alikes, .int k_law])), (k_errandOf, .inl (cI, 24, .inl f_errandOf)), (k_errandAfter, .inl (cI, 6, .inl f_errandAfter))] sz [.ref o, .int (nI dn), .int (nI sp)]) (xQi D (tyL cB cI cJ cS cZ cO) (va_A [(o, .inr (8, [.ref k_name, .ref k_worth, .ref k_times, .ref k_first, .ref k_second, .ref k_beforeLast, .ref k_last, .ref k_errandOf, .ref k_errandAfter, .ref k_sound, .ref k_followers, .ref k_leaders, .int k_words, .int k_errands, .int k_alikes, .int k_law])), (k_errandOf, .inl (cI, 24, .inl f_errandOf)), (k_errandAfter, .inl (cI, 6, .inl f_errandAfter))] sz) (fun (r : Int32) (u : va_W) => ∃ rr : Nat, u = [(o, .inr (8, [.ref k_name, .ref k_worth, .ref k_times, .ref k_first, .ref k_second, .ref k_beforeLast, .ref k_last, .ref k_errandOf, .ref k_errandAfter, .ref k_sound, .ref k_followers, .ref k_leaders, .int k_words, .int k_errands, .int k_alikes, .int k_law])), (k_errandOf, .inl (cI, 24, .inl f_errandOf)), (k_errandAfter, .inl (cI, 6, .inl f_errandAfter))] ∧ r = nI rr ∧ rr < 64)) 0 0 (va_A [(o, .inr (8, [.ref k_name, .ref k_worth, .ref k_times, .ref k_first, .ref k_second, .ref k_beforeLast, .ref k_last, .ref k_errandOf, .ref k_errandAfter, .ref k_sound, .ref k_followers, .ref k_leaders, .int k_words, .int k_errands, .int k_alikes, .int k_law])), (k_errandOf, .inl (cI, 24, .inl f_errandOf)), (k_errandAfter, .inl (cI, 6, .inl f_errandAfter))] sz) := by
  refine Met.ofW (cc := cX8_doneBehind) (maxL := 5) (ret := (some .int)) (by decide) rfl ?_
  intro p e s m args below meth c s₁ B hml hv
  obtain ⟨rfl, hsz, hP, hK, hD0, hN⟩ := hv
  have hx := B.exec
  have hb := B.bytes
  have hr := B.returns
  have hts := atoms_spec (ws := wsX8_doneBehind) B.pre
  have hown : s.vm.findClass RX8 = some m.cls := findClass_of_methodNamed B.named
  have hlocks := B.notSynchronized
  subst hsz
  have hD := hD0.self (sz := s.heap.size)
  generalize hAe : va_A [(o, .inr (8, [.ref k_name, .ref k_worth, .ref k_times, .ref k_first, .ref k_second, .ref k_beforeLast, .ref k_last, .ref k_errandOf, .ref k_errandAfter, .ref k_sound, .ref k_followers, .ref k_leaders, .int k_words, .int k_errands, .int k_alikes, .int k_law])), (k_errandOf, .inl (cI, 24, .inl f_errandOf)), (k_errandAfter, .inl (cI, 6, .inl f_errandAfter))] s.heap.size = A at hD ⊢
  have hA : ∀ q : Nat, s.heap.size ≤ q → A q := fun q h => by rw [← hAe]; exact Or.inr h
  have hS : va_S A s.heap s.heap [] := va_S.rf
  have hP : va_P D vwCl [(o, .inr (8, [.ref k_name, .ref k_worth, .ref k_times, .ref k_first, .ref k_second, .ref k_beforeLast, .ref k_last, .ref k_errandOf, .ref k_errandAfter, .ref k_sound, .ref k_followers, .ref k_leaders, .int k_words, .int k_errands, .int k_alikes, .int k_law])), (k_errandOf, .inl (cI, 24, .inl f_errandOf)), (k_errandAfter, .inl (cI, 6, .inl f_errandAfter))] s.heap := hP
  have hl := lv_entry ([.ref o, .int (nI dn), .int (nI sp)]) (n := 5) (Nat.le_of_ble_eq_true rfl)
  rw [lg_entry_eq]
  generalize (lg_sl ([.ref o, .int (nI dn), .int (nI sp)]) ++ List.replicate (5 - (lg_sl ([.ref o, .int (nI dn), .int (nI sp)])).length) Slot.unset).toArray = ls at hl ⊢
  have hl : lv_has ls 5 [(0, .ref o), (1, .int (nI dn)), (2, .int (nI sp))] := hl
  refine lv_aload_n hx hb dX8_doneBehind_0 rfl (lv_at hl 0 rfl) ?_
  refine va_get (D := D) (ci := 8) (v := .ref k_errandOf) (C := RX8) (T := TX8) (N := 16) hx hb hts (by decide +kernel) hown hK hP 0 rfl rfl 7 (by decide) (hts (.fieldLink RX8 34 "LastLetter$Tongue" "errandOf" "[I") (by decide +kernel)) (fun _ h9 => h9) rfl dX8_doneBehind_1 ?_
  refine lv_iload_n hx hb dX8_doneBehind_4 rfl (lv_at hl 2 rfl) ?_
  refine va_iald hx hb hK hP 1 1 rfl rfl (vp_in_nI (by omega) (by omega)) dX8_doneBehind_5 ?_
  refine xb_top (y := f_errandOf sp) (by rw [nI_clamp (by omega)]) ?_
  have hm_1 := hm sp (by omega)
  refine lv_istore_n (lv' := [(3, .int (f_errandOf sp)), (0, .ref o), (1, .int (nI dn)), (2, .int (nI sp))]) hx hb dX8_doneBehind_6 rfl hl (by decide) rfl (fun ls hl => ?_)
  refine lv_iload_n hx hb dX8_doneBehind_7 rfl (lv_at hl 0 rfl) ?_
  refine lv_iconst (v := (-1)) hx hb dX8_doneBehind_8 (by decide) ?_
  refine lv_icmp_ne (tgt := 14) hx hb dX8_doneBehind_9 (by decide) (fun c_2 => ?_) (fun c_2 => ?_)
  · obtain ⟨q1, hq1, eq1⟩ := hm_1.resolve_left c_2
    rw [eq1] at hl
    refine lv_aload_n hx hb dX8_doneBehind_14 rfl (lv_at hl 1 rfl) ?_
    refine va_get (D := D) (ci := 8) (v := .ref k_errandAfter) (C := RX8) (T := TX8) (N := 16) hx hb hts (by decide +kernel) hown hK hP 0 rfl rfl 8 (by decide) (hts (.fieldLink RX8 37 "LastLetter$Tongue" "errandAfter" "[I") (by decide +kernel)) (fun _ h9 => h9) rfl dX8_doneBehind_15 ?_
    refine lv_iload_n hx hb dX8_doneBehind_18 rfl (lv_at hl 0 rfl) ?_
    refine va_iald hx hb hK hP 2 1 rfl rfl (vp_in_nI (by omega) (by omega)) dX8_doneBehind_19 ?_
    refine xb_top (y := f_errandAfter q1) (by rw [nI_clamp (by omega)]) ?_
    refine lv_istore (lv' := [(4, .int (f_errandAfter q1)), (3, .int (nI q1)), (0, .ref o), (1, .int (nI dn)), (2, .int (nI sp))]) hx hb dX8_doneBehind_20 hl (by decide) rfl (fun ls hl => ?_)
    refine lv_iload hx hb dX8_doneBehind_22 (lv_at hl 0 rfl) ?_
    refine lv_iconst (v := (-1)) hx hb dX8_doneBehind_24 (by decide) ?_
    refine lv_icmp_eq (tgt := 37) hx hb dX8_doneBehind_25 (by decide) (fun c_3 => ?_) (fun c_3 => ?_)
    · refine lv_iload_n hx hb dX8_doneBehind_37 rfl (lv_at hl 3 rfl) ?_
      refine lv_iconst (v := 1) hx hb dX8_doneBehind_38 (by decide) ?_
      refine lv_iload_n hx hb dX8_doneBehind_39 rfl (lv_at hl 1 rfl) ?_
      refine lv_ishl hx hb dX8_doneBehind_40 ?_
      refine xb_top (y := nI (1 * 2 ^ q1)) (nb_shl (a := 1) (i := q1) (by omega)) ?_
      refine lv_ior hx hb dX8_doneBehind_41 ?_
      refine xb_top (y := nI (dn ||| (1 * 2 ^ q1))) (nb_or dn (1 * 2 ^ q1)) ?_
      refine lv_goto (tgt := 46) hx hb dX8_doneBehind_42 (by decide) ?_
      have hP9 := hP.sub (ws' := [(o, .inr (8, [.ref k_name, .ref k_worth, .ref k_times, .ref k_first, .ref k_second, .ref k_beforeLast, .ref k_last, .ref k_errandOf, .ref k_errandAfter, .ref k_sound, .ref k_followers, .ref k_leaders, .int k_words, .int k_errands, .int k_alikes, .int k_law])), (k_errandOf, .inl (cI, 24, .inl f_errandOf)), (k_errandAfter, .inl (cI, 6, .inl f_errandAfter))]) [0, 1, 2] rfl
      have hD9 := hD.sub (ws' := [(o, .inr (8, [.ref k_name, .ref k_worth, .ref k_times, .ref k_first, .ref k_second, .ref k_beforeLast, .ref k_last, .ref k_errandOf, .ref k_errandAfter, .ref k_sound, .ref k_followers, .ref k_leaders, .int k_words, .int k_errands, .int k_alikes, .int k_law])), (k_errandOf, .inl (cI, 24, .inl f_errandOf)), (k_errandAfter, .inl (cI, 6, .inl f_errandAfter))]) [0, 1, 2] (by decide) rfl
      refine W.widen (k := 0) (n := 0) (Nat.le_of_ble_eq_true rfl) (Nat.le_of_ble_eq_true rfl) ?_
      exact W.iret (v := nI (dn ||| (1 * 2 ^ q1))) hx hb hr (fun tz htz hWz => ⟨⟨nI (dn ||| (1 * 2 ^ q1)), [(o, .inr (8, [.ref k_name, .ref k_worth, .ref k_times, .ref k_first, .ref k_second, .ref k_beforeLast, .ref k_last, .ref k_errandOf, .ref k_errandAfter, .ref k_sound, .ref k_followers, .ref k_leaders, .int k_words, .int k_errands, .int k_alikes, .int k_law])), (k_errandOf, .inl (cI, 24, .inl f_errandOf)), (k_errandAfter, .inl (cI, 6, .inl f_errandAfter))], rfl, ⟨(dn ||| (1 * 2 ^ q1)), rfl, rfl, (done_lt hdn hq1)⟩, by rw [htz]; exact hP9, va_K.moved hWz.alike hK, hD9⟩, hS.F htz⟩) hS.2.2 dX8_doneBehind_46
    · refine lv_iload_n hx hb dX8_doneBehind_28 rfl (lv_at hl 3 rfl) ?_
      refine lv_iload hx hb dX8_doneBehind_29 (lv_at hl 0 rfl) ?_
      refine xCi (wr := [(o, .inr (8, [.ref k_name, .ref k_worth, .ref k_times, .ref k_first, .ref k_second, .ref k_beforeLast, .ref k_last, .ref k_errandOf, .ref k_errandAfter, .ref k_sound, .ref k_followers, .ref k_leaders, .int k_words, .int k_errands, .int k_alikes, .int k_law])), (k_errandOf, .inl (cI, 24, .inl f_errandOf)), (k_errandAfter, .inl (cI, 6, .inl f_errandAfter))]) (win := []) hP hD hS hA [] [0, 1, 2] rfl rfl (by decide) (by decide) (va_runSN (As := [.int (nI dn), .int (f_errandAfter q1)]) (rest := []) ⟨hx, hb, hml, hown, hts⟩ (c_X10_isIn l D cB cI cJ cS cZ cO s.heap.size (nI dn) (f_errandAfter q1) ) ⟨va_cnB 2 hts gX8_doneBehind_X10_isIn_n101 rfl rfl rfl (hN.2.1 (RX8, 101, yX10_isIn, RX10) (by decide +kernel)) (hts (.initialized RX10) (by decide +kernel)) (by decide +kernel) ⟨Nat.le_of_ble_eq_true rfl, Nat.le_of_ble_eq_true rfl⟩, hts (.static yX10_isIn) (by decide +kernel), trivial⟩ (xPreS (win := []) hN hK hP hD [] (by decide) rfl) rfl rfl hl.1 rfl (lv_room (Nat.le_of_ble_eq_true rfl)) dX8_doneBehind_31 ⟨Nat.le_of_ble_eq_true rfl, Nat.le_of_ble_eq_true rfl⟩) (fun r_4 w0 H locs hw hP hD hS => ?_)
      obtain ⟨rfl, hf_5⟩ := hw
      have hP : va_P D vwCl [(o, .inr (8, [.ref k_name, .ref k_worth, .ref k_times, .ref k_first, .ref k_second, .ref k_beforeLast, .ref k_last, .ref k_errandOf, .ref k_errandAfter, .ref k_sound, .ref k_followers, .ref k_leaders, .int k_words, .int k_errands, .int k_alikes, .int k_law])), (k_errandOf, .inl (cI, 24, .inl f_errandOf)), (k_errandAfter, .inl (cI, 6, .inl f_errandAfter))] H := hP
      have hD : va_D A [(o, .inr (8, [.ref k_name, .ref k_worth, .ref k_times, .ref k_first, .ref k_second, .ref k_beforeLast, .ref k_last, .ref k_errandOf, .ref k_errandAfter, .ref k_sound, .ref k_followers, .ref k_leaders, .int k_words, .int k_errands, .int k_alikes, .int k_law])), (k_errandOf, .inl (cI, 24, .inl f_errandOf)), (k_errandAfter, .inl (cI, 6, .inl f_errandAfter))] := hD
      refine lv_if_eq (tgt := 45) hx hb dX8_doneBehind_34 (by decide) (fun c_6 => ?_) (fun c_6 => ?_)
      · refine lv_iload_n hx hb dX8_doneBehind_45 rfl (lv_at hl 3 rfl) ?_
        have hP9 := hP.sub (ws' := [(o, .inr (8, [.ref k_name, .ref k_worth, .ref k_times, .ref k_first, .ref k_second, .ref k_beforeLast, .ref k_last, .ref k_errandOf, .ref k_errandAfter, .ref k_sound, .ref k_followers, .ref k_leaders, .int k_words, .int k_errands, .int k_alikes, .int k_law])), (k_errandOf, .inl (cI, 24, .inl f_errandOf)), (k_errandAfter, .inl (cI, 6, .inl f_errandAfter))]) [0, 1, 2] rfl
        have hD9 := hD.sub (ws' := [(o, .inr (8, [.ref k_name, .ref k_worth, .ref k_times, .ref k_first, .ref k_second, .ref k_beforeLast, .ref k_last, .ref k_errandOf, .ref k_errandAfter, .ref k_sound, .ref k_followers, .ref k_leaders, .int k_words, .int k_errands, .int k_alikes, .int k_law])), (k_errandOf, .inl (cI, 24, .inl f_errandOf)), (k_errandAfter, .inl (cI, 6, .inl f_errandAfter))]) [0, 1, 2] (by decide) rfl
        refine W.widen (k := 0) (n := 0) (Nat.le_of_ble_eq_true rfl) (Nat.le_of_ble_eq_true rfl) ?_
        exact W.iret (v := nI dn) hx hb hr (fun tz htz hWz => ⟨⟨nI dn, [(o, .inr (8, [.ref k_name, .ref k_worth, .ref k_times, .ref k_first, .ref k_second, .ref k_beforeLast, .ref k_last, .ref k_errandOf, .ref k_errandAfter, .ref k_sound, .ref k_followers, .ref k_leaders, .int k_words, .int k_errands, .int k_alikes, .int k_law])), (k_errandOf, .inl (cI, 24, .inl f_errandOf)), (k_errandAfter, .inl (cI, 6, .inl f_errandAfter))], rfl, ⟨dn, rfl, rfl, hdn⟩, by rw [htz]; exact hP9, va_K.moved hWz.alike hK, hD9⟩, hS.F htz⟩) hS.2.2 dX8_doneBehind_46
      · refine lv_iload_n hx hb dX8_doneBehind_37 rfl (lv_at hl 3 rfl) ?_
        refine lv_iconst (v := 1) hx hb dX8_doneBehind_38 (by decide) ?_
        refine lv_iload_n hx hb dX8_doneBehind_39 rfl (lv_at hl 1 rfl) ?_
        refine lv_ishl hx hb dX8_doneBehind_40 ?_
        refine xb_top (y := nI (1 * 2 ^ q1)) (nb_shl (a := 1) (i := q1) (by omega)) ?_
        refine lv_ior hx hb dX8_doneBehind_41 ?_
        refine xb_top (y := nI (dn ||| (1 * 2 ^ q1))) (nb_or dn (1 * 2 ^ q1)) ?_
        refine lv_goto (tgt := 46) hx hb dX8_doneBehind_42 (by decide) ?_
        have hP9 := hP.sub (ws' := [(o, .inr (8, [.ref k_name, .ref k_worth, .ref k_times, .ref k_first, .ref k_second, .ref k_beforeLast, .ref k_last, .ref k_errandOf, .ref k_errandAfter, .ref k_sound, .ref k_followers, .ref k_leaders, .int k_words, .int k_errands, .int k_alikes, .int k_law])), (k_errandOf, .inl (cI, 24, .inl f_errandOf)), (k_errandAfter, .inl (cI, 6, .inl f_errandAfter))]) [0, 1, 2] rfl
        have hD9 := hD.sub (ws' := [(o, .inr (8, [.ref k_name, .ref k_worth, .ref k_times, .ref k_first, .ref k_second, .ref k_beforeLast, .ref k_last, .ref k_errandOf, .ref k_errandAfter, .ref k_sound, .ref k_followers, .ref k_leaders, .int k_words, .int k_errands, .int k_alikes, .int k_law])), (k_errandOf, .inl (cI, 24, .inl f_errandOf)), (k_errandAfter, .inl (cI, 6, .inl f_errandAfter))]) [0, 1, 2] (by decide) rfl
        refine W.widen (k := 0) (n := 0) (Nat.le_of_ble_eq_true rfl) (Nat.le_of_ble_eq_true rfl) ?_
        exact W.iret (v := nI (dn ||| (1 * 2 ^ q1))) hx hb hr (fun tz htz hWz => ⟨⟨nI (dn ||| (1 * 2 ^ q1)), [(o, .inr (8, [.ref k_name, .ref k_worth, .ref k_times, .ref k_first, .ref k_second, .ref k_beforeLast, .ref k_last, .ref k_errandOf, .ref k_errandAfter, .ref k_sound, .ref k_followers, .ref k_leaders, .int k_words, .int k_errands, .int k_alikes, .int k_law])), (k_errandOf, .inl (cI, 24, .inl f_errandOf)), (k_errandAfter, .inl (cI, 6, .inl f_errandAfter))], rfl, ⟨(dn ||| (1 * 2 ^ q1)), rfl, rfl, (done_lt hdn hq1)⟩, by rw [htz]; exact hP9, va_K.moved hWz.alike hK, hD9⟩, hS.F htz⟩) hS.2.2 dX8_doneBehind_46
  · refine lv_iload_n hx hb dX8_doneBehind_12 rfl (lv_at hl 2 rfl) ?_
    have hP9 := hP.sub (ws' := [(o, .inr (8, [.ref k_name, .ref k_worth, .ref k_times, .ref k_first, .ref k_second, .ref k_beforeLast, .ref k_last, .ref k_errandOf, .ref k_errandAfter, .ref k_sound, .ref k_followers, .ref k_leaders, .int k_words, .int k_errands, .int k_alikes, .int k_law])), (k_errandOf, .inl (cI, 24, .inl f_errandOf)), (k_errandAfter, .inl (cI, 6, .inl f_errandAfter))]) [0, 1, 2] rfl
    have hD9 := hD.sub (ws' := [(o, .inr (8, [.ref k_name, .ref k_worth, .ref k_times, .ref k_first, .ref k_second, .ref k_beforeLast, .ref k_last, .ref k_errandOf, .ref k_errandAfter, .ref k_sound, .ref k_followers, .ref k_leaders, .int k_words, .int k_errands, .int k_alikes, .int k_law])), (k_errandOf, .inl (cI, 24, .inl f_errandOf)), (k_errandAfter, .inl (cI, 6, .inl f_errandAfter))]) [0, 1, 2] (by decide) rfl
    refine W.widen (k := 0) (n := 0) (Nat.le_of_ble_eq_true rfl) (Nat.le_of_ble_eq_true rfl) ?_
    exact W.iret (v := nI dn) hx hb hr (fun tz htz hWz => ⟨⟨nI dn, [(o, .inr (8, [.ref k_name, .ref k_worth, .ref k_times, .ref k_first, .ref k_second, .ref k_beforeLast, .ref k_last, .ref k_errandOf, .ref k_errandAfter, .ref k_sound, .ref k_followers, .ref k_leaders, .int k_words, .int k_errands, .int k_alikes, .int k_law])), (k_errandOf, .inl (cI, 24, .inl f_errandOf)), (k_errandAfter, .inl (cI, 6, .inl f_errandAfter))], rfl, ⟨dn, rfl, rfl, hdn⟩, by rw [htz]; exact hP9, va_K.moved hWz.alike hK, hD9⟩, hS.F htz⟩) hS.2.2 dX8_doneBehind_13

set_option maxHeartbeats 4000000 in
set_option maxRecDepth 100000 in
theorem c_X8_allows (l : Launch) (D : va_G) (cB cI cJ cS cZ cO : ClassId) (sz : Nat) (o : Nat) (a1 : Nat) (b1 : Nat) (k_name : Nat) (k_worth : Nat) (k_times : Nat) (k_first : Nat) (k_second : Nat) (k_beforeLast : Nat) (k_last : Nat) (k_errandOf : Nat) (k_errandAfter : Nat) (k_sound : Nat) (k_followers : Nat) (k_leaders : Nat) (w : Nat) (k_errands : Int32) (k_alikes : Int32) (k_law : Int32) (f_first : Nat → Int32) (f_last : Nat → Int32) (f_second : Nat → Int32) (f_beforeLast : Nat → Int32) (f_sound : Nat → Int32) (hw : w ≤ 24) (hf : rgN f_first w 26) (hl1 : rgN f_last w 26) (hs : rgM f_second w 26) (hb9 : rgM f_beforeLast w 26) (ha : a1 < w) (hb1 : b1 < w) : Met l yX8_allows wsX8_allows ({ frames := 1, cells := 0, slots := 0, locals := 22 }) (xPre D (tyL cB cI cJ cS cZ cO) [(o, .inr (8, [.ref k_name, .ref k_worth, .ref k_times, .ref k_first, .ref k_second, .ref k_beforeLast, .ref k_last, .ref k_errandOf, .ref k_errandAfter, .ref k_sound, .ref k_followers, .ref k_leaders, .int (nI w), .int k_errands, .int k_alikes, .int k_law])), (k_first, .inl (cI, 24, .inl f_first)), (k_last, .inl (cI, 24, .inl f_last)), (k_second, .inl (cI, 24, .inl f_second)), (k_beforeLast, .inl (cI, 24, .inl f_beforeLast)), (k_sound, .inl (cI, 26, .inl f_sound))] sz [.ref o, .int (nI a1), .int (nI b1)]) (xQi D (tyL cB cI cJ cS cZ cO) (va_A [(o, .inr (8, [.ref k_name, .ref k_worth, .ref k_times, .ref k_first, .ref k_second, .ref k_beforeLast, .ref k_last, .ref k_errandOf, .ref k_errandAfter, .ref k_sound, .ref k_followers, .ref k_leaders, .int (nI w), .int k_errands, .int k_alikes, .int k_law])), (k_first, .inl (cI, 24, .inl f_first)), (k_last, .inl (cI, 24, .inl f_last)), (k_second, .inl (cI, 24, .inl f_second)), (k_beforeLast, .inl (cI, 24, .inl f_beforeLast)), (k_sound, .inl (cI, 26, .inl f_sound))] sz) (fun (r : Int32) (u : va_W) => u = [(o, .inr (8, [.ref k_name, .ref k_worth, .ref k_times, .ref k_first, .ref k_second, .ref k_beforeLast, .ref k_last, .ref k_errandOf, .ref k_errandAfter, .ref k_sound, .ref k_followers, .ref k_leaders, .int (nI w), .int k_errands, .int k_alikes, .int k_law])), (k_first, .inl (cI, 24, .inl f_first)), (k_last, .inl (cI, 24, .inl f_last)), (k_second, .inl (cI, 24, .inl f_second)), (k_beforeLast, .inl (cI, 24, .inl f_beforeLast)), (k_sound, .inl (cI, 26, .inl f_sound))] ∧ (r = 0 ∨ r = 1))) 0 0 (va_A [(o, .inr (8, [.ref k_name, .ref k_worth, .ref k_times, .ref k_first, .ref k_second, .ref k_beforeLast, .ref k_last, .ref k_errandOf, .ref k_errandAfter, .ref k_sound, .ref k_followers, .ref k_leaders, .int (nI w), .int k_errands, .int k_alikes, .int k_law])), (k_first, .inl (cI, 24, .inl f_first)), (k_last, .inl (cI, 24, .inl f_last)), (k_second, .inl (cI, 24, .inl f_second)), (k_beforeLast, .inl (cI, 24, .inl f_beforeLast)), (k_sound, .inl (cI, 26, .inl f_sound))] sz) := by
  refine Met.ofW (cc := cX8_allows) (maxL := 4) (ret := (some .boolean)) (by decide) rfl ?_
  intro p e s m args below meth c s₁ B hml hv
  obtain ⟨rfl, hsz, hP, hK, hD0, hN⟩ := hv
  have hx := B.exec
  have hb := B.bytes
  have hr := B.returns
  have hts := atoms_spec (ws := wsX8_allows) B.pre
  have hown : s.vm.findClass RX8 = some m.cls := findClass_of_methodNamed B.named
  have hlocks := B.notSynchronized
  subst hsz
  have hD := hD0.self (sz := s.heap.size)
  generalize hAe : va_A [(o, .inr (8, [.ref k_name, .ref k_worth, .ref k_times, .ref k_first, .ref k_second, .ref k_beforeLast, .ref k_last, .ref k_errandOf, .ref k_errandAfter, .ref k_sound, .ref k_followers, .ref k_leaders, .int (nI w), .int k_errands, .int k_alikes, .int k_law])), (k_first, .inl (cI, 24, .inl f_first)), (k_last, .inl (cI, 24, .inl f_last)), (k_second, .inl (cI, 24, .inl f_second)), (k_beforeLast, .inl (cI, 24, .inl f_beforeLast)), (k_sound, .inl (cI, 26, .inl f_sound))] s.heap.size = A at hD ⊢
  have hA : ∀ q : Nat, s.heap.size ≤ q → A q := fun q h => by rw [← hAe]; exact Or.inr h
  have hS : va_S A s.heap s.heap [] := va_S.rf
  have hP : va_P D vwCl [(o, .inr (8, [.ref k_name, .ref k_worth, .ref k_times, .ref k_first, .ref k_second, .ref k_beforeLast, .ref k_last, .ref k_errandOf, .ref k_errandAfter, .ref k_sound, .ref k_followers, .ref k_leaders, .int (nI w), .int k_errands, .int k_alikes, .int k_law])), (k_first, .inl (cI, 24, .inl f_first)), (k_last, .inl (cI, 24, .inl f_last)), (k_second, .inl (cI, 24, .inl f_second)), (k_beforeLast, .inl (cI, 24, .inl f_beforeLast)), (k_sound, .inl (cI, 26, .inl f_sound))] s.heap := hP
  have hl := lv_entry ([.ref o, .int (nI a1), .int (nI b1)]) (n := 4) (Nat.le_of_ble_eq_true rfl)
  rw [lg_entry_eq]
  generalize (lg_sl ([.ref o, .int (nI a1), .int (nI b1)]) ++ List.replicate (4 - (lg_sl ([.ref o, .int (nI a1), .int (nI b1)])).length) Slot.unset).toArray = ls at hl ⊢
  have hl : lv_has ls 4 [(0, .ref o), (1, .int (nI a1)), (2, .int (nI b1))] := hl
  refine lv_aload_n hx hb dX8_allows_0 rfl (lv_at hl 0 rfl) ?_
  refine lv_aload_n hx hb dX8_allows_1 rfl (lv_at hl 0 rfl) ?_
  refine va_get (D := D) (ci := 8) (v := .ref k_last) (C := RX8) (T := TX8) (N := 16) hx hb hts (by decide +kernel) hown hK hP 0 rfl rfl 6 (by decide) (hts (.fieldLink RX8 31 "LastLetter$Tongue" "last" "[I") (by decide +kernel)) (fun _ h9 => h9) rfl dX8_allows_2 ?_
  refine lv_iload_n hx hb dX8_allows_5 rfl (lv_at hl 1 rfl) ?_
  refine va_iald hx hb hK hP 2 1 rfl rfl (vp_in_nI (by omega) (by omega)) dX8_allows_6 ?_
  refine xb_top (y := f_last a1) (by rw [nI_clamp (by omega)]) ?_
  obtain ⟨q_1, hq_1, eq_1⟩ := hl1 a1 (by omega)
  refine xb_top (y := nI q_1) eq_1 ?_
  refine lv_aload_n hx hb dX8_allows_7 rfl (lv_at hl 0 rfl) ?_
  refine va_get (D := D) (ci := 8) (v := .ref k_first) (C := RX8) (T := TX8) (N := 16) hx hb hts (by decide +kernel) hown hK hP 0 rfl rfl 3 (by decide) (hts (.fieldLink RX8 22 "LastLetter$Tongue" "first" "[I") (by decide +kernel)) (fun _ h9 => h9) rfl dX8_allows_8 ?_
  refine lv_iload_n hx hb dX8_allows_11 rfl (lv_at hl 2 rfl) ?_
  refine va_iald hx hb hK hP 1 1 rfl rfl (vp_in_nI (by omega) (by omega)) dX8_allows_12 ?_
  refine xb_top (y := f_first b1) (by rw [nI_clamp (by omega)]) ?_
  obtain ⟨q_2, hq_2, eq_2⟩ := hf b1 (by omega)
  refine xb_top (y := nI q_2) eq_2 ?_
  refine xCi (wr := [(k_first, .inl (cI, 24, .inl f_first)), (k_last, .inl (cI, 24, .inl f_last)), (k_second, .inl (cI, 24, .inl f_second)), (k_beforeLast, .inl (cI, 24, .inl f_beforeLast))]) (win := [(o, .inr (8, [.ref k_name, .ref k_worth, .ref k_times, .ref k_first, .ref k_second, .ref k_beforeLast, .ref k_last, .ref k_errandOf, .ref k_errandAfter, .ref k_sound, .ref k_followers, .ref k_leaders, .int (nI w), .int k_errands, .int k_alikes, .int k_law])), (k_sound, .inl (cI, 26, .inl f_sound))]) hP hD hS hA [0, 5] [1, 2, 3, 4] rfl rfl (by decide) (by decide) (va_runV (As := [.int (nI q_1), .int (nI q_2)]) (rest := []) ⟨hx, hb, hml, hown, hts⟩ (c_X8_areAlike l D cB cI cJ cS cZ cO s.heap.size o (nI q_1) (nI q_2) k_name k_worth k_times k_first k_second k_beforeLast k_last k_errandOf k_errandAfter k_sound k_followers k_leaders (nI w) k_errands k_alikes k_law f_sound (Or.inr ⟨q_1, hq_1, rfl⟩) (Or.inr ⟨q_2, hq_2, rfl⟩)) (cwV 2 hts gX8_allows_X8_areAlike rfl rfl rfl (by decide +kernel) ⟨Nat.le_of_ble_eq_true rfl, Nat.le_of_ble_eq_true rfl⟩) (xPreV (win := [(o, .inr (8, [.ref k_name, .ref k_worth, .ref k_times, .ref k_first, .ref k_second, .ref k_beforeLast, .ref k_last, .ref k_errandOf, .ref k_errandAfter, .ref k_sound, .ref k_followers, .ref k_leaders, .int (nI w), .int k_errands, .int k_alikes, .int k_law])), (k_sound, .inl (cI, 26, .inl f_sound))]) hN hK hP hD [0, 5] (by decide) rfl 0 8 rfl rfl rfl) rfl rfl hl.1 rfl (lv_room (Nat.le_of_ble_eq_true rfl)) dX8_allows_13 ⟨Nat.le_of_ble_eq_true rfl, Nat.le_of_ble_eq_true rfl⟩) (fun r_3 w0 H locs hw hP hD hS => ?_)
  obtain ⟨rfl, hf_4⟩ := hw
  have hP : va_P D vwCl [(k_first, .inl (cI, 24, .inl f_first)), (k_last, .inl (cI, 24, .inl f_last)), (k_second, .inl (cI, 24, .inl f_second)), (k_beforeLast, .inl (cI, 24, .inl f_beforeLast)), (o, .inr (8, [.ref k_name, .ref k_worth, .ref k_times, .ref k_first, .ref k_second, .ref k_beforeLast, .ref k_last, .ref k_errandOf, .ref k_errandAfter, .ref k_sound, .ref k_followers, .ref k_leaders, .int (nI w), .int k_errands, .int k_alikes, .int k_law])), (k_sound, .inl (cI, 26, .inl f_sound))] H := hP
  have hD : va_D A [(k_first, .inl (cI, 24, .inl f_first)), (k_last, .inl (cI, 24, .inl f_last)), (k_second, .inl (cI, 24, .inl f_second)), (k_beforeLast, .inl (cI, 24, .inl f_beforeLast)), (o, .inr (8, [.ref k_name, .ref k_worth, .ref k_times, .ref k_first, .ref k_second, .ref k_beforeLast, .ref k_last, .ref k_errandOf, .ref k_errandAfter, .ref k_sound, .ref k_followers, .ref k_leaders, .int (nI w), .int k_errands, .int k_alikes, .int k_law])), (k_sound, .inl (cI, 26, .inl f_sound))] := hD
  refine lv_istore_n (lv' := [(3, .int r_3), (0, .ref o), (1, .int (nI a1)), (2, .int (nI b1))]) hx hb dX8_allows_16 rfl hl (by decide) rfl (fun ls hl => ?_)
  refine lv_aload_n hx hb dX8_allows_17 rfl (lv_at hl 1 rfl) ?_
  refine va_get (D := D) (ci := 8) (v := .int k_law) (C := RX8) (T := TX8) (N := 16) hx hb hts (by decide +kernel) hown hK hP 4 rfl rfl 15 (by decide) (hts (.fieldLink RX8 62 "LastLetter$Tongue" "law" "I") (by decide +kernel)) (fun _ h9 => h9) rfl dX8_allows_18 ?_
  rcases ib_ab k_law (a := 2) (b := 3) with e23 | e23 | ⟨n0, n1⟩
  · refine xb_top (y := 2) e23 ?_
    refine lv_lookup (off := 27) (tgt := 48) hx hb dX8_allows_21 (by decide) (by decide) (by decide) ?_
    refine lv_aload_n hx hb dX8_allows_48 rfl (lv_at hl 1 rfl) ?_
    refine lv_aload_n hx hb dX8_allows_49 rfl (lv_at hl 1 rfl) ?_
    refine va_get (D := D) (ci := 8) (v := .ref k_beforeLast) (C := RX8) (T := TX8) (N := 16) hx hb hts (by decide +kernel) hown hK hP 4 rfl rfl 5 (by decide) (hts (.fieldLink RX8 28 "LastLetter$Tongue" "beforeLast" "[I") (by decide +kernel)) (fun _ h9 => h9) rfl dX8_allows_50 ?_
    refine lv_iload_n hx hb dX8_allows_53 rfl (lv_at hl 2 rfl) ?_
    refine va_iald hx hb hK hP 3 1 rfl rfl (vp_in_nI (by omega) (by omega)) dX8_allows_54 ?_
    refine xb_top (y := f_beforeLast a1) (by rw [nI_clamp (by omega)]) ?_
    have hm_5 := hb9 a1 (by omega)
    refine lv_aload_n hx hb dX8_allows_55 rfl (lv_at hl 1 rfl) ?_
    refine va_get (D := D) (ci := 8) (v := .ref k_first) (C := RX8) (T := TX8) (N := 16) hx hb hts (by decide +kernel) hown hK hP 4 rfl rfl 3 (by decide) (hts (.fieldLink RX8 22 "LastLetter$Tongue" "first" "[I") (by decide +kernel)) (fun _ h9 => h9) rfl dX8_allows_56 ?_
    refine lv_iload_n hx hb dX8_allows_59 rfl (lv_at hl 3 rfl) ?_
    refine va_iald hx hb hK hP 0 1 rfl rfl (vp_in_nI (by omega) (by omega)) dX8_allows_60 ?_
    refine xb_top (y := f_first b1) (by rw [nI_clamp (by omega)]) ?_
    obtain ⟨q_6, hq_6, eq_6⟩ := hf b1 (by omega)
    refine xb_top (y := nI q_6) eq_6 ?_
    refine xCi (wr := [(k_first, .inl (cI, 24, .inl f_first)), (k_last, .inl (cI, 24, .inl f_last)), (k_second, .inl (cI, 24, .inl f_second)), (k_beforeLast, .inl (cI, 24, .inl f_beforeLast))]) (win := [(o, .inr (8, [.ref k_name, .ref k_worth, .ref k_times, .ref k_first, .ref k_second, .ref k_beforeLast, .ref k_last, .ref k_errandOf, .ref k_errandAfter, .ref k_sound, .ref k_followers, .ref k_leaders, .int (nI w), .int k_errands, .int k_alikes, .int k_law])), (k_sound, .inl (cI, 26, .inl f_sound))]) hP hD hS hA [4, 5] [0, 1, 2, 3] rfl rfl (by decide) (by decide) (va_runV (As := [.int (f_beforeLast a1), .int (nI q_6)]) (rest := []) ⟨hx, hb, hml, hown, hts⟩ (c_X8_areAlike l D cB cI cJ cS cZ cO H.size o (f_beforeLast a1) (nI q_6) k_name k_worth k_times k_first k_second k_beforeLast k_last k_errandOf k_errandAfter k_sound k_followers k_leaders (nI w) k_errands k_alikes k_law f_sound hm_5 (Or.inr ⟨q_6, hq_6, rfl⟩)) (cwV 2 hts gX8_allows_X8_areAlike rfl rfl rfl (by decide +kernel) ⟨Nat.le_of_ble_eq_true rfl, Nat.le_of_ble_eq_true rfl⟩) (xPreV (win := [(o, .inr (8, [.ref k_name, .ref k_worth, .ref k_times, .ref k_first, .ref k_second, .ref k_beforeLast, .ref k_last, .ref k_errandOf, .ref k_errandAfter, .ref k_sound, .ref k_followers, .ref k_leaders, .int (nI w), .int k_errands, .int k_alikes, .int k_law])), (k_sound, .inl (cI, 26, .inl f_sound))]) hN hK hP hD [4, 5] (by decide) rfl 4 8 rfl rfl rfl) rfl rfl hl.1 rfl (lv_room (Nat.le_of_ble_eq_true rfl)) dX8_allows_61 ⟨Nat.le_of_ble_eq_true rfl, Nat.le_of_ble_eq_true rfl⟩) (fun r_7 w0 H locs hw hP hD hS => ?_)
    obtain ⟨rfl, hf_8⟩ := hw
    have hP : va_P D vwCl [(k_first, .inl (cI, 24, .inl f_first)), (k_last, .inl (cI, 24, .inl f_last)), (k_second, .inl (cI, 24, .inl f_second)), (k_beforeLast, .inl (cI, 24, .inl f_beforeLast)), (o, .inr (8, [.ref k_name, .ref k_worth, .ref k_times, .ref k_first, .ref k_second, .ref k_beforeLast, .ref k_last, .ref k_errandOf, .ref k_errandAfter, .ref k_sound, .ref k_followers, .ref k_leaders, .int (nI w), .int k_errands, .int k_alikes, .int k_law])), (k_sound, .inl (cI, 26, .inl f_sound))] H := hP
    have hD : va_D A [(k_first, .inl (cI, 24, .inl f_first)), (k_last, .inl (cI, 24, .inl f_last)), (k_second, .inl (cI, 24, .inl f_second)), (k_beforeLast, .inl (cI, 24, .inl f_beforeLast)), (o, .inr (8, [.ref k_name, .ref k_worth, .ref k_times, .ref k_first, .ref k_second, .ref k_beforeLast, .ref k_last, .ref k_errandOf, .ref k_errandAfter, .ref k_sound, .ref k_followers, .ref k_leaders, .int (nI w), .int k_errands, .int k_alikes, .int k_law])), (k_sound, .inl (cI, 26, .inl f_sound))] := hD
    refine lv_if_eq (tgt := 90) hx hb dX8_allows_64 (by decide) (fun c_9 => ?_) (fun c_9 => ?_)
    · refine lv_iconst (v := 0) hx hb dX8_allows_90 (by decide) ?_
      have hP9 := hP.sub (ws' := [(o, .inr (8, [.ref k_name, .ref k_worth, .ref k_times, .ref k_first, .ref k_second, .ref k_beforeLast, .ref k_last, .ref k_errandOf, .ref k_errandAfter, .ref k_sound, .ref k_followers, .ref k_leaders, .int (nI w), .int k_errands, .int k_alikes, .int k_law])), (k_first, .inl (cI, 24, .inl f_first)), (k_last, .inl (cI, 24, .inl f_last)), (k_second, .inl (cI, 24, .inl f_second)), (k_beforeLast, .inl (cI, 24, .inl f_beforeLast)), (k_sound, .inl (cI, 26, .inl f_sound))]) [4, 0, 1, 2, 3, 5] rfl
      have hD9 := hD.sub (ws' := [(o, .inr (8, [.ref k_name, .ref k_worth, .ref k_times, .ref k_first, .ref k_second, .ref k_beforeLast, .ref k_last, .ref k_errandOf, .ref k_errandAfter, .ref k_sound, .ref k_followers, .ref k_leaders, .int (nI w), .int k_errands, .int k_alikes, .int k_law])), (k_first, .inl (cI, 24, .inl f_first)), (k_last, .inl (cI, 24, .inl f_last)), (k_second, .inl (cI, 24, .inl f_second)), (k_beforeLast, .inl (cI, 24, .inl f_beforeLast)), (k_sound, .inl (cI, 26, .inl f_sound))]) [4, 0, 1, 2, 3, 5] (by decide) rfl
      refine W.widen (k := 0) (n := 0) (Nat.le_of_ble_eq_true rfl) (Nat.le_of_ble_eq_true rfl) ?_
      exact W.zret (v := 0) hx hb hr (by decide) (fun tz htz hWz => ⟨⟨0, [(o, .inr (8, [.ref k_name, .ref k_worth, .ref k_times, .ref k_first, .ref k_second, .ref k_beforeLast, .ref k_last, .ref k_errandOf, .ref k_errandAfter, .ref k_sound, .ref k_followers, .ref k_leaders, .int (nI w), .int k_errands, .int k_alikes, .int k_law])), (k_first, .inl (cI, 24, .inl f_first)), (k_last, .inl (cI, 24, .inl f_last)), (k_second, .inl (cI, 24, .inl f_second)), (k_beforeLast, .inl (cI, 24, .inl f_beforeLast)), (k_sound, .inl (cI, 26, .inl f_sound))], rfl, ⟨rfl, (Or.inl rfl)⟩, by rw [htz]; exact hP9, va_K.moved hWz.alike hK, hD9⟩, hS.F htz⟩) hS.2.2 dX8_allows_91
    · refine lv_aload_n hx hb dX8_allows_67 rfl (lv_at hl 1 rfl) ?_
      refine lv_aload_n hx hb dX8_allows_68 rfl (lv_at hl 1 rfl) ?_
      refine va_get (D := D) (ci := 8) (v := .ref k_last) (C := RX8) (T := TX8) (N := 16) hx hb hts (by decide +kernel) hown hK hP 4 rfl rfl 6 (by decide) (hts (.fieldLink RX8 31 "LastLetter$Tongue" "last" "[I") (by decide +kernel)) (fun _ h9 => h9) rfl dX8_allows_69 ?_
      refine lv_iload_n hx hb dX8_allows_72 rfl (lv_at hl 2 rfl) ?_
      refine va_iald hx hb hK hP 1 1 rfl rfl (vp_in_nI (by omega) (by omega)) dX8_allows_73 ?_
      refine xb_top (y := f_last a1) (by rw [nI_clamp (by omega)]) ?_
      obtain ⟨q_10, hq_10, eq_10⟩ := hl1 a1 (by omega)
      refine xb_top (y := nI q_10) eq_10 ?_
      refine lv_aload_n hx hb dX8_allows_74 rfl (lv_at hl 1 rfl) ?_
      refine va_get (D := D) (ci := 8) (v := .ref k_second) (C := RX8) (T := TX8) (N := 16) hx hb hts (by decide +kernel) hown hK hP 4 rfl rfl 4 (by decide) (hts (.fieldLink RX8 25 "LastLetter$Tongue" "second" "[I") (by decide +kernel)) (fun _ h9 => h9) rfl dX8_allows_75 ?_
      refine lv_iload_n hx hb dX8_allows_78 rfl (lv_at hl 3 rfl) ?_
      refine va_iald hx hb hK hP 2 1 rfl rfl (vp_in_nI (by omega) (by omega)) dX8_allows_79 ?_
      refine xb_top (y := f_second b1) (by rw [nI_clamp (by omega)]) ?_
      have hm_11 := hs b1 (by omega)
      refine xCi (wr := [(k_first, .inl (cI, 24, .inl f_first)), (k_last, .inl (cI, 24, .inl f_last)), (k_second, .inl (cI, 24, .inl f_second)), (k_beforeLast, .inl (cI, 24, .inl f_beforeLast))]) (win := [(o, .inr (8, [.ref k_name, .ref k_worth, .ref k_times, .ref k_first, .ref k_second, .ref k_beforeLast, .ref k_last, .ref k_errandOf, .ref k_errandAfter, .ref k_sound, .ref k_followers, .ref k_leaders, .int (nI w), .int k_errands, .int k_alikes, .int k_law])), (k_sound, .inl (cI, 26, .inl f_sound))]) hP hD hS hA [4, 5] [0, 1, 2, 3] rfl rfl (by decide) (by decide) (va_runV (As := [.int (nI q_10), .int (f_second b1)]) (rest := []) ⟨hx, hb, hml, hown, hts⟩ (c_X8_areAlike l D cB cI cJ cS cZ cO H.size o (nI q_10) (f_second b1) k_name k_worth k_times k_first k_second k_beforeLast k_last k_errandOf k_errandAfter k_sound k_followers k_leaders (nI w) k_errands k_alikes k_law f_sound (Or.inr ⟨q_10, hq_10, rfl⟩) hm_11) (cwV 2 hts gX8_allows_X8_areAlike rfl rfl rfl (by decide +kernel) ⟨Nat.le_of_ble_eq_true rfl, Nat.le_of_ble_eq_true rfl⟩) (xPreV (win := [(o, .inr (8, [.ref k_name, .ref k_worth, .ref k_times, .ref k_first, .ref k_second, .ref k_beforeLast, .ref k_last, .ref k_errandOf, .ref k_errandAfter, .ref k_sound, .ref k_followers, .ref k_leaders, .int (nI w), .int k_errands, .int k_alikes, .int k_law])), (k_sound, .inl (cI, 26, .inl f_sound))]) hN hK hP hD [4, 5] (by decide) rfl 4 8 rfl rfl rfl) rfl rfl hl.1 rfl (lv_room (Nat.le_of_ble_eq_true rfl)) dX8_allows_80 ⟨Nat.le_of_ble_eq_true rfl, Nat.le_of_ble_eq_true rfl⟩) (fun r_12 w0 H locs hw hP hD hS => ?_)
      obtain ⟨rfl, hf_13⟩ := hw
      have hP : va_P D vwCl [(k_first, .inl (cI, 24, .inl f_first)), (k_last, .inl (cI, 24, .inl f_last)), (k_second, .inl (cI, 24, .inl f_second)), (k_beforeLast, .inl (cI, 24, .inl f_beforeLast)), (o, .inr (8, [.ref k_name, .ref k_worth, .ref k_times, .ref k_first, .ref k_second, .ref k_beforeLast, .ref k_last, .ref k_errandOf, .ref k_errandAfter, .ref k_sound, .ref k_followers, .ref k_leaders, .int (nI w), .int k_errands, .int k_alikes, .int k_law])), (k_sound, .inl (cI, 26, .inl f_sound))] H := hP
      have hD : va_D A [(k_first, .inl (cI, 24, .inl f_first)), (k_last, .inl (cI, 24, .inl f_last)), (k_second, .inl (cI, 24, .inl f_second)), (k_beforeLast, .inl (cI, 24, .inl f_beforeLast)), (o, .inr (8, [.ref k_name, .ref k_worth, .ref k_times, .ref k_first, .ref k_second, .ref k_beforeLast, .ref k_last, .ref k_errandOf, .ref k_errandAfter, .ref k_sound, .ref k_followers, .ref k_leaders, .int (nI w), .int k_errands, .int k_alikes, .int k_law])), (k_sound, .inl (cI, 26, .inl f_sound))] := hD
      refine lv_if_eq (tgt := 90) hx hb dX8_allows_83 (by decide) (fun c_14 => ?_) (fun c_14 => ?_)
      · refine lv_iconst (v := 0) hx hb dX8_allows_90 (by decide) ?_
        have hP9 := hP.sub (ws' := [(o, .inr (8, [.ref k_name, .ref k_worth, .ref k_times, .ref k_first, .ref k_second, .ref k_beforeLast, .ref k_last, .ref k_errandOf, .ref k_errandAfter, .ref k_sound, .ref k_followers, .ref k_leaders, .int (nI w), .int k_errands, .int k_alikes, .int k_law])), (k_first, .inl (cI, 24, .inl f_first)), (k_last, .inl (cI, 24, .inl f_last)), (k_second, .inl (cI, 24, .inl f_second)), (k_beforeLast, .inl (cI, 24, .inl f_beforeLast)), (k_sound, .inl (cI, 26, .inl f_sound))]) [4, 0, 1, 2, 3, 5] rfl
        have hD9 := hD.sub (ws' := [(o, .inr (8, [.ref k_name, .ref k_worth, .ref k_times, .ref k_first, .ref k_second, .ref k_beforeLast, .ref k_last, .ref k_errandOf, .ref k_errandAfter, .ref k_sound, .ref k_followers, .ref k_leaders, .int (nI w), .int k_errands, .int k_alikes, .int k_law])), (k_first, .inl (cI, 24, .inl f_first)), (k_last, .inl (cI, 24, .inl f_last)), (k_second, .inl (cI, 24, .inl f_second)), (k_beforeLast, .inl (cI, 24, .inl f_beforeLast)), (k_sound, .inl (cI, 26, .inl f_sound))]) [4, 0, 1, 2, 3, 5] (by decide) rfl
        refine W.widen (k := 0) (n := 0) (Nat.le_of_ble_eq_true rfl) (Nat.le_of_ble_eq_true rfl) ?_
        exact W.zret (v := 0) hx hb hr (by decide) (fun tz htz hWz => ⟨⟨0, [(o, .inr (8, [.ref k_name, .ref k_worth, .ref k_times, .ref k_first, .ref k_second, .ref k_beforeLast, .ref k_last, .ref k_errandOf, .ref k_errandAfter, .ref k_sound, .ref k_followers, .ref k_leaders, .int (nI w), .int k_errands, .int k_alikes, .int k_law])), (k_first, .inl (cI, 24, .inl f_first)), (k_last, .inl (cI, 24, .inl f_last)), (k_second, .inl (cI, 24, .inl f_second)), (k_beforeLast, .inl (cI, 24, .inl f_beforeLast)), (k_sound, .inl (cI, 26, .inl f_sound))], rfl, ⟨rfl, (Or.inl rfl)⟩, by rw [htz]; exact hP9, va_K.moved hWz.alike hK, hD9⟩, hS.F htz⟩) hS.2.2 dX8_allows_91
      · refine lv_iconst (v := 1) hx hb dX8_allows_86 (by decide) ?_
        refine lv_goto (tgt := 91) hx hb dX8_allows_87 (by decide) ?_
        have hP9 := hP.sub (ws' := [(o, .inr (8, [.ref k_name, .ref k_worth, .ref k_times, .ref k_first, .ref k_second, .ref k_beforeLast, .ref k_last, .ref k_errandOf, .ref k_errandAfter, .ref k_sound, .ref k_followers, .ref k_leaders, .int (nI w), .int k_errands, .int k_alikes, .int k_law])), (k_first, .inl (cI, 24, .inl f_first)), (k_last, .inl (cI, 24, .inl f_last)), (k_second, .inl (cI, 24, .inl f_second)), (k_beforeLast, .inl (cI, 24, .inl f_beforeLast)), (k_sound, .inl (cI, 26, .inl f_sound))]) [4, 0, 1, 2, 3, 5] rfl
        have hD9 := hD.sub (ws' := [(o, .inr (8, [.ref k_name, .ref k_worth, .ref k_times, .ref k_first, .ref k_second, .ref k_beforeLast, .ref k_last, .ref k_errandOf, .ref k_errandAfter, .ref k_sound, .ref k_followers, .ref k_leaders, .int (nI w), .int k_errands, .int k_alikes, .int k_law])), (k_first, .inl (cI, 24, .inl f_first)), (k_last, .inl (cI, 24, .inl f_last)), (k_second, .inl (cI, 24, .inl f_second)), (k_beforeLast, .inl (cI, 24, .inl f_beforeLast)), (k_sound, .inl (cI, 26, .inl f_sound))]) [4, 0, 1, 2, 3, 5] (by decide) rfl
        refine W.widen (k := 0) (n := 0) (Nat.le_of_ble_eq_true rfl) (Nat.le_of_ble_eq_true rfl) ?_
        exact W.zret (v := 1) hx hb hr (by decide) (fun tz htz hWz => ⟨⟨1, [(o, .inr (8, [.ref k_name, .ref k_worth, .ref k_times, .ref k_first, .ref k_second, .ref k_beforeLast, .ref k_last, .ref k_errandOf, .ref k_errandAfter, .ref k_sound, .ref k_followers, .ref k_leaders, .int (nI w), .int k_errands, .int k_alikes, .int k_law])), (k_first, .inl (cI, 24, .inl f_first)), (k_last, .inl (cI, 24, .inl f_last)), (k_second, .inl (cI, 24, .inl f_second)), (k_beforeLast, .inl (cI, 24, .inl f_beforeLast)), (k_sound, .inl (cI, 26, .inl f_sound))], rfl, ⟨rfl, (Or.inr rfl)⟩, by rw [htz]; exact hP9, va_K.moved hWz.alike hK, hD9⟩, hS.F htz⟩) hS.2.2 dX8_allows_91
  · refine xb_top (y := 3) e23 ?_
    refine lv_lookup (off := 71) (tgt := 92) hx hb dX8_allows_21 (by decide) (by decide) (by decide) ?_
    refine lv_iload_n hx hb dX8_allows_92 rfl (lv_at hl 0 rfl) ?_
    refine lv_if_ne (tgt := 100) hx hb dX8_allows_93 (by decide) (fun c_15 => ?_) (fun c_15 => ?_)
    · refine lv_iconst (v := 0) hx hb dX8_allows_100 (by decide) ?_
      have hP9 := hP.sub (ws' := [(o, .inr (8, [.ref k_name, .ref k_worth, .ref k_times, .ref k_first, .ref k_second, .ref k_beforeLast, .ref k_last, .ref k_errandOf, .ref k_errandAfter, .ref k_sound, .ref k_followers, .ref k_leaders, .int (nI w), .int k_errands, .int k_alikes, .int k_law])), (k_first, .inl (cI, 24, .inl f_first)), (k_last, .inl (cI, 24, .inl f_last)), (k_second, .inl (cI, 24, .inl f_second)), (k_beforeLast, .inl (cI, 24, .inl f_beforeLast)), (k_sound, .inl (cI, 26, .inl f_sound))]) [4, 0, 1, 2, 3, 5] rfl
      have hD9 := hD.sub (ws' := [(o, .inr (8, [.ref k_name, .ref k_worth, .ref k_times, .ref k_first, .ref k_second, .ref k_beforeLast, .ref k_last, .ref k_errandOf, .ref k_errandAfter, .ref k_sound, .ref k_followers, .ref k_leaders, .int (nI w), .int k_errands, .int k_alikes, .int k_law])), (k_first, .inl (cI, 24, .inl f_first)), (k_last, .inl (cI, 24, .inl f_last)), (k_second, .inl (cI, 24, .inl f_second)), (k_beforeLast, .inl (cI, 24, .inl f_beforeLast)), (k_sound, .inl (cI, 26, .inl f_sound))]) [4, 0, 1, 2, 3, 5] (by decide) rfl
      refine W.widen (k := 0) (n := 0) (Nat.le_of_ble_eq_true rfl) (Nat.le_of_ble_eq_true rfl) ?_
      exact W.zret (v := 0) hx hb hr (by decide) (fun tz htz hWz => ⟨⟨0, [(o, .inr (8, [.ref k_name, .ref k_worth, .ref k_times, .ref k_first, .ref k_second, .ref k_beforeLast, .ref k_last, .ref k_errandOf, .ref k_errandAfter, .ref k_sound, .ref k_followers, .ref k_leaders, .int (nI w), .int k_errands, .int k_alikes, .int k_law])), (k_first, .inl (cI, 24, .inl f_first)), (k_last, .inl (cI, 24, .inl f_last)), (k_second, .inl (cI, 24, .inl f_second)), (k_beforeLast, .inl (cI, 24, .inl f_beforeLast)), (k_sound, .inl (cI, 26, .inl f_sound))], rfl, ⟨rfl, (Or.inl rfl)⟩, by rw [htz]; exact hP9, va_K.moved hWz.alike hK, hD9⟩, hS.F htz⟩) hS.2.2 dX8_allows_101
    · refine lv_iconst (v := 1) hx hb dX8_allows_96 (by decide) ?_
      refine lv_goto (tgt := 101) hx hb dX8_allows_97 (by decide) ?_
      have hP9 := hP.sub (ws' := [(o, .inr (8, [.ref k_name, .ref k_worth, .ref k_times, .ref k_first, .ref k_second, .ref k_beforeLast, .ref k_last, .ref k_errandOf, .ref k_errandAfter, .ref k_sound, .ref k_followers, .ref k_leaders, .int (nI w), .int k_errands, .int k_alikes, .int k_law])), (k_first, .inl (cI, 24, .inl f_first)), (k_last, .inl (cI, 24, .inl f_last)), (k_second, .inl (cI, 24, .inl f_second)), (k_beforeLast, .inl (cI, 24, .inl f_beforeLast)), (k_sound, .inl (cI, 26, .inl f_sound))]) [4, 0, 1, 2, 3, 5] rfl
      have hD9 := hD.sub (ws' := [(o, .inr (8, [.ref k_name, .ref k_worth, .ref k_times, .ref k_first, .ref k_second, .ref k_beforeLast, .ref k_last, .ref k_errandOf, .ref k_errandAfter, .ref k_sound, .ref k_followers, .ref k_leaders, .int (nI w), .int k_errands, .int k_alikes, .int k_law])), (k_first, .inl (cI, 24, .inl f_first)), (k_last, .inl (cI, 24, .inl f_last)), (k_second, .inl (cI, 24, .inl f_second)), (k_beforeLast, .inl (cI, 24, .inl f_beforeLast)), (k_sound, .inl (cI, 26, .inl f_sound))]) [4, 0, 1, 2, 3, 5] (by decide) rfl
      refine W.widen (k := 0) (n := 0) (Nat.le_of_ble_eq_true rfl) (Nat.le_of_ble_eq_true rfl) ?_
      exact W.zret (v := 1) hx hb hr (by decide) (fun tz htz hWz => ⟨⟨1, [(o, .inr (8, [.ref k_name, .ref k_worth, .ref k_times, .ref k_first, .ref k_second, .ref k_beforeLast, .ref k_last, .ref k_errandOf, .ref k_errandAfter, .ref k_sound, .ref k_followers, .ref k_leaders, .int (nI w), .int k_errands, .int k_alikes, .int k_law])), (k_first, .inl (cI, 24, .inl f_first)), (k_last, .inl (cI, 24, .inl f_last)), (k_second, .inl (cI, 24, .inl f_second)), (k_beforeLast, .inl (cI, 24, .inl f_beforeLast)), (k_sound, .inl (cI, 26, .inl f_sound))], rfl, ⟨rfl, (Or.inr rfl)⟩, by rw [htz]; exact hP9, va_K.moved hWz.alike hK, hD9⟩, hS.F htz⟩) hS.2.2 dX8_allows_101
  · refine lv_lookup (off := 81) (tgt := 102) hx hb dX8_allows_21 (by decide) (lk_out (a := 2) (b := 3) n0 n1 (by decide)) (by decide) ?_
    refine lv_iload_n hx hb dX8_allows_102 rfl (lv_at hl 0 rfl) ?_
    have hP9 := hP.sub (ws' := [(o, .inr (8, [.ref k_name, .ref k_worth, .ref k_times, .ref k_first, .ref k_second, .ref k_beforeLast, .ref k_last, .ref k_errandOf, .ref k_errandAfter, .ref k_sound, .ref k_followers, .ref k_leaders, .int (nI w), .int k_errands, .int k_alikes, .int k_law])), (k_first, .inl (cI, 24, .inl f_first)), (k_last, .inl (cI, 24, .inl f_last)), (k_second, .inl (cI, 24, .inl f_second)), (k_beforeLast, .inl (cI, 24, .inl f_beforeLast)), (k_sound, .inl (cI, 26, .inl f_sound))]) [4, 0, 1, 2, 3, 5] rfl
    have hD9 := hD.sub (ws' := [(o, .inr (8, [.ref k_name, .ref k_worth, .ref k_times, .ref k_first, .ref k_second, .ref k_beforeLast, .ref k_last, .ref k_errandOf, .ref k_errandAfter, .ref k_sound, .ref k_followers, .ref k_leaders, .int (nI w), .int k_errands, .int k_alikes, .int k_law])), (k_first, .inl (cI, 24, .inl f_first)), (k_last, .inl (cI, 24, .inl f_last)), (k_second, .inl (cI, 24, .inl f_second)), (k_beforeLast, .inl (cI, 24, .inl f_beforeLast)), (k_sound, .inl (cI, 26, .inl f_sound))]) [4, 0, 1, 2, 3, 5] (by decide) rfl
    refine W.widen (k := 0) (n := 0) (Nat.le_of_ble_eq_true rfl) (Nat.le_of_ble_eq_true rfl) ?_
    exact W.zret (v := r_3) hx hb hr (nz01 hf_4) (fun tz htz hWz => ⟨⟨r_3, [(o, .inr (8, [.ref k_name, .ref k_worth, .ref k_times, .ref k_first, .ref k_second, .ref k_beforeLast, .ref k_last, .ref k_errandOf, .ref k_errandAfter, .ref k_sound, .ref k_followers, .ref k_leaders, .int (nI w), .int k_errands, .int k_alikes, .int k_law])), (k_first, .inl (cI, 24, .inl f_first)), (k_last, .inl (cI, 24, .inl f_last)), (k_second, .inl (cI, 24, .inl f_second)), (k_beforeLast, .inl (cI, 24, .inl f_beforeLast)), (k_sound, .inl (cI, 26, .inl f_sound))], rfl, ⟨rfl, hf_4⟩, by rw [htz]; exact hP9, va_K.moved hWz.alike hK, hD9⟩, hS.F htz⟩) hS.2.2 dX8_allows_103

set_option maxHeartbeats 4000000 in
set_option maxRecDepth 100000 in
theorem c_X8_link (l : Launch) (D : va_G) (cB cI cJ cS cZ cO : ClassId) (sz : Nat) (o : Nat) (k_name : Nat) (k_worth : Nat) (k_times : Nat) (k_first : Nat) (k_second : Nat) (k_beforeLast : Nat) (k_last : Nat) (k_errandOf : Nat) (k_errandAfter : Nat) (k_sound : Nat) (k_followers : Nat) (k_leaders : Nat) (w : Nat) (k_errands : Int32) (k_alikes : Int32) (k_law : Int32) (f_followers : Nat → Int32) (f_leaders : Nat → Int32) (f_first : Nat → Int32) (f_last : Nat → Int32) (f_second : Nat → Int32) (f_beforeLast : Nat → Int32) (f_sound : Nat → Int32) (hw : w ≤ 24) (hf : rgN f_first w 26) (hl1 : rgN f_last w 26) (hs : rgM f_second w 26) (hb9 : rgM f_beforeLast w 26) : Met l yX8_link wsX8_link ({ frames := 2, cells := 0, slots := 0, locals := 45 }) (xPre D (tyL cB cI cJ cS cZ cO) [(o, .inr (8, [.ref k_name, .ref k_worth, .ref k_times, .ref k_first, .ref k_second, .ref k_beforeLast, .ref k_last, .ref k_errandOf, .ref k_errandAfter, .ref k_sound, .ref k_followers, .ref k_leaders, .int (nI w), .int k_errands, .int k_alikes, .int k_law])), (k_followers, .inl (cI, 24, .inl f_followers)), (k_leaders, .inl (cI, 24, .inl f_leaders)), (k_first, .inl (cI, 24, .inl f_first)), (k_last, .inl (cI, 24, .inl f_last)), (k_second, .inl (cI, 24, .inl f_second)), (k_beforeLast, .inl (cI, 24, .inl f_beforeLast)), (k_sound, .inl (cI, 26, .inl f_sound))] sz [.ref o]) (xQv D (tyL cB cI cJ cS cZ cO) (va_A [(o, .inr (8, [.ref k_name, .ref k_worth, .ref k_times, .ref k_first, .ref k_second, .ref k_beforeLast, .ref k_last, .ref k_errandOf, .ref k_errandAfter, .ref k_sound, .ref k_followers, .ref k_leaders, .int (nI w), .int k_errands, .int k_alikes, .int k_law])), (k_followers, .inl (cI, 24, .inl f_followers)), (k_leaders, .inl (cI, 24, .inl f_leaders)), (k_first, .inl (cI, 24, .inl f_first)), (k_last, .inl (cI, 24, .inl f_last)), (k_second, .inl (cI, 24, .inl f_second)), (k_beforeLast, .inl (cI, 24, .inl f_beforeLast)), (k_sound, .inl (cI, 26, .inl f_sound))] sz) (fun u : va_W => ∃ g_followers : Nat → Int32, ∃ g_leaders : Nat → Int32, u = [(o, .inr (8, [.ref k_name, .ref k_worth, .ref k_times, .ref k_first, .ref k_second, .ref k_beforeLast, .ref k_last, .ref k_errandOf, .ref k_errandAfter, .ref k_sound, .ref k_followers, .ref k_leaders, .int (nI w), .int k_errands, .int k_alikes, .int k_law])), (k_followers, .inl (cI, 24, .inl g_followers)), (k_leaders, .inl (cI, 24, .inl g_leaders)), (k_first, .inl (cI, 24, .inl f_first)), (k_last, .inl (cI, 24, .inl f_last)), (k_second, .inl (cI, 24, .inl f_second)), (k_beforeLast, .inl (cI, 24, .inl f_beforeLast)), (k_sound, .inl (cI, 26, .inl f_sound))])) 0 0 (va_A [(o, .inr (8, [.ref k_name, .ref k_worth, .ref k_times, .ref k_first, .ref k_second, .ref k_beforeLast, .ref k_last, .ref k_errandOf, .ref k_errandAfter, .ref k_sound, .ref k_followers, .ref k_leaders, .int (nI w), .int k_errands, .int k_alikes, .int k_law])), (k_followers, .inl (cI, 24, .inl f_followers)), (k_leaders, .inl (cI, 24, .inl f_leaders)), (k_first, .inl (cI, 24, .inl f_first)), (k_last, .inl (cI, 24, .inl f_last)), (k_second, .inl (cI, 24, .inl f_second)), (k_beforeLast, .inl (cI, 24, .inl f_beforeLast)), (k_sound, .inl (cI, 26, .inl f_sound))] sz) := by
  refine Met.ofW (cc := cX8_link) (maxL := 3) (ret := none) (by decide) rfl ?_
  intro p e s m args below meth c s₁ B hml hv
  obtain ⟨rfl, hsz, hP, hK, hD0, hN⟩ := hv
  have hx := B.exec
  have hb := B.bytes
  have hr := B.returns
  have hts := atoms_spec (ws := wsX8_link) B.pre
  have hown : s.vm.findClass RX8 = some m.cls := findClass_of_methodNamed B.named
  have hlocks := B.notSynchronized
  subst hsz
  have hD := hD0.self (sz := s.heap.size)
  generalize hAe : va_A [(o, .inr (8, [.ref k_name, .ref k_worth, .ref k_times, .ref k_first, .ref k_second, .ref k_beforeLast, .ref k_last, .ref k_errandOf, .ref k_errandAfter, .ref k_sound, .ref k_followers, .ref k_leaders, .int (nI w), .int k_errands, .int k_alikes, .int k_law])), (k_followers, .inl (cI, 24, .inl f_followers)), (k_leaders, .inl (cI, 24, .inl f_leaders)), (k_first, .inl (cI, 24, .inl f_first)), (k_last, .inl (cI, 24, .inl f_last)), (k_second, .inl (cI, 24, .inl f_second)), (k_beforeLast, .inl (cI, 24, .inl f_beforeLast)), (k_sound, .inl (cI, 26, .inl f_sound))] s.heap.size = A at hD ⊢
  have hA : ∀ q : Nat, s.heap.size ≤ q → A q := fun q h => by rw [← hAe]; exact Or.inr h
  have hS : va_S A s.heap s.heap [] := va_S.rf
  have hP : va_P D vwCl [(o, .inr (8, [.ref k_name, .ref k_worth, .ref k_times, .ref k_first, .ref k_second, .ref k_beforeLast, .ref k_last, .ref k_errandOf, .ref k_errandAfter, .ref k_sound, .ref k_followers, .ref k_leaders, .int (nI w), .int k_errands, .int k_alikes, .int k_law])), (k_followers, .inl (cI, 24, .inl f_followers)), (k_leaders, .inl (cI, 24, .inl f_leaders)), (k_first, .inl (cI, 24, .inl f_first)), (k_last, .inl (cI, 24, .inl f_last)), (k_second, .inl (cI, 24, .inl f_second)), (k_beforeLast, .inl (cI, 24, .inl f_beforeLast)), (k_sound, .inl (cI, 26, .inl f_sound))] s.heap := hP
  have hl := lv_entry ([.ref o]) (n := 3) (Nat.le_of_ble_eq_true rfl)
  rw [lg_entry_eq]
  generalize (lg_sl ([.ref o]) ++ List.replicate (3 - (lg_sl ([.ref o])).length) Slot.unset).toArray = ls at hl ⊢
  have hl : lv_has ls 3 [(0, .ref o)] := hl
  refine lv_aload_n hx hb dX8_link_0 rfl (lv_at hl 0 rfl) ?_
  refine va_get (D := D) (ci := 8) (v := .ref k_followers) (C := RX8) (T := TX8) (N := 16) hx hb hts (by decide +kernel) hown hK hP 0 rfl rfl 10 (by decide) (hts (.fieldLink RX8 43 "LastLetter$Tongue" "followers" "[I") (by decide +kernel)) (fun _ h9 => h9) rfl dX8_link_1 ?_
  refine lv_iconst (v := 0) hx hb dX8_link_4 (by decide) ?_
  refine xCv (wr := [(o, .inr (8, [.ref k_name, .ref k_worth, .ref k_times, .ref k_first, .ref k_second, .ref k_beforeLast, .ref k_last, .ref k_errandOf, .ref k_errandAfter, .ref k_sound, .ref k_followers, .ref k_leaders, .int (nI w), .int k_errands, .int k_alikes, .int k_law])), (k_leaders, .inl (cI, 24, .inl f_leaders)), (k_first, .inl (cI, 24, .inl f_first)), (k_last, .inl (cI, 24, .inl f_last)), (k_second, .inl (cI, 24, .inl f_second)), (k_beforeLast, .inl (cI, 24, .inl f_beforeLast)), (k_sound, .inl (cI, 26, .inl f_sound))]) (win := [(k_followers, .inl (cI, 24, .inl f_followers))]) hP hD hS hA [1] [0, 2, 3, 4, 5, 6, 7] rfl rfl (by decide) (by decide) (va_runS (As := [.ref k_followers, .int 0]) (rest := []) ⟨hx, hb, hml, hown, hts⟩ (c_J7_fill_53178 l D cB cI cJ cS cZ cO s.heap.size k_followers 0 24 f_followers (by first | assumption | omega | decide)) (va_cwS 2 hts gX8_link_J7_fill_53178 rfl rfl rfl (by decide +kernel) ⟨Nat.le_of_ble_eq_true rfl, Nat.le_of_ble_eq_true rfl⟩) (xPreS (win := [(k_followers, .inl (cI, 24, .inl f_followers))]) hN hK hP hD [1] (by decide) rfl) rfl rfl hl.1 rfl (lv_room (Nat.le_of_ble_eq_true rfl)) dX8_link_5 ⟨Nat.le_of_ble_eq_true rfl, Nat.le_of_ble_eq_true rfl⟩) (fun w0 H locs hw hP hD hS => ?_)
  obtain ⟨g_1, rfl, hf_2⟩ := hw
  have hP : va_P D vwCl [(o, .inr (8, [.ref k_name, .ref k_worth, .ref k_times, .ref k_first, .ref k_second, .ref k_beforeLast, .ref k_last, .ref k_errandOf, .ref k_errandAfter, .ref k_sound, .ref k_followers, .ref k_leaders, .int (nI w), .int k_errands, .int k_alikes, .int k_law])), (k_leaders, .inl (cI, 24, .inl f_leaders)), (k_first, .inl (cI, 24, .inl f_first)), (k_last, .inl (cI, 24, .inl f_last)), (k_second, .inl (cI, 24, .inl f_second)), (k_beforeLast, .inl (cI, 24, .inl f_beforeLast)), (k_sound, .inl (cI, 26, .inl f_sound)), (k_followers, .inl (cI, 24, .inl g_1))] H := hP
  have hD : va_D A [(o, .inr (8, [.ref k_name, .ref k_worth, .ref k_times, .ref k_first, .ref k_second, .ref k_beforeLast, .ref k_last, .ref k_errandOf, .ref k_errandAfter, .ref k_sound, .ref k_followers, .ref k_leaders, .int (nI w), .int k_errands, .int k_alikes, .int k_law])), (k_leaders, .inl (cI, 24, .inl f_leaders)), (k_first, .inl (cI, 24, .inl f_first)), (k_last, .inl (cI, 24, .inl f_last)), (k_second, .inl (cI, 24, .inl f_second)), (k_beforeLast, .inl (cI, 24, .inl f_beforeLast)), (k_sound, .inl (cI, 26, .inl f_sound)), (k_followers, .inl (cI, 24, .inl g_1))] := hD
  refine lv_aload_n hx hb dX8_link_8 rfl (lv_at hl 0 rfl) ?_
  refine va_get (D := D) (ci := 8) (v := .ref k_leaders) (C := RX8) (T := TX8) (N := 16) hx hb hts (by decide +kernel) hown hK hP 0 rfl rfl 11 (by decide) (hts (.fieldLink RX8 46 "LastLetter$Tongue" "leaders" "[I") (by decide +kernel)) (fun _ h9 => h9) rfl dX8_link_9 ?_
  refine lv_iconst (v := 0) hx hb dX8_link_12 (by decide) ?_
  refine xCv (wr := [(o, .inr (8, [.ref k_name, .ref k_worth, .ref k_times, .ref k_first, .ref k_second, .ref k_beforeLast, .ref k_last, .ref k_errandOf, .ref k_errandAfter, .ref k_sound, .ref k_followers, .ref k_leaders, .int (nI w), .int k_errands, .int k_alikes, .int k_law])), (k_first, .inl (cI, 24, .inl f_first)), (k_last, .inl (cI, 24, .inl f_last)), (k_second, .inl (cI, 24, .inl f_second)), (k_beforeLast, .inl (cI, 24, .inl f_beforeLast)), (k_sound, .inl (cI, 26, .inl f_sound)), (k_followers, .inl (cI, 24, .inl g_1))]) (win := [(k_leaders, .inl (cI, 24, .inl f_leaders))]) hP hD hS hA [1] [0, 2, 3, 4, 5, 6, 7] rfl rfl (by decide) (by decide) (va_runS (As := [.ref k_leaders, .int 0]) (rest := []) ⟨hx, hb, hml, hown, hts⟩ (c_J7_fill_53178 l D cB cI cJ cS cZ cO H.size k_leaders 0 24 f_leaders (by first | assumption | omega | decide)) (va_cwS 2 hts gX8_link_J7_fill_53178 rfl rfl rfl (by decide +kernel) ⟨Nat.le_of_ble_eq_true rfl, Nat.le_of_ble_eq_true rfl⟩) (xPreS (win := [(k_leaders, .inl (cI, 24, .inl f_leaders))]) hN hK hP hD [1] (by decide) rfl) rfl rfl hl.1 rfl (lv_room (Nat.le_of_ble_eq_true rfl)) dX8_link_13 ⟨Nat.le_of_ble_eq_true rfl, Nat.le_of_ble_eq_true rfl⟩) (fun w0 H locs hw hP hD hS => ?_)
  obtain ⟨g_3, rfl, hf_4⟩ := hw
  have hP : va_P D vwCl [(o, .inr (8, [.ref k_name, .ref k_worth, .ref k_times, .ref k_first, .ref k_second, .ref k_beforeLast, .ref k_last, .ref k_errandOf, .ref k_errandAfter, .ref k_sound, .ref k_followers, .ref k_leaders, .int (nI w), .int k_errands, .int k_alikes, .int k_law])), (k_first, .inl (cI, 24, .inl f_first)), (k_last, .inl (cI, 24, .inl f_last)), (k_second, .inl (cI, 24, .inl f_second)), (k_beforeLast, .inl (cI, 24, .inl f_beforeLast)), (k_sound, .inl (cI, 26, .inl f_sound)), (k_followers, .inl (cI, 24, .inl g_1)), (k_leaders, .inl (cI, 24, .inl g_3))] H := hP
  have hD : va_D A [(o, .inr (8, [.ref k_name, .ref k_worth, .ref k_times, .ref k_first, .ref k_second, .ref k_beforeLast, .ref k_last, .ref k_errandOf, .ref k_errandAfter, .ref k_sound, .ref k_followers, .ref k_leaders, .int (nI w), .int k_errands, .int k_alikes, .int k_law])), (k_first, .inl (cI, 24, .inl f_first)), (k_last, .inl (cI, 24, .inl f_last)), (k_second, .inl (cI, 24, .inl f_second)), (k_beforeLast, .inl (cI, 24, .inl f_beforeLast)), (k_sound, .inl (cI, 26, .inl f_sound)), (k_followers, .inl (cI, 24, .inl g_1)), (k_leaders, .inl (cI, 24, .inl g_3))] := hD
  refine lv_iconst (v := 0) hx hb dX8_link_16 (by decide) ?_
  refine lv_istore_n (lv' := [(1, .int 0), (0, .ref o)]) hx hb dX8_link_17 rfl hl (by decide) rfl (fun ls hl => ?_)
  refine xb_wh (fun (n9 : Nat) H locs ls => ∃ i : Nat, ∃ g_followers : Nat → Int32, ∃ g_leaders : Nat → Int32, (w - i) = n9 ∧ va_P D vwCl [(o, .inr (8, [.ref k_name, .ref k_worth, .ref k_times, .ref k_first, .ref k_second, .ref k_beforeLast, .ref k_last, .ref k_errandOf, .ref k_errandAfter, .ref k_sound, .ref k_followers, .ref k_leaders, .int (nI w), .int k_errands, .int k_alikes, .int k_law])), (k_first, .inl (cI, 24, .inl f_first)), (k_last, .inl (cI, 24, .inl f_last)), (k_second, .inl (cI, 24, .inl f_second)), (k_beforeLast, .inl (cI, 24, .inl f_beforeLast)), (k_sound, .inl (cI, 26, .inl f_sound)), (k_followers, .inl (cI, 24, .inl g_followers)), (k_leaders, .inl (cI, 24, .inl g_leaders))] H ∧ va_D A [(o, .inr (8, [.ref k_name, .ref k_worth, .ref k_times, .ref k_first, .ref k_second, .ref k_beforeLast, .ref k_last, .ref k_errandOf, .ref k_errandAfter, .ref k_sound, .ref k_followers, .ref k_leaders, .int (nI w), .int k_errands, .int k_alikes, .int k_law])), (k_first, .inl (cI, 24, .inl f_first)), (k_last, .inl (cI, 24, .inl f_last)), (k_second, .inl (cI, 24, .inl f_second)), (k_beforeLast, .inl (cI, 24, .inl f_beforeLast)), (k_sound, .inl (cI, 26, .inl f_sound)), (k_followers, .inl (cI, 24, .inl g_followers)), (k_leaders, .inl (cI, 24, .inl g_leaders))] ∧ va_S A s.heap H locs ∧ lv_has ls 3 [(1, .int (nI i)), (0, .ref o)] ∧ (i ≤ w)) ⟨0, g_1, g_3, rfl, hP, hD, hS, lv_sub hl [0, 1] rfl, (by first | assumption | omega)⟩ (fun n9 H locs ls hI kk_18 => ?_)
  obtain ⟨i, g_followers, g_leaders, hn_18, hP, hD, hS, hl, hF_h_5⟩ := hI
  refine lv_iload_n hx hb dX8_link_18 rfl (lv_at hl 0 rfl) ?_
  refine lv_aload_n hx hb dX8_link_19 rfl (lv_at hl 1 rfl) ?_
  refine va_get (D := D) (ci := 8) (v := .int (nI w)) (C := RX8) (T := TX8) (N := 16) hx hb hts (by decide +kernel) hown hK hP 0 rfl rfl 12 (by decide) (hts (.fieldLink RX8 52 "LastLetter$Tongue" "words" "I") (by decide +kernel)) (fun _ h9 => h9) rfl dX8_link_20 ?_
  refine lv_icmp_ge (tgt := 81) hx hb dX8_link_23 (by decide) (fun c_6 => ?_) (fun c_6 => ?_)
  · have dc_6 : w ≤ i := (nI_leI (a := w) (b := i) (by omega) (by omega)).mp c_6
    have hP9 := hP.sub (ws' := [(o, .inr (8, [.ref k_name, .ref k_worth, .ref k_times, .ref k_first, .ref k_second, .ref k_beforeLast, .ref k_last, .ref k_errandOf, .ref k_errandAfter, .ref k_sound, .ref k_followers, .ref k_leaders, .int (nI w), .int k_errands, .int k_alikes, .int k_law])), (k_followers, .inl (cI, 24, .inl g_followers)), (k_leaders, .inl (cI, 24, .inl g_leaders)), (k_first, .inl (cI, 24, .inl f_first)), (k_last, .inl (cI, 24, .inl f_last)), (k_second, .inl (cI, 24, .inl f_second)), (k_beforeLast, .inl (cI, 24, .inl f_beforeLast)), (k_sound, .inl (cI, 26, .inl f_sound))]) [0, 6, 7, 1, 2, 3, 4, 5] rfl
    have hD9 := hD.sub (ws' := [(o, .inr (8, [.ref k_name, .ref k_worth, .ref k_times, .ref k_first, .ref k_second, .ref k_beforeLast, .ref k_last, .ref k_errandOf, .ref k_errandAfter, .ref k_sound, .ref k_followers, .ref k_leaders, .int (nI w), .int k_errands, .int k_alikes, .int k_law])), (k_followers, .inl (cI, 24, .inl g_followers)), (k_leaders, .inl (cI, 24, .inl g_leaders)), (k_first, .inl (cI, 24, .inl f_first)), (k_last, .inl (cI, 24, .inl f_last)), (k_second, .inl (cI, 24, .inl f_second)), (k_beforeLast, .inl (cI, 24, .inl f_beforeLast)), (k_sound, .inl (cI, 26, .inl f_sound))]) [0, 6, 7, 1, 2, 3, 4, 5] (by decide) rfl
    refine W.widen (k := 0) (n := 0) (Nat.le_of_ble_eq_true rfl) (Nat.le_of_ble_eq_true rfl) ?_
    exact W.vret hx hb hr (fun tz htz hWz => ⟨⟨[(o, .inr (8, [.ref k_name, .ref k_worth, .ref k_times, .ref k_first, .ref k_second, .ref k_beforeLast, .ref k_last, .ref k_errandOf, .ref k_errandAfter, .ref k_sound, .ref k_followers, .ref k_leaders, .int (nI w), .int k_errands, .int k_alikes, .int k_law])), (k_followers, .inl (cI, 24, .inl g_followers)), (k_leaders, .inl (cI, 24, .inl g_leaders)), (k_first, .inl (cI, 24, .inl f_first)), (k_last, .inl (cI, 24, .inl f_last)), (k_second, .inl (cI, 24, .inl f_second)), (k_beforeLast, .inl (cI, 24, .inl f_beforeLast)), (k_sound, .inl (cI, 26, .inl f_sound))], rfl, ⟨g_followers, g_leaders, rfl⟩, by rw [htz]; exact hP9, va_K.moved hWz.alike hK, hD9⟩, hS.F htz⟩) hS.2.2 dX8_link_81
  · have dc_6 : ¬ w ≤ i := fun h => c_6 ((nI_leI (a := w) (b := i) (by omega) (by omega)).mpr h)
    refine lv_iconst (v := 0) hx hb dX8_link_26 (by decide) ?_
    refine lv_istore_n (lv' := [(2, .int 0), (1, .int (nI i)), (0, .ref o)]) hx hb dX8_link_27 rfl hl (by decide) rfl (fun ls hl => ?_)
    refine xb_wh (fun (n9 : Nat) H locs ls => ∃ k : Nat, ∃ g_followers : Nat → Int32, ∃ g_leaders : Nat → Int32, (w - k) = n9 ∧ va_P D vwCl [(o, .inr (8, [.ref k_name, .ref k_worth, .ref k_times, .ref k_first, .ref k_second, .ref k_beforeLast, .ref k_last, .ref k_errandOf, .ref k_errandAfter, .ref k_sound, .ref k_followers, .ref k_leaders, .int (nI w), .int k_errands, .int k_alikes, .int k_law])), (k_first, .inl (cI, 24, .inl f_first)), (k_last, .inl (cI, 24, .inl f_last)), (k_second, .inl (cI, 24, .inl f_second)), (k_beforeLast, .inl (cI, 24, .inl f_beforeLast)), (k_sound, .inl (cI, 26, .inl f_sound)), (k_followers, .inl (cI, 24, .inl g_followers)), (k_leaders, .inl (cI, 24, .inl g_leaders))] H ∧ va_D A [(o, .inr (8, [.ref k_name, .ref k_worth, .ref k_times, .ref k_first, .ref k_second, .ref k_beforeLast, .ref k_last, .ref k_errandOf, .ref k_errandAfter, .ref k_sound, .ref k_followers, .ref k_leaders, .int (nI w), .int k_errands, .int k_alikes, .int k_law])), (k_first, .inl (cI, 24, .inl f_first)), (k_last, .inl (cI, 24, .inl f_last)), (k_second, .inl (cI, 24, .inl f_second)), (k_beforeLast, .inl (cI, 24, .inl f_beforeLast)), (k_sound, .inl (cI, 26, .inl f_sound)), (k_followers, .inl (cI, 24, .inl g_followers)), (k_leaders, .inl (cI, 24, .inl g_leaders))] ∧ va_S A s.heap H locs ∧ lv_has ls 3 [(2, .int (nI k)), (1, .int (nI i)), (0, .ref o)] ∧ (k ≤ w)) ⟨0, g_followers, g_leaders, rfl, hP, hD, hS, lv_sub hl [0, 1, 2] rfl, (by first | assumption | omega)⟩ (fun n9 H locs ls hI kk_28 => ?_)
    obtain ⟨k, g_followers, g_leaders, hn_28, hP, hD, hS, hl, hF_h_7⟩ := hI
    refine lv_iload_n hx hb dX8_link_28 rfl (lv_at hl 0 rfl) ?_
    refine lv_aload_n hx hb dX8_link_29 rfl (lv_at hl 2 rfl) ?_
    refine va_get (D := D) (ci := 8) (v := .int (nI w)) (C := RX8) (T := TX8) (N := 16) hx hb hts (by decide +kernel) hown hK hP 0 rfl rfl 12 (by decide) (hts (.fieldLink RX8 52 "LastLetter$Tongue" "words" "I") (by decide +kernel)) (fun _ h9 => h9) rfl dX8_link_30 ?_
    refine lv_icmp_ge (tgt := 75) hx hb dX8_link_33 (by decide) (fun c_8 => ?_) (fun c_8 => ?_)
    · have dc_8 : w ≤ k := (nI_leI (a := w) (b := k) (by omega) (by omega)).mp c_8
      refine lv_iinc (v := nI (i + 1)) (lv' := [(1, .int (nI (i + 1))), (2, .int (nI k)), (0, .ref o)]) hx hb dX8_link_75 hl (k := 1) rfl (nI_1 i) (by decide) rfl (fun ls hl => ?_)
      refine lv_goto (tgt := 18) hx hb dX8_link_78 (by decide) ?_
      exact kk_18 _ _ _ _ (by rw [← hn_18]; omega) ⟨(i + 1), g_followers, g_leaders, rfl, hP, hD, hS, lv_sub hl [0, 2] rfl, (by first | assumption | omega)⟩
    · have dc_8 : ¬ w ≤ k := fun h => c_8 ((nI_leI (a := w) (b := k) (by omega) (by omega)).mpr h)
      refine lv_aload_n hx hb dX8_link_36 rfl (lv_at hl 2 rfl) ?_
      refine lv_iload_n hx hb dX8_link_37 rfl (lv_at hl 1 rfl) ?_
      refine lv_iload_n hx hb dX8_link_38 rfl (lv_at hl 0 rfl) ?_
      refine xCi (wr := [(k_followers, .inl (cI, 24, .inl g_followers)), (k_leaders, .inl (cI, 24, .inl g_leaders))]) (win := [(o, .inr (8, [.ref k_name, .ref k_worth, .ref k_times, .ref k_first, .ref k_second, .ref k_beforeLast, .ref k_last, .ref k_errandOf, .ref k_errandAfter, .ref k_sound, .ref k_followers, .ref k_leaders, .int (nI w), .int k_errands, .int k_alikes, .int k_law])), (k_first, .inl (cI, 24, .inl f_first)), (k_last, .inl (cI, 24, .inl f_last)), (k_second, .inl (cI, 24, .inl f_second)), (k_beforeLast, .inl (cI, 24, .inl f_beforeLast)), (k_sound, .inl (cI, 26, .inl f_sound))]) hP hD hS hA [0, 1, 2, 3, 4, 5] [6, 7] rfl rfl (by decide) (by decide) (va_runV (As := [.int (nI i), .int (nI k)]) (rest := []) ⟨hx, hb, hml, hown, hts⟩ (c_X8_allows l D cB cI cJ cS cZ cO H.size o i k k_name k_worth k_times k_first k_second k_beforeLast k_last k_errandOf k_errandAfter k_sound k_followers k_leaders w k_errands k_alikes k_law f_first f_last f_second f_beforeLast f_sound (by first | assumption | omega | decide) (by first | assumption | omega | decide) (by first | assumption | omega | decide) (by first | assumption | omega | decide) (by first | assumption | omega | decide) (by first | assumption | omega | decide) (by first | assumption | omega | decide)) (cwV 2 hts gX8_link_X8_allows rfl rfl rfl (by decide +kernel) ⟨Nat.le_of_ble_eq_true rfl, Nat.le_of_ble_eq_true rfl⟩) (xPreV (win := [(o, .inr (8, [.ref k_name, .ref k_worth, .ref k_times, .ref k_first, .ref k_second, .ref k_beforeLast, .ref k_last, .ref k_errandOf, .ref k_errandAfter, .ref k_sound, .ref k_followers, .ref k_leaders, .int (nI w), .int k_errands, .int k_alikes, .int k_law])), (k_first, .inl (cI, 24, .inl f_first)), (k_last, .inl (cI, 24, .inl f_last)), (k_second, .inl (cI, 24, .inl f_second)), (k_beforeLast, .inl (cI, 24, .inl f_beforeLast)), (k_sound, .inl (cI, 26, .inl f_sound))]) hN hK hP hD [0, 1, 2, 3, 4, 5] (by decide) rfl 0 8 rfl rfl rfl) rfl rfl hl.1 rfl (lv_room (Nat.le_of_ble_eq_true rfl)) dX8_link_39 ⟨Nat.le_of_ble_eq_true rfl, Nat.le_of_ble_eq_true rfl⟩) (fun r_9 w0 H locs hw hP hD hS => ?_)
      obtain ⟨rfl, hf_10⟩ := hw
      have hP : va_P D vwCl [(k_followers, .inl (cI, 24, .inl g_followers)), (k_leaders, .inl (cI, 24, .inl g_leaders)), (o, .inr (8, [.ref k_name, .ref k_worth, .ref k_times, .ref k_first, .ref k_second, .ref k_beforeLast, .ref k_last, .ref k_errandOf, .ref k_errandAfter, .ref k_sound, .ref k_followers, .ref k_leaders, .int (nI w), .int k_errands, .int k_alikes, .int k_law])), (k_first, .inl (cI, 24, .inl f_first)), (k_last, .inl (cI, 24, .inl f_last)), (k_second, .inl (cI, 24, .inl f_second)), (k_beforeLast, .inl (cI, 24, .inl f_beforeLast)), (k_sound, .inl (cI, 26, .inl f_sound))] H := hP
      have hD : va_D A [(k_followers, .inl (cI, 24, .inl g_followers)), (k_leaders, .inl (cI, 24, .inl g_leaders)), (o, .inr (8, [.ref k_name, .ref k_worth, .ref k_times, .ref k_first, .ref k_second, .ref k_beforeLast, .ref k_last, .ref k_errandOf, .ref k_errandAfter, .ref k_sound, .ref k_followers, .ref k_leaders, .int (nI w), .int k_errands, .int k_alikes, .int k_law])), (k_first, .inl (cI, 24, .inl f_first)), (k_last, .inl (cI, 24, .inl f_last)), (k_second, .inl (cI, 24, .inl f_second)), (k_beforeLast, .inl (cI, 24, .inl f_beforeLast)), (k_sound, .inl (cI, 26, .inl f_sound))] := hD
      refine lv_if_eq (tgt := 69) hx hb dX8_link_42 (by decide) (fun c_11 => ?_) (fun c_11 => ?_)
      · refine lv_iinc (v := nI (k + 1)) (lv' := [(2, .int (nI (k + 1))), (1, .int (nI i)), (0, .ref o)]) hx hb dX8_link_69 hl (k := 0) rfl (nI_1 k) (by decide) rfl (fun ls hl => ?_)
        refine lv_goto (tgt := 28) hx hb dX8_link_72 (by decide) ?_
        exact kk_28 _ _ _ _ (by rw [← hn_28]; omega) ⟨(k + 1), g_followers, g_leaders, rfl, hP.sub [2, 3, 4, 5, 6, 7, 0, 1] rfl, hD.sub [2, 3, 4, 5, 6, 7, 0, 1] (by decide) rfl, hS, lv_sub hl [0, 1, 2] rfl, (by first | assumption | omega)⟩
      · refine lv_aload_n hx hb dX8_link_45 rfl (lv_at hl 2 rfl) ?_
        refine va_get (D := D) (ci := 8) (v := .ref k_followers) (C := RX8) (T := TX8) (N := 16) hx hb hts (by decide +kernel) hown hK hP 2 rfl rfl 10 (by decide) (hts (.fieldLink RX8 43 "LastLetter$Tongue" "followers" "[I") (by decide +kernel)) (fun _ h9 => h9) rfl dX8_link_46 ?_
        refine lv_iload_n hx hb dX8_link_49 rfl (lv_at hl 1 rfl) ?_
        refine lv_dup2_11 hx hb dX8_link_50 rfl rfl ?_
        refine va_iald hx hb hK hP 0 1 rfl rfl (vp_in_nI (by omega) (by omega)) dX8_link_51 ?_
        refine xb_top (y := g_followers i) (by rw [nI_clamp (by omega)]) ?_
        refine lv_iconst (v := 1) hx hb dX8_link_52 (by decide) ?_
        refine lv_iload_n hx hb dX8_link_53 rfl (lv_at hl 0 rfl) ?_
        refine lv_ishl hx hb dX8_link_54 ?_
        refine xb_top (y := nI (1 * 2 ^ k)) (nb_shl (a := 1) (i := k) (by omega)) ?_
        refine lv_ior hx hb dX8_link_55 ?_
        refine va_iast hx hb hK hP hD hS 0 1 rfl rfl (vp_in_nI (by omega) (by omega)) dX8_link_56 (fun H locs hP hD hS => ?_)
        have hP : va_P D vwCl [(k_followers, .inl (cI, 24, .inl (upd g_followers (Int32.toNatClampNeg (nI i)) ((g_followers i) ||| (nI (1 * 2 ^ k)))))), (k_leaders, .inl (cI, 24, .inl g_leaders)), (o, .inr (8, [.ref k_name, .ref k_worth, .ref k_times, .ref k_first, .ref k_second, .ref k_beforeLast, .ref k_last, .ref k_errandOf, .ref k_errandAfter, .ref k_sound, .ref k_followers, .ref k_leaders, .int (nI w), .int k_errands, .int k_alikes, .int k_law])), (k_first, .inl (cI, 24, .inl f_first)), (k_last, .inl (cI, 24, .inl f_last)), (k_second, .inl (cI, 24, .inl f_second)), (k_beforeLast, .inl (cI, 24, .inl f_beforeLast)), (k_sound, .inl (cI, 26, .inl f_sound))] H := hP
        have hD : va_D A [(k_followers, .inl (cI, 24, .inl (upd g_followers (Int32.toNatClampNeg (nI i)) ((g_followers i) ||| (nI (1 * 2 ^ k)))))), (k_leaders, .inl (cI, 24, .inl g_leaders)), (o, .inr (8, [.ref k_name, .ref k_worth, .ref k_times, .ref k_first, .ref k_second, .ref k_beforeLast, .ref k_last, .ref k_errandOf, .ref k_errandAfter, .ref k_sound, .ref k_followers, .ref k_leaders, .int (nI w), .int k_errands, .int k_alikes, .int k_law])), (k_first, .inl (cI, 24, .inl f_first)), (k_last, .inl (cI, 24, .inl f_last)), (k_second, .inl (cI, 24, .inl f_second)), (k_beforeLast, .inl (cI, 24, .inl f_beforeLast)), (k_sound, .inl (cI, 26, .inl f_sound))] := hD
        generalize eg_12 : upd g_followers (Int32.toNatClampNeg (nI i)) ((g_followers i) ||| (nI (1 * 2 ^ k))) = g_12 at hP hD
        refine lv_aload_n hx hb dX8_link_57 rfl (lv_at hl 2 rfl) ?_
        refine va_get (D := D) (ci := 8) (v := .ref k_leaders) (C := RX8) (T := TX8) (N := 16) hx hb hts (by decide +kernel) hown hK hP 2 rfl rfl 11 (by decide) (hts (.fieldLink RX8 46 "LastLetter$Tongue" "leaders" "[I") (by decide +kernel)) (fun _ h9 => h9) rfl dX8_link_58 ?_
        refine lv_iload_n hx hb dX8_link_61 rfl (lv_at hl 0 rfl) ?_
        refine lv_dup2_11 hx hb dX8_link_62 rfl rfl ?_
        refine va_iald hx hb hK hP 1 1 rfl rfl (vp_in_nI (by omega) (by omega)) dX8_link_63 ?_
        refine xb_top (y := g_leaders k) (by rw [nI_clamp (by omega)]) ?_
        refine lv_iconst (v := 1) hx hb dX8_link_64 (by decide) ?_
        refine lv_iload_n hx hb dX8_link_65 rfl (lv_at hl 1 rfl) ?_
        refine lv_ishl hx hb dX8_link_66 ?_
        refine xb_top (y := nI (1 * 2 ^ i)) (nb_shl (a := 1) (i := i) (by omega)) ?_
        refine lv_ior hx hb dX8_link_67 ?_
        refine va_iast hx hb hK hP hD hS 1 1 rfl rfl (vp_in_nI (by omega) (by omega)) dX8_link_68 (fun H locs hP hD hS => ?_)
        have hP : va_P D vwCl [(k_followers, .inl (cI, 24, .inl g_12)), (k_leaders, .inl (cI, 24, .inl (upd g_leaders (Int32.toNatClampNeg (nI k)) ((g_leaders k) ||| (nI (1 * 2 ^ i)))))), (o, .inr (8, [.ref k_name, .ref k_worth, .ref k_times, .ref k_first, .ref k_second, .ref k_beforeLast, .ref k_last, .ref k_errandOf, .ref k_errandAfter, .ref k_sound, .ref k_followers, .ref k_leaders, .int (nI w), .int k_errands, .int k_alikes, .int k_law])), (k_first, .inl (cI, 24, .inl f_first)), (k_last, .inl (cI, 24, .inl f_last)), (k_second, .inl (cI, 24, .inl f_second)), (k_beforeLast, .inl (cI, 24, .inl f_beforeLast)), (k_sound, .inl (cI, 26, .inl f_sound))] H := hP
        have hD : va_D A [(k_followers, .inl (cI, 24, .inl g_12)), (k_leaders, .inl (cI, 24, .inl (upd g_leaders (Int32.toNatClampNeg (nI k)) ((g_leaders k) ||| (nI (1 * 2 ^ i)))))), (o, .inr (8, [.ref k_name, .ref k_worth, .ref k_times, .ref k_first, .ref k_second, .ref k_beforeLast, .ref k_last, .ref k_errandOf, .ref k_errandAfter, .ref k_sound, .ref k_followers, .ref k_leaders, .int (nI w), .int k_errands, .int k_alikes, .int k_law])), (k_first, .inl (cI, 24, .inl f_first)), (k_last, .inl (cI, 24, .inl f_last)), (k_second, .inl (cI, 24, .inl f_second)), (k_beforeLast, .inl (cI, 24, .inl f_beforeLast)), (k_sound, .inl (cI, 26, .inl f_sound))] := hD
        generalize eg_13 : upd g_leaders (Int32.toNatClampNeg (nI k)) ((g_leaders k) ||| (nI (1 * 2 ^ i))) = g_13 at hP hD
        refine lv_iinc (v := nI (k + 1)) (lv' := [(2, .int (nI (k + 1))), (1, .int (nI i)), (0, .ref o)]) hx hb dX8_link_69 hl (k := 0) rfl (nI_1 k) (by decide) rfl (fun ls hl => ?_)
        refine lv_goto (tgt := 28) hx hb dX8_link_72 (by decide) ?_
        exact kk_28 _ _ _ _ (by rw [← hn_28]; omega) ⟨(k + 1), g_12, g_13, rfl, hP.sub [2, 3, 4, 5, 6, 7, 0, 1] rfl, hD.sub [2, 3, 4, 5, 6, 7, 0, 1] (by decide) rfl, hS, lv_sub hl [0, 1, 2] rfl, (by first | assumption | omega)⟩

set_option maxHeartbeats 4000000 in
set_option maxRecDepth 100000 in
theorem c_X8_clear (l : Launch) (D : va_G) (cB cI cJ cS cZ cO : ClassId) (sz : Nat) (o : Nat) (k_name : Nat) (k_worth : Nat) (k_times : Nat) (k_first : Nat) (k_second : Nat) (k_beforeLast : Nat) (k_last : Nat) (k_errandOf : Nat) (k_errandAfter : Nat) (k_sound : Nat) (k_followers : Nat) (k_leaders : Nat) (k_words : Int32) (k_errands : Int32) (k_alikes : Int32) (k_law : Int32) (f_errandOf : Nat → Int32) (f_sound : Nat → Int32) : Met l yX8_clear wsX8_clear ({ frames := 1, cells := 0, slots := 0, locals := 23 }) (xPre D (tyL cB cI cJ cS cZ cO) [(o, .inr (8, [.ref k_name, .ref k_worth, .ref k_times, .ref k_first, .ref k_second, .ref k_beforeLast, .ref k_last, .ref k_errandOf, .ref k_errandAfter, .ref k_sound, .ref k_followers, .ref k_leaders, .int k_words, .int k_errands, .int k_alikes, .int k_law])), (k_errandOf, .inl (cI, 24, .inl f_errandOf)), (k_sound, .inl (cI, 26, .inl f_sound))] sz [.ref o]) (xQv D (tyL cB cI cJ cS cZ cO) (va_A [(o, .inr (8, [.ref k_name, .ref k_worth, .ref k_times, .ref k_first, .ref k_second, .ref k_beforeLast, .ref k_last, .ref k_errandOf, .ref k_errandAfter, .ref k_sound, .ref k_followers, .ref k_leaders, .int k_words, .int k_errands, .int k_alikes, .int k_law])), (k_errandOf, .inl (cI, 24, .inl f_errandOf)), (k_sound, .inl (cI, 26, .inl f_sound))] sz) (fun u : va_W => ∃ g1 : Nat → Int32, ∃ g2 : Nat → Int32, u = [(o, .inr (8, [.ref k_name, .ref k_worth, .ref k_times, .ref k_first, .ref k_second, .ref k_beforeLast, .ref k_last, .ref k_errandOf, .ref k_errandAfter, .ref k_sound, .ref k_followers, .ref k_leaders, .int 0, .int 0, .int 0, .int (-1)])), (k_errandOf, .inl (cI, 24, .inl g1)), (k_sound, .inl (cI, 26, .inl g2))] ∧ rgM g1 24 6)) 0 0 (va_A [(o, .inr (8, [.ref k_name, .ref k_worth, .ref k_times, .ref k_first, .ref k_second, .ref k_beforeLast, .ref k_last, .ref k_errandOf, .ref k_errandAfter, .ref k_sound, .ref k_followers, .ref k_leaders, .int k_words, .int k_errands, .int k_alikes, .int k_law])), (k_errandOf, .inl (cI, 24, .inl f_errandOf)), (k_sound, .inl (cI, 26, .inl f_sound))] sz) := by
  refine Met.ofW (cc := cX8_clear) (maxL := 2) (ret := none) (by decide) rfl ?_
  intro p e s m args below meth c s₁ B hml hv
  obtain ⟨rfl, hsz, hP, hK, hD0, hN⟩ := hv
  have hx := B.exec
  have hb := B.bytes
  have hr := B.returns
  have hts := atoms_spec (ws := wsX8_clear) B.pre
  have hown : s.vm.findClass RX8 = some m.cls := findClass_of_methodNamed B.named
  have hlocks := B.notSynchronized
  subst hsz
  have hD := hD0.self (sz := s.heap.size)
  generalize hAe : va_A [(o, .inr (8, [.ref k_name, .ref k_worth, .ref k_times, .ref k_first, .ref k_second, .ref k_beforeLast, .ref k_last, .ref k_errandOf, .ref k_errandAfter, .ref k_sound, .ref k_followers, .ref k_leaders, .int k_words, .int k_errands, .int k_alikes, .int k_law])), (k_errandOf, .inl (cI, 24, .inl f_errandOf)), (k_sound, .inl (cI, 26, .inl f_sound))] s.heap.size = A at hD ⊢
  have hA : ∀ q : Nat, s.heap.size ≤ q → A q := fun q h => by rw [← hAe]; exact Or.inr h
  have hS : va_S A s.heap s.heap [] := va_S.rf
  have hP : va_P D vwCl [(o, .inr (8, [.ref k_name, .ref k_worth, .ref k_times, .ref k_first, .ref k_second, .ref k_beforeLast, .ref k_last, .ref k_errandOf, .ref k_errandAfter, .ref k_sound, .ref k_followers, .ref k_leaders, .int k_words, .int k_errands, .int k_alikes, .int k_law])), (k_errandOf, .inl (cI, 24, .inl f_errandOf)), (k_sound, .inl (cI, 26, .inl f_sound))] s.heap := hP
  have hl := lv_entry ([.ref o]) (n := 2) (Nat.le_of_ble_eq_true rfl)
  rw [lg_entry_eq]
  generalize (lg_sl ([.ref o]) ++ List.replicate (2 - (lg_sl ([.ref o])).length) Slot.unset).toArray = ls at hl ⊢
  have hl : lv_has ls 2 [(0, .ref o)] := hl
  refine lv_aload_n hx hb dX8_clear_0 rfl (lv_at hl 0 rfl) ?_
  refine lv_iconst (v := 0) hx hb dX8_clear_1 (by decide) ?_
  refine va_put (D := D) (ci := 8) (v := .int 0) (ty := .int) (C := RX8) (T := TX8) (N := 16) hx hb hts (by decide +kernel) tyX8 tyX8_ok nmX8 hown hK hP hD hS 0 rfl rfl 12 (by decide) (hts (.fieldLink RX8 52 "LastLetter$Tongue" "words" "I") (by decide +kernel)) (fun _ h9 => h9) rfl (by decide +kernel) rfl rfl (Nat.le_of_ble_eq_true rfl) dX8_clear_2 (fun H locs hP hD hS => ?_)
  have hP : va_P D vwCl [(o, .inr (8, [.ref k_name, .ref k_worth, .ref k_times, .ref k_first, .ref k_second, .ref k_beforeLast, .ref k_last, .ref k_errandOf, .ref k_errandAfter, .ref k_sound, .ref k_followers, .ref k_leaders, .int 0, .int k_errands, .int k_alikes, .int k_law])), (k_errandOf, .inl (cI, 24, .inl f_errandOf)), (k_sound, .inl (cI, 26, .inl f_sound))] H := hP
  have hD : va_D A [(o, .inr (8, [.ref k_name, .ref k_worth, .ref k_times, .ref k_first, .ref k_second, .ref k_beforeLast, .ref k_last, .ref k_errandOf, .ref k_errandAfter, .ref k_sound, .ref k_followers, .ref k_leaders, .int 0, .int k_errands, .int k_alikes, .int k_law])), (k_errandOf, .inl (cI, 24, .inl f_errandOf)), (k_sound, .inl (cI, 26, .inl f_sound))] := hD
  refine lv_aload_n hx hb dX8_clear_5 rfl (lv_at hl 0 rfl) ?_
  refine lv_iconst (v := 0) hx hb dX8_clear_6 (by decide) ?_
  refine va_put (D := D) (ci := 8) (v := .int 0) (ty := .int) (C := RX8) (T := TX8) (N := 16) hx hb hts (by decide +kernel) tyX8 tyX8_ok nmX8 hown hK hP hD hS 0 rfl rfl 13 (by decide) (hts (.fieldLink RX8 56 "LastLetter$Tongue" "errands" "I") (by decide +kernel)) (fun _ h9 => h9) rfl (by decide +kernel) rfl rfl (Nat.le_of_ble_eq_true rfl) dX8_clear_7 (fun H locs hP hD hS => ?_)
  have hP : va_P D vwCl [(o, .inr (8, [.ref k_name, .ref k_worth, .ref k_times, .ref k_first, .ref k_second, .ref k_beforeLast, .ref k_last, .ref k_errandOf, .ref k_errandAfter, .ref k_sound, .ref k_followers, .ref k_leaders, .int 0, .int 0, .int k_alikes, .int k_law])), (k_errandOf, .inl (cI, 24, .inl f_errandOf)), (k_sound, .inl (cI, 26, .inl f_sound))] H := hP
  have hD : va_D A [(o, .inr (8, [.ref k_name, .ref k_worth, .ref k_times, .ref k_first, .ref k_second, .ref k_beforeLast, .ref k_last, .ref k_errandOf, .ref k_errandAfter, .ref k_sound, .ref k_followers, .ref k_leaders, .int 0, .int 0, .int k_alikes, .int k_law])), (k_errandOf, .inl (cI, 24, .inl f_errandOf)), (k_sound, .inl (cI, 26, .inl f_sound))] := hD
  refine lv_aload_n hx hb dX8_clear_10 rfl (lv_at hl 0 rfl) ?_
  refine lv_iconst (v := 0) hx hb dX8_clear_11 (by decide) ?_
  refine va_put (D := D) (ci := 8) (v := .int 0) (ty := .int) (C := RX8) (T := TX8) (N := 16) hx hb hts (by decide +kernel) tyX8 tyX8_ok nmX8 hown hK hP hD hS 0 rfl rfl 14 (by decide) (hts (.fieldLink RX8 59 "LastLetter$Tongue" "alikes" "I") (by decide +kernel)) (fun _ h9 => h9) rfl (by decide +kernel) rfl rfl (Nat.le_of_ble_eq_true rfl) dX8_clear_12 (fun H locs hP hD hS => ?_)
  have hP : va_P D vwCl [(o, .inr (8, [.ref k_name, .ref k_worth, .ref k_times, .ref k_first, .ref k_second, .ref k_beforeLast, .ref k_last, .ref k_errandOf, .ref k_errandAfter, .ref k_sound, .ref k_followers, .ref k_leaders, .int 0, .int 0, .int 0, .int k_law])), (k_errandOf, .inl (cI, 24, .inl f_errandOf)), (k_sound, .inl (cI, 26, .inl f_sound))] H := hP
  have hD : va_D A [(o, .inr (8, [.ref k_name, .ref k_worth, .ref k_times, .ref k_first, .ref k_second, .ref k_beforeLast, .ref k_last, .ref k_errandOf, .ref k_errandAfter, .ref k_sound, .ref k_followers, .ref k_leaders, .int 0, .int 0, .int 0, .int k_law])), (k_errandOf, .inl (cI, 24, .inl f_errandOf)), (k_sound, .inl (cI, 26, .inl f_sound))] := hD
  refine lv_aload_n hx hb dX8_clear_15 rfl (lv_at hl 0 rfl) ?_
  refine lv_iconst (v := (-1)) hx hb dX8_clear_16 (by decide) ?_
  refine va_put (D := D) (ci := 8) (v := .int (-1)) (ty := .int) (C := RX8) (T := TX8) (N := 16) hx hb hts (by decide +kernel) tyX8 tyX8_ok nmX8 hown hK hP hD hS 0 rfl rfl 15 (by decide) (hts (.fieldLink RX8 62 "LastLetter$Tongue" "law" "I") (by decide +kernel)) (fun _ h9 => h9) rfl (by decide +kernel) rfl rfl (Nat.le_of_ble_eq_true rfl) dX8_clear_17 (fun H locs hP hD hS => ?_)
  have hP : va_P D vwCl [(o, .inr (8, [.ref k_name, .ref k_worth, .ref k_times, .ref k_first, .ref k_second, .ref k_beforeLast, .ref k_last, .ref k_errandOf, .ref k_errandAfter, .ref k_sound, .ref k_followers, .ref k_leaders, .int 0, .int 0, .int 0, .int (-1)])), (k_errandOf, .inl (cI, 24, .inl f_errandOf)), (k_sound, .inl (cI, 26, .inl f_sound))] H := hP
  have hD : va_D A [(o, .inr (8, [.ref k_name, .ref k_worth, .ref k_times, .ref k_first, .ref k_second, .ref k_beforeLast, .ref k_last, .ref k_errandOf, .ref k_errandAfter, .ref k_sound, .ref k_followers, .ref k_leaders, .int 0, .int 0, .int 0, .int (-1)])), (k_errandOf, .inl (cI, 24, .inl f_errandOf)), (k_sound, .inl (cI, 26, .inl f_sound))] := hD
  refine lv_aload_n hx hb dX8_clear_20 rfl (lv_at hl 0 rfl) ?_
  refine va_get (D := D) (ci := 8) (v := .ref k_errandOf) (C := RX8) (T := TX8) (N := 16) hx hb hts (by decide +kernel) hown hK hP 0 rfl rfl 7 (by decide) (hts (.fieldLink RX8 34 "LastLetter$Tongue" "errandOf" "[I") (by decide +kernel)) (fun _ h9 => h9) rfl dX8_clear_21 ?_
  refine lv_iconst (v := (-1)) hx hb dX8_clear_24 (by decide) ?_
  refine xCv (wr := [(o, .inr (8, [.ref k_name, .ref k_worth, .ref k_times, .ref k_first, .ref k_second, .ref k_beforeLast, .ref k_last, .ref k_errandOf, .ref k_errandAfter, .ref k_sound, .ref k_followers, .ref k_leaders, .int 0, .int 0, .int 0, .int (-1)])), (k_sound, .inl (cI, 26, .inl f_sound))]) (win := [(k_errandOf, .inl (cI, 24, .inl f_errandOf))]) hP hD hS hA [1] [0, 2] rfl rfl (by decide) (by decide) (va_runS (As := [.ref k_errandOf, .int (-1)]) (rest := []) ⟨hx, hb, hml, hown, hts⟩ (c_J7_fill_53178 l D cB cI cJ cS cZ cO H.size k_errandOf (-1) 24 f_errandOf (by first | assumption | omega | decide)) (va_cwS 2 hts gX8_clear_J7_fill_53178 rfl rfl rfl (by decide +kernel) ⟨Nat.le_of_ble_eq_true rfl, Nat.le_of_ble_eq_true rfl⟩) (xPreS (win := [(k_errandOf, .inl (cI, 24, .inl f_errandOf))]) hN hK hP hD [1] (by decide) rfl) rfl rfl hl.1 rfl (lv_room (Nat.le_of_ble_eq_true rfl)) dX8_clear_25 ⟨Nat.le_of_ble_eq_true rfl, Nat.le_of_ble_eq_true rfl⟩) (fun w0 H locs hw hP hD hS => ?_)
  obtain ⟨g_1, rfl, hf_2⟩ := hw
  have hP : va_P D vwCl [(o, .inr (8, [.ref k_name, .ref k_worth, .ref k_times, .ref k_first, .ref k_second, .ref k_beforeLast, .ref k_last, .ref k_errandOf, .ref k_errandAfter, .ref k_sound, .ref k_followers, .ref k_leaders, .int 0, .int 0, .int 0, .int (-1)])), (k_sound, .inl (cI, 26, .inl f_sound)), (k_errandOf, .inl (cI, 24, .inl g_1))] H := hP
  have hD : va_D A [(o, .inr (8, [.ref k_name, .ref k_worth, .ref k_times, .ref k_first, .ref k_second, .ref k_beforeLast, .ref k_last, .ref k_errandOf, .ref k_errandAfter, .ref k_sound, .ref k_followers, .ref k_leaders, .int 0, .int 0, .int 0, .int (-1)])), (k_sound, .inl (cI, 26, .inl f_sound)), (k_errandOf, .inl (cI, 24, .inl g_1))] := hD
  refine lv_iconst (v := 0) hx hb dX8_clear_28 (by decide) ?_
  refine lv_istore_n (lv' := [(1, .int 0), (0, .ref o)]) hx hb dX8_clear_29 rfl hl (by decide) rfl (fun ls hl => ?_)
  refine xb_wh (fun (n9 : Nat) H locs ls => ∃ i : Nat, ∃ g2 : Nat → Int32, (26 - i) = n9 ∧ va_P D vwCl [(o, .inr (8, [.ref k_name, .ref k_worth, .ref k_times, .ref k_first, .ref k_second, .ref k_beforeLast, .ref k_last, .ref k_errandOf, .ref k_errandAfter, .ref k_sound, .ref k_followers, .ref k_leaders, .int 0, .int 0, .int 0, .int (-1)])), (k_sound, .inl (cI, 26, .inl g2)), (k_errandOf, .inl (cI, 24, .inl g_1))] H ∧ va_D A [(o, .inr (8, [.ref k_name, .ref k_worth, .ref k_times, .ref k_first, .ref k_second, .ref k_beforeLast, .ref k_last, .ref k_errandOf, .ref k_errandAfter, .ref k_sound, .ref k_followers, .ref k_leaders, .int 0, .int 0, .int 0, .int (-1)])), (k_sound, .inl (cI, 26, .inl g2)), (k_errandOf, .inl (cI, 24, .inl g_1))] ∧ va_S A s.heap H locs ∧ lv_has ls 2 [(1, .int (nI i)), (0, .ref o)] ∧ (i ≤ 26)) ⟨0, f_sound, rfl, hP, hD, hS, lv_sub hl [0, 1] rfl, (by first | assumption | omega)⟩ (fun n9 H locs ls hI kk_30 => ?_)
  obtain ⟨i, g2, hn_30, hP, hD, hS, hl, hF_h_3⟩ := hI
  refine lv_iload_n hx hb dX8_clear_30 rfl (lv_at hl 0 rfl) ?_
  refine lv_bipush (v := 26) hx hb dX8_clear_31 (by decide) ?_
  refine lv_icmp_ge (tgt := 49) hx hb dX8_clear_33 (by decide) (fun c_4 => ?_) (fun c_4 => ?_)
  · have dc_4 : 26 ≤ i := (nI_leI (a := 26) (b := i) (by omega) (by omega)).mp c_4
    have hP9 := hP.sub (ws' := [(o, .inr (8, [.ref k_name, .ref k_worth, .ref k_times, .ref k_first, .ref k_second, .ref k_beforeLast, .ref k_last, .ref k_errandOf, .ref k_errandAfter, .ref k_sound, .ref k_followers, .ref k_leaders, .int 0, .int 0, .int 0, .int (-1)])), (k_errandOf, .inl (cI, 24, .inl g_1)), (k_sound, .inl (cI, 26, .inl g2))]) [0, 2, 1] rfl
    have hD9 := hD.sub (ws' := [(o, .inr (8, [.ref k_name, .ref k_worth, .ref k_times, .ref k_first, .ref k_second, .ref k_beforeLast, .ref k_last, .ref k_errandOf, .ref k_errandAfter, .ref k_sound, .ref k_followers, .ref k_leaders, .int 0, .int 0, .int 0, .int (-1)])), (k_errandOf, .inl (cI, 24, .inl g_1)), (k_sound, .inl (cI, 26, .inl g2))]) [0, 2, 1] (by decide) rfl
    refine W.widen (k := 0) (n := 0) (Nat.le_of_ble_eq_true rfl) (Nat.le_of_ble_eq_true rfl) ?_
    exact W.vret hx hb hr (fun tz htz hWz => ⟨⟨[(o, .inr (8, [.ref k_name, .ref k_worth, .ref k_times, .ref k_first, .ref k_second, .ref k_beforeLast, .ref k_last, .ref k_errandOf, .ref k_errandAfter, .ref k_sound, .ref k_followers, .ref k_leaders, .int 0, .int 0, .int 0, .int (-1)])), (k_errandOf, .inl (cI, 24, .inl g_1)), (k_sound, .inl (cI, 26, .inl g2))], rfl, ⟨g_1, g2, rfl, (fun j hj => Or.inl (hf_2 j hj))⟩, by rw [htz]; exact hP9, va_K.moved hWz.alike hK, hD9⟩, hS.F htz⟩) hS.2.2 dX8_clear_49
  · have dc_4 : ¬ 26 ≤ i := fun h => c_4 ((nI_leI (a := 26) (b := i) (by omega) (by omega)).mpr h)
    refine lv_aload_n hx hb dX8_clear_36 rfl (lv_at hl 1 rfl) ?_
    refine va_get (D := D) (ci := 8) (v := .ref k_sound) (C := RX8) (T := TX8) (N := 16) hx hb hts (by decide +kernel) hown hK hP 0 rfl rfl 9 (by decide) (hts (.fieldLink RX8 40 "LastLetter$Tongue" "sound" "[I") (by decide +kernel)) (fun _ h9 => h9) rfl dX8_clear_37 ?_
    refine lv_iload_n hx hb dX8_clear_40 rfl (lv_at hl 0 rfl) ?_
    refine lv_iload_n hx hb dX8_clear_41 rfl (lv_at hl 0 rfl) ?_
    refine va_iast hx hb hK hP hD hS 1 1 rfl rfl (vp_in_nI (by omega) (by omega)) dX8_clear_42 (fun H locs hP hD hS => ?_)
    have hP : va_P D vwCl [(o, .inr (8, [.ref k_name, .ref k_worth, .ref k_times, .ref k_first, .ref k_second, .ref k_beforeLast, .ref k_last, .ref k_errandOf, .ref k_errandAfter, .ref k_sound, .ref k_followers, .ref k_leaders, .int 0, .int 0, .int 0, .int (-1)])), (k_sound, .inl (cI, 26, .inl (upd g2 (Int32.toNatClampNeg (nI i)) (nI i)))), (k_errandOf, .inl (cI, 24, .inl g_1))] H := hP
    have hD : va_D A [(o, .inr (8, [.ref k_name, .ref k_worth, .ref k_times, .ref k_first, .ref k_second, .ref k_beforeLast, .ref k_last, .ref k_errandOf, .ref k_errandAfter, .ref k_sound, .ref k_followers, .ref k_leaders, .int 0, .int 0, .int 0, .int (-1)])), (k_sound, .inl (cI, 26, .inl (upd g2 (Int32.toNatClampNeg (nI i)) (nI i)))), (k_errandOf, .inl (cI, 24, .inl g_1))] := hD
    generalize eg_5 : upd g2 (Int32.toNatClampNeg (nI i)) (nI i) = g_5 at hP hD
    refine lv_iinc (v := nI (i + 1)) (lv' := [(1, .int (nI (i + 1))), (0, .ref o)]) hx hb dX8_clear_43 hl (k := 0) rfl (nI_1 i) (by decide) rfl (fun ls hl => ?_)
    refine lv_goto (tgt := 30) hx hb dX8_clear_46 (by decide) ?_
    exact kk_30 _ _ _ _ (by rw [← hn_30]; omega) ⟨(i + 1), g_5, rfl, hP, hD, hS, lv_sub hl [0, 1] rfl, (by first | assumption | omega)⟩
