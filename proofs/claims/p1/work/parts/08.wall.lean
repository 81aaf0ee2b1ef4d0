theorem dX1_balance_0 : decode cX1_balance 0 = .ok (.iconst 0, 1) := by decide +kernel
theorem dX1_balance_1 : decode cX1_balance 1 = .ok (.istore_n 3, 1) := by decide +kernel
theorem dX1_balance_2 : decode cX1_balance 2 = .ok (.iconst 0, 1) := by decide +kernel
theorem dX1_balance_3 : decode cX1_balance 3 = .ok (.istore 4, 2) := by decide +kernel
theorem dX1_balance_5 : decode cX1_balance 5 = .ok (.iload 4, 2) := by decide +kernel
theorem dX1_balance_7 : decode cX1_balance 7 = .ok (.aload_n 1, 1) := by decide +kernel
theorem dX1_balance_8 : decode cX1_balance 8 = .ok (.getfield 15, 3) := by decide +kernel
theorem dX1_balance_11 : decode cX1_balance 11 = .ok (.if_icmp .ge 47, 3) := by decide +kernel
theorem dX1_balance_58 : decode cX1_balance 58 = .ok (.iload_n 3, 1) := by decide +kernel
theorem dX1_balance_59 : decode cX1_balance 59 = .ok (.ireturn, 1) := by decide +kernel
theorem dX1_gather_0 : decode cX1_gather 0 = .ok (.aload_n 1, 1) := by decide +kernel
theorem dX1_gather_1 : decode cX1_gather 1 = .ok (.getfield 21, 3) := by decide +kernel
theorem dX1_gather_4 : decode cX1_gather 4 = .ok (.iconst 0, 1) := by decide +kernel
theorem dX1_gather_5 : decode cX1_gather 5 = .ok (.aload_n 0, 1) := by decide +kernel
theorem dX1_gather_6 : decode cX1_gather 6 = .ok (.getfield 9, 3) := by decide +kernel
theorem dX1_gather_9 : decode cX1_gather 9 = .ok (.iconst 0, 1) := by decide +kernel
theorem dX1_gather_10 : decode cX1_gather 10 = .ok (.bipush 26, 2) := by decide +kernel
theorem dX1_gather_12 : decode cX1_gather 12 = .ok (.invokestatic 48, 3) := by decide +kernel
theorem dX1_gather_15 : decode cX1_gather 15 = .ok (.iconst 0, 1) := by decide +kernel
theorem dX1_gather_16 : decode cX1_gather 16 = .ok (.istore_n 2, 1) := by decide +kernel
theorem dX1_gather_17 : decode cX1_gather 17 = .ok (.iload_n 2, 1) := by decide +kernel
theorem dX1_gather_18 : decode cX1_gather 18 = .ok (.aload_n 1, 1) := by decide +kernel
theorem dX1_gather_19 : decode cX1_gather 19 = .ok (.getfield 15, 3) := by decide +kernel
theorem dX1_gather_22 : decode cX1_gather 22 = .ok (.if_icmp .ge 70, 3) := by decide +kernel
theorem dX1_gather_92 : decode cX1_gather 92 = .ok (.return_, 1) := by decide +kernel
theorem dX1_hasWords_0 : decode cX1_hasWords 0 = .ok (.iconst 0, 1) := by decide +kernel
theorem dX1_hasWords_1 : decode cX1_hasWords 1 = .ok (.istore_n 3, 1) := by decide +kernel
theorem dX1_hasWords_2 : decode cX1_hasWords 2 = .ok (.iload_n 3, 1) := by decide +kernel
theorem dX1_hasWords_3 : decode cX1_hasWords 3 = .ok (.aload_n 1, 1) := by decide +kernel
theorem dX1_hasWords_4 : decode cX1_hasWords 4 = .ok (.getfield 15, 3) := by decide +kernel
theorem dX1_hasWords_7 : decode cX1_hasWords 7 = .ok (.if_icmp .ge 26, 3) := by decide +kernel
theorem dX1_hasWords_33 : decode cX1_hasWords 33 = .ok (.iconst 0, 1) := by decide +kernel
theorem dX1_hasWords_34 : decode cX1_hasWords 34 = .ok (.ireturn, 1) := by decide +kernel
theorem dX1_lacking_0 : decode cX1_lacking 0 = .ok (.aload_n 0, 1) := by decide +kernel
theorem dX1_lacking_1 : decode cX1_lacking 1 = .ok (.aload_n 1, 1) := by decide +kernel
theorem dX1_lacking_2 : decode cX1_lacking 2 = .ok (.invokevirtual 30, 3) := by decide +kernel
theorem dX1_lacking_5 : decode cX1_lacking 5 = .ok (.iconst 0, 1) := by decide +kernel
theorem dX1_lacking_6 : decode cX1_lacking 6 = .ok (.istore_n 2, 1) := by decide +kernel
theorem dX1_lacking_7 : decode cX1_lacking 7 = .ok (.iconst 0, 1) := by decide +kernel
theorem dX1_lacking_8 : decode cX1_lacking 8 = .ok (.istore_n 3, 1) := by decide +kernel
theorem dX1_lacking_9 : decode cX1_lacking 9 = .ok (.iload_n 3, 1) := by decide +kernel
theorem dX1_lacking_10 : decode cX1_lacking 10 = .ok (.bipush 26, 2) := by decide +kernel
theorem dX1_lacking_12 : decode cX1_lacking 12 = .ok (.if_icmp .ge 31, 3) := by decide +kernel
theorem dX1_lacking_15 : decode cX1_lacking 15 = .ok (.aload_n 0, 1) := by decide +kernel
theorem dX1_lacking_16 : decode cX1_lacking 16 = .ok (.aload_n 1, 1) := by decide +kernel
theorem dX1_lacking_17 : decode cX1_lacking 17 = .ok (.iload_n 3, 1) := by decide +kernel
theorem dX1_lacking_18 : decode cX1_lacking 18 = .ok (.invokevirtual 34, 3) := by decide +kernel
theorem dX1_lacking_21 : decode cX1_lacking 21 = .ok (.ifCond .eq 16, 3) := by decide +kernel
theorem dX1_lacking_37 : decode cX1_lacking 37 = .ok (.iinc 3 1, 3) := by decide +kernel
theorem dX1_lacking_40 : decode cX1_lacking 40 = .ok (.goto (-31), 3) := by decide +kernel
theorem dX1_lacking_43 : decode cX1_lacking 43 = .ok (.iconst 0, 1) := by decide +kernel
theorem dX1_lacking_44 : decode cX1_lacking 44 = .ok (.iload_n 2, 1) := by decide +kernel
theorem dX1_lacking_45 : decode cX1_lacking 45 = .ok (.iconst 1, 1) := by decide +kernel
theorem dX1_lacking_46 : decode cX1_lacking 46 = .ok (.isub, 1) := by decide +kernel
theorem dX1_lacking_47 : decode cX1_lacking 47 = .ok (.invokestatic 42, 3) := by decide +kernel
theorem dX1_lacking_50 : decode cX1_lacking 50 = .ok (.ireturn, 1) := by decide +kernel
theorem dX9_add_0 : decode cX9_add 0 = .ok (.aload_n 0, 1) := by decide +kernel
theorem dX9_add_1 : decode cX9_add 1 = .ok (.getfield 37, 3) := by decide +kernel
theorem dX9_add_4 : decode cX9_add 4 = .ok (.bipush 30, 2) := by decide +kernel
theorem dX9_add_6 : decode cX9_add 6 = .ok (.if_icmp .lt 5, 3) := by decide +kernel
theorem dX9_add_11 : decode cX9_add 11 = .ok (.aload_n 0, 1) := by decide +kernel
theorem dX9_add_12 : decode cX9_add 12 = .ok (.getfield 37, 3) := by decide +kernel
theorem dX9_add_15 : decode cX9_add 15 = .ok (.istore 4, 2) := by decide +kernel
theorem dX9_add_17 : decode cX9_add 17 = .ok (.aload_n 0, 1) := by decide +kernel
theorem dX9_add_18 : decode cX9_add 18 = .ok (.getfield 9, 3) := by decide +kernel
theorem dX9_add_21 : decode cX9_add 21 = .ok (.iload 4, 2) := by decide +kernel
theorem dX9_add_23 : decode cX9_add 23 = .ok (.iload_n 1, 1) := by decide +kernel
theorem dX9_add_24 : decode cX9_add 24 = .ok (.iastore, 1) := by decide +kernel
theorem dX9_add_25 : decode cX9_add 25 = .ok (.aload_n 0, 1) := by decide +kernel
theorem dX9_add_26 : decode cX9_add 26 = .ok (.getfield 15, 3) := by decide +kernel
theorem dX9_add_29 : decode cX9_add 29 = .ok (.iload 4, 2) := by decide +kernel
theorem dX9_add_31 : decode cX9_add 31 = .ok (.iload_n 2, 1) := by decide +kernel
theorem dX9_add_32 : decode cX9_add 32 = .ok (.iastore, 1) := by decide +kernel
theorem dX9_add_33 : decode cX9_add 33 = .ok (.aload_n 0, 1) := by decide +kernel
theorem dX9_add_34 : decode cX9_add 34 = .ok (.getfield 18, 3) := by decide +kernel
theorem dX9_add_37 : decode cX9_add 37 = .ok (.iload 4, 2) := by decide +kernel
theorem dX9_add_39 : decode cX9_add 39 = .ok (.iload_n 3, 1) := by decide +kernel
theorem dX9_add_40 : decode cX9_add 40 = .ok (.iastore, 1) := by decide +kernel
theorem dX9_add_41 : decode cX9_add 41 = .ok (.aload_n 0, 1) := by decide +kernel
theorem dX9_add_42 : decode cX9_add 42 = .ok (.getfield 21, 3) := by decide +kernel
theorem dX9_add_45 : decode cX9_add 45 = .ok (.iload 4, 2) := by decide +kernel
theorem dX9_add_47 : decode cX9_add 47 = .ok (.aload_n 0, 1) := by decide +kernel
theorem dX9_add_48 : decode cX9_add 48 = .ok (.getfield 41, 3) := by decide +kernel
theorem dX9_add_51 : decode cX9_add 51 = .ok (.iastore, 1) := by decide +kernel
theorem dX9_add_52 : decode cX9_add 52 = .ok (.aload_n 0, 1) := by decide +kernel
theorem dX9_add_53 : decode cX9_add 53 = .ok (.getfield 24, 3) := by decide +kernel
theorem dX9_add_56 : decode cX9_add 56 = .ok (.iload 4, 2) := by decide +kernel
theorem dX9_add_58 : decode cX9_add 58 = .ok (.iconst (-1), 1) := by decide +kernel
theorem dX9_add_59 : decode cX9_add 59 = .ok (.iastore, 1) := by decide +kernel
theorem dX9_add_60 : decode cX9_add 60 = .ok (.aload_n 0, 1) := by decide +kernel
theorem dX9_add_61 : decode cX9_add 61 = .ok (.dup, 1) := by decide +kernel
theorem dX9_add_62 : decode cX9_add 62 = .ok (.getfield 37, 3) := by decide +kernel
theorem dX9_add_65 : decode cX9_add 65 = .ok (.iconst 1, 1) := by decide +kernel
theorem dX9_add_66 : decode cX9_add 66 = .ok (.iadd, 1) := by decide +kernel
theorem dX9_add_67 : decode cX9_add 67 = .ok (.putfield 37, 3) := by decide +kernel
theorem dX9_add_70 : decode cX9_add 70 = .ok (.iload 4, 2) := by decide +kernel
theorem dX9_add_72 : decode cX9_add 72 = .ok (.ireturn, 1) := by decide +kernel
theorem dX9_countRows_0 : decode cX9_countRows 0 = .ok (.aload_n 0, 1) := by decide +kernel
theorem dX9_countRows_1 : decode cX9_countRows 1 = .ok (.aload_n 1, 1) := by decide +kernel
theorem dX9_countRows_2 : decode cX9_countRows 2 = .ok (.iload_n 3, 1) := by decide +kernel
theorem dX9_countRows_3 : decode cX9_countRows 3 = .ok (.invokevirtual 44, 3) := by decide +kernel
theorem dX9_countRows_6 : decode cX9_countRows 6 = .ok (.iconst 0, 1) := by decide +kernel
theorem dX9_countRows_7 : decode cX9_countRows 7 = .ok (.istore 4, 2) := by decide +kernel
theorem dX9_countRows_9 : decode cX9_countRows 9 = .ok (.iload 4, 2) := by decide +kernel
theorem dX9_countRows_11 : decode cX9_countRows 11 = .ok (.aload_n 1, 1) := by decide +kernel
theorem dX9_countRows_12 : decode cX9_countRows 12 = .ok (.getfield 48, 3) := by decide +kernel
theorem dX9_countRows_15 : decode cX9_countRows 15 = .ok (.if_icmp .ge 35, 3) := by decide +kernel
theorem dX9_countRows_50 : decode cX9_countRows 50 = .ok (.iconst 1, 1) := by decide +kernel
theorem dX9_countRows_51 : decode cX9_countRows 51 = .ok (.istore 4, 2) := by decide +kernel
theorem dX9_countRows_53 : decode cX9_countRows 53 = .ok (.iload 4, 2) := by decide +kernel
theorem dX9_countRows_55 : decode cX9_countRows 55 = .ok (.iload_n 2, 1) := by decide +kernel
theorem dX9_countRows_56 : decode cX9_countRows 56 = .ok (.if_icmp .ge 80, 3) := by decide +kernel
theorem dX9_countRows_59 : decode cX9_countRows 59 = .ok (.iconst 0, 1) := by decide +kernel
theorem dX9_countRows_60 : decode cX9_countRows 60 = .ok (.istore 5, 2) := by decide +kernel
theorem dX9_countRows_62 : decode cX9_countRows 62 = .ok (.iload 5, 2) := by decide +kernel
theorem dX9_countRows_64 : decode cX9_countRows 64 = .ok (.aload_n 1, 1) := by decide +kernel
theorem dX9_countRows_65 : decode cX9_countRows 65 = .ok (.getfield 48, 3) := by decide +kernel
theorem dX9_countRows_68 : decode cX9_countRows 68 = .ok (.if_icmp .ge 42, 3) := by decide +kernel
theorem dX9_countRows_110 : decode cX9_countRows 110 = .ok (.aload_n 0, 1) := by decide +kernel
theorem dX9_countRows_111 : decode cX9_countRows 111 = .ok (.getfield 30, 3) := by decide +kernel
theorem dX9_countRows_114 : decode cX9_countRows 114 = .ok (.astore 5, 2) := by decide +kernel
theorem dX9_countRows_116 : decode cX9_countRows 116 = .ok (.aload_n 0, 1) := by decide +kernel
theorem dX9_countRows_117 : decode cX9_countRows 117 = .ok (.aload_n 0, 1) := by decide +kernel
theorem dX9_countRows_118 : decode cX9_countRows 118 = .ok (.getfield 34, 3) := by decide +kernel
theorem dX9_countRows_121 : decode cX9_countRows 121 = .ok (.putfield 30, 3) := by decide +kernel
theorem dX9_countRows_124 : decode cX9_countRows 124 = .ok (.aload_n 0, 1) := by decide +kernel
theorem dX9_countRows_125 : decode cX9_countRows 125 = .ok (.aload 5, 2) := by decide +kernel
theorem dX9_countRows_127 : decode cX9_countRows 127 = .ok (.putfield 34, 3) := by decide +kernel
theorem dX9_countRows_130 : decode cX9_countRows 130 = .ok (.iinc 4 1, 3) := by decide +kernel
theorem dX9_countRows_133 : decode cX9_countRows 133 = .ok (.goto (-80), 3) := by decide +kernel
theorem dX9_countRows_136 : decode cX9_countRows 136 = .ok (.lconst 0, 1) := by decide +kernel
theorem dX9_countRows_137 : decode cX9_countRows 137 = .ok (.lstore 4, 2) := by decide +kernel
theorem dX9_countRows_139 : decode cX9_countRows 139 = .ok (.iconst 0, 1) := by decide +kernel
theorem dX9_countRows_140 : decode cX9_countRows 140 = .ok (.istore 6, 2) := by decide +kernel
theorem dX9_countRows_142 : decode cX9_countRows 142 = .ok (.iload 6, 2) := by decide +kernel
theorem dX9_countRows_144 : decode cX9_countRows 144 = .ok (.aload_n 1, 1) := by decide +kernel
theorem dX9_countRows_145 : decode cX9_countRows 145 = .ok (.getfield 48, 3) := by decide +kernel
theorem dX9_countRows_148 : decode cX9_countRows 148 = .ok (.if_icmp .ge 21, 3) := by decide +kernel
theorem dX9_countRows_169 : decode cX9_countRows 169 = .ok (.lload 4, 2) := by decide +kernel
theorem dX9_countRows_171 : decode cX9_countRows 171 = .ok (.ldc2_w 61, 3) := by decide +kernel
theorem dX9_countRows_174 : decode cX9_countRows 174 = .ok (.invokestatic 63, 3) := by decide +kernel
theorem dX9_countRows_177 : decode cX9_countRows 177 = .ok (.lreturn, 1) := by decide +kernel
theorem dX9_gathered_0 : decode cX9_gathered 0 = .ok (.iconst 0, 1) := by decide +kernel
theorem dX9_gathered_1 : decode cX9_gathered 1 = .ok (.istore 4, 2) := by decide +kernel
theorem dX9_gathered_3 : decode cX9_gathered 3 = .ok (.iconst 0, 1) := by decide +kernel
theorem dX9_gathered_4 : decode cX9_gathered 4 = .ok (.istore 5, 2) := by decide +kernel
theorem dX9_gathered_6 : decode cX9_gathered 6 = .ok (.iload 5, 2) := by decide +kernel
theorem dX9_gathered_8 : decode cX9_gathered 8 = .ok (.iload_n 3, 1) := by decide +kernel
theorem dX9_gathered_9 : decode cX9_gathered 9 = .ok (.if_icmp .ge 27, 3) := by decide +kernel
theorem dX9_gathered_36 : decode cX9_gathered 36 = .ok (.iload 4, 2) := by decide +kernel
theorem dX9_gathered_38 : decode cX9_gathered 38 = .ok (.ireturn, 1) := by decide +kernel
theorem dX9_narrow_0 : decode cX9_narrow 0 = .ok (.aload_n 0, 1) := by decide +kernel
theorem dX9_narrow_1 : decode cX9_narrow 1 = .ok (.getfield 27, 3) := by decide +kernel
theorem dX9_narrow_4 : decode cX9_narrow 4 = .ok (.aload_n 1, 1) := by decide +kernel
theorem dX9_narrow_5 : decode cX9_narrow 5 = .ok (.invokevirtual 79, 3) := by decide +kernel
theorem dX9_narrow_8 : decode cX9_narrow 8 = .ok (.invokestatic 83, 3) := by decide +kernel
theorem dX9_narrow_11 : decode cX9_narrow 11 = .ok (.iconst 0, 1) := by decide +kernel
theorem dX9_narrow_12 : decode cX9_narrow 12 = .ok (.istore_n 3, 1) := by decide +kernel
theorem dX9_narrow_13 : decode cX9_narrow 13 = .ok (.iload_n 3, 1) := by decide +kernel
theorem dX9_narrow_14 : decode cX9_narrow 14 = .ok (.aload_n 0, 1) := by decide +kernel
theorem dX9_narrow_15 : decode cX9_narrow 15 = .ok (.getfield 37, 3) := by decide +kernel
theorem dX9_narrow_18 : decode cX9_narrow 18 = .ok (.if_icmp .ge 82, 3) := by decide +kernel
theorem dX9_narrow_100 : decode cX9_narrow 100 = .ok (.return_, 1) := by decide +kernel
theorem dX9_standAt_0 : decode cX9_standAt 0 = .ok (.aload_n 0, 1) := by decide +kernel
theorem dX9_standAt_1 : decode cX9_standAt 1 = .ok (.aload_n 1, 1) := by decide +kernel
theorem dX9_standAt_2 : decode cX9_standAt 2 = .ok (.iload 4, 2) := by decide +kernel
theorem dX9_standAt_4 : decode cX9_standAt 4 = .ok (.invokevirtual 44, 3) := by decide +kernel
theorem dX9_standAt_7 : decode cX9_standAt 7 = .ok (.iconst 1, 1) := by decide +kernel
theorem dX9_standAt_8 : decode cX9_standAt 8 = .ok (.istore 5, 2) := by decide +kernel
theorem dX9_standAt_10 : decode cX9_standAt 10 = .ok (.iload 5, 2) := by decide +kernel
theorem dX9_standAt_12 : decode cX9_standAt 12 = .ok (.iload_n 2, 1) := by decide +kernel
theorem dX9_standAt_13 : decode cX9_standAt 13 = .ok (.if_icmp .ge 40, 3) := by decide +kernel
theorem dX9_standAt_16 : decode cX9_standAt 16 = .ok (.aload_n 0, 1) := by decide +kernel
theorem dX9_standAt_17 : decode cX9_standAt 17 = .ok (.getfield 27, 3) := by decide +kernel
theorem dX9_standAt_20 : decode cX9_standAt 20 = .ok (.iload 5, 2) := by decide +kernel
theorem dX9_standAt_22 : decode cX9_standAt 22 = .ok (.dup2, 1) := by decide +kernel
theorem dX9_standAt_23 : decode cX9_standAt 23 = .ok (.iaload, 1) := by decide +kernel
theorem dX9_standAt_24 : decode cX9_standAt 24 = .ok (.aload_n 0, 1) := by decide +kernel
theorem dX9_standAt_25 : decode cX9_standAt 25 = .ok (.aload_n 1, 1) := by decide +kernel
theorem dX9_standAt_26 : decode cX9_standAt 26 = .ok (.getfield 72, 3) := by decide +kernel
theorem dX9_standAt_29 : decode cX9_standAt 29 = .ok (.aload_n 0, 1) := by decide +kernel
theorem dX9_standAt_30 : decode cX9_standAt 30 = .ok (.getfield 27, 3) := by decide +kernel
theorem dX9_standAt_33 : decode cX9_standAt 33 = .ok (.iload 5, 2) := by decide +kernel
theorem dX9_standAt_35 : decode cX9_standAt 35 = .ok (.iconst 1, 1) := by decide +kernel
theorem dX9_standAt_36 : decode cX9_standAt 36 = .ok (.isub, 1) := by decide +kernel
theorem dX9_standAt_37 : decode cX9_standAt 37 = .ok (.iaload, 1) := by decide +kernel
theorem dX9_standAt_38 : decode cX9_standAt 38 = .ok (.aload_n 1, 1) := by decide +kernel
theorem dX9_standAt_39 : decode cX9_standAt 39 = .ok (.getfield 48, 3) := by decide +kernel
theorem dX9_standAt_42 : decode cX9_standAt 42 = .ok (.invokevirtual 75, 3) := by decide +kernel
theorem dX9_standAt_45 : decode cX9_standAt 45 = .ok (.iand, 1) := by decide +kernel
theorem dX9_standAt_46 : decode cX9_standAt 46 = .ok (.iastore, 1) := by decide +kernel
theorem dX9_standAt_47 : decode cX9_standAt 47 = .ok (.iinc 5 1, 3) := by decide +kernel
theorem dX9_standAt_50 : decode cX9_standAt 50 = .ok (.goto (-40), 3) := by decide +kernel
theorem dX9_standAt_53 : decode cX9_standAt 53 = .ok (.iload_n 2, 1) := by decide +kernel
theorem dX9_standAt_54 : decode cX9_standAt 54 = .ok (.iconst 2, 1) := by decide +kernel
theorem dX9_standAt_55 : decode cX9_standAt 55 = .ok (.isub, 1) := by decide +kernel
theorem dX9_standAt_56 : decode cX9_standAt 56 = .ok (.istore 5, 2) := by decide +kernel
theorem dX9_standAt_58 : decode cX9_standAt 58 = .ok (.iload 5, 2) := by decide +kernel
theorem dX9_standAt_60 : decode cX9_standAt 60 = .ok (.iload_n 3, 1) := by decide +kernel
theorem dX9_standAt_61 : decode cX9_standAt 61 = .ok (.if_icmp .lt 40, 3) := by decide +kernel
theorem dX9_standAt_64 : decode cX9_standAt 64 = .ok (.aload_n 0, 1) := by decide +kernel
theorem dX9_standAt_65 : decode cX9_standAt 65 = .ok (.getfield 27, 3) := by decide +kernel
theorem dX9_standAt_68 : decode cX9_standAt 68 = .ok (.iload 5, 2) := by decide +kernel
theorem dX9_standAt_70 : decode cX9_standAt 70 = .ok (.dup2, 1) := by decide +kernel
theorem dX9_standAt_71 : decode cX9_standAt 71 = .ok (.iaload, 1) := by decide +kernel
theorem dX9_standAt_72 : decode cX9_standAt 72 = .ok (.aload_n 0, 1) := by decide +kernel
theorem dX9_standAt_73 : decode cX9_standAt 73 = .ok (.aload_n 1, 1) := by decide +kernel
theorem dX9_standAt_74 : decode cX9_standAt 74 = .ok (.getfield 69, 3) := by decide +kernel
theorem dX9_standAt_77 : decode cX9_standAt 77 = .ok (.aload_n 0, 1) := by decide +kernel
theorem dX9_standAt_78 : decode cX9_standAt 78 = .ok (.getfield 27, 3) := by decide +kernel
theorem dX9_standAt_81 : decode cX9_standAt 81 = .ok (.iload 5, 2) := by decide +kernel
theorem dX9_standAt_83 : decode cX9_standAt 83 = .ok (.iconst 1, 1) := by decide +kernel
theorem dX9_standAt_84 : decode cX9_standAt 84 = .ok (.iadd, 1) := by decide +kernel
theorem dX9_standAt_85 : decode cX9_standAt 85 = .ok (.iaload, 1) := by decide +kernel
theorem dX9_standAt_86 : decode cX9_standAt 86 = .ok (.aload_n 1, 1) := by decide +kernel
theorem dX9_standAt_87 : decode cX9_standAt 87 = .ok (.getfield 48, 3) := by decide +kernel
theorem dX9_standAt_90 : decode cX9_standAt 90 = .ok (.invokevirtual 75, 3) := by decide +kernel
theorem dX9_standAt_93 : decode cX9_standAt 93 = .ok (.iand, 1) := by decide +kernel
theorem dX9_standAt_94 : decode cX9_standAt 94 = .ok (.iastore, 1) := by decide +kernel
theorem dX9_standAt_95 : decode cX9_standAt 95 = .ok (.iinc 5 (-1), 3) := by decide +kernel
theorem dX9_standAt_98 : decode cX9_standAt 98 = .ok (.goto (-40), 3) := by decide +kernel
theorem dX9_standAt_101 : decode cX9_standAt 101 = .ok (.aload_n 0, 1) := by decide +kernel
theorem dX9_standAt_102 : decode cX9_standAt 102 = .ok (.getfield 27, 3) := by decide +kernel
theorem dX9_standAt_105 : decode cX9_standAt 105 = .ok (.iload_n 3, 1) := by decide +kernel
theorem dX9_standAt_106 : decode cX9_standAt 106 = .ok (.iaload, 1) := by decide +kernel
theorem dX9_standAt_107 : decode cX9_standAt 107 = .ok (.ireturn, 1) := by decide +kernel
theorem dX9_takeBack_0 : decode cX9_takeBack 0 = .ok (.iload_n 1, 1) := by decide +kernel
theorem dX9_takeBack_1 : decode cX9_takeBack 1 = .ok (.ifCond .lt 21, 3) := by decide +kernel
theorem dX9_takeBack_4 : decode cX9_takeBack 4 = .ok (.iload_n 1, 1) := by decide +kernel
theorem dX9_takeBack_5 : decode cX9_takeBack 5 = .ok (.aload_n 0, 1) := by decide +kernel
theorem dX9_takeBack_6 : decode cX9_takeBack 6 = .ok (.getfield 37, 3) := by decide +kernel
theorem dX9_takeBack_9 : decode cX9_takeBack 9 = .ok (.if_icmp .ge 13, 3) := by decide +kernel
theorem dX9_takeBack_22 : decode cX9_takeBack 22 = .ok (.iconst 0, 1) := by decide +kernel
theorem dX9_takeBack_23 : decode cX9_takeBack 23 = .ok (.ireturn, 1) := by decide +kernel
set_option maxRecDepth 20000 in
theorem ggX1_lacking_X1_gather : GoodIn wsX1_lacking wsX1_gather := goodIn_r _ [9, 10, 11, 12, 13, 14, 27, 28, 29, 30, 31, 32, 33, 34, 35, 36, 37, 38, 39, 40, 41, 42, 43] (by decide +kernel) (by decide +kernel)
set_option maxRecDepth 20000 in
theorem gX1_lacking_X1_gather : GoodIn wsX1_lacking (wsV RX1 30 RX1 yX1_gather wsX1_gather) := goodIn_app (goodIn_of _ (by decide +kernel)) ggX1_lacking_X1_gather
set_option maxRecDepth 20000 in
theorem ggX1_lacking_X1_hasWords : GoodIn wsX1_lacking wsX1_hasWords := goodIn_r _ [18, 10, 27, 28, 29, 30, 31, 32, 33, 34, 35, 36, 37, 38, 39, 40, 41, 42, 43] (by decide +kernel) (by decide +kernel)
set_option maxRecDepth 20000 in
theorem gX1_lacking_X1_hasWords : GoodIn wsX1_lacking (wsV RX1 34 RX1 yX1_hasWords wsX1_hasWords) := goodIn_app (goodIn_of _ (by decide +kernel)) ggX1_lacking_X1_hasWords
set_option maxRecDepth 20000 in
theorem ggX9_countRows_X9_narrow : GoodIn wsX9_countRows wsX9_narrow := goodIn_r _ [13, 2, 14, 15, 16, 17, 18, 19, 20, 21, 22, 23, 24, 25, 26, 27, 28, 29, 30, 31, 32, 12, 33, 57, 58, 59, 60, 61, 62, 63, 64, 65, 66, 41, 42, 43, 44, 45, 46, 47, 48, 49, 50, 51, 52, 53, 54, 55, 56] (by decide +kernel) (by decide +kernel)
set_option maxRecDepth 20000 in
theorem gX9_countRows_X9_narrow : GoodIn wsX9_countRows (wsV RX9 44 RX9 yX9_narrow wsX9_narrow) := goodIn_app (goodIn_of _ (by decide +kernel)) ggX9_countRows_X9_narrow
set_option maxRecDepth 20000 in
theorem ggX9_narrow_J7_fill_53178 : GoodIn wsX9_narrow wsJ7_fill_53178 := goodIn_r _ [17] (by decide +kernel) (by decide +kernel)
set_option maxRecDepth 20000 in
theorem gX9_narrow_J7_fill_53178 : GoodIn wsX9_narrow (va_wsS RX9 83 yJ7_fill_53178 wsJ7_fill_53178) := goodIn_app (goodIn_of _ (by decide +kernel)) ggX9_narrow_J7_fill_53178
set_option maxRecDepth 20000 in
theorem ggX9_narrow_X8_everyWord : GoodIn wsX9_narrow wsX8_everyWord := goodIn_r _ [12, 13, 33, 34, 35, 36, 37, 38, 39, 40, 41, 42, 43, 44, 45, 46, 47, 48] (by decide +kernel) (by decide +kernel)
set_option maxRecDepth 20000 in
theorem gX9_narrow_X8_everyWord : GoodIn wsX9_narrow (wsV RX9 79 RX8 yX8_everyWord wsX8_everyWord) := goodIn_app (goodIn_of _ (by decide +kernel)) ggX9_narrow_X8_everyWord
set_option maxRecDepth 20000 in
theorem ggX9_standAt_X9_gathered : GoodIn wsX9_standAt wsX9_gathered := goodIn_r _ [30, 31, 32, 33] (by decide +kernel) (by decide +kernel)
set_option maxRecDepth 20000 in
theorem gX9_standAt_X9_gathered : GoodIn wsX9_standAt (wsV RX9 75 RX9 yX9_gathered wsX9_gathered) := goodIn_app (goodIn_of _ (by decide +kernel)) ggX9_standAt_X9_gathered
set_option maxRecDepth 20000 in
theorem ggX9_standAt_X9_narrow : GoodIn wsX9_standAt wsX9_narrow := goodIn_r _ [6, 1, 7, 8, 9, 10, 11, 12, 13, 14, 15, 16, 17, 18, 19, 20, 21, 22, 23, 24, 25, 5, 26, 34, 35, 36, 37, 38, 39, 40, 41, 42, 43, 44, 45, 46, 47, 48, 49, 50, 51, 52, 53, 54, 55, 56, 57, 58, 59] (by decide +kernel) (by decide +kernel)
set_option maxRecDepth 20000 in
theorem gX9_standAt_X9_narrow : GoodIn wsX9_standAt (wsV RX9 44 RX9 yX9_narrow wsX9_narrow) := goodIn_app (goodIn_of _ (by decide +kernel)) ggX9_standAt_X9_narrow
set_option maxHeartbeats 4000000 in
set_option maxRecDepth 100000 in
theorem c_X1_balance (l : Launch) (D : va_G) (cB cI cJ cS cZ cO : ClassId) (sz : Nat) (o : Nat) (t : Nat) (x : Int32) (k_name : Nat) (k_worth : Nat) (k_times : Nat) (k_first : Nat) (k_second : Nat) (k_beforeLast : Nat) (k_last : Nat) (k_errandOf : Nat) (k_errandAfter : Nat) (k_sound : Nat) (k_followers : Nat) (k_leaders : Nat) (k_errands : Int32) (k_alikes : Int32) (k_law : Int32) : Met l yX1_balance wsX1_balance ({ frames := 0, cells := 0, slots := 0, locals := 0 }) (xPre D (tyL cB cI cJ cS cZ cO) [(t, .inr (8, [.ref k_name, .ref k_worth, .ref k_times, .ref k_first, .ref k_second, .ref k_beforeLast, .ref k_last, .ref k_errandOf, .ref k_errandAfter, .ref k_sound, .ref k_followers, .ref k_leaders, .int 0, .int k_errands, .int k_alikes, .int k_law]))] sz [.ref o, .ref t, .int x]) (xQi D (tyL cB cI cJ cS cZ cO) (va_A [(t, .inr (8, [.ref k_name, .ref k_worth, .ref k_times, .ref k_first, .ref k_second, .ref k_beforeLast, .ref k_last, .ref k_errandOf, .ref k_errandAfter, .ref k_sound, .ref k_followers, .ref k_leaders, .int 0, .int k_errands, .int k_alikes, .int k_law]))] sz) (fun (r : Int32) (u : va_W) => u = [(t, .inr (8, [.ref k_name, .ref k_worth, .ref k_times, .ref k_first, .ref k_second, .ref k_beforeLast, .ref k_last, .ref k_errandOf, .ref k_errandAfter, .ref k_sound, .ref k_followers, .ref k_leaders, .int 0, .int k_errands, .int k_alikes, .int k_law]))] ∧ r = 0)) 0 0 (va_A [(t, .inr (8, [.ref k_name, .ref k_worth, .ref k_times, .ref k_first, .ref k_second, .ref k_beforeLast, .ref k_last, .ref k_errandOf, .ref k_errandAfter, .ref k_sound, .ref k_followers, .ref k_leaders, .int 0, .int k_errands, .int k_alikes, .int k_law]))] sz) := by
  refine Met.ofW (cc := cX1_balance) (maxL := 5) (ret := (some .int)) (by decide) rfl ?_
  intro p e s m args below meth c s₁ B hml hv
  obtain ⟨rfl, hsz, hP, hK, hD0, hN⟩ := hv
  have hx := B.exec
  have hb := B.bytes
  have hr := B.returns
  have hts := atoms_spec (ws := wsX1_balance) B.pre
  have hown : s.vm.findClass RX1 = some m.cls := findClass_of_methodNamed B.named
  have hlocks := B.notSynchronized
  subst hsz
  have hD := hD0.self (sz := s.heap.size)
  generalize hAe : va_A [(t, .inr (8, [.ref k_name, .ref k_worth, .ref k_times, .ref k_first, .ref k_second, .ref k_beforeLast, .ref k_last, .ref k_errandOf, .ref k_errandAfter, .ref k_sound, .ref k_followers, .ref k_leaders, .int 0, .int k_errands, .int k_alikes, .int k_law]))] s.heap.size = A at hD ⊢
  have hA : ∀ q : Nat, s.heap.size ≤ q → A q := fun q h => by rw [← hAe]; exact Or.inr h
  have hS : va_S A s.heap s.heap [] := va_S.rf
  have hP : va_P D vwCl [(t, .inr (8, [.ref k_name, .ref k_worth, .ref k_times, .ref k_first, .ref k_second, .ref k_beforeLast, .ref k_last, .ref k_errandOf, .ref k_errandAfter, .ref k_sound, .ref k_followers, .ref k_leaders, .int 0, .int k_errands, .int k_alikes, .int k_law]))] s.heap := hP
  have hl := lv_entry ([.ref o, .ref t, .int x]) (n := 5) (Nat.le_of_ble_eq_true rfl)
  rw [lg_entry_eq]
  generalize (lg_sl ([.ref o, .ref t, .int x]) ++ List.replicate (5 - (lg_sl ([.ref o, .ref t, .int x])).length) Slot.unset).toArray = ls at hl ⊢
  have hl : lv_has ls 5 [(0, .ref o), (1, .ref t), (2, .int x)] := hl
  refine lv_iconst (v := 0) hx hb dX1_balance_0 (by decide) ?_
  refine lv_istore_n (lv' := [(3, .int 0), (0, .ref o), (1, .ref t), (2, .int x)]) hx hb dX1_balance_1 rfl hl (by decide) rfl (fun ls hl => ?_)
  refine lv_iconst (v := 0) hx hb dX1_balance_2 (by decide) ?_
  refine lv_istore (lv' := [(4, .int 0), (3, .int 0), (0, .ref o), (1, .ref t), (2, .int x)]) hx hb dX1_balance_3 hl (by decide) rfl (fun ls hl => ?_)
  refine lv_iload hx hb dX1_balance_5 (lv_at hl 0 rfl) ?_
  refine lv_aload_n hx hb dX1_balance_7 rfl (lv_at hl 3 rfl) ?_
  refine va_getN (D := D) (ci := 8) (v := .int 0) (C := RX8) (T := TX8) (N := 16) hx hb hts (by decide +kernel) hown hK hP 0 rfl rfl 12 (by decide) (va_Nw.use rfl (hN.1 (RX1, 15, RX8, "words", "I", RX10) (by decide +kernel))) (fun _ h9 => h9) rfl dX1_balance_8 ?_
  refine lv_icmp_ge (tgt := 58) hx hb dX1_balance_11 (by decide) (fun c_1 => ?_) (fun c_1 => absurd (by decide) c_1)
  refine lv_iload_n hx hb dX1_balance_58 rfl (lv_at hl 1 rfl) ?_
  have hP9 := hP.sub (ws' := [(t, .inr (8, [.ref k_name, .ref k_worth, .ref k_times, .ref k_first, .ref k_second, .ref k_beforeLast, .ref k_last, .ref k_errandOf, .ref k_errandAfter, .ref k_sound, .ref k_followers, .ref k_leaders, .int 0, .int k_errands, .int k_alikes, .int k_law]))]) [0] rfl
  have hD9 := hD.sub (ws' := [(t, .inr (8, [.ref k_name, .ref k_worth, .ref k_times, .ref k_first, .ref k_second, .ref k_beforeLast, .ref k_last, .ref k_errandOf, .ref k_errandAfter, .ref k_sound, .ref k_followers, .ref k_leaders, .int 0, .int k_errands, .int k_alikes, .int k_law]))]) [0] (by decide) rfl
  refine W.widen (k := 0) (n := 0) (Nat.le_of_ble_eq_true rfl) (Nat.le_of_ble_eq_true rfl) ?_
  exact W.iret (v := 0) hx hb hr (fun tz htz hWz => ⟨⟨0, [(t, .inr (8, [.ref k_name, .ref k_worth, .ref k_times, .ref k_first, .ref k_second, .ref k_beforeLast, .ref k_last, .ref k_errandOf, .ref k_errandAfter, .ref k_sound, .ref k_followers, .ref k_leaders, .int 0, .int k_errands, .int k_alikes, .int k_law]))], rfl, ⟨rfl, rfl⟩, by rw [htz]; exact hP9, va_K.moved hWz.alike hK, hD9⟩, hS.F htz⟩) hS.2.2 dX1_balance_59

set_option maxHeartbeats 4000000 in
set_option maxRecDepth 100000 in
theorem c_X1_gather (l : Launch) (D : va_G) (cB cI cJ cS cZ cO : ClassId) (sz : Nat) (o : Nat) (t : Nat) (p_group : Nat) (k_name : Nat) (k_worth : Nat) (k_times : Nat) (k_first : Nat) (k_second : Nat) (k_beforeLast : Nat) (k_last : Nat) (k_errandOf : Nat) (k_errandAfter : Nat) (k_sound : Nat) (k_followers : Nat) (k_leaders : Nat) (k_errands : Int32) (k_alikes : Int32) (k_law : Int32) (f1 : Nat → Int32) (f2 : Nat → Int32) : Met l yX1_gather wsX1_gather ({ frames := 1, cells := 0, slots := 0, locals := 40 }) (xPre D (tyL cB cI cJ cS cZ cO) [(o, .inr (1, [.ref p_group])), (t, .inr (8, [.ref k_name, .ref k_worth, .ref k_times, .ref k_first, .ref k_second, .ref k_beforeLast, .ref k_last, .ref k_errandOf, .ref k_errandAfter, .ref k_sound, .ref k_followers, .ref k_leaders, .int 0, .int k_errands, .int k_alikes, .int k_law])), (p_group, .inl (cI, 26, .inl f1)), (k_sound, .inl (cI, 26, .inl f2))] sz [.ref o, .ref t]) (xQv D (tyL cB cI cJ cS cZ cO) (va_A [(o, .inr (1, [.ref p_group])), (t, .inr (8, [.ref k_name, .ref k_worth, .ref k_times, .ref k_first, .ref k_second, .ref k_beforeLast, .ref k_last, .ref k_errandOf, .ref k_errandAfter, .ref k_sound, .ref k_followers, .ref k_leaders, .int 0, .int k_errands, .int k_alikes, .int k_law])), (p_group, .inl (cI, 26, .inl f1)), (k_sound, .inl (cI, 26, .inl f2))] sz) (fun u : va_W => u = [(o, .inr (1, [.ref p_group])), (t, .inr (8, [.ref k_name, .ref k_worth, .ref k_times, .ref k_first, .ref k_second, .ref k_beforeLast, .ref k_last, .ref k_errandOf, .ref k_errandAfter, .ref k_sound, .ref k_followers, .ref k_leaders, .int 0, .int k_errands, .int k_alikes, .int k_law]))])) 0 0 (va_A [(o, .inr (1, [.ref p_group])), (t, .inr (8, [.ref k_name, .ref k_worth, .ref k_times, .ref k_first, .ref k_second, .ref k_beforeLast, .ref k_last, .ref k_errandOf, .ref k_errandAfter, .ref k_sound, .ref k_followers, .ref k_leaders, .int 0, .int k_errands, .int k_alikes, .int k_law])), (p_group, .inl (cI, 26, .inl f1)), (k_sound, .inl (cI, 26, .inl f2))] sz) := by
  refine Met.ofW (cc := cX1_gather) (maxL := 6) (ret := none) (by decide) rfl ?_
  intro p e s m args below meth c s₁ B hml hv
  obtain ⟨rfl, hsz, hP, hK, hD0, hN⟩ := hv
  have hx := B.exec
  have hb := B.bytes
  have hr := B.returns
  have hts := atoms_spec (ws := wsX1_gather) B.pre
  have hown : s.vm.findClass RX1 = some m.cls := findClass_of_methodNamed B.named
  have hlocks := B.notSynchronized
  subst hsz
  have hD := hD0.self (sz := s.heap.size)
  generalize hAe : va_A [(o, .inr (1, [.ref p_group])), (t, .inr (8, [.ref k_name, .ref k_worth, .ref k_times, .ref k_first, .ref k_second, .ref k_beforeLast, .ref k_last, .ref k_errandOf, .ref k_errandAfter, .ref k_sound, .ref k_followers, .ref k_leaders, .int 0, .int k_errands, .int k_alikes, .int k_law])), (p_group, .inl (cI, 26, .inl f1)), (k_sound, .inl (cI, 26, .inl f2))] s.heap.size = A at hD ⊢
  have hA : ∀ q : Nat, s.heap.size ≤ q → A q := fun q h => by rw [← hAe]; exact Or.inr h
  have hS : va_S A s.heap s.heap [] := va_S.rf
  have hP : va_P D vwCl [(o, .inr (1, [.ref p_group])), (t, .inr (8, [.ref k_name, .ref k_worth, .ref k_times, .ref k_first, .ref k_second, .ref k_beforeLast, .ref k_last, .ref k_errandOf, .ref k_errandAfter, .ref k_sound, .ref k_followers, .ref k_leaders, .int 0, .int k_errands, .int k_alikes, .int k_law])), (p_group, .inl (cI, 26, .inl f1)), (k_sound, .inl (cI, 26, .inl f2))] s.heap := hP
  have hl := lv_entry ([.ref o, .ref t]) (n := 6) (Nat.le_of_ble_eq_true rfl)
  rw [lg_entry_eq]
  generalize (lg_sl ([.ref o, .ref t]) ++ List.replicate (6 - (lg_sl ([.ref o, .ref t])).length) Slot.unset).toArray = ls at hl ⊢
  have hl : lv_has ls 6 [(0, .ref o), (1, .ref t)] := hl
  refine lv_aload_n hx hb dX1_gather_0 rfl (lv_at hl 1 rfl) ?_
  refine va_getN (D := D) (ci := 8) (v := .ref k_sound) (C := RX8) (T := TX8) (N := 16) hx hb hts (by decide +kernel) hown hK hP 1 rfl rfl 9 (by decide) (va_Nw.use rfl (hN.1 (RX1, 21, RX8, "sound", "[I", RX10) (by decide +kernel))) (fun _ h9 => h9) rfl dX1_gather_1 ?_
  refine lv_iconst (v := 0) hx hb dX1_gather_4 (by decide) ?_
  refine lv_aload_n hx hb dX1_gather_5 rfl (lv_at hl 0 rfl) ?_
  refine va_get (D := D) (ci := 1) (v := .ref p_group) (C := RX1) (T := TX1) (N := 1) hx hb hts (by decide +kernel) hown hK hP 0 rfl rfl 0 (by decide) (hts (.fieldLink RX1 9 "LastLetter$Letters" "group" "[I") (by decide +kernel)) (fun _ h9 => h9) rfl dX1_gather_6 ?_
  refine lv_iconst (v := 0) hx hb dX1_gather_9 (by decide) ?_
  refine lv_bipush (v := 26) hx hb dX1_gather_10 (by decide) ?_
  refine va_copyi (ty := .int) hx hb (hml.trans hl.1.symm) hown (hts (.methodLink RX1 48 arraycopyName) (by decide +kernel)) (hts (.native arraycopyName) (by decide +kernel)) (hts (.static arraycopyName) (by decide +kernel)) (hts (.initialized "java/lang/System") (by decide +kernel)) hK hP hD hS 3 2 1 1 rfl rfl rfl rfl rfl (by decide) (by decide) (by decide) (Nat.le_of_ble_eq_true rfl) (Nat.le_of_ble_eq_true rfl) (fun _ _ => rfl) (Nat.le_of_ble_eq_true rfl) (Nat.le_of_ble_eq_true rfl) dX1_gather_12 (fun H locs hP hD hS => ?_)
  have hP : va_P D vwCl [(o, .inr (1, [.ref p_group])), (t, .inr (8, [.ref k_name, .ref k_worth, .ref k_times, .ref k_first, .ref k_second, .ref k_beforeLast, .ref k_last, .ref k_errandOf, .ref k_errandAfter, .ref k_sound, .ref k_followers, .ref k_leaders, .int 0, .int k_errands, .int k_alikes, .int k_law])), (p_group, .inl (cI, 26, .inl (va_cpy f2 f1 (Int32.toNatClampNeg 0) (Int32.toNatClampNeg 0) (Int32.toNatClampNeg 26)))), (k_sound, .inl (cI, 26, .inl f2))] H := hP
  have hD : va_D A [(o, .inr (1, [.ref p_group])), (t, .inr (8, [.ref k_name, .ref k_worth, .ref k_times, .ref k_first, .ref k_second, .ref k_beforeLast, .ref k_last, .ref k_errandOf, .ref k_errandAfter, .ref k_sound, .ref k_followers, .ref k_leaders, .int 0, .int k_errands, .int k_alikes, .int k_law])), (p_group, .inl (cI, 26, .inl (va_cpy f2 f1 (Int32.toNatClampNeg 0) (Int32.toNatClampNeg 0) (Int32.toNatClampNeg 26)))), (k_sound, .inl (cI, 26, .inl f2))] := hD
  generalize eg_1 : va_cpy f2 f1 (Int32.toNatClampNeg 0) (Int32.toNatClampNeg 0) (Int32.toNatClampNeg 26) = g_1 at hP hD
  refine lv_iconst (v := 0) hx hb dX1_gather_15 (by decide) ?_
  refine lv_istore_n (lv' := [(2, .int 0), (0, .ref o), (1, .ref t)]) hx hb dX1_gather_16 rfl hl (by decide) rfl (fun ls hl => ?_)
  refine lv_iload_n hx hb dX1_gather_17 rfl (lv_at hl 0 rfl) ?_
  refine lv_aload_n hx hb dX1_gather_18 rfl (lv_at hl 2 rfl) ?_
  refine va_getN (D := D) (ci := 8) (v := .int 0) (C := RX8) (T := TX8) (N := 16) hx hb hts (by decide +kernel) hown hK hP 1 rfl rfl 12 (by decide) (va_Nw.use rfl (hN.1 (RX1, 15, RX8, "words", "I", RX10) (by decide +kernel))) (fun _ h9 => h9) rfl dX1_gather_19 ?_
  refine lv_icmp_ge (tgt := 92) hx hb dX1_gather_22 (by decide) (fun c_2 => ?_) (fun c_2 => absurd (by decide) c_2)
  have hP9 := hP.sub (ws' := [(o, .inr (1, [.ref p_group])), (t, .inr (8, [.ref k_name, .ref k_worth, .ref k_times, .ref k_first, .ref k_second, .ref k_beforeLast, .ref k_last, .ref k_errandOf, .ref k_errandAfter, .ref k_sound, .ref k_followers, .ref k_leaders, .int 0, .int k_errands, .int k_alikes, .int k_law]))]) [0, 1] rfl
  have hD9 := hD.sub (ws' := [(o, .inr (1, [.ref p_group])), (t, .inr (8, [.ref k_name, .ref k_worth, .ref k_times, .ref k_first, .ref k_second, .ref k_beforeLast, .ref k_last, .ref k_errandOf, .ref k_errandAfter, .ref k_sound, .ref k_followers, .ref k_leaders, .int 0, .int k_errands, .int k_alikes, .int k_law]))]) [0, 1] (by decide) rfl
  refine W.widen (k := 0) (n := 0) (Nat.le_of_ble_eq_true rfl) (Nat.le_of_ble_eq_true rfl) ?_
  exact W.vret hx hb hr (fun tz htz hWz => ⟨⟨[(o, .inr (1, [.ref p_group])), (t, .inr (8, [.ref k_name, .ref k_worth, .ref k_times, .ref k_first, .ref k_second, .ref k_beforeLast, .ref k_last, .ref k_errandOf, .ref k_errandAfter, .ref k_sound, .ref k_followers, .ref k_leaders, .int 0, .int k_errands, .int k_alikes, .int k_law]))], rfl, rfl, by rw [htz]; exact hP9, va_K.moved hWz.alike hK, hD9⟩, hS.F htz⟩) hS.2.2 dX1_gather_92

set_option maxHeartbeats 4000000 in
set_option maxRecDepth 100000 in
theorem c_X1_hasWords (l : Launch) (D : va_G) (cB cI cJ cS cZ cO : ClassId) (sz : Nat) (o : Nat) (t : Nat) (x : Int32) (p_group : Nat) (k_name : Nat) (k_worth : Nat) (k_times : Nat) (k_first : Nat) (k_second : Nat) (k_beforeLast : Nat) (k_last : Nat) (k_errandOf : Nat) (k_errandAfter : Nat) (k_sound : Nat) (k_followers : Nat) (k_leaders : Nat) (k_errands : Int32) (k_alikes : Int32) (k_law : Int32) : Met l yX1_hasWords wsX1_hasWords ({ frames := 0, cells := 0, slots := 0, locals := 0 }) (xPre D (tyL cB cI cJ cS cZ cO) [(o, .inr (1, [.ref p_group])), (t, .inr (8, [.ref k_name, .ref k_worth, .ref k_times, .ref k_first, .ref k_second, .ref k_beforeLast, .ref k_last, .ref k_errandOf, .ref k_errandAfter, .ref k_sound, .ref k_followers, .ref k_leaders, .int 0, .int k_errands, .int k_alikes, .int k_law]))] sz [.ref o, .ref t, .int x]) (xQi D (tyL cB cI cJ cS cZ cO) (va_A [(o, .inr (1, [.ref p_group])), (t, .inr (8, [.ref k_name, .ref k_worth, .ref k_times, .ref k_first, .ref k_second, .ref k_beforeLast, .ref k_last, .ref k_errandOf, .ref k_errandAfter, .ref k_sound, .ref k_followers, .ref k_leaders, .int 0, .int k_errands, .int k_alikes, .int k_law]))] sz) (fun (r : Int32) (u : va_W) => u = [(o, .inr (1, [.ref p_group])), (t, .inr (8, [.ref k_name, .ref k_worth, .ref k_times, .ref k_first, .ref k_second, .ref k_beforeLast, .ref k_last, .ref k_errandOf, .ref k_errandAfter, .ref k_sound, .ref k_followers, .ref k_leaders, .int 0, .int k_errands, .int k_alikes, .int k_law]))] ∧ r = 0)) 0 0 (va_A [(o, .inr (1, [.ref p_group])), (t, .inr (8, [.ref k_name, .ref k_worth, .ref k_times, .ref k_first, .ref k_second, .ref k_beforeLast, .ref k_last, .ref k_errandOf, .ref k_errandAfter, .ref k_sound, .ref k_followers, .ref k_leaders, .int 0, .int k_errands, .int k_alikes, .int k_law]))] sz) := by
  refine Met.ofW (cc := cX1_hasWords) (maxL := 4) (ret := (some .boolean)) (by decide) rfl ?_
  intro p e s m args below meth c s₁ B hml hv
  obtain ⟨rfl, hsz, hP, hK, hD0, hN⟩ := hv
  have hx := B.exec
  have hb := B.bytes
  have hr := B.returns
  have hts := atoms_spec (ws := wsX1_hasWords) B.pre
  have hown : s.vm.findClass RX1 = some m.cls := findClass_of_methodNamed B.named
  have hlocks := B.notSynchronized
  subst hsz
  have hD := hD0.self (sz := s.heap.size)
  generalize hAe : va_A [(o, .inr (1, [.ref p_group])), (t, .inr (8, [.ref k_name, .ref k_worth, .ref k_times, .ref k_first, .ref k_second, .ref k_beforeLast, .ref k_last, .ref k_errandOf, .ref k_errandAfter, .ref k_sound, .ref k_followers, .ref k_leaders, .int 0, .int k_errands, .int k_alikes, .int k_law]))] s.heap.size = A at hD ⊢
  have hA : ∀ q : Nat, s.heap.size ≤ q → A q := fun q h => by rw [← hAe]; exact Or.inr h
  have hS : va_S A s.heap s.heap [] := va_S.rf
  have hP : va_P D vwCl [(o, .inr (1, [.ref p_group])), (t, .inr (8, [.ref k_name, .ref k_worth, .ref k_times, .ref k_first, .ref k_second, .ref k_beforeLast, .ref k_last, .ref k_errandOf, .ref k_errandAfter, .ref k_sound, .ref k_followers, .ref k_leaders, .int 0, .int k_errands, .int k_alikes, .int k_law]))] s.heap := hP
  have hl := lv_entry ([.ref o, .ref t, .int x]) (n := 4) (Nat.le_of_ble_eq_true rfl)
  rw [lg_entry_eq]
  generalize (lg_sl ([.ref o, .ref t, .int x]) ++ List.replicate (4 - (lg_sl ([.ref o, .ref t, .int x])).length) Slot.unset).toArray = ls at hl ⊢
  have hl : lv_has ls 4 [(0, .ref o), (1, .ref t), (2, .int x)] := hl
  refine lv_iconst (v := 0) hx hb dX1_hasWords_0 (by decide) ?_
  refine lv_istore_n (lv' := [(3, .int 0), (0, .ref o), (1, .ref t), (2, .int x)]) hx hb dX1_hasWords_1 rfl hl (by decide) rfl (fun ls hl => ?_)
  refine lv_iload_n hx hb dX1_hasWords_2 rfl (lv_at hl 0 rfl) ?_
  refine lv_aload_n hx hb dX1_hasWords_3 rfl (lv_at hl 2 rfl) ?_
  refine va_getN (D := D) (ci := 8) (v := .int 0) (C := RX8) (T := TX8) (N := 16) hx hb hts (by decide +kernel) hown hK hP 1 rfl rfl 12 (by decide) (va_Nw.use rfl (hN.1 (RX1, 15, RX8, "words", "I", RX10) (by decide +kernel))) (fun _ h9 => h9) rfl dX1_hasWords_4 ?_
  refine lv_icmp_ge (tgt := 33) hx hb dX1_hasWords_7 (by decide) (fun c_1 => ?_) (fun c_1 => absurd (by decide) c_1)
  refine lv_iconst (v := 0) hx hb dX1_hasWords_33 (by decide) ?_
  have hP9 := hP.sub (ws' := [(o, .inr (1, [.ref p_group])), (t, .inr (8, [.ref k_name, .ref k_worth, .ref k_times, .ref k_first, .ref k_second, .ref k_beforeLast, .ref k_last, .ref k_errandOf, .ref k_errandAfter, .ref k_sound, .ref k_followers, .ref k_leaders, .int 0, .int k_errands, .int k_alikes, .int k_law]))]) [0, 1] rfl
  have hD9 := hD.sub (ws' := [(o, .inr (1, [.ref p_group])), (t, .inr (8, [.ref k_name, .ref k_worth, .ref k_times, .ref k_first, .ref k_second, .ref k_beforeLast, .ref k_last, .ref k_errandOf, .ref k_errandAfter, .ref k_sound, .ref k_followers, .ref k_leaders, .int 0, .int k_errands, .int k_alikes, .int k_law]))]) [0, 1] (by decide) rfl
  refine W.widen (k := 0) (n := 0) (Nat.le_of_ble_eq_true rfl) (Nat.le_of_ble_eq_true rfl) ?_
  exact W.zret (v := 0) hx hb hr (by decide) (fun tz htz hWz => ⟨⟨0, [(o, .inr (1, [.ref p_group])), (t, .inr (8, [.ref k_name, .ref k_worth, .ref k_times, .ref k_first, .ref k_second, .ref k_beforeLast, .ref k_last, .ref k_errandOf, .ref k_errandAfter, .ref k_sound, .ref k_followers, .ref k_leaders, .int 0, .int k_errands, .int k_alikes, .int k_law]))], rfl, ⟨rfl, rfl⟩, by rw [htz]; exact hP9, va_K.moved hWz.alike hK, hD9⟩, hS.F htz⟩) hS.2.2 dX1_hasWords_34

set_option maxHeartbeats 4000000 in
set_option maxRecDepth 100000 in
theorem c_X1_lacking (l : Launch) (D : va_G) (cB cI cJ cS cZ cO : ClassId) (sz : Nat) (o : Nat) (t : Nat) (p_group : Nat) (k_name : Nat) (k_worth : Nat) (k_times : Nat) (k_first : Nat) (k_second : Nat) (k_beforeLast : Nat) (k_last : Nat) (k_errandOf : Nat) (k_errandAfter : Nat) (k_sound : Nat) (k_followers : Nat) (k_leaders : Nat) (k_errands : Int32) (k_alikes : Int32) (k_law : Int32) (f1 : Nat → Int32) (f2 : Nat → Int32) : Met l yX1_lacking wsX1_lacking ({ frames := 2, cells := 0, slots := 0, locals := 65 }) (xPre D (tyL cB cI cJ cS cZ cO) [(o, .inr (1, [.ref p_group])), (t, .inr (8, [.ref k_name, .ref k_worth, .ref k_times, .ref k_first, .ref k_second, .ref k_beforeLast, .ref k_last, .ref k_errandOf, .ref k_errandAfter, .ref k_sound, .ref k_followers, .ref k_leaders, .int 0, .int k_errands, .int k_alikes, .int k_law])), (p_group, .inl (cI, 26, .inl f1)), (k_sound, .inl (cI, 26, .inl f2))] sz [.ref o, .ref t]) (xQi D (tyL cB cI cJ cS cZ cO) (va_A [(o, .inr (1, [.ref p_group])), (t, .inr (8, [.ref k_name, .ref k_worth, .ref k_times, .ref k_first, .ref k_second, .ref k_beforeLast, .ref k_last, .ref k_errandOf, .ref k_errandAfter, .ref k_sound, .ref k_followers, .ref k_leaders, .int 0, .int k_errands, .int k_alikes, .int k_law])), (p_group, .inl (cI, 26, .inl f1)), (k_sound, .inl (cI, 26, .inl f2))] sz) (fun (r : Int32) (u : va_W) => u = [(o, .inr (1, [.ref p_group])), (t, .inr (8, [.ref k_name, .ref k_worth, .ref k_times, .ref k_first, .ref k_second, .ref k_beforeLast, .ref k_last, .ref k_errandOf, .ref k_errandAfter, .ref k_sound, .ref k_followers, .ref k_leaders, .int 0, .int k_errands, .int k_alikes, .int k_law]))] ∧ r = 0)) 0 0 (va_A [(o, .inr (1, [.ref p_group])), (t, .inr (8, [.ref k_name, .ref k_worth, .ref k_times, .ref k_first, .ref k_second, .ref k_beforeLast, .ref k_last, .ref k_errandOf, .ref k_errandAfter, .ref k_sound, .ref k_followers, .ref k_leaders, .int 0, .int k_errands, .int k_alikes, .int k_law])), (p_group, .inl (cI, 26, .inl f1)), (k_sound, .inl (cI, 26, .inl f2))] sz) := by
  refine Met.ofW (cc := cX1_lacking) (maxL := 4) (ret := (some .int)) (by decide) rfl ?_
  intro p e s m args below meth c s₁ B hml hv
  obtain ⟨rfl, hsz, hP, hK, hD0, hN⟩ := hv
  have hx := B.exec
  have hb := B.bytes
  have hr := B.returns
  have hts := atoms_spec (ws := wsX1_lacking) B.pre
  have hown : s.vm.findClass RX1 = some m.cls := findClass_of_methodNamed B.named
  have hlocks := B.notSynchronized
  subst hsz
  have hD := hD0.self (sz := s.heap.size)
  generalize hAe : va_A [(o, .inr (1, [.ref p_group])), (t, .inr (8, [.ref k_name, .ref k_worth, .ref k_times, .ref k_first, .ref k_second, .ref k_beforeLast, .ref k_last, .ref k_errandOf, .ref k_errandAfter, .ref k_sound, .ref k_followers, .ref k_leaders, .int 0, .int k_errands, .int k_alikes, .int k_law])), (p_group, .inl (cI, 26, .inl f1)), (k_sound, .inl (cI, 26, .inl f2))] s.heap.size = A at hD ⊢
  have hA : ∀ q : Nat, s.heap.size ≤ q → A q := fun q h => by rw [← hAe]; exact Or.inr h
  have hS : va_S A s.heap s.heap [] := va_S.rf
  have hP : va_P D vwCl [(o, .inr (1, [.ref p_group])), (t, .inr (8, [.ref k_name, .ref k_worth, .ref k_times, .ref k_first, .ref k_second, .ref k_beforeLast, .ref k_last, .ref k_errandOf, .ref k_errandAfter, .ref k_sound, .ref k_followers, .ref k_leaders, .int 0, .int k_errands, .int k_alikes, .int k_law])), (p_group, .inl (cI, 26, .inl f1)), (k_sound, .inl (cI, 26, .inl f2))] s.heap := hP
  have hl := lv_entry ([.ref o, .ref t]) (n := 4) (Nat.le_of_ble_eq_true rfl)
  rw [lg_entry_eq]
  generalize (lg_sl ([.ref o, .ref t]) ++ List.replicate (4 - (lg_sl ([.ref o, .ref t])).length) Slot.unset).toArray = ls at hl ⊢
  have hl : lv_has ls 4 [(0, .ref o), (1, .ref t)] := hl
  refine lv_aload_n hx hb dX1_lacking_0 rfl (lv_at hl 0 rfl) ?_
  refine lv_aload_n hx hb dX1_lacking_1 rfl (lv_at hl 1 rfl) ?_
  refine xCv (wr := []) (win := [(o, .inr (1, [.ref p_group])), (t, .inr (8, [.ref k_name, .ref k_worth, .ref k_times, .ref k_first, .ref k_second, .ref k_beforeLast, .ref k_last, .ref k_errandOf, .ref k_errandAfter, .ref k_sound, .ref k_followers, .ref k_leaders, .int 0, .int k_errands, .int k_alikes, .int k_law])), (p_group, .inl (cI, 26, .inl f1)), (k_sound, .inl (cI, 26, .inl f2))]) hP hD hS hA [0, 1, 2, 3] [] rfl rfl (by decide) (by decide) (va_runV (As := [.ref t]) (rest := []) ⟨hx, hb, hml, hown, hts⟩ (c_X1_gather l D cB cI cJ cS cZ cO s.heap.size o t p_group k_name k_worth k_times k_first k_second k_beforeLast k_last k_errandOf k_errandAfter k_sound k_followers k_leaders k_errands k_alikes k_law f1 f2 ) (cwV 1 hts gX1_lacking_X1_gather rfl rfl rfl (by decide +kernel) ⟨Nat.le_of_ble_eq_true rfl, Nat.le_of_ble_eq_true rfl⟩) (xPreV (win := [(o, .inr (1, [.ref p_group])), (t, .inr (8, [.ref k_name, .ref k_worth, .ref k_times, .ref k_first, .ref k_second, .ref k_beforeLast, .ref k_last, .ref k_errandOf, .ref k_errandAfter, .ref k_sound, .ref k_followers, .ref k_leaders, .int 0, .int k_errands, .int k_alikes, .int k_law])), (p_group, .inl (cI, 26, .inl f1)), (k_sound, .inl (cI, 26, .inl f2))]) hN hK hP hD [0, 1, 2, 3] (by decide) rfl 0 1 rfl rfl rfl) rfl rfl hl.1 rfl (lv_room (Nat.le_of_ble_eq_true rfl)) dX1_lacking_2 ⟨Nat.le_of_ble_eq_true rfl, Nat.le_of_ble_eq_true rfl⟩) (fun w0 H locs hw hP hD hS => ?_)
  subst hw
  have hP : va_P D vwCl [(o, .inr (1, [.ref p_group])), (t, .inr (8, [.ref k_name, .ref k_worth, .ref k_times, .ref k_first, .ref k_second, .ref k_beforeLast, .ref k_last, .ref k_errandOf, .ref k_errandAfter, .ref k_sound, .ref k_followers, .ref k_leaders, .int 0, .int k_errands, .int k_alikes, .int k_law]))] H := hP
  have hD : va_D A [(o, .inr (1, [.ref p_group])), (t, .inr (8, [.ref k_name, .ref k_worth, .ref k_times, .ref k_first, .ref k_second, .ref k_beforeLast, .ref k_last, .ref k_errandOf, .ref k_errandAfter, .ref k_sound, .ref k_followers, .ref k_leaders, .int 0, .int k_errands, .int k_alikes, .int k_law]))] := hD
  refine lv_iconst (v := 0) hx hb dX1_lacking_5 (by decide) ?_
  refine lv_istore_n (lv' := [(2, .int 0), (0, .ref o), (1, .ref t)]) hx hb dX1_lacking_6 rfl hl (by decide) rfl (fun ls hl => ?_)
  refine lv_iconst (v := 0) hx hb dX1_lacking_7 (by decide) ?_
  refine lv_istore_n (lv' := [(3, .int 0), (2, .int 0), (0, .ref o), (1, .ref t)]) hx hb dX1_lacking_8 rfl hl (by decide) rfl (fun ls hl => ?_)
  refine xb_up (fun i H locs ls => va_P D vwCl [(o, .inr (1, [.ref p_group])), (t, .inr (8, [.ref k_name, .ref k_worth, .ref k_times, .ref k_first, .ref k_second, .ref k_beforeLast, .ref k_last, .ref k_errandOf, .ref k_errandAfter, .ref k_sound, .ref k_followers, .ref k_leaders, .int 0, .int k_errands, .int k_alikes, .int k_law]))] H ∧ va_D A [(o, .inr (1, [.ref p_group])), (t, .inr (8, [.ref k_name, .ref k_worth, .ref k_times, .ref k_first, .ref k_second, .ref k_beforeLast, .ref k_last, .ref k_errandOf, .ref k_errandAfter, .ref k_sound, .ref k_followers, .ref k_leaders, .int 0, .int k_errands, .int k_alikes, .int k_law]))] ∧ va_S A s.heap H locs ∧ lv_has ls 4 [(3, .int (nI i)), (2, .int 0), (0, .ref o), (1, .ref t)]) 26 0 (Nat.zero_le _) ⟨hP, hD, hS, lv_sub hl [0, 1, 2, 3] rfl⟩ (fun i H locs ls hi hI kk => ?_) (fun H locs ls hI => ?_)
  · obtain ⟨hP, hD, hS, hl⟩ := hI
    refine lv_iload_n hx hb dX1_lacking_9 rfl (lv_at hl 0 rfl) ?_
    refine lv_bipush (v := 26) hx hb dX1_lacking_10 (by decide) ?_
    refine lv_icmp_ge (tgt := 43) hx hb dX1_lacking_12 (by decide) (fun c_1 => absurd c_1 (nI_ge (b := 26) hi (by decide))) (fun c_1 => ?_)
    refine lv_aload_n hx hb dX1_lacking_15 rfl (lv_at hl 2 rfl) ?_
    refine lv_aload_n hx hb dX1_lacking_16 rfl (lv_at hl 3 rfl) ?_
    refine lv_iload_n hx hb dX1_lacking_17 rfl (lv_at hl 0 rfl) ?_
    refine xCi (wr := []) (win := [(o, .inr (1, [.ref p_group])), (t, .inr (8, [.ref k_name, .ref k_worth, .ref k_times, .ref k_first, .ref k_second, .ref k_beforeLast, .ref k_last, .ref k_errandOf, .ref k_errandAfter, .ref k_sound, .ref k_followers, .ref k_leaders, .int 0, .int k_errands, .int k_alikes, .int k_law]))]) hP hD hS hA [0, 1] [] rfl rfl (by decide) (by decide) (va_runV (As := [.ref t, .int (nI i)]) (rest := []) ⟨hx, hb, hml, hown, hts⟩ (c_X1_hasWords l D cB cI cJ cS cZ cO H.size o t (nI i) p_group k_name k_worth k_times k_first k_second k_beforeLast k_last k_errandOf k_errandAfter k_sound k_followers k_leaders k_errands k_alikes k_law ) (cwV 2 hts gX1_lacking_X1_hasWords rfl rfl rfl (by decide +kernel) ⟨Nat.le_of_ble_eq_true rfl, Nat.le_of_ble_eq_true rfl⟩) (xPreV (win := [(o, .inr (1, [.ref p_group])), (t, .inr (8, [.ref k_name, .ref k_worth, .ref k_times, .ref k_first, .ref k_second, .ref k_beforeLast, .ref k_last, .ref k_errandOf, .ref k_errandAfter, .ref k_sound, .ref k_followers, .ref k_leaders, .int 0, .int k_errands, .int k_alikes, .int k_law]))]) hN hK hP hD [0, 1] (by decide) rfl 0 1 rfl rfl rfl) rfl rfl hl.1 rfl (lv_room (Nat.le_of_ble_eq_true rfl)) dX1_lacking_18 ⟨Nat.le_of_ble_eq_true rfl, Nat.le_of_ble_eq_true rfl⟩) (fun r0 w0 H locs hw hP hD hS => ?_)
    obtain ⟨rfl, rfl⟩ := hw
    have hP : va_P D vwCl [(o, .inr (1, [.ref p_group])), (t, .inr (8, [.ref k_name, .ref k_worth, .ref k_times, .ref k_first, .ref k_second, .ref k_beforeLast, .ref k_last, .ref k_errandOf, .ref k_errandAfter, .ref k_sound, .ref k_followers, .ref k_leaders, .int 0, .int k_errands, .int k_alikes, .int k_law]))] H := hP
    have hD : va_D A [(o, .inr (1, [.ref p_group])), (t, .inr (8, [.ref k_name, .ref k_worth, .ref k_times, .ref k_first, .ref k_second, .ref k_beforeLast, .ref k_last, .ref k_errandOf, .ref k_errandAfter, .ref k_sound, .ref k_followers, .ref k_leaders, .int 0, .int k_errands, .int k_alikes, .int k_law]))] := hD
    refine lv_if_eq (tgt := 37) hx hb dX1_lacking_21 (by decide) (fun c_2 => ?_) (fun c_2 => absurd (by decide) c_2)
    refine lv_iinc (v := nI (i + 1)) (lv' := [(3, .int (nI (i + 1))), (2, .int 0), (0, .ref o), (1, .ref t)]) hx hb dX1_lacking_37 hl (k := 0) rfl (nI_1 i) (by decide) rfl (fun ls hl => ?_)
    refine lv_goto (tgt := 9) hx hb dX1_lacking_40 (by decide) ?_
    exact kk _ _ _ ⟨hP, hD, hS, lv_sub hl [0, 1, 2, 3] rfl⟩
  · obtain ⟨hP, hD, hS, hl⟩ := hI
    refine lv_iload_n hx hb dX1_lacking_9 rfl (lv_at hl 0 rfl) ?_
    refine lv_bipush (v := 26) hx hb dX1_lacking_10 (by decide) ?_
    refine lv_icmp_ge (tgt := 43) hx hb dX1_lacking_12 (by decide) (fun c_3 => ?_) (fun c_3 => absurd (by decide) c_3)
    refine lv_iconst (v := 0) hx hb dX1_lacking_43 (by decide) ?_
    refine lv_iload_n hx hb dX1_lacking_44 rfl (lv_at hl 1 rfl) ?_
    refine lv_iconst (v := 1) hx hb dX1_lacking_45 (by decide) ?_
    refine lv_isub hx hb dX1_lacking_46 ?_
    refine xb_top (y := (-1)) (by decide) ?_
    refine va_mmax hx hb (hml.trans hl.1.symm) hown (hts (.methodLink RX1 42 Lib.Math.max.name) (by decide +kernel)) (hts (.static Lib.Math.max.name) (by decide +kernel)) (hts (.initialized "java/lang/Math") (by decide +kernel)) (hts (.code Lib.Math.max.name Lib.Math.max.code 2 (some .int)) (by decide +kernel)) (Nat.le_of_ble_eq_true rfl) (Nat.le_of_ble_eq_true rfl) (Nat.le_of_ble_eq_true rfl) (Nat.le_of_ble_eq_true rfl) dX1_lacking_47 ?_
    refine xb_top (y := 0) (by decide) ?_
    have hP9 := hP.sub (ws' := [(o, .inr (1, [.ref p_group])), (t, .inr (8, [.ref k_name, .ref k_worth, .ref k_times, .ref k_first, .ref k_second, .ref k_beforeLast, .ref k_last, .ref k_errandOf, .ref k_errandAfter, .ref k_sound, .ref k_followers, .ref k_leaders, .int 0, .int k_errands, .int k_alikes, .int k_law]))]) [0, 1] rfl
    have hD9 := hD.sub (ws' := [(o, .inr (1, [.ref p_group])), (t, .inr (8, [.ref k_name, .ref k_worth, .ref k_times, .ref k_first, .ref k_second, .ref k_beforeLast, .ref k_last, .ref k_errandOf, .ref k_errandAfter, .ref k_sound, .ref k_followers, .ref k_leaders, .int 0, .int k_errands, .int k_alikes, .int k_law]))]) [0, 1] (by decide) rfl
    refine W.widen (k := 0) (n := 0) (Nat.le_of_ble_eq_true rfl) (Nat.le_of_ble_eq_true rfl) ?_
    exact W.iret (v := 0) hx hb hr (fun tz htz hWz => ⟨⟨0, [(o, .inr (1, [.ref p_group])), (t, .inr (8, [.ref k_name, .ref k_worth, .ref k_times, .ref k_first, .ref k_second, .ref k_beforeLast, .ref k_last, .ref k_errandOf, .ref k_errandAfter, .ref k_sound, .ref k_followers, .ref k_leaders, .int 0, .int k_errands, .int k_alikes, .int k_law]))], rfl, ⟨rfl, rfl⟩, by rw [htz]; exact hP9, va_K.moved hWz.alike hK, hD9⟩, hS.F htz⟩) hS.2.2 dX1_lacking_50

set_option maxHeartbeats 4000000 in
set_option maxRecDepth 100000 in
theorem c_X9_add (l : Launch) (D : va_G) (cB cI cJ cS cZ cO : ClassId) (sz : Nat) (o : Nat) (x : Int32) (y : Int32) (z : Int32) (p_places : Nat) (p_kinds : Nat) (p_values : Nat) (p_toldAt : Nat) (p_untoldAt : Nat) (p_standing : Nat) (p_rows : Nat) (p_longer : Nat) (p_time : Int32) (f_places : Nat → Int32) (f_kinds : Nat → Int32) (f_values : Nat → Int32) (f_toldAt : Nat → Int32) (f_untoldAt : Nat → Int32) : Met l yX9_add wsX9_add ({ frames := 0, cells := 0, slots := 0, locals := 0 }) (xPre D (tyL cB cI cJ cS cZ cO) [(o, .inr (9, [.ref p_places, .ref p_kinds, .ref p_values, .ref p_toldAt, .ref p_untoldAt, .ref p_standing, .ref p_rows, .ref p_longer, .int 0, .int p_time])), (p_places, .inl (cI, 30, .inl f_places)), (p_kinds, .inl (cI, 30, .inl f_kinds)), (p_values, .inl (cI, 30, .inl f_values)), (p_toldAt, .inl (cI, 30, .inl f_toldAt)), (p_untoldAt, .inl (cI, 30, .inl f_untoldAt))] sz [.ref o, .int x, .int y, .int z]) (xQi D (tyL cB cI cJ cS cZ cO) (va_A [(o, .inr (9, [.ref p_places, .ref p_kinds, .ref p_values, .ref p_toldAt, .ref p_untoldAt, .ref p_standing, .ref p_rows, .ref p_longer, .int 0, .int p_time])), (p_places, .inl (cI, 30, .inl f_places)), (p_kinds, .inl (cI, 30, .inl f_kinds)), (p_values, .inl (cI, 30, .inl f_values)), (p_toldAt, .inl (cI, 30, .inl f_toldAt)), (p_untoldAt, .inl (cI, 30, .inl f_untoldAt))] sz) (fun (r : Int32) (u : va_W) => u = [] ∧ r = 0)) 0 0 (va_A [(o, .inr (9, [.ref p_places, .ref p_kinds, .ref p_values, .ref p_toldAt, .ref p_untoldAt, .ref p_standing, .ref p_rows, .ref p_longer, .int 0, .int p_time])), (p_places, .inl (cI, 30, .inl f_places)), (p_kinds, .inl (cI, 30, .inl f_kinds)), (p_values, .inl (cI, 30, .inl f_values)), (p_toldAt, .inl (cI, 30, .inl f_toldAt)), (p_untoldAt, .inl (cI, 30, .inl f_untoldAt))] sz) := by
  refine Met.ofW (cc := cX9_add) (maxL := 5) (ret := (some .int)) (by decide) rfl ?_
  intro p e s m args below meth c s₁ B hml hv
  obtain ⟨rfl, hsz, hP, hK, hD0, hN⟩ := hv
  have hx := B.exec
  have hb := B.bytes
  have hr := B.returns
  have hts := atoms_spec (ws := wsX9_add) B.pre
  have hown : s.vm.findClass RX9 = some m.cls := findClass_of_methodNamed B.named
  have hlocks := B.notSynchronized
  subst hsz
  have hD := hD0.self (sz := s.heap.size)
  generalize hAe : va_A [(o, .inr (9, [.ref p_places, .ref p_kinds, .ref p_values, .ref p_toldAt, .ref p_untoldAt, .ref p_standing, .ref p_rows, .ref p_longer, .int 0, .int p_time])), (p_places, .inl (cI, 30, .inl f_places)), (p_kinds, .inl (cI, 30, .inl f_kinds)), (p_values, .inl (cI, 30, .inl f_values)), (p_toldAt, .inl (cI, 30, .inl f_toldAt)), (p_untoldAt, .inl (cI, 30, .inl f_untoldAt))] s.heap.size = A at hD ⊢
  have hA : ∀ q : Nat, s.heap.size ≤ q → A q := fun q h => by rw [← hAe]; exact Or.inr h
  have hS : va_S A s.heap s.heap [] := va_S.rf
  have hP : va_P D vwCl [(o, .inr (9, [.ref p_places, .ref p_kinds, .ref p_values, .ref p_toldAt, .ref p_untoldAt, .ref p_standing, .ref p_rows, .ref p_longer, .int 0, .int p_time])), (p_places, .inl (cI, 30, .inl f_places)), (p_kinds, .inl (cI, 30, .inl f_kinds)), (p_values, .inl (cI, 30, .inl f_values)), (p_toldAt, .inl (cI, 30, .inl f_toldAt)), (p_untoldAt, .inl (cI, 30, .inl f_untoldAt))] s.heap := hP
  have hl := lv_entry ([.ref o, .int x, .int y, .int z]) (n := 5) (Nat.le_of_ble_eq_true rfl)
  rw [lg_entry_eq]
  generalize (lg_sl ([.ref o, .int x, .int y, .int z]) ++ List.replicate (5 - (lg_sl ([.ref o, .int x, .int y, .int z])).length) Slot.unset).toArray = ls at hl ⊢
  have hl : lv_has ls 5 [(0, .ref o), (1, .int x), (2, .int y), (3, .int z)] := hl
  refine lv_aload_n hx hb dX9_add_0 rfl (lv_at hl 0 rfl) ?_
  refine va_get (D := D) (ci := 9) (v := .int 0) (C := RX9) (T := TX9) (N := 10) hx hb hts (by decide +kernel) hown hK hP 0 rfl rfl 8 (by decide) (hts (.fieldLink RX9 37 "LastLetter$Wall" "sounds" "I") (by decide +kernel)) (fun _ h9 => h9) rfl dX9_add_1 ?_
  refine lv_bipush (v := 30) hx hb dX9_add_4 (by decide) ?_
  refine lv_icmp_lt (tgt := 11) hx hb dX9_add_6 (by decide) (fun c_1 => ?_) (fun c_1 => absurd (by decide) c_1)
  refine lv_aload_n hx hb dX9_add_11 rfl (lv_at hl 0 rfl) ?_
  refine va_get (D := D) (ci := 9) (v := .int 0) (C := RX9) (T := TX9) (N := 10) hx hb hts (by decide +kernel) hown hK hP 0 rfl rfl 8 (by decide) (hts (.fieldLink RX9 37 "LastLetter$Wall" "sounds" "I") (by decide +kernel)) (fun _ h9 => h9) rfl dX9_add_12 ?_
  refine lv_istore (lv' := [(4, .int 0), (0, .ref o), (1, .int x), (2, .int y), (3, .int z)]) hx hb dX9_add_15 hl (by decide) rfl (fun ls hl => ?_)
  refine lv_aload_n hx hb dX9_add_17 rfl (lv_at hl 1 rfl) ?_
  refine va_get (D := D) (ci := 9) (v := .ref p_places) (C := RX9) (T := TX9) (N := 10) hx hb hts (by decide +kernel) hown hK hP 0 rfl rfl 0 (by decide) (hts (.fieldLink RX9 9 "LastLetter$Wall" "places" "[I") (by decide +kernel)) (fun _ h9 => h9) rfl dX9_add_18 ?_
  refine lv_iload hx hb dX9_add_21 (lv_at hl 0 rfl) ?_
  refine lv_iload_n hx hb dX9_add_23 rfl (lv_at hl 2 rfl) ?_
  refine va_iast hx hb hK hP hD hS 1 1 rfl rfl (by unfold vp_in; decide) dX9_add_24 (fun H locs hP hD hS => ?_)
  have hP : va_P D vwCl [(o, .inr (9, [.ref p_places, .ref p_kinds, .ref p_values, .ref p_toldAt, .ref p_untoldAt, .ref p_standing, .ref p_rows, .ref p_longer, .int 0, .int p_time])), (p_places, .inl (cI, 30, .inl (upd f_places (Int32.toNatClampNeg 0) x))), (p_kinds, .inl (cI, 30, .inl f_kinds)), (p_values, .inl (cI, 30, .inl f_values)), (p_toldAt, .inl (cI, 30, .inl f_toldAt)), (p_untoldAt, .inl (cI, 30, .inl f_untoldAt))] H := hP
  have hD : va_D A [(o, .inr (9, [.ref p_places, .ref p_kinds, .ref p_values, .ref p_toldAt, .ref p_untoldAt, .ref p_standing, .ref p_rows, .ref p_longer, .int 0, .int p_time])), (p_places, .inl (cI, 30, .inl (upd f_places (Int32.toNatClampNeg 0) x))), (p_kinds, .inl (cI, 30, .inl f_kinds)), (p_values, .inl (cI, 30, .inl f_values)), (p_toldAt, .inl (cI, 30, .inl f_toldAt)), (p_untoldAt, .inl (cI, 30, .inl f_untoldAt))] := hD
  generalize eg_2 : upd f_places (Int32.toNatClampNeg 0) x = g_2 at hP hD
  refine lv_aload_n hx hb dX9_add_25 rfl (lv_at hl 1 rfl) ?_
  refine va_get (D := D) (ci := 9) (v := .ref p_kinds) (C := RX9) (T := TX9) (N := 10) hx hb hts (by decide +kernel) hown hK hP 0 rfl rfl 1 (by decide) (hts (.fieldLink RX9 15 "LastLetter$Wall" "kinds" "[I") (by decide +kernel)) (fun _ h9 => h9) rfl dX9_add_26 ?_
  refine lv_iload hx hb dX9_add_29 (lv_at hl 0 rfl) ?_
  refine lv_iload_n hx hb dX9_add_31 rfl (lv_at hl 3 rfl) ?_
  refine va_iast hx hb hK hP hD hS 2 1 rfl rfl (by unfold vp_in; decide) dX9_add_32 (fun H locs hP hD hS => ?_)
  have hP : va_P D vwCl [(o, .inr (9, [.ref p_places, .ref p_kinds, .ref p_values, .ref p_toldAt, .ref p_untoldAt, .ref p_standing, .ref p_rows, .ref p_longer, .int 0, .int p_time])), (p_places, .inl (cI, 30, .inl g_2)), (p_kinds, .inl (cI, 30, .inl (upd f_kinds (Int32.toNatClampNeg 0) y))), (p_values, .inl (cI, 30, .inl f_values)), (p_toldAt, .inl (cI, 30, .inl f_toldAt)), (p_untoldAt, .inl (cI, 30, .inl f_untoldAt))] H := hP
  have hD : va_D A [(o, .inr (9, [.ref p_places, .ref p_kinds, .ref p_values, .ref p_toldAt, .ref p_untoldAt, .ref p_standing, .ref p_rows, .ref p_longer, .int 0, .int p_time])), (p_places, .inl (cI, 30, .inl g_2)), (p_kinds, .inl (cI, 30, .inl (upd f_kinds (Int32.toNatClampNeg 0) y))), (p_values, .inl (cI, 30, .inl f_values)), (p_toldAt, .inl (cI, 30, .inl f_toldAt)), (p_untoldAt, .inl (cI, 30, .inl f_untoldAt))] := hD
  generalize eg_3 : upd f_kinds (Int32.toNatClampNeg 0) y = g_3 at hP hD
  refine lv_aload_n hx hb dX9_add_33 rfl (lv_at hl 1 rfl) ?_
  refine va_get (D := D) (ci := 9) (v := .ref p_values) (C := RX9) (T := TX9) (N := 10) hx hb hts (by decide +kernel) hown hK hP 0 rfl rfl 2 (by decide) (hts (.fieldLink RX9 18 "LastLetter$Wall" "values" "[I") (by decide +kernel)) (fun _ h9 => h9) rfl dX9_add_34 ?_
  refine lv_iload hx hb dX9_add_37 (lv_at hl 0 rfl) ?_
  refine lv_iload_n hx hb dX9_add_39 rfl (lv_at hl 4 rfl) ?_
  refine va_iast hx hb hK hP hD hS 3 1 rfl rfl (by unfold vp_in; decide) dX9_add_40 (fun H locs hP hD hS => ?_)
  have hP : va_P D vwCl [(o, .inr (9, [.ref p_places, .ref p_kinds, .ref p_values, .ref p_toldAt, .ref p_untoldAt, .ref p_standing, .ref p_rows, .ref p_longer, .int 0, .int p_time])), (p_places, .inl (cI, 30, .inl g_2)), (p_kinds, .inl (cI, 30, .inl g_3)), (p_values, .inl (cI, 30, .inl (upd f_values (Int32.toNatClampNeg 0) z))), (p_toldAt, .inl (cI, 30, .inl f_toldAt)), (p_untoldAt, .inl (cI, 30, .inl f_untoldAt))] H := hP
  have hD : va_D A [(o, .inr (9, [.ref p_places, .ref p_kinds, .ref p_values, .ref p_toldAt, .ref p_untoldAt, .ref p_standing, .ref p_rows, .ref p_longer, .int 0, .int p_time])), (p_places, .inl (cI, 30, .inl g_2)), (p_kinds, .inl (cI, 30, .inl g_3)), (p_values, .inl (cI, 30, .inl (upd f_values (Int32.toNatClampNeg 0) z))), (p_toldAt, .inl (cI, 30, .inl f_toldAt)), (p_untoldAt, .inl (cI, 30, .inl f_untoldAt))] := hD
  generalize eg_4 : upd f_values (Int32.toNatClampNeg 0) z = g_4 at hP hD
  refine lv_aload_n hx hb dX9_add_41 rfl (lv_at hl 1 rfl) ?_
  refine va_get (D := D) (ci := 9) (v := .ref p_toldAt) (C := RX9) (T := TX9) (N := 10) hx hb hts (by decide +kernel) hown hK hP 0 rfl rfl 3 (by decide) (hts (.fieldLink RX9 21 "LastLetter$Wall" "toldAt" "[I") (by decide +kernel)) (fun _ h9 => h9) rfl dX9_add_42 ?_
  refine lv_iload hx hb dX9_add_45 (lv_at hl 0 rfl) ?_
  refine lv_aload_n hx hb dX9_add_47 rfl (lv_at hl 1 rfl) ?_
  refine va_get (D := D) (ci := 9) (v := .int p_time) (C := RX9) (T := TX9) (N := 10) hx hb hts (by decide +kernel) hown hK hP 0 rfl rfl 9 (by decide) (hts (.fieldLink RX9 41 "LastLetter$Wall" "time" "I") (by decide +kernel)) (fun _ h9 => h9) rfl dX9_add_48 ?_
  refine va_iast hx hb hK hP hD hS 4 1 rfl rfl (by unfold vp_in; decide) dX9_add_51 (fun H locs hP hD hS => ?_)
  have hP : va_P D vwCl [(o, .inr (9, [.ref p_places, .ref p_kinds, .ref p_values, .ref p_toldAt, .ref p_untoldAt, .ref p_standing, .ref p_rows, .ref p_longer, .int 0, .int p_time])), (p_places, .inl (cI, 30, .inl g_2)), (p_kinds, .inl (cI, 30, .inl g_3)), (p_values, .inl (cI, 30, .inl g_4)), (p_toldAt, .inl (cI, 30, .inl (upd f_toldAt (Int32.toNatClampNeg 0) p_time))), (p_untoldAt, .inl (cI, 30, .inl f_untoldAt))] H := hP
  have hD : va_D A [(o, .inr (9, [.ref p_places, .ref p_kinds, .ref p_values, .ref p_toldAt, .ref p_untoldAt, .ref p_standing, .ref p_rows, .ref p_longer, .int 0, .int p_time])), (p_places, .inl (cI, 30, .inl g_2)), (p_kinds, .inl (cI, 30, .inl g_3)), (p_values, .inl (cI, 30, .inl g_4)), (p_toldAt, .inl (cI, 30, .inl (upd f_toldAt (Int32.toNatClampNeg 0) p_time))), (p_untoldAt, .inl (cI, 30, .inl f_untoldAt))] := hD
  generalize eg_5 : upd f_toldAt (Int32.toNatClampNeg 0) p_time = g_5 at hP hD
  refine lv_aload_n hx hb dX9_add_52 rfl (lv_at hl 1 rfl) ?_
  refine va_get (D := D) (ci := 9) (v := .ref p_untoldAt) (C := RX9) (T := TX9) (N := 10) hx hb hts (by decide +kernel) hown hK hP 0 rfl rfl 4 (by decide) (hts (.fieldLink RX9 24 "LastLetter$Wall" "untoldAt" "[I") (by decide +kernel)) (fun _ h9 => h9) rfl dX9_add_53 ?_
  refine lv_iload hx hb dX9_add_56 (lv_at hl 0 rfl) ?_
  refine lv_iconst (v := (-1)) hx hb dX9_add_58 (by decide) ?_
  refine va_iast hx hb hK hP hD hS 5 1 rfl rfl (by unfold vp_in; decide) dX9_add_59 (fun H locs hP hD hS => ?_)
  have hP : va_P D vwCl [(o, .inr (9, [.ref p_places, .ref p_kinds, .ref p_values, .ref p_toldAt, .ref p_untoldAt, .ref p_standing, .ref p_rows, .ref p_longer, .int 0, .int p_time])), (p_places, .inl (cI, 30, .inl g_2)), (p_kinds, .inl (cI, 30, .inl g_3)), (p_values, .inl (cI, 30, .inl g_4)), (p_toldAt, .inl (cI, 30, .inl g_5)), (p_untoldAt, .inl (cI, 30, .inl (upd f_untoldAt (Int32.toNatClampNeg 0) (-1))))] H := hP
  have hD : va_D A [(o, .inr (9, [.ref p_places, .ref p_kinds, .ref p_values, .ref p_toldAt, .ref p_untoldAt, .ref p_standing, .ref p_rows, .ref p_longer, .int 0, .int p_time])), (p_places, .inl (cI, 30, .inl g_2)), (p_kinds, .inl (cI, 30, .inl g_3)), (p_values, .inl (cI, 30, .inl g_4)), (p_toldAt, .inl (cI, 30, .inl g_5)), (p_untoldAt, .inl (cI, 30, .inl (upd f_untoldAt (Int32.toNatClampNeg 0) (-1))))] := hD
  generalize eg_6 : upd f_untoldAt (Int32.toNatClampNeg 0) (-1) = g_6 at hP hD
  refine lv_aload_n hx hb dX9_add_60 rfl (lv_at hl 1 rfl) ?_
  refine lv_dup hx hb dX9_add_61 rfl ?_
  refine va_get (D := D) (ci := 9) (v := .int 0) (C := RX9) (T := TX9) (N := 10) hx hb hts (by decide +kernel) hown hK hP 0 rfl rfl 8 (by decide) (hts (.fieldLink RX9 37 "LastLetter$Wall" "sounds" "I") (by decide +kernel)) (fun _ h9 => h9) rfl dX9_add_62 ?_
  refine lv_iconst (v := 1) hx hb dX9_add_65 (by decide) ?_
  refine lv_iadd hx hb dX9_add_66 ?_
  refine xb_top (y := 1) (by decide) ?_
  refine va_put (D := D) (ci := 9) (v := .int 1) (ty := .int) (C := RX9) (T := TX9) (N := 10) hx hb hts (by decide +kernel) tyX9 tyX9_ok nmX9 hown hK hP hD hS 0 rfl rfl 8 (by decide) (hts (.fieldLink RX9 37 "LastLetter$Wall" "sounds" "I") (by decide +kernel)) (fun _ h9 => h9) rfl (by decide +kernel) rfl rfl (Nat.le_of_ble_eq_true rfl) dX9_add_67 (fun H locs hP hD hS => ?_)
  have hP : va_P D vwCl [(o, .inr (9, [.ref p_places, .ref p_kinds, .ref p_values, .ref p_toldAt, .ref p_untoldAt, .ref p_standing, .ref p_rows, .ref p_longer, .int 1, .int p_time])), (p_places, .inl (cI, 30, .inl g_2)), (p_kinds, .inl (cI, 30, .inl g_3)), (p_values, .inl (cI, 30, .inl g_4)), (p_toldAt, .inl (cI, 30, .inl g_5)), (p_untoldAt, .inl (cI, 30, .inl g_6))] H := hP
  have hD : va_D A [(o, .inr (9, [.ref p_places, .ref p_kinds, .ref p_values, .ref p_toldAt, .ref p_untoldAt, .ref p_standing, .ref p_rows, .ref p_longer, .int 1, .int p_time])), (p_places, .inl (cI, 30, .inl g_2)), (p_kinds, .inl (cI, 30, .inl g_3)), (p_values, .inl (cI, 30, .inl g_4)), (p_toldAt, .inl (cI, 30, .inl g_5)), (p_untoldAt, .inl (cI, 30, .inl g_6))] := hD
  refine lv_iload hx hb dX9_add_70 (lv_at hl 0 rfl) ?_
  have hP9 := hP.sub (ws' := []) [] rfl
  have hD9 := hD.sub (ws' := []) [] (by decide) rfl
  refine W.widen (k := 0) (n := 0) (Nat.le_of_ble_eq_true rfl) (Nat.le_of_ble_eq_true rfl) ?_
  exact W.iret (v := 0) hx hb hr (fun tz htz hWz => ⟨⟨0, [], rfl, ⟨rfl, rfl⟩, by rw [htz]; exact hP9, va_K.moved hWz.alike hK, hD9⟩, hS.F htz⟩) hS.2.2 dX9_add_72

set_option maxHeartbeats 4000000 in
set_option maxRecDepth 100000 in
theorem c_X9_takeBack (l : Launch) (D : va_G) (cB cI cJ cS cZ cO : ClassId) (sz : Nat) (o : Nat) (x : Int32) (p_places : Nat) (p_kinds : Nat) (p_values : Nat) (p_toldAt : Nat) (p_untoldAt : Nat) (p_standing : Nat) (p_rows : Nat) (p_longer : Nat) (p_time : Int32) : Met l yX9_takeBack wsX9_takeBack ({ frames := 0, cells := 0, slots := 0, locals := 0 }) (xPre D (tyL cB cI cJ cS cZ cO) [(o, .inr (9, [.ref p_places, .ref p_kinds, .ref p_values, .ref p_toldAt, .ref p_untoldAt, .ref p_standing, .ref p_rows, .ref p_longer, .int 0, .int p_time]))] sz [.ref o, .int x]) (xQi D (tyL cB cI cJ cS cZ cO) (va_A [(o, .inr (9, [.ref p_places, .ref p_kinds, .ref p_values, .ref p_toldAt, .ref p_untoldAt, .ref p_standing, .ref p_rows, .ref p_longer, .int 0, .int p_time]))] sz) (fun (r : Int32) (u : va_W) => u = [(o, .inr (9, [.ref p_places, .ref p_kinds, .ref p_values, .ref p_toldAt, .ref p_untoldAt, .ref p_standing, .ref p_rows, .ref p_longer, .int 0, .int p_time]))] ∧ r = 0)) 0 0 (va_A [(o, .inr (9, [.ref p_places, .ref p_kinds, .ref p_values, .ref p_toldAt, .ref p_untoldAt, .ref p_standing, .ref p_rows, .ref p_longer, .int 0, .int p_time]))] sz) := by
  refine Met.ofW (cc := cX9_takeBack) (maxL := 2) (ret := (some .boolean)) (by decide) rfl ?_
  intro p e s m args below meth c s₁ B hml hv
  obtain ⟨rfl, hsz, hP, hK, hD0, hN⟩ := hv
  have hx := B.exec
  have hb := B.bytes
  have hr := B.returns
  have hts := atoms_spec (ws := wsX9_takeBack) B.pre
  have hown : s.vm.findClass RX9 = some m.cls := findClass_of_methodNamed B.named
  have hlocks := B.notSynchronized
  subst hsz
  have hD := hD0.self (sz := s.heap.size)
  generalize hAe : va_A [(o, .inr (9, [.ref p_places, .ref p_kinds, .ref p_values, .ref p_toldAt, .ref p_untoldAt, .ref p_standing, .ref p_rows, .ref p_longer, .int 0, .int p_time]))] s.heap.size = A at hD ⊢
  have hA : ∀ q : Nat, s.heap.size ≤ q → A q := fun q h => by rw [← hAe]; exact Or.inr h
  have hS : va_S A s.heap s.heap [] := va_S.rf
  have hP : va_P D vwCl [(o, .inr (9, [.ref p_places, .ref p_kinds, .ref p_values, .ref p_toldAt, .ref p_untoldAt, .ref p_standing, .ref p_rows, .ref p_longer, .int 0, .int p_time]))] s.heap := hP
  have hl := lv_entry ([.ref o, .int x]) (n := 2) (Nat.le_of_ble_eq_true rfl)
  rw [lg_entry_eq]
  generalize (lg_sl ([.ref o, .int x]) ++ List.replicate (2 - (lg_sl ([.ref o, .int x])).length) Slot.unset).toArray = ls at hl ⊢
  have hl : lv_has ls 2 [(0, .ref o), (1, .int x)] := hl
  refine lv_iload_n hx hb dX9_takeBack_0 rfl (lv_at hl 1 rfl) ?_
  refine lv_if_lt (tgt := 22) hx hb dX9_takeBack_1 (by decide) (fun c_1 => ?_) (fun c_1 => ?_)
  · refine lv_iconst (v := 0) hx hb dX9_takeBack_22 (by decide) ?_
    have hP9 := hP.sub (ws' := [(o, .inr (9, [.ref p_places, .ref p_kinds, .ref p_values, .ref p_toldAt, .ref p_untoldAt, .ref p_standing, .ref p_rows, .ref p_longer, .int 0, .int p_time]))]) [0] rfl
    have hD9 := hD.sub (ws' := [(o, .inr (9, [.ref p_places, .ref p_kinds, .ref p_values, .ref p_toldAt, .ref p_untoldAt, .ref p_standing, .ref p_rows, .ref p_longer, .int 0, .int p_time]))]) [0] (by decide) rfl
    refine W.widen (k := 0) (n := 0) (Nat.le_of_ble_eq_true rfl) (Nat.le_of_ble_eq_true rfl) ?_
    exact W.zret (v := 0) hx hb hr (by decide) (fun tz htz hWz => ⟨⟨0, [(o, .inr (9, [.ref p_places, .ref p_kinds, .ref p_values, .ref p_toldAt, .ref p_untoldAt, .ref p_standing, .ref p_rows, .ref p_longer, .int 0, .int p_time]))], rfl, ⟨rfl, rfl⟩, by rw [htz]; exact hP9, va_K.moved hWz.alike hK, hD9⟩, hS.F htz⟩) hS.2.2 dX9_takeBack_23
  · refine lv_iload_n hx hb dX9_takeBack_4 rfl (lv_at hl 1 rfl) ?_
    refine lv_aload_n hx hb dX9_takeBack_5 rfl (lv_at hl 0 rfl) ?_
    refine va_get (D := D) (ci := 9) (v := .int 0) (C := RX9) (T := TX9) (N := 10) hx hb hts (by decide +kernel) hown hK hP 0 rfl rfl 8 (by decide) (hts (.fieldLink RX9 37 "LastLetter$Wall" "sounds" "I") (by decide +kernel)) (fun _ h9 => h9) rfl dX9_takeBack_6 ?_
    refine lv_icmp_ge (tgt := 22) hx hb dX9_takeBack_9 (by decide) (fun c_2 => ?_) (fun c_2 => absurd (Int32.not_lt.mp c_1) c_2)
    refine lv_iconst (v := 0) hx hb dX9_takeBack_22 (by decide) ?_
    have hP9 := hP.sub (ws' := [(o, .inr (9, [.ref p_places, .ref p_kinds, .ref p_values, .ref p_toldAt, .ref p_untoldAt, .ref p_standing, .ref p_rows, .ref p_longer, .int 0, .int p_time]))]) [0] rfl
    have hD9 := hD.sub (ws' := [(o, .inr (9, [.ref p_places, .ref p_kinds, .ref p_values, .ref p_toldAt, .ref p_untoldAt, .ref p_standing, .ref p_rows, .ref p_longer, .int 0, .int p_time]))]) [0] (by decide) rfl
    refine W.widen (k := 0) (n := 0) (Nat.le_of_ble_eq_true rfl) (Nat.le_of_ble_eq_true rfl) ?_
    exact W.zret (v := 0) hx hb hr (by decide) (fun tz htz hWz => ⟨⟨0, [(o, .inr (9, [.ref p_places, .ref p_kinds, .ref p_values, .ref p_toldAt, .ref p_untoldAt, .ref p_standing, .ref p_rows, .ref p_longer, .int 0, .int p_time]))], rfl, ⟨rfl, rfl⟩, by rw [htz]; exact hP9, va_K.moved hWz.alike hK, hD9⟩, hS.F htz⟩) hS.2.2 dX9_takeBack_23

set_option maxHeartbeats 4000000 in
set_option maxRecDepth 100000 in
theorem c_X9_narrow (l : Launch) (D : va_G) (cB cI cJ cS cZ cO : ClassId) (sz : Nat) (o : Nat) (t : Nat) (x : Int32) (p_places : Nat) (p_kinds : Nat) (p_values : Nat) (p_toldAt : Nat) (p_untoldAt : Nat) (p_standing : Nat) (p_rows : Nat) (p_longer : Nat) (p_time : Int32) (k_name : Nat) (k_worth : Nat) (k_times : Nat) (k_first : Nat) (k_second : Nat) (k_beforeLast : Nat) (k_last : Nat) (k_errandOf : Nat) (k_errandAfter : Nat) (k_sound : Nat) (k_followers : Nat) (k_leaders : Nat) (k_errands : Int32) (k_alikes : Int32) (k_law : Int32) (f : Nat → Int32) : Met l yX9_narrow wsX9_narrow ({ frames := 1, cells := 0, slots := 0, locals := 23 }) (xPre D (tyL cB cI cJ cS cZ cO) [(o, .inr (9, [.ref p_places, .ref p_kinds, .ref p_values, .ref p_toldAt, .ref p_untoldAt, .ref p_standing, .ref p_rows, .ref p_longer, .int 0, .int p_time])), (t, .inr (8, [.ref k_name, .ref k_worth, .ref k_times, .ref k_first, .ref k_second, .ref k_beforeLast, .ref k_last, .ref k_errandOf, .ref k_errandAfter, .ref k_sound, .ref k_followers, .ref k_leaders, .int 0, .int k_errands, .int k_alikes, .int k_law])), (p_standing, .inl (cI, 12, .inl f))] sz [.ref o, .ref t, .int x]) (xQv D (tyL cB cI cJ cS cZ cO) (va_A [(o, .inr (9, [.ref p_places, .ref p_kinds, .ref p_values, .ref p_toldAt, .ref p_untoldAt, .ref p_standing, .ref p_rows, .ref p_longer, .int 0, .int p_time])), (t, .inr (8, [.ref k_name, .ref k_worth, .ref k_times, .ref k_first, .ref k_second, .ref k_beforeLast, .ref k_last, .ref k_errandOf, .ref k_errandAfter, .ref k_sound, .ref k_followers, .ref k_leaders, .int 0, .int k_errands, .int k_alikes, .int k_law])), (p_standing, .inl (cI, 12, .inl f))] sz) (fun u : va_W => ∃ g : Nat → Int32, u = [(o, .inr (9, [.ref p_places, .ref p_kinds, .ref p_values, .ref p_toldAt, .ref p_untoldAt, .ref p_standing, .ref p_rows, .ref p_longer, .int 0, .int p_time])), (t, .inr (8, [.ref k_name, .ref k_worth, .ref k_times, .ref k_first, .ref k_second, .ref k_beforeLast, .ref k_last, .ref k_errandOf, .ref k_errandAfter, .ref k_sound, .ref k_followers, .ref k_leaders, .int 0, .int k_errands, .int k_alikes, .int k_law])), (p_standing, .inl (cI, 12, .inl g))] ∧ (∀ j : Nat, j < 12 → g j = 0))) 0 0 (va_A [(o, .inr (9, [.ref p_places, .ref p_kinds, .ref p_values, .ref p_toldAt, .ref p_untoldAt, .ref p_standing, .ref p_rows, .ref p_longer, .int 0, .int p_time])), (t, .inr (8, [.ref k_name, .ref k_worth, .ref k_times, .ref k_first, .ref k_second, .ref k_beforeLast, .ref k_last, .ref k_errandOf, .ref k_errandAfter, .ref k_sound, .ref k_followers, .ref k_leaders, .int 0, .int k_errands, .int k_alikes, .int k_law])), (p_standing, .inl (cI, 12, .inl f))] sz) := by
  refine Met.ofW (cc := cX9_narrow) (maxL := 5) (ret := none) (by decide) rfl ?_
  intro p e s m args below meth c s₁ B hml hv
  obtain ⟨rfl, hsz, hP, hK, hD0, hN⟩ := hv
  have hx := B.exec
  have hb := B.bytes
  have hr := B.returns
  have hts := atoms_spec (ws := wsX9_narrow) B.pre
  have hown : s.vm.findClass RX9 = some m.cls := findClass_of_methodNamed B.named
  have hlocks := B.notSynchronized
  subst hsz
  have hD := hD0.self (sz := s.heap.size)
  generalize hAe : va_A [(o, .inr (9, [.ref p_places, .ref p_kinds, .ref p_values, .ref p_toldAt, .ref p_untoldAt, .ref p_standing, .ref p_rows, .ref p_longer, .int 0, .int p_time])), (t, .inr (8, [.ref k_name, .ref k_worth, .ref k_times, .ref k_first, .ref k_second, .ref k_beforeLast, .ref k_last, .ref k_errandOf, .ref k_errandAfter, .ref k_sound, .ref k_followers, .ref k_leaders, .int 0, .int k_errands, .int k_alikes, .int k_law])), (p_standing, .inl (cI, 12, .inl f))] s.heap.size = A at hD ⊢
  have hA : ∀ q : Nat, s.heap.size ≤ q → A q := fun q h => by rw [← hAe]; exact Or.inr h
  have hS : va_S A s.heap s.heap [] := va_S.rf
  have hP : va_P D vwCl [(o, .inr (9, [.ref p_places, .ref p_kinds, .ref p_values, .ref p_toldAt, .ref p_untoldAt, .ref p_standing, .ref p_rows, .ref p_longer, .int 0, .int p_time])), (t, .inr (8, [.ref k_name, .ref k_worth, .ref k_times, .ref k_first, .ref k_second, .ref k_beforeLast, .ref k_last, .ref k_errandOf, .ref k_errandAfter, .ref k_sound, .ref k_followers, .ref k_leaders, .int 0, .int k_errands, .int k_alikes, .int k_law])), (p_standing, .inl (cI, 12, .inl f))] s.heap := hP
  have hl := lv_entry ([.ref o, .ref t, .int x]) (n := 5) (Nat.le_of_ble_eq_true rfl)
  rw [lg_entry_eq]
  generalize (lg_sl ([.ref o, .ref t, .int x]) ++ List.replicate (5 - (lg_sl ([.ref o, .ref t, .int x])).length) Slot.unset).toArray = ls at hl ⊢
  have hl : lv_has ls 5 [(0, .ref o), (1, .ref t), (2, .int x)] := hl
  refine lv_aload_n hx hb dX9_narrow_0 rfl (lv_at hl 0 rfl) ?_
  refine va_get (D := D) (ci := 9) (v := .ref p_standing) (C := RX9) (T := TX9) (N := 10) hx hb hts (by decide +kernel) hown hK hP 0 rfl rfl 5 (by decide) (hts (.fieldLink RX9 27 "LastLetter$Wall" "standing" "[I") (by decide +kernel)) (fun _ h9 => h9) rfl dX9_narrow_1 ?_
  refine lv_aload_n hx hb dX9_narrow_4 rfl (lv_at hl 1 rfl) ?_
  refine xCi (wr := [(o, .inr (9, [.ref p_places, .ref p_kinds, .ref p_values, .ref p_toldAt, .ref p_untoldAt, .ref p_standing, .ref p_rows, .ref p_longer, .int 0, .int p_time])), (p_standing, .inl (cI, 12, .inl f))]) (win := [(t, .inr (8, [.ref k_name, .ref k_worth, .ref k_times, .ref k_first, .ref k_second, .ref k_beforeLast, .ref k_last, .ref k_errandOf, .ref k_errandAfter, .ref k_sound, .ref k_followers, .ref k_leaders, .int 0, .int k_errands, .int k_alikes, .int k_law]))]) hP hD hS hA [1] [0, 2] rfl rfl (by decide) (by decide) (va_runV (As := []) (rest := [.ref p_standing]) ⟨hx, hb, hml, hown, hts⟩ (c_X8_everyWord l D cB cI cJ cS cZ cO s.heap.size t k_name k_worth k_times k_first k_second k_beforeLast k_last k_errandOf k_errandAfter k_sound k_followers k_leaders k_errands k_alikes k_law ) (cwV 0 hts gX9_narrow_X8_everyWord rfl rfl rfl (by decide +kernel) ⟨Nat.le_of_ble_eq_true rfl, Nat.le_of_ble_eq_true rfl⟩) (xPreV (win := [(t, .inr (8, [.ref k_name, .ref k_worth, .ref k_times, .ref k_first, .ref k_second, .ref k_beforeLast, .ref k_last, .ref k_errandOf, .ref k_errandAfter, .ref k_sound, .ref k_followers, .ref k_leaders, .int 0, .int k_errands, .int k_alikes, .int k_law]))]) hN hK hP hD [1] (by decide) rfl 1 8 rfl rfl rfl) rfl rfl hl.1 rfl (lv_room (Nat.le_of_ble_eq_true rfl)) dX9_narrow_5 ⟨Nat.le_of_ble_eq_true rfl, Nat.le_of_ble_eq_true rfl⟩) (fun r0 w0 H locs hw hP hD hS => ?_)
  obtain ⟨rfl, rfl⟩ := hw
  have hP : va_P D vwCl [(o, .inr (9, [.ref p_places, .ref p_kinds, .ref p_values, .ref p_toldAt, .ref p_untoldAt, .ref p_standing, .ref p_rows, .ref p_longer, .int 0, .int p_time])), (p_standing, .inl (cI, 12, .inl f)), (t, .inr (8, [.ref k_name, .ref k_worth, .ref k_times, .ref k_first, .ref k_second, .ref k_beforeLast, .ref k_last, .ref k_errandOf, .ref k_errandAfter, .ref k_sound, .ref k_followers, .ref k_leaders, .int 0, .int k_errands, .int k_alikes, .int k_law]))] H := hP
  have hD : va_D A [(o, .inr (9, [.ref p_places, .ref p_kinds, .ref p_values, .ref p_toldAt, .ref p_untoldAt, .ref p_standing, .ref p_rows, .ref p_longer, .int 0, .int p_time])), (p_standing, .inl (cI, 12, .inl f)), (t, .inr (8, [.ref k_name, .ref k_worth, .ref k_times, .ref k_first, .ref k_second, .ref k_beforeLast, .ref k_last, .ref k_errandOf, .ref k_errandAfter, .ref k_sound, .ref k_followers, .ref k_leaders, .int 0, .int k_errands, .int k_alikes, .int k_law]))] := hD
  refine xCv (wr := [(o, .inr (9, [.ref p_places, .ref p_kinds, .ref p_values, .ref p_toldAt, .ref p_untoldAt, .ref p_standing, .ref p_rows, .ref p_longer, .int 0, .int p_time])), (t, .inr (8, [.ref k_name, .ref k_worth, .ref k_times, .ref k_first, .ref k_second, .ref k_beforeLast, .ref k_last, .ref k_errandOf, .ref k_errandAfter, .ref k_sound, .ref k_followers, .ref k_leaders, .int 0, .int k_errands, .int k_alikes, .int k_law]))]) (win := [(p_standing, .inl (cI, 12, .inl f))]) hP hD hS hA [1] [0, 2] rfl rfl (by decide) (by decide) (va_runS (As := [.ref p_standing, .int 0]) (rest := []) ⟨hx, hb, hml, hown, hts⟩ (c_J7_fill_53178 l D cB cI cJ cS cZ cO H.size p_standing 0 12 f (by decide)) (va_cwS 2 hts gX9_narrow_J7_fill_53178 rfl rfl rfl (by decide +kernel) ⟨Nat.le_of_ble_eq_true rfl, Nat.le_of_ble_eq_true rfl⟩) (xPreS (win := [(p_standing, .inl (cI, 12, .inl f))]) hN hK hP hD [1] (by decide) rfl) rfl rfl hl.1 rfl (lv_room (Nat.le_of_ble_eq_true rfl)) dX9_narrow_8 ⟨Nat.le_of_ble_eq_true rfl, Nat.le_of_ble_eq_true rfl⟩) (fun w0 H locs hw hP hD hS => ?_)
  obtain ⟨g_1, rfl, hf_2⟩ := hw
  have hP : va_P D vwCl [(o, .inr (9, [.ref p_places, .ref p_kinds, .ref p_values, .ref p_toldAt, .ref p_untoldAt, .ref p_standing, .ref p_rows, .ref p_longer, .int 0, .int p_time])), (t, .inr (8, [.ref k_name, .ref k_worth, .ref k_times, .ref k_first, .ref k_second, .ref k_beforeLast, .ref k_last, .ref k_errandOf, .ref k_errandAfter, .ref k_sound, .ref k_followers, .ref k_leaders, .int 0, .int k_errands, .int k_alikes, .int k_law])), (p_standing, .inl (cI, 12, .inl g_1))] H := hP
  have hD : va_D A [(o, .inr (9, [.ref p_places, .ref p_kinds, .ref p_values, .ref p_toldAt, .ref p_untoldAt, .ref p_standing, .ref p_rows, .ref p_longer, .int 0, .int p_time])), (t, .inr (8, [.ref k_name, .ref k_worth, .ref k_times, .ref k_first, .ref k_second, .ref k_beforeLast, .ref k_last, .ref k_errandOf, .ref k_errandAfter, .ref k_sound, .ref k_followers, .ref k_leaders, .int 0, .int k_errands, .int k_alikes, .int k_law])), (p_standing, .inl (cI, 12, .inl g_1))] := hD
  refine lv_iconst (v := 0) hx hb dX9_narrow_11 (by decide) ?_
  refine lv_istore_n (lv' := [(3, .int 0), (0, .ref o), (1, .ref t), (2, .int x)]) hx hb dX9_narrow_12 rfl hl (by decide) rfl (fun ls hl => ?_)
  refine lv_iload_n hx hb dX9_narrow_13 rfl (lv_at hl 0 rfl) ?_
  refine lv_aload_n hx hb dX9_narrow_14 rfl (lv_at hl 1 rfl) ?_
  refine va_get (D := D) (ci := 9) (v := .int 0) (C := RX9) (T := TX9) (N := 10) hx hb hts (by decide +kernel) hown hK hP 0 rfl rfl 8 (by decide) (hts (.fieldLink RX9 37 "LastLetter$Wall" "sounds" "I") (by decide +kernel)) (fun _ h9 => h9) rfl dX9_narrow_15 ?_
  refine lv_icmp_ge (tgt := 100) hx hb dX9_narrow_18 (by decide) (fun c_3 => ?_) (fun c_3 => absurd (by decide) c_3)
  have hP9 := hP.sub (ws' := [(o, .inr (9, [.ref p_places, .ref p_kinds, .ref p_values, .ref p_toldAt, .ref p_untoldAt, .ref p_standing, .ref p_rows, .ref p_longer, .int 0, .int p_time])), (t, .inr (8, [.ref k_name, .ref k_worth, .ref k_times, .ref k_first, .ref k_second, .ref k_beforeLast, .ref k_last, .ref k_errandOf, .ref k_errandAfter, .ref k_sound, .ref k_followers, .ref k_leaders, .int 0, .int k_errands, .int k_alikes, .int k_law])), (p_standing, .inl (cI, 12, .inl g_1))]) [0, 1, 2] rfl
  have hD9 := hD.sub (ws' := [(o, .inr (9, [.ref p_places, .ref p_kinds, .ref p_values, .ref p_toldAt, .ref p_untoldAt, .ref p_standing, .ref p_rows, .ref p_longer, .int 0, .int p_time])), (t, .inr (8, [.ref k_name, .ref k_worth, .ref k_times, .ref k_first, .ref k_second, .ref k_beforeLast, .ref k_last, .ref k_errandOf, .ref k_errandAfter, .ref k_sound, .ref k_followers, .ref k_leaders, .int 0, .int k_errands, .int k_alikes, .int k_law])), (p_standing, .inl (cI, 12, .inl g_1))]) [0, 1, 2] (by decide) rfl
  refine W.widen (k := 0) (n := 0) (Nat.le_of_ble_eq_true rfl) (Nat.le_of_ble_eq_true rfl) ?_
  exact W.vret hx hb hr (fun tz htz hWz => ⟨⟨[(o, .inr (9, [.ref p_places, .ref p_kinds, .ref p_values, .ref p_toldAt, .ref p_untoldAt, .ref p_standing, .ref p_rows, .ref p_longer, .int 0, .int p_time])), (t, .inr (8, [.ref k_name, .ref k_worth, .ref k_times, .ref k_first, .ref k_second, .ref k_beforeLast, .ref k_last, .ref k_errandOf, .ref k_errandAfter, .ref k_sound, .ref k_followers, .ref k_leaders, .int 0, .int k_errands, .int k_alikes, .int k_law])), (p_standing, .inl (cI, 12, .inl g_1))], rfl, ⟨g_1, rfl, hf_2⟩, by rw [htz]; exact hP9, va_K.moved hWz.alike hK, hD9⟩, hS.F htz⟩) hS.2.2 dX9_narrow_100

set_option maxHeartbeats 4000000 in
set_option maxRecDepth 100000 in
theorem c_X9_gathered (l : Launch) (D : va_G) (cB cI cJ cS cZ cO : ClassId) (sz : Nat) (o : Nat) (a : Nat) (x : Int32) : Met l yX9_gathered wsX9_gathered ({ frames := 0, cells := 0, slots := 0, locals := 0 }) (xPre D (tyL cB cI cJ cS cZ cO) [] sz [.ref o, .ref a, .int x, .int 0]) (xQi D (tyL cB cI cJ cS cZ cO) (va_A [] sz) (fun (r : Int32) (u : va_W) => u = [] ∧ r = 0)) 0 0 (va_A [] sz) := by
  refine Met.ofW (cc := cX9_gathered) (maxL := 6) (ret := (some .int)) (by decide) rfl ?_
  intro p e s m args below meth c s₁ B hml hv
  obtain ⟨rfl, hsz, hP, hK, hD0, hN⟩ := hv
  have hx := B.exec
  have hb := B.bytes
  have hr := B.returns
  have hts := atoms_spec (ws := wsX9_gathered) B.pre
  have hown : s.vm.findClass RX9 = some m.cls := findClass_of_methodNamed B.named
  have hlocks := B.notSynchronized
  subst hsz
  have hD := hD0.self (sz := s.heap.size)
  generalize hAe : va_A [] s.heap.size = A at hD ⊢
  have hA : ∀ q : Nat, s.heap.size ≤ q → A q := fun q h => by rw [← hAe]; exact Or.inr h
  have hS : va_S A s.heap s.heap [] := va_S.rf
  have hP : va_P D vwCl [] s.heap := hP
  have hl := lv_entry ([.ref o, .ref a, .int x, .int 0]) (n := 6) (Nat.le_of_ble_eq_true rfl)
  rw [lg_entry_eq]
  generalize (lg_sl ([.ref o, .ref a, .int x, .int 0]) ++ List.replicate (6 - (lg_sl ([.ref o, .ref a, .int x, .int 0])).length) Slot.unset).toArray = ls at hl ⊢
  have hl : lv_has ls 6 [(0, .ref o), (1, .ref a), (2, .int x), (3, .int 0)] := hl
  refine lv_iconst (v := 0) hx hb dX9_gathered_0 (by decide) ?_
  refine lv_istore (lv' := [(4, .int 0), (0, .ref o), (1, .ref a), (2, .int x), (3, .int 0)]) hx hb dX9_gathered_1 hl (by decide) rfl (fun ls hl => ?_)
  refine lv_iconst (v := 0) hx hb dX9_gathered_3 (by decide) ?_
  refine lv_istore (lv' := [(5, .int 0), (4, .int 0), (0, .ref o), (1, .ref a), (2, .int x), (3, .int 0)]) hx hb dX9_gathered_4 hl (by decide) rfl (fun ls hl => ?_)
  refine lv_iload hx hb dX9_gathered_6 (lv_at hl 0 rfl) ?_
  refine lv_iload_n hx hb dX9_gathered_8 rfl (lv_at hl 5 rfl) ?_
  refine lv_icmp_ge (tgt := 36) hx hb dX9_gathered_9 (by decide) (fun c_1 => ?_) (fun c_1 => absurd (by decide) c_1)
  refine lv_iload hx hb dX9_gathered_36 (lv_at hl 1 rfl) ?_
  have hP9 := hP.sub (ws' := []) [] rfl
  have hD9 := hD.sub (ws' := []) [] (by decide) rfl
  refine W.widen (k := 0) (n := 0) (Nat.le_of_ble_eq_true rfl) (Nat.le_of_ble_eq_true rfl) ?_
  exact W.iret (v := 0) hx hb hr (fun tz htz hWz => ⟨⟨0, [], rfl, ⟨rfl, rfl⟩, by rw [htz]; exact hP9, va_K.moved hWz.alike hK, hD9⟩, hS.F htz⟩) hS.2.2 dX9_gathered_38

set_option maxHeartbeats 4000000 in
set_option maxRecDepth 100000 in
theorem c_X9_countRows (l : Launch) (D : va_G) (cB cI cJ cS cZ cO : ClassId) (sz : Nat) (o : Nat) (t : Nat) (N : Nat) (y : Int32) (p_places : Nat) (p_kinds : Nat) (p_values : Nat) (p_toldAt : Nat) (p_untoldAt : Nat) (p_standing : Nat) (p_rows : Nat) (p_longer : Nat) (p_time : Int32) (k_name : Nat) (k_worth : Nat) (k_times : Nat) (k_first : Nat) (k_second : Nat) (k_beforeLast : Nat) (k_last : Nat) (k_errandOf : Nat) (k_errandAfter : Nat) (k_sound : Nat) (k_followers : Nat) (k_leaders : Nat) (k_errands : Int32) (k_alikes : Int32) (k_law : Int32) (f : Nat → Int32) (hNn : N < 12) : Met l yX9_countRows wsX9_countRows ({ frames := 2, cells := 0, slots := 0, locals := 47 }) (xPre D (tyL cB cI cJ cS cZ cO) [(o, .inr (9, [.ref p_places, .ref p_kinds, .ref p_values, .ref p_toldAt, .ref p_untoldAt, .ref p_standing, .ref p_rows, .ref p_longer, .int 0, .int p_time])), (t, .inr (8, [.ref k_name, .ref k_worth, .ref k_times, .ref k_first, .ref k_second, .ref k_beforeLast, .ref k_last, .ref k_errandOf, .ref k_errandAfter, .ref k_sound, .ref k_followers, .ref k_leaders, .int 0, .int k_errands, .int k_alikes, .int k_law])), (p_standing, .inl (cI, 12, .inl f))] sz [.ref o, .ref t, .int (nI (N + 1)), .int y]) (xQl D (tyL cB cI cJ cS cZ cO) (va_A [(o, .inr (9, [.ref p_places, .ref p_kinds, .ref p_values, .ref p_toldAt, .ref p_untoldAt, .ref p_standing, .ref p_rows, .ref p_longer, .int 0, .int p_time])), (t, .inr (8, [.ref k_name, .ref k_worth, .ref k_times, .ref k_first, .ref k_second, .ref k_beforeLast, .ref k_last, .ref k_errandOf, .ref k_errandAfter, .ref k_sound, .ref k_followers, .ref k_leaders, .int 0, .int k_errands, .int k_alikes, .int k_law])), (p_standing, .inl (cI, 12, .inl f))] sz) (fun (r : Int64) (u : va_W) => u = [] ∧ r = 0)) 0 0 (va_A [(o, .inr (9, [.ref p_places, .ref p_kinds, .ref p_values, .ref p_toldAt, .ref p_untoldAt, .ref p_standing, .ref p_rows, .ref p_longer, .int 0, .int p_time])), (t, .inr (8, [.ref k_name, .ref k_worth, .ref k_times, .ref k_first, .ref k_second, .ref k_beforeLast, .ref k_last, .ref k_errandOf, .ref k_errandAfter, .ref k_sound, .ref k_followers, .ref k_leaders, .int 0, .int k_errands, .int k_alikes, .int k_law])), (p_standing, .inl (cI, 12, .inl f))] sz) := by
  refine Met.ofW (cc := cX9_countRows) (maxL := 7) (ret := (some .long)) (by decide) rfl ?_
  intro p e s m args below meth c s₁ B hml hv
  obtain ⟨rfl, hsz, hP, hK, hD0, hN⟩ := hv
  have hx := B.exec
  have hb := B.bytes
  have hr := B.returns
  have hts := atoms_spec (ws := wsX9_countRows) B.pre
  have hown : s.vm.findClass RX9 = some m.cls := findClass_of_methodNamed B.named
  have hlocks := B.notSynchronized
  subst hsz
  have hD := hD0.self (sz := s.heap.size)
  generalize hAe : va_A [(o, .inr (9, [.ref p_places, .ref p_kinds, .ref p_values, .ref p_toldAt, .ref p_untoldAt, .ref p_standing, .ref p_rows, .ref p_longer, .int 0, .int p_time])), (t, .inr (8, [.ref k_name, .ref k_worth, .ref k_times, .ref k_first, .ref k_second, .ref k_beforeLast, .ref k_last, .ref k_errandOf, .ref k_errandAfter, .ref k_sound, .ref k_followers, .ref k_leaders, .int 0, .int k_errands, .int k_alikes, .int k_law])), (p_standing, .inl (cI, 12, .inl f))] s.heap.size = A at hD ⊢
  have hA : ∀ q : Nat, s.heap.size ≤ q → A q := fun q h => by rw [← hAe]; exact Or.inr h
  have hS : va_S A s.heap s.heap [] := va_S.rf
  have hP : va_P D vwCl [(o, .inr (9, [.ref p_places, .ref p_kinds, .ref p_values, .ref p_toldAt, .ref p_untoldAt, .ref p_standing, .ref p_rows, .ref p_longer, .int 0, .int p_time])), (t, .inr (8, [.ref k_name, .ref k_worth, .ref k_times, .ref k_first, .ref k_second, .ref k_beforeLast, .ref k_last, .ref k_errandOf, .ref k_errandAfter, .ref k_sound, .ref k_followers, .ref k_leaders, .int 0, .int k_errands, .int k_alikes, .int k_law])), (p_standing, .inl (cI, 12, .inl f))] s.heap := hP
  have hl := lv_entry ([.ref o, .ref t, .int (nI (N + 1)), .int y]) (n := 7) (Nat.le_of_ble_eq_true rfl)
  rw [lg_entry_eq]
  generalize (lg_sl ([.ref o, .ref t, .int (nI (N + 1)), .int y]) ++ List.replicate (7 - (lg_sl ([.ref o, .ref t, .int (nI (N + 1)), .int y])).length) Slot.unset).toArray = ls at hl ⊢
  have hl : lv_has ls 7 [(0, .ref o), (1, .ref t), (2, .int (nI (N + 1))), (3, .int y)] := hl
  refine lv_aload_n hx hb dX9_countRows_0 rfl (lv_at hl 0 rfl) ?_
  refine lv_aload_n hx hb dX9_countRows_1 rfl (lv_at hl 1 rfl) ?_
  refine lv_iload_n hx hb dX9_countRows_2 rfl (lv_at hl 3 rfl) ?_
  refine xCv (wr := []) (win := [(o, .inr (9, [.ref p_places, .ref p_kinds, .ref p_values, .ref p_toldAt, .ref p_untoldAt, .ref p_standing, .ref p_rows, .ref p_longer, .int 0, .int p_time])), (t, .inr (8, [.ref k_name, .ref k_worth, .ref k_times, .ref k_first, .ref k_second, .ref k_beforeLast, .ref k_last, .ref k_errandOf, .ref k_errandAfter, .ref k_sound, .ref k_followers, .ref k_leaders, .int 0, .int k_errands, .int k_alikes, .int k_law])), (p_standing, .inl (cI, 12, .inl f))]) hP hD hS hA [0, 1, 2] [] rfl rfl (by decide) (by decide) (va_runV (As := [.ref t, .int y]) (rest := []) ⟨hx, hb, hml, hown, hts⟩ (c_X9_narrow l D cB cI cJ cS cZ cO s.heap.size o t y p_places p_kinds p_values p_toldAt p_untoldAt p_standing p_rows p_longer p_time k_name k_worth k_times k_first k_second k_beforeLast k_last k_errandOf k_errandAfter k_sound k_followers k_leaders k_errands k_alikes k_law f ) (cwV 2 hts gX9_countRows_X9_narrow rfl rfl rfl (by decide +kernel) ⟨Nat.le_of_ble_eq_true rfl, Nat.le_of_ble_eq_true rfl⟩) (xPreV (win := [(o, .inr (9, [.ref p_places, .ref p_kinds, .ref p_values, .ref p_toldAt, .ref p_untoldAt, .ref p_standing, .ref p_rows, .ref p_longer, .int 0, .int p_time])), (t, .inr (8, [.ref k_name, .ref k_worth, .ref k_times, .ref k_first, .ref k_second, .ref k_beforeLast, .ref k_last, .ref k_errandOf, .ref k_errandAfter, .ref k_sound, .ref k_followers, .ref k_leaders, .int 0, .int k_errands, .int k_alikes, .int k_law])), (p_standing, .inl (cI, 12, .inl f))]) hN hK hP hD [0, 1, 2] (by decide) rfl 0 9 rfl rfl rfl) rfl rfl hl.1 rfl (lv_room (Nat.le_of_ble_eq_true rfl)) dX9_countRows_3 ⟨Nat.le_of_ble_eq_true rfl, Nat.le_of_ble_eq_true rfl⟩) (fun w0 H locs hw hP hD hS => ?_)
  obtain ⟨g_1, rfl, hf_2⟩ := hw
  have hP : va_P D vwCl [(o, .inr (9, [.ref p_places, .ref p_kinds, .ref p_values, .ref p_toldAt, .ref p_untoldAt, .ref p_standing, .ref p_rows, .ref p_longer, .int 0, .int p_time])), (t, .inr (8, [.ref k_name, .ref k_worth, .ref k_times, .ref k_first, .ref k_second, .ref k_beforeLast, .ref k_last, .ref k_errandOf, .ref k_errandAfter, .ref k_sound, .ref k_followers, .ref k_leaders, .int 0, .int k_errands, .int k_alikes, .int k_law])), (p_standing, .inl (cI, 12, .inl g_1))] H := hP
  have hD : va_D A [(o, .inr (9, [.ref p_places, .ref p_kinds, .ref p_values, .ref p_toldAt, .ref p_untoldAt, .ref p_standing, .ref p_rows, .ref p_longer, .int 0, .int p_time])), (t, .inr (8, [.ref k_name, .ref k_worth, .ref k_times, .ref k_first, .ref k_second, .ref k_beforeLast, .ref k_last, .ref k_errandOf, .ref k_errandAfter, .ref k_sound, .ref k_followers, .ref k_leaders, .int 0, .int k_errands, .int k_alikes, .int k_law])), (p_standing, .inl (cI, 12, .inl g_1))] := hD
  refine lv_iconst (v := 0) hx hb dX9_countRows_6 (by decide) ?_
  refine lv_istore (lv' := [(4, .int 0), (0, .ref o), (1, .ref t), (2, .int (nI (N + 1))), (3, .int y)]) hx hb dX9_countRows_7 hl (by decide) rfl (fun ls hl => ?_)
  refine lv_iload hx hb dX9_countRows_9 (lv_at hl 0 rfl) ?_
  refine lv_aload_n hx hb dX9_countRows_11 rfl (lv_at hl 2 rfl) ?_
  refine va_getN (D := D) (ci := 8) (v := .int 0) (C := RX8) (T := TX8) (N := 16) hx hb hts (by decide +kernel) hown hK hP 1 rfl rfl 12 (by decide) (va_Nw.use rfl (hN.1 (RX9, 48, RX8, "words", "I", RX10) (by decide +kernel))) (fun _ h9 => h9) rfl dX9_countRows_12 ?_
  refine lv_icmp_ge (tgt := 50) hx hb dX9_countRows_15 (by decide) (fun c_3 => ?_) (fun c_3 => absurd (by decide) c_3)
  refine lv_iconst (v := 1) hx hb dX9_countRows_50 (by decide) ?_
  refine lv_istore (lv' := [(4, .int 1), (0, .ref o), (1, .ref t), (2, .int (nI (N + 1))), (3, .int y)]) hx hb dX9_countRows_51 hl (by decide) rfl (fun ls hl => ?_)
  refine xb_up (fun i H locs ls => ∃ r1 : Nat, ∃ r2 : Nat, va_P D vwCl [(o, .inr (9, [.ref p_places, .ref p_kinds, .ref p_values, .ref p_toldAt, .ref p_untoldAt, .ref p_standing, .ref r1, .ref r2, .int 0, .int p_time])), (t, .inr (8, [.ref k_name, .ref k_worth, .ref k_times, .ref k_first, .ref k_second, .ref k_beforeLast, .ref k_last, .ref k_errandOf, .ref k_errandAfter, .ref k_sound, .ref k_followers, .ref k_leaders, .int 0, .int k_errands, .int k_alikes, .int k_law])), (p_standing, .inl (cI, 12, .inl g_1))] H ∧ va_D A [(o, .inr (9, [.ref p_places, .ref p_kinds, .ref p_values, .ref p_toldAt, .ref p_untoldAt, .ref p_standing, .ref r1, .ref r2, .int 0, .int p_time])), (t, .inr (8, [.ref k_name, .ref k_worth, .ref k_times, .ref k_first, .ref k_second, .ref k_beforeLast, .ref k_last, .ref k_errandOf, .ref k_errandAfter, .ref k_sound, .ref k_followers, .ref k_leaders, .int 0, .int k_errands, .int k_alikes, .int k_law])), (p_standing, .inl (cI, 12, .inl g_1))] ∧ va_S A s.heap H locs ∧ lv_has ls 7 [(4, .int (nI i)), (0, .ref o), (1, .ref t), (2, .int (nI (N + 1))), (3, .int y)]) (N + 1) 1 (by omega) ⟨p_rows, p_longer, hP, hD, hS, lv_sub hl [0, 1, 2, 3, 4] rfl⟩ (fun i H locs ls hi hI kk => ?_) (fun H locs ls hI => ?_)
  · obtain ⟨r1, r2, hP, hD, hS, hl⟩ := hI
    refine lv_iload hx hb dX9_countRows_53 (lv_at hl 0 rfl) ?_
    refine lv_iload_n hx hb dX9_countRows_55 rfl (lv_at hl 3 rfl) ?_
    refine lv_icmp_ge (tgt := 136) hx hb dX9_countRows_56 (by decide) (fun c_4 => absurd c_4 (nI_ge hi (by omega))) (fun c_4 => ?_)
    refine lv_iconst (v := 0) hx hb dX9_countRows_59 (by decide) ?_
    refine lv_istore (lv' := [(5, .int 0), (4, .int (nI i)), (0, .ref o), (1, .ref t), (2, .int (nI (N + 1))), (3, .int y)]) hx hb dX9_countRows_60 hl (by decide) rfl (fun ls hl => ?_)
    refine lv_iload hx hb dX9_countRows_62 (lv_at hl 0 rfl) ?_
    refine lv_aload_n hx hb dX9_countRows_64 rfl (lv_at hl 3 rfl) ?_
    refine va_getN (D := D) (ci := 8) (v := .int 0) (C := RX8) (T := TX8) (N := 16) hx hb hts (by decide +kernel) hown hK hP 1 rfl rfl 12 (by decide) (va_Nw.use rfl (hN.1 (RX9, 48, RX8, "words", "I", RX10) (by decide +kernel))) (fun _ h9 => h9) rfl dX9_countRows_65 ?_
    refine lv_icmp_ge (tgt := 110) hx hb dX9_countRows_68 (by decide) (fun c_5 => ?_) (fun c_5 => absurd (by decide) c_5)
    refine lv_aload_n hx hb dX9_countRows_110 rfl (lv_at hl 2 rfl) ?_
    refine va_get (D := D) (ci := 9) (v := .ref r1) (C := RX9) (T := TX9) (N := 10) hx hb hts (by decide +kernel) hown hK hP 0 rfl rfl 6 (by decide) (hts (.fieldLink RX9 30 "LastLetter$Wall" "rows" "[J") (by decide +kernel)) (fun _ h9 => h9) rfl dX9_countRows_111 ?_
    refine lv_astore (lv' := [(5, .ref r1), (4, .int (nI i)), (0, .ref o), (1, .ref t), (2, .int (nI (N + 1))), (3, .int y)]) hx hb dX9_countRows_114 hl (by decide) rfl (fun ls hl => ?_)
    refine lv_aload_n hx hb dX9_countRows_116 rfl (lv_at hl 2 rfl) ?_
    refine lv_aload_n hx hb dX9_countRows_117 rfl (lv_at hl 2 rfl) ?_
    refine va_get (D := D) (ci := 9) (v := .ref r2) (C := RX9) (T := TX9) (N := 10) hx hb hts (by decide +kernel) hown hK hP 0 rfl rfl 7 (by decide) (hts (.fieldLink RX9 34 "LastLetter$Wall" "longer" "[J") (by decide +kernel)) (fun _ h9 => h9) rfl dX9_countRows_118 ?_
    refine va_put (D := D) (ci := 9) (v := .ref r2) (ty := .array .long) (C := RX9) (T := TX9) (N := 10) hx hb hts (by decide +kernel) tyX9 tyX9_ok nmX9 hown hK hP hD hS 0 rfl rfl 6 (by decide) (hts (.fieldLink RX9 30 "LastLetter$Wall" "rows" "[J") (by decide +kernel)) (fun _ h9 => h9) rfl (by decide +kernel) rfl rfl (Nat.le_of_ble_eq_true rfl) dX9_countRows_121 (fun H locs hP hD hS => ?_)
    have hP : va_P D vwCl [(o, .inr (9, [.ref p_places, .ref p_kinds, .ref p_values, .ref p_toldAt, .ref p_untoldAt, .ref p_standing, .ref r2, .ref r2, .int 0, .int p_time])), (t, .inr (8, [.ref k_name, .ref k_worth, .ref k_times, .ref k_first, .ref k_second, .ref k_beforeLast, .ref k_last, .ref k_errandOf, .ref k_errandAfter, .ref k_sound, .ref k_followers, .ref k_leaders, .int 0, .int k_errands, .int k_alikes, .int k_law])), (p_standing, .inl (cI, 12, .inl g_1))] H := hP
    have hD : va_D A [(o, .inr (9, [.ref p_places, .ref p_kinds, .ref p_values, .ref p_toldAt, .ref p_untoldAt, .ref p_standing, .ref r2, .ref r2, .int 0, .int p_time])), (t, .inr (8, [.ref k_name, .ref k_worth, .ref k_times, .ref k_first, .ref k_second, .ref k_beforeLast, .ref k_last, .ref k_errandOf, .ref k_errandAfter, .ref k_sound, .ref k_followers, .ref k_leaders, .int 0, .int k_errands, .int k_alikes, .int k_law])), (p_standing, .inl (cI, 12, .inl g_1))] := hD
    refine lv_aload_n hx hb dX9_countRows_124 rfl (lv_at hl 2 rfl) ?_
    refine lv_aload hx hb dX9_countRows_125 (lv_at hl 0 rfl) ?_
    refine va_put (D := D) (ci := 9) (v := .ref r1) (ty := .array .long) (C := RX9) (T := TX9) (N := 10) hx hb hts (by decide +kernel) tyX9 tyX9_ok nmX9 hown hK hP hD hS 0 rfl rfl 7 (by decide) (hts (.fieldLink RX9 34 "LastLetter$Wall" "longer" "[J") (by decide +kernel)) (fun _ h9 => h9) rfl (by decide +kernel) rfl rfl (Nat.le_of_ble_eq_true rfl) dX9_countRows_127 (fun H locs hP hD hS => ?_)
    have hP : va_P D vwCl [(o, .inr (9, [.ref p_places, .ref p_kinds, .ref p_values, .ref p_toldAt, .ref p_untoldAt, .ref p_standing, .ref r2, .ref r1, .int 0, .int p_time])), (t, .inr (8, [.ref k_name, .ref k_worth, .ref k_times, .ref k_first, .ref k_second, .ref k_beforeLast, .ref k_last, .ref k_errandOf, .ref k_errandAfter, .ref k_sound, .ref k_followers, .ref k_leaders, .int 0, .int k_errands, .int k_alikes, .int k_law])), (p_standing, .inl (cI, 12, .inl g_1))] H := hP
    have hD : va_D A [(o, .inr (9, [.ref p_places, .ref p_kinds, .ref p_values, .ref p_toldAt, .ref p_untoldAt, .ref p_standing, .ref r2, .ref r1, .int 0, .int p_time])), (t, .inr (8, [.ref k_name, .ref k_worth, .ref k_times, .ref k_first, .ref k_second, .ref k_beforeLast, .ref k_last, .ref k_errandOf, .ref k_errandAfter, .ref k_sound, .ref k_followers, .ref k_leaders, .int 0, .int k_errands, .int k_alikes, .int k_law])), (p_standing, .inl (cI, 12, .inl g_1))] := hD
    refine lv_iinc (v := nI (i + 1)) (lv' := [(4, .int (nI (i + 1))), (5, .ref r1), (0, .ref o), (1, .ref t), (2, .int (nI (N + 1))), (3, .int y)]) hx hb dX9_countRows_130 hl (k := 1) rfl (nI_1 i) (by decide) rfl (fun ls hl => ?_)
    refine lv_goto (tgt := 53) hx hb dX9_countRows_133 (by decide) ?_
    exact kk _ _ _ ⟨r2, r1, hP, hD, hS, lv_sub hl [0, 2, 3, 4, 5] rfl⟩
  · obtain ⟨r1, r2, hP, hD, hS, hl⟩ := hI
    refine lv_iload hx hb dX9_countRows_53 (lv_at hl 0 rfl) ?_
    refine lv_iload_n hx hb dX9_countRows_55 rfl (lv_at hl 3 rfl) ?_
    refine lv_icmp_ge (tgt := 136) hx hb dX9_countRows_56 (by decide) (fun c_6 => ?_) (fun c_6 => absurd (nI_le (Nat.le_refl _) (by omega)) c_6)
    refine lv_lconst (v := 0) hx hb dX9_countRows_136 (by decide) ?_
    refine lv_lstore (lv' := [(4, .long 0), (0, .ref o), (1, .ref t), (2, .int (nI (N + 1))), (3, .int y)]) hx hb dX9_countRows_137 hl (by decide) rfl (fun ls hl => ?_)
    refine lv_iconst (v := 0) hx hb dX9_countRows_139 (by decide) ?_
    refine lv_istore (lv' := [(6, .int 0), (4, .long 0), (0, .ref o), (1, .ref t), (2, .int (nI (N + 1))), (3, .int y)]) hx hb dX9_countRows_140 hl (by decide) rfl (fun ls hl => ?_)
    refine lv_iload hx hb dX9_countRows_142 (lv_at hl 0 rfl) ?_
    refine lv_aload_n hx hb dX9_countRows_144 rfl (lv_at hl 3 rfl) ?_
    refine va_getN (D := D) (ci := 8) (v := .int 0) (C := RX8) (T := TX8) (N := 16) hx hb hts (by decide +kernel) hown hK hP 1 rfl rfl 12 (by decide) (va_Nw.use rfl (hN.1 (RX9, 48, RX8, "words", "I", RX10) (by decide +kernel))) (fun _ h9 => h9) rfl dX9_countRows_145 ?_
    refine lv_icmp_ge (tgt := 169) hx hb dX9_countRows_148 (by decide) (fun c_7 => ?_) (fun c_7 => absurd (by decide) c_7)
    refine lv_lload hx hb dX9_countRows_169 (lv_at hl 1 rfl) ?_
    refine lv_ldc2 (v := 1000000000000) hx hb hown (hts (.constantLong RX9 61 1000000000000) (by decide +kernel)) dX9_countRows_171 ?_
    refine va_mmin_long hx hb (hml.trans hl.1.symm) hown (hts (.methodLink RX9 63 Lib.MathLoose.min_long.x) (by decide +kernel)) (hts (.static Lib.MathLoose.min_long.x) (by decide +kernel)) (hts (.initialized "java/lang/Math") (by decide +kernel)) (hts (.code Lib.MathLoose.min_long.x Lib.MathLoose.min_long.code 4 (some .long)) (by decide +kernel)) (Nat.le_of_ble_eq_true rfl) (Nat.le_of_ble_eq_true rfl) (Nat.le_of_ble_eq_true rfl) (Nat.le_of_ble_eq_true rfl) dX9_countRows_174 ?_
    refine xb_topl (y := 0) (by decide) ?_
    have hP9 := hP.sub (ws' := []) [] rfl
    have hD9 := hD.sub (ws' := []) [] (by decide) rfl
    refine W.widen (k := 0) (n := 0) (Nat.le_of_ble_eq_true rfl) (Nat.le_of_ble_eq_true rfl) ?_
    exact W.lret (v := 0) hx hb hr (fun tz htz hWz => ⟨⟨0, [], rfl, ⟨rfl, rfl⟩, by rw [htz]; exact hP9, va_K.moved hWz.alike hK, hD9⟩, hS.F htz⟩) hS.2.2 dX9_countRows_177

set_option maxHeartbeats 4000000 in
set_option maxRecDepth 100000 in
theorem c_X9_standAt (l : Launch) (D : va_G) (cB cI cJ cS cZ cO : ClassId) (sz : Nat) (o : Nat) (t : Nat) (N : Nat) (Q : Nat) (y : Int32) (p_places : Nat) (p_kinds : Nat) (p_values : Nat) (p_toldAt : Nat) (p_untoldAt : Nat) (p_standing : Nat) (p_rows : Nat) (p_longer : Nat) (p_time : Int32) (k_name : Nat) (k_worth : Nat) (k_times : Nat) (k_first : Nat) (k_second : Nat) (k_beforeLast : Nat) (k_last : Nat) (k_errandOf : Nat) (k_errandAfter : Nat) (k_sound : Nat) (k_followers : Nat) (k_leaders : Nat) (k_errands : Int32) (k_alikes : Int32) (k_law : Int32) (f : Nat → Int32) (hNn : N < 12) (hQ : Q < N + 1) : Met l yX9_standAt wsX9_standAt ({ frames := 2, cells := 0, slots := 0, locals := 47 }) (xPre D (tyL cB cI cJ cS cZ cO) [(o, .inr (9, [.ref p_places, .ref p_kinds, .ref p_values, .ref p_toldAt, .ref p_untoldAt, .ref p_standing, .ref p_rows, .ref p_longer, .int 0, .int p_time])), (t, .inr (8, [.ref k_name, .ref k_worth, .ref k_times, .ref k_first, .ref k_second, .ref k_beforeLast, .ref k_last, .ref k_errandOf, .ref k_errandAfter, .ref k_sound, .ref k_followers, .ref k_leaders, .int 0, .int k_errands, .int k_alikes, .int k_law])), (p_standing, .inl (cI, 12, .inl f))] sz [.ref o, .ref t, .int (nI (N + 1)), .int (nI Q), .int y]) (xQi D (tyL cB cI cJ cS cZ cO) (va_A [(o, .inr (9, [.ref p_places, .ref p_kinds, .ref p_values, .ref p_toldAt, .ref p_untoldAt, .ref p_standing, .ref p_rows, .ref p_longer, .int 0, .int p_time])), (t, .inr (8, [.ref k_name, .ref k_worth, .ref k_times, .ref k_first, .ref k_second, .ref k_beforeLast, .ref k_last, .ref k_errandOf, .ref k_errandAfter, .ref k_sound, .ref k_followers, .ref k_leaders, .int 0, .int k_errands, .int k_alikes, .int k_law])), (p_standing, .inl (cI, 12, .inl f))] sz) (fun (r : Int32) (u : va_W) => u = [] ∧ r = 0)) 0 0 (va_A [(o, .inr (9, [.ref p_places, .ref p_kinds, .ref p_values, .ref p_toldAt, .ref p_untoldAt, .ref p_standing, .ref p_rows, .ref p_longer, .int 0, .int p_time])), (t, .inr (8, [.ref k_name, .ref k_worth, .ref k_times, .ref k_first, .ref k_second, .ref k_beforeLast, .ref k_last, .ref k_errandOf, .ref k_errandAfter, .ref k_sound, .ref k_followers, .ref k_leaders, .int 0, .int k_errands, .int k_alikes, .int k_law])), (p_standing, .inl (cI, 12, .inl f))] sz) := by
  refine Met.ofW (cc := cX9_standAt) (maxL := 6) (ret := (some .int)) (by decide) rfl ?_
  intro p e s m args below meth c s₁ B hml hv
  obtain ⟨rfl, hsz, hP, hK, hD0, hN⟩ := hv
  have hx := B.exec
  have hb := B.bytes
  have hr := B.returns
  have hts := atoms_spec (ws := wsX9_standAt) B.pre
  have hown : s.vm.findClass RX9 = some m.cls := findClass_of_methodNamed B.named
  have hlocks := B.notSynchronized
  subst hsz
  have hD := hD0.self (sz := s.heap.size)
  generalize hAe : va_A [(o, .inr (9, [.ref p_places, .ref p_kinds, .ref p_values, .ref p_toldAt, .ref p_untoldAt, .ref p_standing, .ref p_rows, .ref p_longer, .int 0, .int p_time])), (t, .inr (8, [.ref k_name, .ref k_worth, .ref k_times, .ref k_first, .ref k_second, .ref k_beforeLast, .ref k_last, .ref k_errandOf, .ref k_errandAfter, .ref k_sound, .ref k_followers, .ref k_leaders, .int 0, .int k_errands, .int k_alikes, .int k_law])), (p_standing, .inl (cI, 12, .inl f))] s.heap.size = A at hD ⊢
  have hA : ∀ q : Nat, s.heap.size ≤ q → A q := fun q h => by rw [← hAe]; exact Or.inr h
  have hS : va_S A s.heap s.heap [] := va_S.rf
  have hP : va_P D vwCl [(o, .inr (9, [.ref p_places, .ref p_kinds, .ref p_values, .ref p_toldAt, .ref p_untoldAt, .ref p_standing, .ref p_rows, .ref p_longer, .int 0, .int p_time])), (t, .inr (8, [.ref k_name, .ref k_worth, .ref k_times, .ref k_first, .ref k_second, .ref k_beforeLast, .ref k_last, .ref k_errandOf, .ref k_errandAfter, .ref k_sound, .ref k_followers, .ref k_leaders, .int 0, .int k_errands, .int k_alikes, .int k_law])), (p_standing, .inl (cI, 12, .inl f))] s.heap := hP
  have hl := lv_entry ([.ref o, .ref t, .int (nI (N + 1)), .int (nI Q), .int y]) (n := 6) (Nat.le_of_ble_eq_true rfl)
  rw [lg_entry_eq]
  generalize (lg_sl ([.ref o, .ref t, .int (nI (N + 1)), .int (nI Q), .int y]) ++ List.replicate (6 - (lg_sl ([.ref o, .ref t, .int (nI (N + 1)), .int (nI Q), .int y])).length) Slot.unset).toArray = ls at hl ⊢
  have hl : lv_has ls 6 [(0, .ref o), (1, .ref t), (2, .int (nI (N + 1))), (3, .int (nI Q)), (4, .int y)] := hl
  refine lv_aload_n hx hb dX9_standAt_0 rfl (lv_at hl 0 rfl) ?_
  refine lv_aload_n hx hb dX9_standAt_1 rfl (lv_at hl 1 rfl) ?_
  refine lv_iload hx hb dX9_standAt_2 (lv_at hl 4 rfl) ?_
  refine xCv (wr := []) (win := [(o, .inr (9, [.ref p_places, .ref p_kinds, .ref p_values, .ref p_toldAt, .ref p_untoldAt, .ref p_standing, .ref p_rows, .ref p_longer, .int 0, .int p_time])), (t, .inr (8, [.ref k_name, .ref k_worth, .ref k_times, .ref k_first, .ref k_second, .ref k_beforeLast, .ref k_last, .ref k_errandOf, .ref k_errandAfter, .ref k_sound, .ref k_followers, .ref k_leaders, .int 0, .int k_errands, .int k_alikes, .int k_law])), (p_standing, .inl (cI, 12, .inl f))]) hP hD hS hA [0, 1, 2] [] rfl rfl (by decide) (by decide) (va_runV (As := [.ref t, .int y]) (rest := []) ⟨hx, hb, hml, hown, hts⟩ (c_X9_narrow l D cB cI cJ cS cZ cO s.heap.size o t y p_places p_kinds p_values p_toldAt p_untoldAt p_standing p_rows p_longer p_time k_name k_worth k_times k_first k_second k_beforeLast k_last k_errandOf k_errandAfter k_sound k_followers k_leaders k_errands k_alikes k_law f ) (cwV 2 hts gX9_standAt_X9_narrow rfl rfl rfl (by decide +kernel) ⟨Nat.le_of_ble_eq_true rfl, Nat.le_of_ble_eq_true rfl⟩) (xPreV (win := [(o, .inr (9, [.ref p_places, .ref p_kinds, .ref p_values, .ref p_toldAt, .ref p_untoldAt, .ref p_standing, .ref p_rows, .ref p_longer, .int 0, .int p_time])), (t, .inr (8, [.ref k_name, .ref k_worth, .ref k_times, .ref k_first, .ref k_second, .ref k_beforeLast, .ref k_last, .ref k_errandOf, .ref k_errandAfter, .ref k_sound, .ref k_followers, .ref k_leaders, .int 0, .int k_errands, .int k_alikes, .int k_law])), (p_standing, .inl (cI, 12, .inl f))]) hN hK hP hD [0, 1, 2] (by decide) rfl 0 9 rfl rfl rfl) rfl rfl hl.1 rfl (lv_room (Nat.le_of_ble_eq_true rfl)) dX9_standAt_4 ⟨Nat.le_of_ble_eq_true rfl, Nat.le_of_ble_eq_true rfl⟩) (fun w0 H locs hw hP hD hS => ?_)
  obtain ⟨g_1, rfl, hf_2⟩ := hw
  have hP : va_P D vwCl [(o, .inr (9, [.ref p_places, .ref p_kinds, .ref p_values, .ref p_toldAt, .ref p_untoldAt, .ref p_standing, .ref p_rows, .ref p_longer, .int 0, .int p_time])), (t, .inr (8, [.ref k_name, .ref k_worth, .ref k_times, .ref k_first, .ref k_second, .ref k_beforeLast, .ref k_last, .ref k_errandOf, .ref k_errandAfter, .ref k_sound, .ref k_followers, .ref k_leaders, .int 0, .int k_errands, .int k_alikes, .int k_law])), (p_standing, .inl (cI, 12, .inl g_1))] H := hP
  have hD : va_D A [(o, .inr (9, [.ref p_places, .ref p_kinds, .ref p_values, .ref p_toldAt, .ref p_untoldAt, .ref p_standing, .ref p_rows, .ref p_longer, .int 0, .int p_time])), (t, .inr (8, [.ref k_name, .ref k_worth, .ref k_times, .ref k_first, .ref k_second, .ref k_beforeLast, .ref k_last, .ref k_errandOf, .ref k_errandAfter, .ref k_sound, .ref k_followers, .ref k_leaders, .int 0, .int k_errands, .int k_alikes, .int k_law])), (p_standing, .inl (cI, 12, .inl g_1))] := hD
  refine lv_iconst (v := 1) hx hb dX9_standAt_7 (by decide) ?_
  refine lv_istore (lv' := [(5, .int 1), (0, .ref o), (1, .ref t), (2, .int (nI (N + 1))), (3, .int (nI Q)), (4, .int y)]) hx hb dX9_standAt_8 hl (by decide) rfl (fun ls hl => ?_)
  refine xb_up (fun i H locs ls => ∃ g : Nat → Int32, va_P D vwCl [(o, .inr (9, [.ref p_places, .ref p_kinds, .ref p_values, .ref p_toldAt, .ref p_untoldAt, .ref p_standing, .ref p_rows, .ref p_longer, .int 0, .int p_time])), (t, .inr (8, [.ref k_name, .ref k_worth, .ref k_times, .ref k_first, .ref k_second, .ref k_beforeLast, .ref k_last, .ref k_errandOf, .ref k_errandAfter, .ref k_sound, .ref k_followers, .ref k_leaders, .int 0, .int k_errands, .int k_alikes, .int k_law])), (p_standing, .inl (cI, 12, .inl g))] H ∧ va_D A [(o, .inr (9, [.ref p_places, .ref p_kinds, .ref p_values, .ref p_toldAt, .ref p_untoldAt, .ref p_standing, .ref p_rows, .ref p_longer, .int 0, .int p_time])), (t, .inr (8, [.ref k_name, .ref k_worth, .ref k_times, .ref k_first, .ref k_second, .ref k_beforeLast, .ref k_last, .ref k_errandOf, .ref k_errandAfter, .ref k_sound, .ref k_followers, .ref k_leaders, .int 0, .int k_errands, .int k_alikes, .int k_law])), (p_standing, .inl (cI, 12, .inl g))] ∧ va_S A s.heap H locs ∧ lv_has ls 6 [(5, .int (nI i)), (0, .ref o), (1, .ref t), (2, .int (nI (N + 1))), (3, .int (nI Q)), (4, .int y)] ∧ 1 ≤ i ∧ (∀ j : Nat, j < 12 → g j = 0)) (N + 1) 1 (by omega) ⟨g_1, hP, hD, hS, lv_sub hl [0, 1, 2, 3, 4, 5] rfl, (Nat.le_refl 1), hf_2⟩ (fun i H locs ls hi hI kk => ?_) (fun H locs ls hI => ?_)
  · obtain ⟨g, hP, hD, hS, hl, hF10_0, hF10_1⟩ := hI
    refine lv_iload hx hb dX9_standAt_10 (lv_at hl 0 rfl) ?_
    refine lv_iload_n hx hb dX9_standAt_12 rfl (lv_at hl 3 rfl) ?_
    refine lv_icmp_ge (tgt := 53) hx hb dX9_standAt_13 (by decide) (fun c_3 => absurd c_3 (nI_ge hi (by omega))) (fun c_3 => ?_)
    refine lv_aload_n hx hb dX9_standAt_16 rfl (lv_at hl 1 rfl) ?_
    refine va_get (D := D) (ci := 9) (v := .ref p_standing) (C := RX9) (T := TX9) (N := 10) hx hb hts (by decide +kernel) hown hK hP 0 rfl rfl 5 (by decide) (hts (.fieldLink RX9 27 "LastLetter$Wall" "standing" "[I") (by decide +kernel)) (fun _ h9 => h9) rfl dX9_standAt_17 ?_
    refine lv_iload hx hb dX9_standAt_20 (lv_at hl 0 rfl) ?_
    refine lv_dup2_11 hx hb dX9_standAt_22 rfl rfl ?_
    refine va_iald hx hb hK hP 2 1 rfl rfl (vp_in_nI (by omega) (by decide)) dX9_standAt_23 ?_
    refine lv_aload_n hx hb dX9_standAt_24 rfl (lv_at hl 1 rfl) ?_
    refine lv_aload_n hx hb dX9_standAt_25 rfl (lv_at hl 2 rfl) ?_
    refine va_getN (D := D) (ci := 8) (v := .ref k_followers) (C := RX8) (T := TX8) (N := 16) hx hb hts (by decide +kernel) hown hK hP 1 rfl rfl 10 (by decide) (va_Nw.use rfl (hN.1 (RX9, 72, RX8, "followers", "[I", RX10) (by decide +kernel))) (fun _ h9 => h9) rfl dX9_standAt_26 ?_
    refine lv_aload_n hx hb dX9_standAt_29 rfl (lv_at hl 1 rfl) ?_
    refine va_get (D := D) (ci := 9) (v := .ref p_standing) (C := RX9) (T := TX9) (N := 10) hx hb hts (by decide +kernel) hown hK hP 0 rfl rfl 5 (by decide) (hts (.fieldLink RX9 27 "LastLetter$Wall" "standing" "[I") (by decide +kernel)) (fun _ h9 => h9) rfl dX9_standAt_30 ?_
    refine lv_iload hx hb dX9_standAt_33 (lv_at hl 0 rfl) ?_
    refine lv_iconst (v := 1) hx hb dX9_standAt_35 (by decide) ?_
    refine lv_isub hx hb dX9_standAt_36 ?_
    refine xb_top (y := nI (i - 1)) (pk_sub (a := i) (b := 1) hF10_0) ?_
    refine va_iald hx hb hK hP 2 1 rfl rfl (vp_in_nI (by omega) (by decide)) dX9_standAt_37 ?_
    refine lv_aload_n hx hb dX9_standAt_38 rfl (lv_at hl 2 rfl) ?_
    refine va_getN (D := D) (ci := 8) (v := .int 0) (C := RX8) (T := TX8) (N := 16) hx hb hts (by decide +kernel) hown hK hP 1 rfl rfl 12 (by decide) (va_Nw.use rfl (hN.1 (RX9, 48, RX8, "words", "I", RX10) (by decide +kernel))) (fun _ h9 => h9) rfl dX9_standAt_39 ?_
    refine xCi (wr := [(o, .inr (9, [.ref p_places, .ref p_kinds, .ref p_values, .ref p_toldAt, .ref p_untoldAt, .ref p_standing, .ref p_rows, .ref p_longer, .int 0, .int p_time])), (t, .inr (8, [.ref k_name, .ref k_worth, .ref k_times, .ref k_first, .ref k_second, .ref k_beforeLast, .ref k_last, .ref k_errandOf, .ref k_errandAfter, .ref k_sound, .ref k_followers, .ref k_leaders, .int 0, .int k_errands, .int k_alikes, .int k_law])), (p_standing, .inl (cI, 12, .inl g))]) (win := []) hP hD hS hA [] [0, 1, 2] rfl rfl (by decide) (by decide) (va_runV (As := [.ref k_followers, .int (g (Int32.toNatClampNeg (nI (i - 1)))), .int 0]) (rest := [.int (g (Int32.toNatClampNeg (nI i))), .int (nI i), .ref p_standing]) ⟨hx, hb, hml, hown, hts⟩ (c_X9_gathered l D cB cI cJ cS cZ cO H.size o k_followers (g (Int32.toNatClampNeg (nI (i - 1)))) ) (cwV 3 hts gX9_standAt_X9_gathered rfl rfl rfl (by decide +kernel) ⟨Nat.le_of_ble_eq_true rfl, Nat.le_of_ble_eq_true rfl⟩) (xPreV (win := []) hN hK hP hD [] (by decide) rfl 0 9 rfl rfl rfl) rfl rfl hl.1 rfl (lv_room (Nat.le_of_ble_eq_true rfl)) dX9_standAt_42 ⟨Nat.le_of_ble_eq_true rfl, Nat.le_of_ble_eq_true rfl⟩) (fun r0 w0 H locs hw hP hD hS => ?_)
    obtain ⟨rfl, rfl⟩ := hw
    have hP : va_P D vwCl [(o, .inr (9, [.ref p_places, .ref p_kinds, .ref p_values, .ref p_toldAt, .ref p_untoldAt, .ref p_standing, .ref p_rows, .ref p_longer, .int 0, .int p_time])), (t, .inr (8, [.ref k_name, .ref k_worth, .ref k_times, .ref k_first, .ref k_second, .ref k_beforeLast, .ref k_last, .ref k_errandOf, .ref k_errandAfter, .ref k_sound, .ref k_followers, .ref k_leaders, .int 0, .int k_errands, .int k_alikes, .int k_law])), (p_standing, .inl (cI, 12, .inl g))] H := hP
    have hD : va_D A [(o, .inr (9, [.ref p_places, .ref p_kinds, .ref p_values, .ref p_toldAt, .ref p_untoldAt, .ref p_standing, .ref p_rows, .ref p_longer, .int 0, .int p_time])), (t, .inr (8, [.ref k_name, .ref k_worth, .ref k_times, .ref k_first, .ref k_second, .ref k_beforeLast, .ref k_last, .ref k_errandOf, .ref k_errandAfter, .ref k_sound, .ref k_followers, .ref k_leaders, .int 0, .int k_errands, .int k_alikes, .int k_law])), (p_standing, .inl (cI, 12, .inl g))] := hD
    refine lv_iand hx hb dX9_standAt_45 ?_
    refine va_iast hx hb hK hP hD hS 2 1 rfl rfl (vp_in_nI (by omega) (by decide)) dX9_standAt_46 (fun H locs hP hD hS => ?_)
    have hP : va_P D vwCl [(o, .inr (9, [.ref p_places, .ref p_kinds, .ref p_values, .ref p_toldAt, .ref p_untoldAt, .ref p_standing, .ref p_rows, .ref p_longer, .int 0, .int p_time])), (t, .inr (8, [.ref k_name, .ref k_worth, .ref k_times, .ref k_first, .ref k_second, .ref k_beforeLast, .ref k_last, .ref k_errandOf, .ref k_errandAfter, .ref k_sound, .ref k_followers, .ref k_leaders, .int 0, .int k_errands, .int k_alikes, .int k_law])), (p_standing, .inl (cI, 12, .inl (upd g (Int32.toNatClampNeg (nI i)) ((g (Int32.toNatClampNeg (nI i))) &&& 0))))] H := hP
    have hD : va_D A [(o, .inr (9, [.ref p_places, .ref p_kinds, .ref p_values, .ref p_toldAt, .ref p_untoldAt, .ref p_standing, .ref p_rows, .ref p_longer, .int 0, .int p_time])), (t, .inr (8, [.ref k_name, .ref k_worth, .ref k_times, .ref k_first, .ref k_second, .ref k_beforeLast, .ref k_last, .ref k_errandOf, .ref k_errandAfter, .ref k_sound, .ref k_followers, .ref k_leaders, .int 0, .int k_errands, .int k_alikes, .int k_law])), (p_standing, .inl (cI, 12, .inl (upd g (Int32.toNatClampNeg (nI i)) ((g (Int32.toNatClampNeg (nI i))) &&& 0))))] := hD
    generalize eg_4 : upd g (Int32.toNatClampNeg (nI i)) ((g (Int32.toNatClampNeg (nI i))) &&& 0) = g_4 at hP hD
    refine lv_iinc (v := nI (i + 1)) (lv' := [(5, .int (nI (i + 1))), (0, .ref o), (1, .ref t), (2, .int (nI (N + 1))), (3, .int (nI Q)), (4, .int y)]) hx hb dX9_standAt_47 hl (k := 0) rfl (nI_1 i) (by decide) rfl (fun ls hl => ?_)
    refine lv_goto (tgt := 10) hx hb dX9_standAt_50 (by decide) ?_
    exact kk _ _ _ ⟨g_4, hP, hD, hS, lv_sub hl [0, 1, 2, 3, 4, 5] rfl, (by omega), (up_zero hF10_1 (and_zero _) eg_4)⟩
  · obtain ⟨g, hP, hD, hS, hl, hF10_0, hF10_1⟩ := hI
    refine lv_iload hx hb dX9_standAt_10 (lv_at hl 0 rfl) ?_
    refine lv_iload_n hx hb dX9_standAt_12 rfl (lv_at hl 3 rfl) ?_
    refine lv_icmp_ge (tgt := 53) hx hb dX9_standAt_13 (by decide) (fun c_5 => ?_) (fun c_5 => absurd (nI_le (Nat.le_refl _) (by omega)) c_5)
    refine lv_iload_n hx hb dX9_standAt_53 rfl (lv_at hl 3 rfl) ?_
    refine lv_iconst (v := 2) hx hb dX9_standAt_54 (by decide) ?_
    refine lv_isub hx hb dX9_standAt_55 ?_
    refine xb_top (y := nI (N - 0) - 1) (by rw [Nat.sub_zero, ← nI_succ_sub2]) ?_
    refine lv_istore (lv' := [(5, .int (nI (N - 0) - 1)), (0, .ref o), (1, .ref t), (2, .int (nI (N + 1))), (3, .int (nI Q)), (4, .int y)]) hx hb dX9_standAt_56 hl (by decide) rfl (fun ls hl => ?_)
    refine xb_up (fun k H locs ls => ∃ g : Nat → Int32, va_P D vwCl [(o, .inr (9, [.ref p_places, .ref p_kinds, .ref p_values, .ref p_toldAt, .ref p_untoldAt, .ref p_standing, .ref p_rows, .ref p_longer, .int 0, .int p_time])), (t, .inr (8, [.ref k_name, .ref k_worth, .ref k_times, .ref k_first, .ref k_second, .ref k_beforeLast, .ref k_last, .ref k_errandOf, .ref k_errandAfter, .ref k_sound, .ref k_followers, .ref k_leaders, .int 0, .int k_errands, .int k_alikes, .int k_law])), (p_standing, .inl (cI, 12, .inl g))] H ∧ va_D A [(o, .inr (9, [.ref p_places, .ref p_kinds, .ref p_values, .ref p_toldAt, .ref p_untoldAt, .ref p_standing, .ref p_rows, .ref p_longer, .int 0, .int p_time])), (t, .inr (8, [.ref k_name, .ref k_worth, .ref k_times, .ref k_first, .ref k_second, .ref k_beforeLast, .ref k_last, .ref k_errandOf, .ref k_errandAfter, .ref k_sound, .ref k_followers, .ref k_leaders, .int 0, .int k_errands, .int k_alikes, .int k_law])), (p_standing, .inl (cI, 12, .inl g))] ∧ va_S A s.heap H locs ∧ lv_has ls 6 [(5, .int (nI (N - k) - 1)), (0, .ref o), (1, .ref t), (2, .int (nI (N + 1))), (3, .int (nI Q)), (4, .int y)] ∧ (∀ j : Nat, j < 12 → g j = 0)) (N - Q) 0 (Nat.zero_le _) ⟨g, hP, hD, hS, lv_sub hl [0, 1, 2, 3, 4, 5] rfl, hF10_1⟩ (fun k H locs ls hi hI kk => ?_) (fun H locs ls hI => ?_)
    · obtain ⟨g, hP, hD, hS, hl, hF58_0⟩ := hI
      obtain ⟨j, hj⟩ : ∃ j, N - k = j + 1 := ⟨N - k - 1, by omega⟩
      rw [hj, nI_pred] at hl
      refine lv_iload hx hb dX9_standAt_58 (lv_at hl 0 rfl) ?_
      refine lv_iload_n hx hb dX9_standAt_60 rfl (lv_at hl 4 rfl) ?_
      refine lv_icmp_lt (tgt := 101) hx hb dX9_standAt_61 (by decide) (fun c_6 => absurd c_6 (nI_nlt (by omega) (by omega))) (fun c_6 => ?_)
      refine lv_aload_n hx hb dX9_standAt_64 rfl (lv_at hl 1 rfl) ?_
      refine va_get (D := D) (ci := 9) (v := .ref p_standing) (C := RX9) (T := TX9) (N := 10) hx hb hts (by decide +kernel) hown hK hP 0 rfl rfl 5 (by decide) (hts (.fieldLink RX9 27 "LastLetter$Wall" "standing" "[I") (by decide +kernel)) (fun _ h9 => h9) rfl dX9_standAt_65 ?_
      refine lv_iload hx hb dX9_standAt_68 (lv_at hl 0 rfl) ?_
      refine lv_dup2_11 hx hb dX9_standAt_70 rfl rfl ?_
      refine va_iald hx hb hK hP 2 1 rfl rfl (vp_in_nI (by omega) (by decide)) dX9_standAt_71 ?_
      refine lv_aload_n hx hb dX9_standAt_72 rfl (lv_at hl 1 rfl) ?_
      refine lv_aload_n hx hb dX9_standAt_73 rfl (lv_at hl 2 rfl) ?_
      refine va_getN (D := D) (ci := 8) (v := .ref k_leaders) (C := RX8) (T := TX8) (N := 16) hx hb hts (by decide +kernel) hown hK hP 1 rfl rfl 11 (by decide) (va_Nw.use rfl (hN.1 (RX9, 69, RX8, "leaders", "[I", RX10) (by decide +kernel))) (fun _ h9 => h9) rfl dX9_standAt_74 ?_
      refine lv_aload_n hx hb dX9_standAt_77 rfl (lv_at hl 1 rfl) ?_
      refine va_get (D := D) (ci := 9) (v := .ref p_standing) (C := RX9) (T := TX9) (N := 10) hx hb hts (by decide +kernel) hown hK hP 0 rfl rfl 5 (by decide) (hts (.fieldLink RX9 27 "LastLetter$Wall" "standing" "[I") (by decide +kernel)) (fun _ h9 => h9) rfl dX9_standAt_78 ?_
      refine lv_iload hx hb dX9_standAt_81 (lv_at hl 0 rfl) ?_
      refine lv_iconst (v := 1) hx hb dX9_standAt_83 (by decide) ?_
      refine lv_iadd hx hb dX9_standAt_84 ?_
      refine xb_top (y := nI (j + 1)) (nI_1 j) ?_
      refine va_iald hx hb hK hP 2 1 rfl rfl (vp_in_nI (by omega) (by decide)) dX9_standAt_85 ?_
      refine lv_aload_n hx hb dX9_standAt_86 rfl (lv_at hl 2 rfl) ?_
      refine va_getN (D := D) (ci := 8) (v := .int 0) (C := RX8) (T := TX8) (N := 16) hx hb hts (by decide +kernel) hown hK hP 1 rfl rfl 12 (by decide) (va_Nw.use rfl (hN.1 (RX9, 48, RX8, "words", "I", RX10) (by decide +kernel))) (fun _ h9 => h9) rfl dX9_standAt_87 ?_
      refine xCi (wr := [(o, .inr (9, [.ref p_places, .ref p_kinds, .ref p_values, .ref p_toldAt, .ref p_untoldAt, .ref p_standing, .ref p_rows, .ref p_longer, .int 0, .int p_time])), (t, .inr (8, [.ref k_name, .ref k_worth, .ref k_times, .ref k_first, .ref k_second, .ref k_beforeLast, .ref k_last, .ref k_errandOf, .ref k_errandAfter, .ref k_sound, .ref k_followers, .ref k_leaders, .int 0, .int k_errands, .int k_alikes, .int k_law])), (p_standing, .inl (cI, 12, .inl g))]) (win := []) hP hD hS hA [] [0, 1, 2] rfl rfl (by decide) (by decide) (va_runV (As := [.ref k_leaders, .int (g (Int32.toNatClampNeg (nI (j + 1)))), .int 0]) (rest := [.int (g (Int32.toNatClampNeg (nI j))), .int (nI j), .ref p_standing]) ⟨hx, hb, hml, hown, hts⟩ (c_X9_gathered l D cB cI cJ cS cZ cO H.size o k_leaders (g (Int32.toNatClampNeg (nI (j + 1)))) ) (cwV 3 hts gX9_standAt_X9_gathered rfl rfl rfl (by decide +kernel) ⟨Nat.le_of_ble_eq_true rfl, Nat.le_of_ble_eq_true rfl⟩) (xPreV (win := []) hN hK hP hD [] (by decide) rfl 0 9 rfl rfl rfl) rfl rfl hl.1 rfl (lv_room (Nat.le_of_ble_eq_true rfl)) dX9_standAt_90 ⟨Nat.le_of_ble_eq_true rfl, Nat.le_of_ble_eq_true rfl⟩) (fun r0 w0 H locs hw hP hD hS => ?_)
      obtain ⟨rfl, rfl⟩ := hw
      have hP : va_P D vwCl [(o, .inr (9, [.ref p_places, .ref p_kinds, .ref p_values, .ref p_toldAt, .ref p_untoldAt, .ref p_standing, .ref p_rows, .ref p_longer, .int 0, .int p_time])), (t, .inr (8, [.ref k_name, .ref k_worth, .ref k_times, .ref k_first, .ref k_second, .ref k_beforeLast, .ref k_last, .ref k_errandOf, .ref k_errandAfter, .ref k_sound, .ref k_followers, .ref k_leaders, .int 0, .int k_errands, .int k_alikes, .int k_law])), (p_standing, .inl (cI, 12, .inl g))] H := hP
      have hD : va_D A [(o, .inr (9, [.ref p_places, .ref p_kinds, .ref p_values, .ref p_toldAt, .ref p_untoldAt, .ref p_standing, .ref p_rows, .ref p_longer, .int 0, .int p_time])), (t, .inr (8, [.ref k_name, .ref k_worth, .ref k_times, .ref k_first, .ref k_second, .ref k_beforeLast, .ref k_last, .ref k_errandOf, .ref k_errandAfter, .ref k_sound, .ref k_followers, .ref k_leaders, .int 0, .int k_errands, .int k_alikes, .int k_law])), (p_standing, .inl (cI, 12, .inl g))] := hD
      refine lv_iand hx hb dX9_standAt_93 ?_
      refine va_iast hx hb hK hP hD hS 2 1 rfl rfl (vp_in_nI (by omega) (by decide)) dX9_standAt_94 (fun H locs hP hD hS => ?_)
      have hP : va_P D vwCl [(o, .inr (9, [.ref p_places, .ref p_kinds, .ref p_values, .ref p_toldAt, .ref p_untoldAt, .ref p_standing, .ref p_rows, .ref p_longer, .int 0, .int p_time])), (t, .inr (8, [.ref k_name, .ref k_worth, .ref k_times, .ref k_first, .ref k_second, .ref k_beforeLast, .ref k_last, .ref k_errandOf, .ref k_errandAfter, .ref k_sound, .ref k_followers, .ref k_leaders, .int 0, .int k_errands, .int k_alikes, .int k_law])), (p_standing, .inl (cI, 12, .inl (upd g (Int32.toNatClampNeg (nI j)) ((g (Int32.toNatClampNeg (nI j))) &&& 0))))] H := hP
      have hD : va_D A [(o, .inr (9, [.ref p_places, .ref p_kinds, .ref p_values, .ref p_toldAt, .ref p_untoldAt, .ref p_standing, .ref p_rows, .ref p_longer, .int 0, .int p_time])), (t, .inr (8, [.ref k_name, .ref k_worth, .ref k_times, .ref k_first, .ref k_second, .ref k_beforeLast, .ref k_last, .ref k_errandOf, .ref k_errandAfter, .ref k_sound, .ref k_followers, .ref k_leaders, .int 0, .int k_errands, .int k_alikes, .int k_law])), (p_standing, .inl (cI, 12, .inl (upd g (Int32.toNatClampNeg (nI j)) ((g (Int32.toNatClampNeg (nI j))) &&& 0))))] := hD
      generalize eg_7 : upd g (Int32.toNatClampNeg (nI j)) ((g (Int32.toNatClampNeg (nI j))) &&& 0) = g_7 at hP hD
      refine lv_iinc (v := nI j - 1) (lv' := [(5, .int (nI j - 1)), (0, .ref o), (1, .ref t), (2, .int (nI (N + 1))), (3, .int (nI Q)), (4, .int y)]) hx hb dX9_standAt_95 hl (k := 0) rfl (by grind) (by decide) rfl (fun ls hl => ?_)
      refine lv_goto (tgt := 58) hx hb dX9_standAt_98 (by decide) ?_
      rw [show j = N - (k + 1) by omega] at hl
      exact kk _ _ _ ⟨g_7, hP, hD, hS, lv_sub hl [0, 1, 2, 3, 4, 5] rfl, (up_zero hF58_0 (and_zero _) eg_7)⟩
    · obtain ⟨g, hP, hD, hS, hl, hF58_0⟩ := hI
      refine lv_iload hx hb dX9_standAt_58 (lv_at hl 0 rfl) ?_
      refine lv_iload_n hx hb dX9_standAt_60 rfl (lv_at hl 4 rfl) ?_
      refine lv_icmp_lt (tgt := 101) hx hb dX9_standAt_61 (by decide) (fun c_8 => ?_) (fun c_8 => absurd (by rw [show N - (N - Q) = Q by omega]; exact nI_m1_lt (by omega)) c_8)
      refine lv_aload_n hx hb dX9_standAt_101 rfl (lv_at hl 1 rfl) ?_
      refine va_get (D := D) (ci := 9) (v := .ref p_standing) (C := RX9) (T := TX9) (N := 10) hx hb hts (by decide +kernel) hown hK hP 0 rfl rfl 5 (by decide) (hts (.fieldLink RX9 27 "LastLetter$Wall" "standing" "[I") (by decide +kernel)) (fun _ h9 => h9) rfl dX9_standAt_102 ?_
      refine lv_iload_n hx hb dX9_standAt_105 rfl (lv_at hl 4 rfl) ?_
      refine va_iald hx hb hK hP 2 1 rfl rfl (vp_in_nI (by omega) (by decide)) dX9_standAt_106 ?_
      refine xb_top (y := 0) (by rw [nI_clamp (by omega)]; exact hF58_0 _ (by omega)) ?_
      have hP9 := hP.sub (ws' := []) [] rfl
      have hD9 := hD.sub (ws' := []) [] (by decide) rfl
      refine W.widen (k := 0) (n := 0) (Nat.le_of_ble_eq_true rfl) (Nat.le_of_ble_eq_true rfl) ?_
      exact W.iret (v := 0) hx hb hr (fun tz htz hWz => ⟨⟨0, [], rfl, ⟨rfl, rfl⟩, by rw [htz]; exact hP9, va_K.moved hWz.alike hK, hD9⟩, hS.F htz⟩) hS.2.2 dX9_standAt_107
