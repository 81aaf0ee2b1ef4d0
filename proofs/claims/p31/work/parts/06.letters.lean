theorem dX1_balance_0 : decode cX1_balance 0 = .ok (.iconst 0, 1) := by decide +kernel
theorem dX1_balance_1 : decode cX1_balance 1 = .ok (.istore_n 3, 1) := by decide +kernel
theorem dX1_balance_2 : decode cX1_balance 2 = .ok (.iconst 0, 1) := by decide +kernel
theorem dX1_balance_3 : decode cX1_balance 3 = .ok (.istore 4, 2) := by decide +kernel
theorem dX1_balance_5 : decode cX1_balance 5 = .ok (.iload 4, 2) := by decide +kernel
theorem dX1_balance_7 : decode cX1_balance 7 = .ok (.aload_n 1, 1) := by decide +kernel
theorem dX1_balance_8 : decode cX1_balance 8 = .ok (.getfield 15, 3) := by decide +kernel
theorem dX1_balance_11 : decode cX1_balance 11 = .ok (.if_icmp .ge 47, 3) := by decide +kernel
theorem dX1_balance_14 : decode cX1_balance 14 = .ok (.aload_n 1, 1) := by decide +kernel
theorem dX1_balance_15 : decode cX1_balance 15 = .ok (.getfield 21, 3) := by decide +kernel
theorem dX1_balance_18 : decode cX1_balance 18 = .ok (.aload_n 1, 1) := by decide +kernel
theorem dX1_balance_19 : decode cX1_balance 19 = .ok (.getfield 24, 3) := by decide +kernel
theorem dX1_balance_22 : decode cX1_balance 22 = .ok (.iload 4, 2) := by decide +kernel
theorem dX1_balance_24 : decode cX1_balance 24 = .ok (.iaload, 1) := by decide +kernel
theorem dX1_balance_25 : decode cX1_balance 25 = .ok (.iaload, 1) := by decide +kernel
theorem dX1_balance_26 : decode cX1_balance 26 = .ok (.iload_n 2, 1) := by decide +kernel
theorem dX1_balance_27 : decode cX1_balance 27 = .ok (.if_icmp .ne 6, 3) := by decide +kernel
theorem dX1_balance_30 : decode cX1_balance 30 = .ok (.iinc 3 1, 3) := by decide +kernel
theorem dX1_balance_33 : decode cX1_balance 33 = .ok (.aload_n 1, 1) := by decide +kernel
theorem dX1_balance_34 : decode cX1_balance 34 = .ok (.getfield 21, 3) := by decide +kernel
theorem dX1_balance_37 : decode cX1_balance 37 = .ok (.aload_n 1, 1) := by decide +kernel
theorem dX1_balance_38 : decode cX1_balance 38 = .ok (.getfield 27, 3) := by decide +kernel
theorem dX1_balance_41 : decode cX1_balance 41 = .ok (.iload 4, 2) := by decide +kernel
theorem dX1_balance_43 : decode cX1_balance 43 = .ok (.iaload, 1) := by decide +kernel
theorem dX1_balance_44 : decode cX1_balance 44 = .ok (.iaload, 1) := by decide +kernel
theorem dX1_balance_45 : decode cX1_balance 45 = .ok (.iload_n 2, 1) := by decide +kernel
theorem dX1_balance_46 : decode cX1_balance 46 = .ok (.if_icmp .ne 6, 3) := by decide +kernel
theorem dX1_balance_49 : decode cX1_balance 49 = .ok (.iinc 3 (-1), 3) := by decide +kernel
theorem dX1_balance_52 : decode cX1_balance 52 = .ok (.iinc 4 1, 3) := by decide +kernel
theorem dX1_balance_55 : decode cX1_balance 55 = .ok (.goto (-50), 3) := by decide +kernel
theorem dX1_balance_58 : decode cX1_balance 58 = .ok (.iload_n 3, 1) := by decide +kernel
theorem dX1_balance_59 : decode cX1_balance 59 = .ok (.ireturn, 1) := by decide +kernel
theorem dX1_gather_0 : decode cX1_gather 0 = .ok (.aload_n 1, 1) := by decide +kernel
theorem dX1_gather_1 : decode cX1_gather 1 = .ok (.getfield 21, 3) := by decide +kernel
theorem dX1_gather_4 : decode cX1_gather 4 = .ok (.iconst 0, 1) := by decide +kernel
theorem dX1_gather_5 : decode cX1_gather 5 = .ok (.aload_n 0, 1) := by decide +kernel
theorem dX1_gather_6 : decode cX1_gather 6 = .ok (.getfield 9, 3) := by decide +kernel
theorem dX1_gather_9 : decode cX1_gather 9 = .ok (.iconst 0, 1) := by decide +kernel
theorem dX1_gather_10 : decode cX1_gather 10 = .ok (.bipush 26, 2) := by decide +kernel
theorem dX1_gather_12 : decode cX1_gather 12 = .ok (.invokestatic 48, 3) := by decide +kernel
theorem dX1_gather_15 : decode cX1_gather 15 = .ok (.iconst 0, 1) := by decide +kernel
theorem dX1_gather_16 : decode cX1_gather 16 = .ok (.istore_n 2, 1) := by decide +kernel
theorem dX1_gather_17 : decode cX1_gather 17 = .ok (.iload_n 2, 1) := by decide +kernel
theorem dX1_gather_18 : decode cX1_gather 18 = .ok (.aload_n 1, 1) := by decide +kernel
theorem dX1_gather_19 : decode cX1_gather 19 = .ok (.getfield 15, 3) := by decide +kernel
theorem dX1_gather_22 : decode cX1_gather 22 = .ok (.if_icmp .ge 70, 3) := by decide +kernel
theorem dX1_gather_25 : decode cX1_gather 25 = .ok (.aload_n 0, 1) := by decide +kernel
theorem dX1_gather_26 : decode cX1_gather 26 = .ok (.getfield 9, 3) := by decide +kernel
theorem dX1_gather_29 : decode cX1_gather 29 = .ok (.aload_n 1, 1) := by decide +kernel
theorem dX1_gather_30 : decode cX1_gather 30 = .ok (.getfield 24, 3) := by decide +kernel
theorem dX1_gather_33 : decode cX1_gather 33 = .ok (.iload_n 2, 1) := by decide +kernel
theorem dX1_gather_34 : decode cX1_gather 34 = .ok (.iaload, 1) := by decide +kernel
theorem dX1_gather_35 : decode cX1_gather 35 = .ok (.iaload, 1) := by decide +kernel
theorem dX1_gather_36 : decode cX1_gather 36 = .ok (.istore_n 3, 1) := by decide +kernel
theorem dX1_gather_37 : decode cX1_gather 37 = .ok (.aload_n 0, 1) := by decide +kernel
theorem dX1_gather_38 : decode cX1_gather 38 = .ok (.getfield 9, 3) := by decide +kernel
theorem dX1_gather_41 : decode cX1_gather 41 = .ok (.aload_n 1, 1) := by decide +kernel
theorem dX1_gather_42 : decode cX1_gather 42 = .ok (.getfield 27, 3) := by decide +kernel
theorem dX1_gather_45 : decode cX1_gather 45 = .ok (.iload_n 2, 1) := by decide +kernel
theorem dX1_gather_46 : decode cX1_gather 46 = .ok (.iaload, 1) := by decide +kernel
theorem dX1_gather_47 : decode cX1_gather 47 = .ok (.iaload, 1) := by decide +kernel
theorem dX1_gather_48 : decode cX1_gather 48 = .ok (.istore 4, 2) := by decide +kernel
theorem dX1_gather_50 : decode cX1_gather 50 = .ok (.iconst 0, 1) := by decide +kernel
theorem dX1_gather_51 : decode cX1_gather 51 = .ok (.istore 5, 2) := by decide +kernel
theorem dX1_gather_53 : decode cX1_gather 53 = .ok (.iload 5, 2) := by decide +kernel
theorem dX1_gather_55 : decode cX1_gather 55 = .ok (.bipush 26, 2) := by decide +kernel
theorem dX1_gather_57 : decode cX1_gather 57 = .ok (.if_icmp .ge 29, 3) := by decide +kernel
theorem dX1_gather_60 : decode cX1_gather 60 = .ok (.aload_n 0, 1) := by decide +kernel
theorem dX1_gather_61 : decode cX1_gather 61 = .ok (.getfield 9, 3) := by decide +kernel
theorem dX1_gather_64 : decode cX1_gather 64 = .ok (.iload 5, 2) := by decide +kernel
theorem dX1_gather_66 : decode cX1_gather 66 = .ok (.iaload, 1) := by decide +kernel
theorem dX1_gather_67 : decode cX1_gather 67 = .ok (.iload 4, 2) := by decide +kernel
theorem dX1_gather_69 : decode cX1_gather 69 = .ok (.if_icmp .ne 11, 3) := by decide +kernel
theorem dX1_gather_72 : decode cX1_gather 72 = .ok (.aload_n 0, 1) := by decide +kernel
theorem dX1_gather_73 : decode cX1_gather 73 = .ok (.getfield 9, 3) := by decide +kernel
theorem dX1_gather_76 : decode cX1_gather 76 = .ok (.iload 5, 2) := by decide +kernel
theorem dX1_gather_78 : decode cX1_gather 78 = .ok (.iload_n 3, 1) := by decide +kernel
theorem dX1_gather_79 : decode cX1_gather 79 = .ok (.iastore, 1) := by decide +kernel
theorem dX1_gather_80 : decode cX1_gather 80 = .ok (.iinc 5 1, 3) := by decide +kernel
theorem dX1_gather_83 : decode cX1_gather 83 = .ok (.goto (-30), 3) := by decide +kernel
theorem dX1_gather_86 : decode cX1_gather 86 = .ok (.iinc 2 1, 3) := by decide +kernel
theorem dX1_gather_89 : decode cX1_gather 89 = .ok (.goto (-72), 3) := by decide +kernel
theorem dX1_gather_92 : decode cX1_gather 92 = .ok (.return_, 1) := by decide +kernel
theorem dX1_hasWords_0 : decode cX1_hasWords 0 = .ok (.iconst 0, 1) := by decide +kernel
theorem dX1_hasWords_1 : decode cX1_hasWords 1 = .ok (.istore_n 3, 1) := by decide +kernel
theorem dX1_hasWords_2 : decode cX1_hasWords 2 = .ok (.iload_n 3, 1) := by decide +kernel
theorem dX1_hasWords_3 : decode cX1_hasWords 3 = .ok (.aload_n 1, 1) := by decide +kernel
theorem dX1_hasWords_4 : decode cX1_hasWords 4 = .ok (.getfield 15, 3) := by decide +kernel
theorem dX1_hasWords_7 : decode cX1_hasWords 7 = .ok (.if_icmp .ge 26, 3) := by decide +kernel
theorem dX1_hasWords_10 : decode cX1_hasWords 10 = .ok (.aload_n 0, 1) := by decide +kernel
theorem dX1_hasWords_11 : decode cX1_hasWords 11 = .ok (.getfield 9, 3) := by decide +kernel
theorem dX1_hasWords_14 : decode cX1_hasWords 14 = .ok (.aload_n 1, 1) := by decide +kernel
theorem dX1_hasWords_15 : decode cX1_hasWords 15 = .ok (.getfield 24, 3) := by decide +kernel
theorem dX1_hasWords_18 : decode cX1_hasWords 18 = .ok (.iload_n 3, 1) := by decide +kernel
theorem dX1_hasWords_19 : decode cX1_hasWords 19 = .ok (.iaload, 1) := by decide +kernel
theorem dX1_hasWords_20 : decode cX1_hasWords 20 = .ok (.iaload, 1) := by decide +kernel
theorem dX1_hasWords_21 : decode cX1_hasWords 21 = .ok (.iload_n 2, 1) := by decide +kernel
theorem dX1_hasWords_22 : decode cX1_hasWords 22 = .ok (.if_icmp .ne 5, 3) := by decide +kernel
theorem dX1_hasWords_25 : decode cX1_hasWords 25 = .ok (.iconst 1, 1) := by decide +kernel
theorem dX1_hasWords_26 : decode cX1_hasWords 26 = .ok (.ireturn, 1) := by decide +kernel
theorem dX1_hasWords_27 : decode cX1_hasWords 27 = .ok (.iinc 3 1, 3) := by decide +kernel
theorem dX1_hasWords_30 : decode cX1_hasWords 30 = .ok (.goto (-28), 3) := by decide +kernel
theorem dX1_hasWords_33 : decode cX1_hasWords 33 = .ok (.iconst 0, 1) := by decide +kernel
theorem dX1_hasWords_34 : decode cX1_hasWords 34 = .ok (.ireturn, 1) := by decide +kernel
theorem dX1_lacking_0 : decode cX1_lacking 0 = .ok (.aload_n 0, 1) := by decide +kernel
theorem dX1_lacking_1 : decode cX1_lacking 1 = .ok (.aload_n 1, 1) := by decide +kernel
theorem dX1_lacking_2 : decode cX1_lacking 2 = .ok (.invokevirtual 30, 3) := by decide +kernel
theorem dX1_lacking_5 : decode cX1_lacking 5 = .ok (.iconst 0, 1) := by decide +kernel
theorem dX1_lacking_6 : decode cX1_lacking 6 = .ok (.istore_n 2, 1) := by decide +kernel
theorem dX1_lacking_7 : decode cX1_lacking 7 = .ok (.iconst 0, 1) := by decide +kernel
theorem dX1_lacking_8 : decode cX1_lacking 8 = .ok (.istore_n 3, 1) := by decide +kernel
theorem dX1_lacking_9 : decode cX1_lacking 9 = .ok (.iload_n 3, 1) := by decide +kernel
theorem dX1_lacking_10 : decode cX1_lacking 10 = .ok (.bipush 26, 2) := by decide +kernel
theorem dX1_lacking_12 : decode cX1_lacking 12 = .ok (.if_icmp .ge 31, 3) := by decide +kernel
theorem dX1_lacking_15 : decode cX1_lacking 15 = .ok (.aload_n 0, 1) := by decide +kernel
theorem dX1_lacking_16 : decode cX1_lacking 16 = .ok (.aload_n 1, 1) := by decide +kernel
theorem dX1_lacking_17 : decode cX1_lacking 17 = .ok (.iload_n 3, 1) := by decide +kernel
theorem dX1_lacking_18 : decode cX1_lacking 18 = .ok (.invokevirtual 34, 3) := by decide +kernel
theorem dX1_lacking_21 : decode cX1_lacking 21 = .ok (.ifCond .eq 16, 3) := by decide +kernel
theorem dX1_lacking_24 : decode cX1_lacking 24 = .ok (.iload_n 2, 1) := by decide +kernel
theorem dX1_lacking_25 : decode cX1_lacking 25 = .ok (.iconst 1, 1) := by decide +kernel
theorem dX1_lacking_26 : decode cX1_lacking 26 = .ok (.aload_n 0, 1) := by decide +kernel
theorem dX1_lacking_27 : decode cX1_lacking 27 = .ok (.aload_n 1, 1) := by decide +kernel
theorem dX1_lacking_28 : decode cX1_lacking 28 = .ok (.iload_n 3, 1) := by decide +kernel
theorem dX1_lacking_29 : decode cX1_lacking 29 = .ok (.invokevirtual 38, 3) := by decide +kernel
theorem dX1_lacking_32 : decode cX1_lacking 32 = .ok (.invokestatic 42, 3) := by decide +kernel
theorem dX1_lacking_35 : decode cX1_lacking 35 = .ok (.iadd, 1) := by decide +kernel
theorem dX1_lacking_36 : decode cX1_lacking 36 = .ok (.istore_n 2, 1) := by decide +kernel
theorem dX1_lacking_37 : decode cX1_lacking 37 = .ok (.iinc 3 1, 3) := by decide +kernel
theorem dX1_lacking_40 : decode cX1_lacking 40 = .ok (.goto (-31), 3) := by decide +kernel
theorem dX1_lacking_43 : decode cX1_lacking 43 = .ok (.iconst 0, 1) := by decide +kernel
theorem dX1_lacking_44 : decode cX1_lacking 44 = .ok (.iload_n 2, 1) := by decide +kernel
theorem dX1_lacking_45 : decode cX1_lacking 45 = .ok (.iconst 1, 1) := by decide +kernel
theorem dX1_lacking_46 : decode cX1_lacking 46 = .ok (.isub, 1) := by decide +kernel
theorem dX1_lacking_47 : decode cX1_lacking 47 = .ok (.invokestatic 42, 3) := by decide +kernel
theorem dX1_lacking_50 : decode cX1_lacking 50 = .ok (.ireturn, 1) := by decide +kernel
theorem dX1_surplusOf_0 : decode cX1_surplusOf 0 = .ok (.iconst 0, 1) := by decide +kernel
theorem dX1_surplusOf_1 : decode cX1_surplusOf 1 = .ok (.istore_n 3, 1) := by decide +kernel
theorem dX1_surplusOf_2 : decode cX1_surplusOf 2 = .ok (.iconst 0, 1) := by decide +kernel
theorem dX1_surplusOf_3 : decode cX1_surplusOf 3 = .ok (.istore 4, 2) := by decide +kernel
theorem dX1_surplusOf_5 : decode cX1_surplusOf 5 = .ok (.iload 4, 2) := by decide +kernel
theorem dX1_surplusOf_7 : decode cX1_surplusOf 7 = .ok (.bipush 26, 2) := by decide +kernel
theorem dX1_surplusOf_9 : decode cX1_surplusOf 9 = .ok (.if_icmp .ge 46, 3) := by decide +kernel
theorem dX1_surplusOf_12 : decode cX1_surplusOf 12 = .ok (.aload_n 1, 1) := by decide +kernel
theorem dX1_surplusOf_13 : decode cX1_surplusOf 13 = .ok (.getfield 21, 3) := by decide +kernel
theorem dX1_surplusOf_16 : decode cX1_surplusOf 16 = .ok (.iload 4, 2) := by decide +kernel
theorem dX1_surplusOf_18 : decode cX1_surplusOf 18 = .ok (.iaload, 1) := by decide +kernel
theorem dX1_surplusOf_19 : decode cX1_surplusOf 19 = .ok (.iload 4, 2) := by decide +kernel
theorem dX1_surplusOf_21 : decode cX1_surplusOf 21 = .ok (.if_icmp .ne 28, 3) := by decide +kernel
theorem dX1_surplusOf_24 : decode cX1_surplusOf 24 = .ok (.aload_n 0, 1) := by decide +kernel
theorem dX1_surplusOf_25 : decode cX1_surplusOf 25 = .ok (.getfield 9, 3) := by decide +kernel
theorem dX1_surplusOf_28 : decode cX1_surplusOf 28 = .ok (.iload 4, 2) := by decide +kernel
theorem dX1_surplusOf_30 : decode cX1_surplusOf 30 = .ok (.iaload, 1) := by decide +kernel
theorem dX1_surplusOf_31 : decode cX1_surplusOf 31 = .ok (.iload_n 2, 1) := by decide +kernel
theorem dX1_surplusOf_32 : decode cX1_surplusOf 32 = .ok (.if_icmp .ne 17, 3) := by decide +kernel
theorem dX1_surplusOf_35 : decode cX1_surplusOf 35 = .ok (.iload_n 3, 1) := by decide +kernel
theorem dX1_surplusOf_36 : decode cX1_surplusOf 36 = .ok (.iconst 0, 1) := by decide +kernel
theorem dX1_surplusOf_37 : decode cX1_surplusOf 37 = .ok (.aload_n 0, 1) := by decide +kernel
theorem dX1_surplusOf_38 : decode cX1_surplusOf 38 = .ok (.aload_n 1, 1) := by decide +kernel
theorem dX1_surplusOf_39 : decode cX1_surplusOf 39 = .ok (.iload 4, 2) := by decide +kernel
theorem dX1_surplusOf_41 : decode cX1_surplusOf 41 = .ok (.invokevirtual 54, 3) := by decide +kernel
theorem dX1_surplusOf_44 : decode cX1_surplusOf 44 = .ok (.invokestatic 42, 3) := by decide +kernel
theorem dX1_surplusOf_47 : decode cX1_surplusOf 47 = .ok (.iadd, 1) := by decide +kernel
theorem dX1_surplusOf_48 : decode cX1_surplusOf 48 = .ok (.istore_n 3, 1) := by decide +kernel
theorem dX1_surplusOf_49 : decode cX1_surplusOf 49 = .ok (.iinc 4 1, 3) := by decide +kernel
theorem dX1_surplusOf_52 : decode cX1_surplusOf 52 = .ok (.goto (-47), 3) := by decide +kernel
theorem dX1_surplusOf_55 : decode cX1_surplusOf 55 = .ok (.iload_n 3, 1) := by decide +kernel
theorem dX1_surplusOf_56 : decode cX1_surplusOf 56 = .ok (.ireturn, 1) := by decide +kernel
theorem dX4_add_0 : decode cX4_add 0 = .ok (.aload_n 0, 1) := by decide +kernel
theorem dX4_add_1 : decode cX4_add 1 = .ok (.getfield 15, 3) := by decide +kernel
theorem dX4_add_4 : decode cX4_add 4 = .ok (.sipush 160, 3) := by decide +kernel
theorem dX4_add_7 : decode cX4_add 7 = .ok (.if_icmp .ge 23, 3) := by decide +kernel
theorem dX4_add_10 : decode cX4_add 10 = .ok (.aload_n 0, 1) := by decide +kernel
theorem dX4_add_11 : decode cX4_add 11 = .ok (.getfield 9, 3) := by decide +kernel
theorem dX4_add_14 : decode cX4_add 14 = .ok (.aload_n 0, 1) := by decide +kernel
theorem dX4_add_15 : decode cX4_add 15 = .ok (.getfield 15, 3) := by decide +kernel
theorem dX4_add_18 : decode cX4_add 18 = .ok (.iload_n 1, 1) := by decide +kernel
theorem dX4_add_19 : decode cX4_add 19 = .ok (.iastore, 1) := by decide +kernel
theorem dX4_add_20 : decode cX4_add 20 = .ok (.aload_n 0, 1) := by decide +kernel
theorem dX4_add_21 : decode cX4_add 21 = .ok (.dup, 1) := by decide +kernel
theorem dX4_add_22 : decode cX4_add 22 = .ok (.getfield 15, 3) := by decide +kernel
theorem dX4_add_25 : decode cX4_add 25 = .ok (.iconst 1, 1) := by decide +kernel
theorem dX4_add_26 : decode cX4_add 26 = .ok (.iadd, 1) := by decide +kernel
theorem dX4_add_27 : decode cX4_add 27 = .ok (.putfield 15, 3) := by decide +kernel
theorem dX4_add_30 : decode cX4_add 30 = .ok (.return_, 1) := by decide +kernel
set_option maxRecDepth 20000 in
theorem ggX1_lacking_X1_gather : GoodIn wsX1_lacking wsX1_gather := goodIn_r _ [9, 10, 11, 12, 13, 14, 27, 28, 29, 30, 31, 32, 33, 34, 35, 36, 37, 38, 39, 40, 41, 42, 43] (by decide +kernel) (by decide +kernel)
set_option maxRecDepth 20000 in
theorem gX1_lacking_X1_gather : GoodIn wsX1_lacking (wsV RX1 30 RX1 yX1_gather wsX1_gather) := goodIn_app (goodIn_of _ (by decide +kernel)) ggX1_lacking_X1_gather
set_option maxRecDepth 20000 in
theorem ggX1_lacking_X1_hasWords : GoodIn wsX1_lacking wsX1_hasWords := goodIn_r _ [18, 10, 27, 28, 29, 30, 31, 32, 33, 34, 35, 36, 37, 38, 39, 40, 41, 42, 43] (by decide +kernel) (by decide +kernel)
set_option maxRecDepth 20000 in
theorem gX1_lacking_X1_hasWords : GoodIn wsX1_lacking (wsV RX1 34 RX1 yX1_hasWords wsX1_hasWords) := goodIn_app (goodIn_of _ (by decide +kernel)) ggX1_lacking_X1_hasWords
set_option maxRecDepth 20000 in
theorem ggX1_lacking_X1_surplusOf : GoodIn wsX1_lacking wsX1_surplusOf := goodIn_r _ [22, 10, 1, 2, 3, 4, 23, 24, 25, 8, 26, 27, 28, 29, 30, 31, 32, 33, 34, 35, 36, 37, 38, 39, 40, 41, 42, 43] (by decide +kernel) (by decide +kernel)
set_option maxRecDepth 20000 in
theorem gX1_lacking_X1_surplusOf : GoodIn wsX1_lacking (wsV RX1 38 RX1 yX1_surplusOf wsX1_surplusOf) := goodIn_app (goodIn_of _ (by decide +kernel)) ggX1_lacking_X1_surplusOf
set_option maxRecDepth 20000 in
theorem ggX1_surplusOf_X1_balance : GoodIn wsX1_surplusOf wsX1_balance := goodIn_r _ [10, 11, 12, 13, 14, 15, 16, 17, 18, 19, 20, 21, 22, 23, 24, 25, 26] (by decide +kernel) (by decide +kernel)
set_option maxRecDepth 20000 in
theorem gX1_surplusOf_X1_balance : GoodIn wsX1_surplusOf (wsV RX1 54 RX1 yX1_balance wsX1_balance) := goodIn_app (goodIn_of _ (by decide +kernel)) ggX1_surplusOf_X1_balance
set_option maxHeartbeats 4000000 in
set_option maxRecDepth 100000 in
theorem c_X4_add (l : Launch) (D : va_G) (cB cI cJ cS cZ cO : ClassId) (sz : Nat) (o : Nat) (x : Int32) (rw_items : Nat) (rz : Nat) (fi : Nat → Int32) (hrz : rz ≤ 160) : Met l yX4_add wsX4_add ({ frames := 0, cells := 0, slots := 0, locals := 0 }) (xPre D (tyL cB cI cJ cS cZ cO) [(o, .inr (4, [.ref rw_items, .int (nI rz)])), (rw_items, .inl (cI, 160, .inl fi))] sz [.ref o, .int x]) (xQv D (tyL cB cI cJ cS cZ cO) (va_A [(o, .inr (4, [.ref rw_items, .int (nI rz)])), (rw_items, .inl (cI, 160, .inl fi))] sz) (fun u : va_W => ∃ rz2 : Nat, ∃ g : Nat → Int32, u = [(o, .inr (4, [.ref rw_items, .int (nI rz2)])), (rw_items, .inl (cI, 160, .inl g))] ∧ rz2 ≤ 160)) 0 0 (va_A [(o, .inr (4, [.ref rw_items, .int (nI rz)])), (rw_items, .inl (cI, 160, .inl fi))] sz) := by
  refine Met.ofW (cc := cX4_add) (maxL := 2) (ret := none) (by decide) rfl ?_
  intro p e s m args below meth c s₁ B hml hv
  obtain ⟨rfl, hsz, hP, hK, hD0, hN⟩ := hv
  have hx := B.exec
  have hb := B.bytes
  have hr := B.returns
  have hts := atoms_spec (ws := wsX4_add) B.pre
  have hown : s.vm.findClass RX4 = some m.cls := findClass_of_methodNamed B.named
  have hlocks := B.notSynchronized
  subst hsz
  have hD := hD0.self (sz := s.heap.size)
  generalize hAe : va_A [(o, .inr (4, [.ref rw_items, .int (nI rz)])), (rw_items, .inl (cI, 160, .inl fi))] s.heap.size = A at hD ⊢
  have hA : ∀ q : Nat, s.heap.size ≤ q → A q := fun q h => by rw [← hAe]; exact Or.inr h
  have hS : va_S A s.heap s.heap [] := va_S.rf
  have hP : va_P D vwCl [(o, .inr (4, [.ref rw_items, .int (nI rz)])), (rw_items, .inl (cI, 160, .inl fi))] s.heap := hP
  have hl := lv_entry ([.ref o, .int x]) (n := 2) (Nat.le_of_ble_eq_true rfl)
  rw [lg_entry_eq]
  generalize (lg_sl ([.ref o, .int x]) ++ List.replicate (2 - (lg_sl ([.ref o, .int x])).length) Slot.unset).toArray = ls at hl ⊢
  have hl : lv_has ls 2 [(0, .ref o), (1, .int x)] := hl
  refine lv_aload_n hx hb dX4_add_0 rfl (lv_at hl 0 rfl) ?_
  refine va_get (D := D) (ci := 4) (v := .int (nI rz)) (C := RX4) (T := TX4) (N := 2) hx hb hts (by decide +kernel) hown hK hP 0 rfl rfl 1 (by decide) (hts (.fieldLink RX4 15 "LastLetter$Row" "size" "I") (by decide +kernel)) (fun _ h9 => h9) rfl dX4_add_1 ?_
  refine lv_sipush (v := 160) hx hb dX4_add_4 (by decide) ?_
  refine lv_icmp_ge (tgt := 30) hx hb dX4_add_7 (by decide) (fun c_1 => ?_) (fun c_1 => ?_)
  · have dc_1 : 160 ≤ rz := (nI_leI (a := 160) (b := rz) (by omega) (by omega)).mp c_1
    have hP9 := hP.sub (ws' := [(o, .inr (4, [.ref rw_items, .int (nI rz)])), (rw_items, .inl (cI, 160, .inl fi))]) [0, 1] rfl
    have hD9 := hD.sub (ws' := [(o, .inr (4, [.ref rw_items, .int (nI rz)])), (rw_items, .inl (cI, 160, .inl fi))]) [0, 1] (by decide) rfl
    refine W.widen (k := 0) (n := 0) (Nat.le_of_ble_eq_true rfl) (Nat.le_of_ble_eq_true rfl) ?_
    exact W.vret hx hb hr (fun tz htz hWz => ⟨⟨[(o, .inr (4, [.ref rw_items, .int (nI rz)])), (rw_items, .inl (cI, 160, .inl fi))], rfl, ⟨rz, fi, rfl, (by first | assumption | omega)⟩, by rw [htz]; exact hP9, va_K.moved hWz.alike hK, hD9⟩, hS.F htz⟩) hS.2.2 dX4_add_30
  · have dc_1 : ¬ 160 ≤ rz := fun h => c_1 ((nI_leI (a := 160) (b := rz) (by omega) (by omega)).mpr h)
    refine lv_aload_n hx hb dX4_add_10 rfl (lv_at hl 0 rfl) ?_
    refine va_get (D := D) (ci := 4) (v := .ref rw_items) (C := RX4) (T := TX4) (N := 2) hx hb hts (by decide +kernel) hown hK hP 0 rfl rfl 0 (by decide) (hts (.fieldLink RX4 9 "LastLetter$Row" "items" "[I") (by decide +kernel)) (fun _ h9 => h9) rfl dX4_add_11 ?_
    refine lv_aload_n hx hb dX4_add_14 rfl (lv_at hl 0 rfl) ?_
    refine va_get (D := D) (ci := 4) (v := .int (nI rz)) (C := RX4) (T := TX4) (N := 2) hx hb hts (by decide +kernel) hown hK hP 0 rfl rfl 1 (by decide) (hts (.fieldLink RX4 15 "LastLetter$Row" "size" "I") (by decide +kernel)) (fun _ h9 => h9) rfl dX4_add_15 ?_
    refine lv_iload_n hx hb dX4_add_18 rfl (lv_at hl 1 rfl) ?_
    refine va_iast hx hb hK hP hD hS 1 1 rfl rfl (vp_in_nI (by omega) (by omega)) dX4_add_19 (fun H locs hP hD hS => ?_)
    have hP : va_P D vwCl [(o, .inr (4, [.ref rw_items, .int (nI rz)])), (rw_items, .inl (cI, 160, .inl (upd fi (Int32.toNatClampNeg (nI rz)) x)))] H := hP
    have hD : va_D A [(o, .inr (4, [.ref rw_items, .int (nI rz)])), (rw_items, .inl (cI, 160, .inl (upd fi (Int32.toNatClampNeg (nI rz)) x)))] := hD
    generalize eg_2 : upd fi (Int32.toNatClampNeg (nI rz)) x = g_2 at hP hD
    refine lv_aload_n hx hb dX4_add_20 rfl (lv_at hl 0 rfl) ?_
    refine lv_dup hx hb dX4_add_21 rfl ?_
    refine va_get (D := D) (ci := 4) (v := .int (nI rz)) (C := RX4) (T := TX4) (N := 2) hx hb hts (by decide +kernel) hown hK hP 0 rfl rfl 1 (by decide) (hts (.fieldLink RX4 15 "LastLetter$Row" "size" "I") (by decide +kernel)) (fun _ h9 => h9) rfl dX4_add_22 ?_
    refine lv_iconst (v := 1) hx hb dX4_add_25 (by decide) ?_
    refine lv_iadd hx hb dX4_add_26 ?_
    refine xb_top (y := nI (rz + 1)) (nI_add rz 1) ?_
    refine va_put (D := D) (ci := 4) (v := .int (nI (rz + 1))) (ty := .int) (C := RX4) (T := TX4) (N := 2) hx hb hts (by decide +kernel) tyX4 tyX4_ok nmX4 hown hK hP hD hS 0 rfl rfl 1 (by decide) (hts (.fieldLink RX4 15 "LastLetter$Row" "size" "I") (by decide +kernel)) (fun _ h9 => h9) rfl (by decide +kernel) rfl rfl (Nat.le_of_ble_eq_true rfl) dX4_add_27 (fun H locs hP hD hS => ?_)
    have hP : va_P D vwCl [(o, .inr (4, [.ref rw_items, .int (nI (rz + 1))])), (rw_items, .inl (cI, 160, .inl g_2))] H := hP
    have hD : va_D A [(o, .inr (4, [.ref rw_items, .int (nI (rz + 1))])), (rw_items, .inl (cI, 160, .inl g_2))] := hD
    have hP9 := hP.sub (ws' := [(o, .inr (4, [.ref rw_items, .int (nI (rz + 1))])), (rw_items, .inl (cI, 160, .inl g_2))]) [0, 1] rfl
    have hD9 := hD.sub (ws' := [(o, .inr (4, [.ref rw_items, .int (nI (rz + 1))])), (rw_items, .inl (cI, 160, .inl g_2))]) [0, 1] (by decide) rfl
    refine W.widen (k := 0) (n := 0) (Nat.le_of_ble_eq_true rfl) (Nat.le_of_ble_eq_true rfl) ?_
    exact W.vret hx hb hr (fun tz htz hWz => ⟨⟨[(o, .inr (4, [.ref rw_items, .int (nI (rz + 1))])), (rw_items, .inl (cI, 160, .inl g_2))], rfl, ⟨(rz + 1), g_2, rfl, (by first | assumption | omega)⟩, by rw [htz]; exact hP9, va_K.moved hWz.alike hK, hD9⟩, hS.F htz⟩) hS.2.2 dX4_add_30


set_option maxHeartbeats 4000000 in
set_option maxRecDepth 100000 in
theorem c_X1_balance (l : Launch) (D : va_G) (cB cI cJ cS cZ cO : ClassId) (sz : Nat) (o : Nat) (t : Nat) (x : Int32) (lt_group : Nat) (k_name : Nat) (k_worth : Nat) (k_times : Nat) (k_first : Nat) (k_second : Nat) (k_beforeLast : Nat) (k_last : Nat) (k_errandOf : Nat) (k_errandAfter : Nat) (k_sound : Nat) (k_followers : Nat) (k_leaders : Nat) (w : Nat) (k_errands : Int32) (k_alikes : Int32) (k_law : Int32) (f_first : Nat → Int32) (f_last : Nat → Int32) (f_sound : Nat → Int32) (hw : w ≤ 24) (hf : rgN f_first w 26) (hl1 : rgN f_last w 26) : Met l yX1_balance wsX1_balance ({ frames := 0, cells := 0, slots := 0, locals := 0 }) (xPre D (tyL cB cI cJ cS cZ cO) [(o, .inr (1, [.ref lt_group])), (t, .inr (8, [.ref k_name, .ref k_worth, .ref k_times, .ref k_first, .ref k_second, .ref k_beforeLast, .ref k_last, .ref k_errandOf, .ref k_errandAfter, .ref k_sound, .ref k_followers, .ref k_leaders, .int (nI w), .int k_errands, .int k_alikes, .int k_law])), (k_first, .inl (cI, 24, .inl f_first)), (k_last, .inl (cI, 24, .inl f_last)), (k_sound, .inl (cI, 26, .inl f_sound))] sz [.ref o, .ref t, .int x]) (xQi D (tyL cB cI cJ cS cZ cO) (va_A [(o, .inr (1, [.ref lt_group])), (t, .inr (8, [.ref k_name, .ref k_worth, .ref k_times, .ref k_first, .ref k_second, .ref k_beforeLast, .ref k_last, .ref k_errandOf, .ref k_errandAfter, .ref k_sound, .ref k_followers, .ref k_leaders, .int (nI w), .int k_errands, .int k_alikes, .int k_law])), (k_first, .inl (cI, 24, .inl f_first)), (k_last, .inl (cI, 24, .inl f_last)), (k_sound, .inl (cI, 26, .inl f_sound))] sz) (fun (r : Int32) (u : va_W) => u = [(o, .inr (1, [.ref lt_group])), (t, .inr (8, [.ref k_name, .ref k_worth, .ref k_times, .ref k_first, .ref k_second, .ref k_beforeLast, .ref k_last, .ref k_errandOf, .ref k_errandAfter, .ref k_sound, .ref k_followers, .ref k_leaders, .int (nI w), .int k_errands, .int k_alikes, .int k_law])), (k_first, .inl (cI, 24, .inl f_first)), (k_last, .inl (cI, 24, .inl f_last)), (k_sound, .inl (cI, 26, .inl f_sound))])) 0 0 (va_A [(o, .inr (1, [.ref lt_group])), (t, .inr (8, [.ref k_name, .ref k_worth, .ref k_times, .ref k_first, .ref k_second, .ref k_beforeLast, .ref k_last, .ref k_errandOf, .ref k_errandAfter, .ref k_sound, .ref k_followers, .ref k_leaders, .int (nI w), .int k_errands, .int k_alikes, .int k_law])), (k_first, .inl (cI, 24, .inl f_first)), (k_last, .inl (cI, 24, .inl f_last)), (k_sound, .inl (cI, 26, .inl f_sound))] sz) := by
  refine Met.ofW (cc := cX1_balance) (maxL := 5) (ret := (some .int)) (by decide) rfl ?_
  intro p e s m args below meth c s₁ B hml hv
  obtain ⟨rfl, hsz, hP, hK, hD0, hN⟩ := hv
  have hx := B.exec
  have hb := B.bytes
  have hr := B.returns
  have hts := atoms_spec (ws := wsX1_balance) B.pre
  have hown : s.vm.findClass RX1 = some m.cls := findClass_of_methodNamed B.named
  have hlocks := B.notSynchronized
  subst hsz
  have hD := hD0.self (sz := s.heap.size)
  generalize hAe : va_A [(o, .inr (1, [.ref lt_group])), (t, .inr (8, [.ref k_name, .ref k_worth, .ref k_times, .ref k_first, .ref k_second, .ref k_beforeLast, .ref k_last, .ref k_errandOf, .ref k_errandAfter, .ref k_sound, .ref k_followers, .ref k_leaders, .int (nI w), .int k_errands, .int k_alikes, .int k_law])), (k_first, .inl (cI, 24, .inl f_first)), (k_last, .inl (cI, 24, .inl f_last)), (k_sound, .inl (cI, 26, .inl f_sound))] s.heap.size = A at hD ⊢
  have hA : ∀ q : Nat, s.heap.size ≤ q → A q := fun q h => by rw [← hAe]; exact Or.inr h
  have hS : va_S A s.heap s.heap [] := va_S.rf
  have hP : va_P D vwCl [(o, .inr (1, [.ref lt_group])), (t, .inr (8, [.ref k_name, .ref k_worth, .ref k_times, .ref k_first, .ref k_second, .ref k_beforeLast, .ref k_last, .ref k_errandOf, .ref k_errandAfter, .ref k_sound, .ref k_followers, .ref k_leaders, .int (nI w), .int k_errands, .int k_alikes, .int k_law])), (k_first, .inl (cI, 24, .inl f_first)), (k_last, .inl (cI, 24, .inl f_last)), (k_sound, .inl (cI, 26, .inl f_sound))] s.heap := hP
  have hl := lv_entry ([.ref o, .ref t, .int x]) (n := 5) (Nat.le_of_ble_eq_true rfl)
  rw [lg_entry_eq]
  generalize (lg_sl ([.ref o, .ref t, .int x]) ++ List.replicate (5 - (lg_sl ([.ref o, .ref t, .int x])).length) Slot.unset).toArray = ls at hl ⊢
  have hl : lv_has ls 5 [(0, .ref o), (1, .ref t), (2, .int x)] := hl
  refine lv_iconst (v := 0) hx hb dX1_balance_0 (by decide) ?_
  refine lv_istore_n (lv' := [(3, .int 0), (0, .ref o), (1, .ref t), (2, .int x)]) hx hb dX1_balance_1 rfl hl (by decide) rfl (fun ls hl => ?_)
  refine lv_iconst (v := 0) hx hb dX1_balance_2 (by decide) ?_
  refine lv_istore (lv' := [(4, .int 0), (3, .int 0), (0, .ref o), (1, .ref t), (2, .int x)]) hx hb dX1_balance_3 hl (by decide) rfl (fun ls hl => ?_)
  refine xb_wh (fun (n9 : Nat) H locs ls => ∃ i : Nat, ∃ mo : Int32, (w - i) = n9 ∧ va_P D vwCl [(o, .inr (1, [.ref lt_group])), (t, .inr (8, [.ref k_name, .ref k_worth, .ref k_times, .ref k_first, .ref k_second, .ref k_beforeLast, .ref k_last, .ref k_errandOf, .ref k_errandAfter, .ref k_sound, .ref k_followers, .ref k_leaders, .int (nI w), .int k_errands, .int k_alikes, .int k_law])), (k_first, .inl (cI, 24, .inl f_first)), (k_last, .inl (cI, 24, .inl f_last)), (k_sound, .inl (cI, 26, .inl f_sound))] H ∧ va_D A [(o, .inr (1, [.ref lt_group])), (t, .inr (8, [.ref k_name, .ref k_worth, .ref k_times, .ref k_first, .ref k_second, .ref k_beforeLast, .ref k_last, .ref k_errandOf, .ref k_errandAfter, .ref k_sound, .ref k_followers, .ref k_leaders, .int (nI w), .int k_errands, .int k_alikes, .int k_law])), (k_first, .inl (cI, 24, .inl f_first)), (k_last, .inl (cI, 24, .inl f_last)), (k_sound, .inl (cI, 26, .inl f_sound))] ∧ va_S A s.heap H locs ∧ lv_has ls 5 [(4, .int (nI i)), (3, .int mo), (0, .ref o), (1, .ref t), (2, .int x)] ∧ (i ≤ w)) ⟨0, 0, rfl, hP, hD, hS, lv_sub hl [0, 1, 2, 3, 4] rfl, (by first | assumption | omega)⟩ (fun n9 H locs ls hI kk_5 => ?_)
  obtain ⟨i, mo, hn_5, hP, hD, hS, hl, hF_h_1⟩ := hI
  refine lv_iload hx hb dX1_balance_5 (lv_at hl 0 rfl) ?_
  refine lv_aload_n hx hb dX1_balance_7 rfl (lv_at hl 3 rfl) ?_
  refine va_getN (D := D) (ci := 8) (v := .int (nI w)) (C := RX8) (T := TX8) (N := 16) hx hb hts (by decide +kernel) hown hK hP 1 rfl rfl 12 (by decide) (va_Nw.use rfl (hN.1 (RX1, 15, RX8, "words", "I", RX10) (by decide +kernel))) (fun _ h9 => h9) rfl dX1_balance_8 ?_
  refine lv_icmp_ge (tgt := 58) hx hb dX1_balance_11 (by decide) (fun c_2 => ?_) (fun c_2 => ?_)
  · have dc_2 : w ≤ i := (nI_leI (a := w) (b := i) (by omega) (by omega)).mp c_2
    refine lv_iload_n hx hb dX1_balance_58 rfl (lv_at hl 1 rfl) ?_
    have hP9 := hP.sub (ws' := [(o, .inr (1, [.ref lt_group])), (t, .inr (8, [.ref k_name, .ref k_worth, .ref k_times, .ref k_first, .ref k_second, .ref k_beforeLast, .ref k_last, .ref k_errandOf, .ref k_errandAfter, .ref k_sound, .ref k_followers, .ref k_leaders, .int (nI w), .int k_errands, .int k_alikes, .int k_law])), (k_first, .inl (cI, 24, .inl f_first)), (k_last, .inl (cI, 24, .inl f_last)), (k_sound, .inl (cI, 26, .inl f_sound))]) [0, 1, 2, 3, 4] rfl
    have hD9 := hD.sub (ws' := [(o, .inr (1, [.ref lt_group])), (t, .inr (8, [.ref k_name, .ref k_worth, .ref k_times, .ref k_first, .ref k_second, .ref k_beforeLast, .ref k_last, .ref k_errandOf, .ref k_errandAfter, .ref k_sound, .ref k_followers, .ref k_leaders, .int (nI w), .int k_errands, .int k_alikes, .int k_law])), (k_first, .inl (cI, 24, .inl f_first)), (k_last, .inl (cI, 24, .inl f_last)), (k_sound, .inl (cI, 26, .inl f_sound))]) [0, 1, 2, 3, 4] (by decide) rfl
    refine W.widen (k := 0) (n := 0) (Nat.le_of_ble_eq_true rfl) (Nat.le_of_ble_eq_true rfl) ?_
    exact W.iret (v := mo) hx hb hr (fun tz htz hWz => ⟨⟨mo, [(o, .inr (1, [.ref lt_group])), (t, .inr (8, [.ref k_name, .ref k_worth, .ref k_times, .ref k_first, .ref k_second, .ref k_beforeLast, .ref k_last, .ref k_errandOf, .ref k_errandAfter, .ref k_sound, .ref k_followers, .ref k_leaders, .int (nI w), .int k_errands, .int k_alikes, .int k_law])), (k_first, .inl (cI, 24, .inl f_first)), (k_last, .inl (cI, 24, .inl f_last)), (k_sound, .inl (cI, 26, .inl f_sound))], rfl, rfl, by rw [htz]; exact hP9, va_K.moved hWz.alike hK, hD9⟩, hS.F htz⟩) hS.2.2 dX1_balance_59
  · have dc_2 : ¬ w ≤ i := fun h => c_2 ((nI_leI (a := w) (b := i) (by omega) (by omega)).mpr h)
    refine lv_aload_n hx hb dX1_balance_14 rfl (lv_at hl 3 rfl) ?_
    refine va_getN (D := D) (ci := 8) (v := .ref k_sound) (C := RX8) (T := TX8) (N := 16) hx hb hts (by decide +kernel) hown hK hP 1 rfl rfl 9 (by decide) (va_Nw.use rfl (hN.1 (RX1, 21, RX8, "sound", "[I", RX10) (by decide +kernel))) (fun _ h9 => h9) rfl dX1_balance_15 ?_
    refine lv_aload_n hx hb dX1_balance_18 rfl (lv_at hl 3 rfl) ?_
    refine va_getN (D := D) (ci := 8) (v := .ref k_first) (C := RX8) (T := TX8) (N := 16) hx hb hts (by decide +kernel) hown hK hP 1 rfl rfl 3 (by decide) (va_Nw.use rfl (hN.1 (RX1, 24, RX8, "first", "[I", RX10) (by decide +kernel))) (fun _ h9 => h9) rfl dX1_balance_19 ?_
    refine lv_iload hx hb dX1_balance_22 (lv_at hl 0 rfl) ?_
    refine va_iald hx hb hK hP 2 1 rfl rfl (vp_in_nI (by omega) (by omega)) dX1_balance_24 ?_
    refine xb_top (y := f_first i) (by rw [nI_clamp (by omega)]) ?_
    obtain ⟨q_3, hq_3, eq_3⟩ := hf i (by omega)
    refine xb_top (y := nI q_3) eq_3 ?_
    refine va_iald hx hb hK hP 4 1 rfl rfl (vp_in_nI (by omega) (by omega)) dX1_balance_25 ?_
    refine xb_top (y := f_sound q_3) (by rw [nI_clamp (by omega)]) ?_
    refine lv_iload_n hx hb dX1_balance_26 rfl (lv_at hl 4 rfl) ?_
    refine lv_icmp_ne (tgt := 33) hx hb dX1_balance_27 (by decide) (fun c_4 => ?_) (fun c_4 => ?_)
    · refine lv_aload_n hx hb dX1_balance_33 rfl (lv_at hl 3 rfl) ?_
      refine va_getN (D := D) (ci := 8) (v := .ref k_sound) (C := RX8) (T := TX8) (N := 16) hx hb hts (by decide +kernel) hown hK hP 1 rfl rfl 9 (by decide) (va_Nw.use rfl (hN.1 (RX1, 21, RX8, "sound", "[I", RX10) (by decide +kernel))) (fun _ h9 => h9) rfl dX1_balance_34 ?_
      refine lv_aload_n hx hb dX1_balance_37 rfl (lv_at hl 3 rfl) ?_
      refine va_getN (D := D) (ci := 8) (v := .ref k_last) (C := RX8) (T := TX8) (N := 16) hx hb hts (by decide +kernel) hown hK hP 1 rfl rfl 6 (by decide) (va_Nw.use rfl (hN.1 (RX1, 27, RX8, "last", "[I", RX10) (by decide +kernel))) (fun _ h9 => h9) rfl dX1_balance_38 ?_
      refine lv_iload hx hb dX1_balance_41 (lv_at hl 0 rfl) ?_
      refine va_iald hx hb hK hP 3 1 rfl rfl (vp_in_nI (by omega) (by omega)) dX1_balance_43 ?_
      refine xb_top (y := f_last i) (by rw [nI_clamp (by omega)]) ?_
      obtain ⟨q_5, hq_5, eq_5⟩ := hl1 i (by omega)
      refine xb_top (y := nI q_5) eq_5 ?_
      refine va_iald hx hb hK hP 4 1 rfl rfl (vp_in_nI (by omega) (by omega)) dX1_balance_44 ?_
      refine xb_top (y := f_sound q_5) (by rw [nI_clamp (by omega)]) ?_
      refine lv_iload_n hx hb dX1_balance_45 rfl (lv_at hl 4 rfl) ?_
      refine lv_icmp_ne (tgt := 52) hx hb dX1_balance_46 (by decide) (fun c_6 => ?_) (fun c_6 => ?_)
      · refine lv_iinc (v := nI (i + 1)) (lv' := [(4, .int (nI (i + 1))), (3, .int mo), (0, .ref o), (1, .ref t), (2, .int x)]) hx hb dX1_balance_52 hl (k := 0) rfl (nI_1 i) (by decide) rfl (fun ls hl => ?_)
        refine lv_goto (tgt := 5) hx hb dX1_balance_55 (by decide) ?_
        exact kk_5 _ _ _ _ (by rw [← hn_5]; omega) ⟨(i + 1), mo, rfl, hP, hD, hS, lv_sub hl [0, 1, 2, 3, 4] rfl, (by first | assumption | omega)⟩
      · refine lv_iinc (v := mo + (-1)) (lv' := [(3, .int (mo + (-1))), (4, .int (nI i)), (0, .ref o), (1, .ref t), (2, .int x)]) hx hb dX1_balance_49 hl (k := 1) rfl rfl (by decide) rfl (fun ls hl => ?_)
        refine lv_iinc (v := nI (i + 1)) (lv' := [(4, .int (nI (i + 1))), (3, .int (mo + (-1))), (0, .ref o), (1, .ref t), (2, .int x)]) hx hb dX1_balance_52 hl (k := 1) rfl (nI_1 i) (by decide) rfl (fun ls hl => ?_)
        refine lv_goto (tgt := 5) hx hb dX1_balance_55 (by decide) ?_
        exact kk_5 _ _ _ _ (by rw [← hn_5]; omega) ⟨(i + 1), (mo + (-1)), rfl, hP, hD, hS, lv_sub hl [0, 1, 2, 3, 4] rfl, (by first | assumption | omega)⟩
    · refine lv_iinc (v := mo + 1) (lv' := [(3, .int (mo + 1)), (4, .int (nI i)), (0, .ref o), (1, .ref t), (2, .int x)]) hx hb dX1_balance_30 hl (k := 1) rfl rfl (by decide) rfl (fun ls hl => ?_)
      refine lv_aload_n hx hb dX1_balance_33 rfl (lv_at hl 3 rfl) ?_
      refine va_getN (D := D) (ci := 8) (v := .ref k_sound) (C := RX8) (T := TX8) (N := 16) hx hb hts (by decide +kernel) hown hK hP 1 rfl rfl 9 (by decide) (va_Nw.use rfl (hN.1 (RX1, 21, RX8, "sound", "[I", RX10) (by decide +kernel))) (fun _ h9 => h9) rfl dX1_balance_34 ?_
      refine lv_aload_n hx hb dX1_balance_37 rfl (lv_at hl 3 rfl) ?_
      refine va_getN (D := D) (ci := 8) (v := .ref k_last) (C := RX8) (T := TX8) (N := 16) hx hb hts (by decide +kernel) hown hK hP 1 rfl rfl 6 (by decide) (va_Nw.use rfl (hN.1 (RX1, 27, RX8, "last", "[I", RX10) (by decide +kernel))) (fun _ h9 => h9) rfl dX1_balance_38 ?_
      refine lv_iload hx hb dX1_balance_41 (lv_at hl 1 rfl) ?_
      refine va_iald hx hb hK hP 3 1 rfl rfl (vp_in_nI (by omega) (by omega)) dX1_balance_43 ?_
      refine xb_top (y := f_last i) (by rw [nI_clamp (by omega)]) ?_
      obtain ⟨q_7, hq_7, eq_7⟩ := hl1 i (by omega)
      refine xb_top (y := nI q_7) eq_7 ?_
      refine va_iald hx hb hK hP 4 1 rfl rfl (vp_in_nI (by omega) (by omega)) dX1_balance_44 ?_
      refine xb_top (y := f_sound q_7) (by rw [nI_clamp (by omega)]) ?_
      refine lv_iload_n hx hb dX1_balance_45 rfl (lv_at hl 4 rfl) ?_
      refine lv_icmp_ne (tgt := 52) hx hb dX1_balance_46 (by decide) (fun c_8 => ?_) (fun c_8 => ?_)
      · refine lv_iinc (v := nI (i + 1)) (lv' := [(4, .int (nI (i + 1))), (3, .int (mo + 1)), (0, .ref o), (1, .ref t), (2, .int x)]) hx hb dX1_balance_52 hl (k := 1) rfl (nI_1 i) (by decide) rfl (fun ls hl => ?_)
        refine lv_goto (tgt := 5) hx hb dX1_balance_55 (by decide) ?_
        exact kk_5 _ _ _ _ (by rw [← hn_5]; omega) ⟨(i + 1), (mo + 1), rfl, hP, hD, hS, lv_sub hl [0, 1, 2, 3, 4] rfl, (by first | assumption | omega)⟩
      · refine lv_iinc (v := (mo + 1) + (-1)) (lv' := [(3, .int ((mo + 1) + (-1))), (4, .int (nI i)), (0, .ref o), (1, .ref t), (2, .int x)]) hx hb dX1_balance_49 hl (k := 0) rfl rfl (by decide) rfl (fun ls hl => ?_)
        refine lv_iinc (v := nI (i + 1)) (lv' := [(4, .int (nI (i + 1))), (3, .int ((mo + 1) + (-1))), (0, .ref o), (1, .ref t), (2, .int x)]) hx hb dX1_balance_52 hl (k := 1) rfl (nI_1 i) (by decide) rfl (fun ls hl => ?_)
        refine lv_goto (tgt := 5) hx hb dX1_balance_55 (by decide) ?_
        exact kk_5 _ _ _ _ (by rw [← hn_5]; omega) ⟨(i + 1), ((mo + 1) + (-1)), rfl, hP, hD, hS, lv_sub hl [0, 1, 2, 3, 4] rfl, (by first | assumption | omega)⟩

set_option maxHeartbeats 4000000 in
set_option maxRecDepth 100000 in
theorem c_X1_hasWords (l : Launch) (D : va_G) (cB cI cJ cS cZ cO : ClassId) (sz : Nat) (o : Nat) (t : Nat) (x : Int32) (lt_group : Nat) (k_name : Nat) (k_worth : Nat) (k_times : Nat) (k_first : Nat) (k_second : Nat) (k_beforeLast : Nat) (k_last : Nat) (k_errandOf : Nat) (k_errandAfter : Nat) (k_sound : Nat) (k_followers : Nat) (k_leaders : Nat) (w : Nat) (k_errands : Int32) (k_alikes : Int32) (k_law : Int32) (f_first : Nat → Int32) (fg : Nat → Int32) (hw : w ≤ 24) (hf : rgN f_first w 26) : Met l yX1_hasWords wsX1_hasWords ({ frames := 0, cells := 0, slots := 0, locals := 0 }) (xPre D (tyL cB cI cJ cS cZ cO) [(o, .inr (1, [.ref lt_group])), (t, .inr (8, [.ref k_name, .ref k_worth, .ref k_times, .ref k_first, .ref k_second, .ref k_beforeLast, .ref k_last, .ref k_errandOf, .ref k_errandAfter, .ref k_sound, .ref k_followers, .ref k_leaders, .int (nI w), .int k_errands, .int k_alikes, .int k_law])), (k_first, .inl (cI, 24, .inl f_first)), (lt_group, .inl (cI, 26, .inl fg))] sz [.ref o, .ref t, .int x]) (xQi D (tyL cB cI cJ cS cZ cO) (va_A [(o, .inr (1, [.ref lt_group])), (t, .inr (8, [.ref k_name, .ref k_worth, .ref k_times, .ref k_first, .ref k_second, .ref k_beforeLast, .ref k_last, .ref k_errandOf, .ref k_errandAfter, .ref k_sound, .ref k_followers, .ref k_leaders, .int (nI w), .int k_errands, .int k_alikes, .int k_law])), (k_first, .inl (cI, 24, .inl f_first)), (lt_group, .inl (cI, 26, .inl fg))] sz) (fun (r : Int32) (u : va_W) => u = [(o, .inr (1, [.ref lt_group])), (t, .inr (8, [.ref k_name, .ref k_worth, .ref k_times, .ref k_first, .ref k_second, .ref k_beforeLast, .ref k_last, .ref k_errandOf, .ref k_errandAfter, .ref k_sound, .ref k_followers, .ref k_leaders, .int (nI w), .int k_errands, .int k_alikes, .int k_law])), (k_first, .inl (cI, 24, .inl f_first)), (lt_group, .inl (cI, 26, .inl fg))] ∧ (r = 0 ∨ r = 1))) 0 0 (va_A [(o, .inr (1, [.ref lt_group])), (t, .inr (8, [.ref k_name, .ref k_worth, .ref k_times, .ref k_first, .ref k_second, .ref k_beforeLast, .ref k_last, .ref k_errandOf, .ref k_errandAfter, .ref k_sound, .ref k_followers, .ref k_leaders, .int (nI w), .int k_errands, .int k_alikes, .int k_law])), (k_first, .inl (cI, 24, .inl f_first)), (lt_group, .inl (cI, 26, .inl fg))] sz) := by
  refine Met.ofW (cc := cX1_hasWords) (maxL := 4) (ret := (some .boolean)) (by decide) rfl ?_
  intro p e s m args below meth c s₁ B hml hv
  obtain ⟨rfl, hsz, hP, hK, hD0, hN⟩ := hv
  have hx := B.exec
  have hb := B.bytes
  have hr := B.returns
  have hts := atoms_spec (ws := wsX1_hasWords) B.pre
  have hown : s.vm.findClass RX1 = some m.cls := findClass_of_methodNamed B.named
  have hlocks := B.notSynchronized
  subst hsz
  have hD := hD0.self (sz := s.heap.size)
  generalize hAe : va_A [(o, .inr (1, [.ref lt_group])), (t, .inr (8, [.ref k_name, .ref k_worth, .ref k_times, .ref k_first, .ref k_second, .ref k_beforeLast, .ref k_last, .ref k_errandOf, .ref k_errandAfter, .ref k_sound, .ref k_followers, .ref k_leaders, .int (nI w), .int k_errands, .int k_alikes, .int k_law])), (k_first, .inl (cI, 24, .inl f_first)), (lt_group, .inl (cI, 26, .inl fg))] s.heap.size = A at hD ⊢
  have hA : ∀ q : Nat, s.heap.size ≤ q → A q := fun q h => by rw [← hAe]; exact Or.inr h
  have hS : va_S A s.heap s.heap [] := va_S.rf
  have hP : va_P D vwCl [(o, .inr (1, [.ref lt_group])), (t, .inr (8, [.ref k_name, .ref k_worth, .ref k_times, .ref k_first, .ref k_second, .ref k_beforeLast, .ref k_last, .ref k_errandOf, .ref k_errandAfter, .ref k_sound, .ref k_followers, .ref k_leaders, .int (nI w), .int k_errands, .int k_alikes, .int k_law])), (k_first, .inl (cI, 24, .inl f_first)), (lt_group, .inl (cI, 26, .inl fg))] s.heap := hP
  have hl := lv_entry ([.ref o, .ref t, .int x]) (n := 4) (Nat.le_of_ble_eq_true rfl)
  rw [lg_entry_eq]
  generalize (lg_sl ([.ref o, .ref t, .int x]) ++ List.replicate (4 - (lg_sl ([.ref o, .ref t, .int x])).length) Slot.unset).toArray = ls at hl ⊢
  have hl : lv_has ls 4 [(0, .ref o), (1, .ref t), (2, .int x)] := hl
  refine lv_iconst (v := 0) hx hb dX1_hasWords_0 (by decide) ?_
  refine lv_istore_n (lv' := [(3, .int 0), (0, .ref o), (1, .ref t), (2, .int x)]) hx hb dX1_hasWords_1 rfl hl (by decide) rfl (fun ls hl => ?_)
  refine xb_wh (fun (n9 : Nat) H locs ls => ∃ i : Nat, (w - i) = n9 ∧ va_P D vwCl [(o, .inr (1, [.ref lt_group])), (t, .inr (8, [.ref k_name, .ref k_worth, .ref k_times, .ref k_first, .ref k_second, .ref k_beforeLast, .ref k_last, .ref k_errandOf, .ref k_errandAfter, .ref k_sound, .ref k_followers, .ref k_leaders, .int (nI w), .int k_errands, .int k_alikes, .int k_law])), (k_first, .inl (cI, 24, .inl f_first)), (lt_group, .inl (cI, 26, .inl fg))] H ∧ va_D A [(o, .inr (1, [.ref lt_group])), (t, .inr (8, [.ref k_name, .ref k_worth, .ref k_times, .ref k_first, .ref k_second, .ref k_beforeLast, .ref k_last, .ref k_errandOf, .ref k_errandAfter, .ref k_sound, .ref k_followers, .ref k_leaders, .int (nI w), .int k_errands, .int k_alikes, .int k_law])), (k_first, .inl (cI, 24, .inl f_first)), (lt_group, .inl (cI, 26, .inl fg))] ∧ va_S A s.heap H locs ∧ lv_has ls 4 [(3, .int (nI i)), (0, .ref o), (1, .ref t), (2, .int x)] ∧ (i ≤ w)) ⟨0, rfl, hP, hD, hS, lv_sub hl [0, 1, 2, 3] rfl, (by first | assumption | omega)⟩ (fun n9 H locs ls hI kk_2 => ?_)
  obtain ⟨i, hn_2, hP, hD, hS, hl, hF_h_1⟩ := hI
  refine lv_iload_n hx hb dX1_hasWords_2 rfl (lv_at hl 0 rfl) ?_
  refine lv_aload_n hx hb dX1_hasWords_3 rfl (lv_at hl 2 rfl) ?_
  refine va_getN (D := D) (ci := 8) (v := .int (nI w)) (C := RX8) (T := TX8) (N := 16) hx hb hts (by decide +kernel) hown hK hP 1 rfl rfl 12 (by decide) (va_Nw.use rfl (hN.1 (RX1, 15, RX8, "words", "I", RX10) (by decide +kernel))) (fun _ h9 => h9) rfl dX1_hasWords_4 ?_
  refine lv_icmp_ge (tgt := 33) hx hb dX1_hasWords_7 (by decide) (fun c_2 => ?_) (fun c_2 => ?_)
  · have dc_2 : w ≤ i := (nI_leI (a := w) (b := i) (by omega) (by omega)).mp c_2
    refine lv_iconst (v := 0) hx hb dX1_hasWords_33 (by decide) ?_
    have hP9 := hP.sub (ws' := [(o, .inr (1, [.ref lt_group])), (t, .inr (8, [.ref k_name, .ref k_worth, .ref k_times, .ref k_first, .ref k_second, .ref k_beforeLast, .ref k_last, .ref k_errandOf, .ref k_errandAfter, .ref k_sound, .ref k_followers, .ref k_leaders, .int (nI w), .int k_errands, .int k_alikes, .int k_law])), (k_first, .inl (cI, 24, .inl f_first)), (lt_group, .inl (cI, 26, .inl fg))]) [0, 1, 2, 3] rfl
    have hD9 := hD.sub (ws' := [(o, .inr (1, [.ref lt_group])), (t, .inr (8, [.ref k_name, .ref k_worth, .ref k_times, .ref k_first, .ref k_second, .ref k_beforeLast, .ref k_last, .ref k_errandOf, .ref k_errandAfter, .ref k_sound, .ref k_followers, .ref k_leaders, .int (nI w), .int k_errands, .int k_alikes, .int k_law])), (k_first, .inl (cI, 24, .inl f_first)), (lt_group, .inl (cI, 26, .inl fg))]) [0, 1, 2, 3] (by decide) rfl
    refine W.widen (k := 0) (n := 0) (Nat.le_of_ble_eq_true rfl) (Nat.le_of_ble_eq_true rfl) ?_
    exact W.zret (v := 0) hx hb hr (by decide) (fun tz htz hWz => ⟨⟨0, [(o, .inr (1, [.ref lt_group])), (t, .inr (8, [.ref k_name, .ref k_worth, .ref k_times, .ref k_first, .ref k_second, .ref k_beforeLast, .ref k_last, .ref k_errandOf, .ref k_errandAfter, .ref k_sound, .ref k_followers, .ref k_leaders, .int (nI w), .int k_errands, .int k_alikes, .int k_law])), (k_first, .inl (cI, 24, .inl f_first)), (lt_group, .inl (cI, 26, .inl fg))], rfl, ⟨rfl, (Or.inl rfl)⟩, by rw [htz]; exact hP9, va_K.moved hWz.alike hK, hD9⟩, hS.F htz⟩) hS.2.2 dX1_hasWords_34
  · have dc_2 : ¬ w ≤ i := fun h => c_2 ((nI_leI (a := w) (b := i) (by omega) (by omega)).mpr h)
    refine lv_aload_n hx hb dX1_hasWords_10 rfl (lv_at hl 1 rfl) ?_
    refine va_get (D := D) (ci := 1) (v := .ref lt_group) (C := RX1) (T := TX1) (N := 1) hx hb hts (by decide +kernel) hown hK hP 0 rfl rfl 0 (by decide) (hts (.fieldLink RX1 9 "LastLetter$Letters" "group" "[I") (by decide +kernel)) (fun _ h9 => h9) rfl dX1_hasWords_11 ?_
    refine lv_aload_n hx hb dX1_hasWords_14 rfl (lv_at hl 2 rfl) ?_
    refine va_getN (D := D) (ci := 8) (v := .ref k_first) (C := RX8) (T := TX8) (N := 16) hx hb hts (by decide +kernel) hown hK hP 1 rfl rfl 3 (by decide) (va_Nw.use rfl (hN.1 (RX1, 24, RX8, "first", "[I", RX10) (by decide +kernel))) (fun _ h9 => h9) rfl dX1_hasWords_15 ?_
    refine lv_iload_n hx hb dX1_hasWords_18 rfl (lv_at hl 0 rfl) ?_
    refine va_iald hx hb hK hP 2 1 rfl rfl (vp_in_nI (by omega) (by omega)) dX1_hasWords_19 ?_
    refine xb_top (y := f_first i) (by rw [nI_clamp (by omega)]) ?_
    obtain ⟨q_3, hq_3, eq_3⟩ := hf i (by omega)
    refine xb_top (y := nI q_3) eq_3 ?_
    refine va_iald hx hb hK hP 3 1 rfl rfl (vp_in_nI (by omega) (by omega)) dX1_hasWords_20 ?_
    refine xb_top (y := fg q_3) (by rw [nI_clamp (by omega)]) ?_
    refine lv_iload_n hx hb dX1_hasWords_21 rfl (lv_at hl 3 rfl) ?_
    refine lv_icmp_ne (tgt := 27) hx hb dX1_hasWords_22 (by decide) (fun c_4 => ?_) (fun c_4 => ?_)
    · refine lv_iinc (v := nI (i + 1)) (lv' := [(3, .int (nI (i + 1))), (0, .ref o), (1, .ref t), (2, .int x)]) hx hb dX1_hasWords_27 hl (k := 0) rfl (nI_1 i) (by decide) rfl (fun ls hl => ?_)
      refine lv_goto (tgt := 2) hx hb dX1_hasWords_30 (by decide) ?_
      exact kk_2 _ _ _ _ (by rw [← hn_2]; omega) ⟨(i + 1), rfl, hP, hD, hS, lv_sub hl [0, 1, 2, 3] rfl, (by first | assumption | omega)⟩
    · refine lv_iconst (v := 1) hx hb dX1_hasWords_25 (by decide) ?_
      have hP9 := hP.sub (ws' := [(o, .inr (1, [.ref lt_group])), (t, .inr (8, [.ref k_name, .ref k_worth, .ref k_times, .ref k_first, .ref k_second, .ref k_beforeLast, .ref k_last, .ref k_errandOf, .ref k_errandAfter, .ref k_sound, .ref k_followers, .ref k_leaders, .int (nI w), .int k_errands, .int k_alikes, .int k_law])), (k_first, .inl (cI, 24, .inl f_first)), (lt_group, .inl (cI, 26, .inl fg))]) [0, 1, 2, 3] rfl
      have hD9 := hD.sub (ws' := [(o, .inr (1, [.ref lt_group])), (t, .inr (8, [.ref k_name, .ref k_worth, .ref k_times, .ref k_first, .ref k_second, .ref k_beforeLast, .ref k_last, .ref k_errandOf, .ref k_errandAfter, .ref k_sound, .ref k_followers, .ref k_leaders, .int (nI w), .int k_errands, .int k_alikes, .int k_law])), (k_first, .inl (cI, 24, .inl f_first)), (lt_group, .inl (cI, 26, .inl fg))]) [0, 1, 2, 3] (by decide) rfl
      refine W.widen (k := 0) (n := 0) (Nat.le_of_ble_eq_true rfl) (Nat.le_of_ble_eq_true rfl) ?_
      exact W.zret (v := 1) hx hb hr (by decide) (fun tz htz hWz => ⟨⟨1, [(o, .inr (1, [.ref lt_group])), (t, .inr (8, [.ref k_name, .ref k_worth, .ref k_times, .ref k_first, .ref k_second, .ref k_beforeLast, .ref k_last, .ref k_errandOf, .ref k_errandAfter, .ref k_sound, .ref k_followers, .ref k_leaders, .int (nI w), .int k_errands, .int k_alikes, .int k_law])), (k_first, .inl (cI, 24, .inl f_first)), (lt_group, .inl (cI, 26, .inl fg))], rfl, ⟨rfl, (Or.inr rfl)⟩, by rw [htz]; exact hP9, va_K.moved hWz.alike hK, hD9⟩, hS.F htz⟩) hS.2.2 dX1_hasWords_26

set_option maxHeartbeats 4000000 in
set_option maxRecDepth 100000 in
theorem c_X1_gather (l : Launch) (D : va_G) (cB cI cJ cS cZ cO : ClassId) (sz : Nat) (o : Nat) (t : Nat) (lt_group : Nat) (k_name : Nat) (k_worth : Nat) (k_times : Nat) (k_first : Nat) (k_second : Nat) (k_beforeLast : Nat) (k_last : Nat) (k_errandOf : Nat) (k_errandAfter : Nat) (k_sound : Nat) (k_followers : Nat) (k_leaders : Nat) (w : Nat) (k_errands : Int32) (k_alikes : Int32) (k_law : Int32) (f_first : Nat → Int32) (f_last : Nat → Int32) (f_sound : Nat → Int32) (fg : Nat → Int32) (hw : w ≤ 24) (hf : rgN f_first w 26) (hl1 : rgN f_last w 26) : Met l yX1_gather wsX1_gather ({ frames := 1, cells := 0, slots := 0, locals := 40 }) (xPre D (tyL cB cI cJ cS cZ cO) [(o, .inr (1, [.ref lt_group])), (t, .inr (8, [.ref k_name, .ref k_worth, .ref k_times, .ref k_first, .ref k_second, .ref k_beforeLast, .ref k_last, .ref k_errandOf, .ref k_errandAfter, .ref k_sound, .ref k_followers, .ref k_leaders, .int (nI w), .int k_errands, .int k_alikes, .int k_law])), (k_first, .inl (cI, 24, .inl f_first)), (k_last, .inl (cI, 24, .inl f_last)), (k_sound, .inl (cI, 26, .inl f_sound)), (lt_group, .inl (cI, 26, .inl fg))] sz [.ref o, .ref t]) (xQv D (tyL cB cI cJ cS cZ cO) (va_A [(o, .inr (1, [.ref lt_group])), (t, .inr (8, [.ref k_name, .ref k_worth, .ref k_times, .ref k_first, .ref k_second, .ref k_beforeLast, .ref k_last, .ref k_errandOf, .ref k_errandAfter, .ref k_sound, .ref k_followers, .ref k_leaders, .int (nI w), .int k_errands, .int k_alikes, .int k_law])), (k_first, .inl (cI, 24, .inl f_first)), (k_last, .inl (cI, 24, .inl f_last)), (k_sound, .inl (cI, 26, .inl f_sound)), (lt_group, .inl (cI, 26, .inl fg))] sz) (fun u : va_W => ∃ g : Nat → Int32, u = [(o, .inr (1, [.ref lt_group])), (t, .inr (8, [.ref k_name, .ref k_worth, .ref k_times, .ref k_first, .ref k_second, .ref k_beforeLast, .ref k_last, .ref k_errandOf, .ref k_errandAfter, .ref k_sound, .ref k_followers, .ref k_leaders, .int (nI w), .int k_errands, .int k_alikes, .int k_law])), (k_first, .inl (cI, 24, .inl f_first)), (k_last, .inl (cI, 24, .inl f_last)), (k_sound, .inl (cI, 26, .inl f_sound)), (lt_group, .inl (cI, 26, .inl g))])) 0 0 (va_A [(o, .inr (1, [.ref lt_group])), (t, .inr (8, [.ref k_name, .ref k_worth, .ref k_times, .ref k_first, .ref k_second, .ref k_beforeLast, .ref k_last, .ref k_errandOf, .ref k_errandAfter, .ref k_sound, .ref k_followers, .ref k_leaders, .int (nI w), .int k_errands, .int k_alikes, .int k_law])), (k_first, .inl (cI, 24, .inl f_first)), (k_last, .inl (cI, 24, .inl f_last)), (k_sound, .inl (cI, 26, .inl f_sound)), (lt_group, .inl (cI, 26, .inl fg))] sz) := by
  refine Met.ofW (cc := cX1_gather) (maxL := 6) (ret := none) (by decide) rfl ?_
  intro p e s m args below meth c s₁ B hml hv
  obtain ⟨rfl, hsz, hP, hK, hD0, hN⟩ := hv
  have hx := B.exec
  have hb := B.bytes
  have hr := B.returns
  have hts := atoms_spec (ws := wsX1_gather) B.pre
  have hown : s.vm.findClass RX1 = some m.cls := findClass_of_methodNamed B.named
  have hlocks := B.notSynchronized
  subst hsz
  have hD := hD0.self (sz := s.heap.size)
  generalize hAe : va_A [(o, .inr (1, [.ref lt_group])), (t, .inr (8, [.ref k_name, .ref k_worth, .ref k_times, .ref k_first, .ref k_second, .ref k_beforeLast, .ref k_last, .ref k_errandOf, .ref k_errandAfter, .ref k_sound, .ref k_followers, .ref k_leaders, .int (nI w), .int k_errands, .int k_alikes, .int k_law])), (k_first, .inl (cI, 24, .inl f_first)), (k_last, .inl (cI, 24, .inl f_last)), (k_sound, .inl (cI, 26, .inl f_sound)), (lt_group, .inl (cI, 26, .inl fg))] s.heap.size = A at hD ⊢
  have hA : ∀ q : Nat, s.heap.size ≤ q → A q := fun q h => by rw [← hAe]; exact Or.inr h
  have hS : va_S A s.heap s.heap [] := va_S.rf
  have hP : va_P D vwCl [(o, .inr (1, [.ref lt_group])), (t, .inr (8, [.ref k_name, .ref k_worth, .ref k_times, .ref k_first, .ref k_second, .ref k_beforeLast, .ref k_last, .ref k_errandOf, .ref k_errandAfter, .ref k_sound, .ref k_followers, .ref k_leaders, .int (nI w), .int k_errands, .int k_alikes, .int k_law])), (k_first, .inl (cI, 24, .inl f_first)), (k_last, .inl (cI, 24, .inl f_last)), (k_sound, .inl (cI, 26, .inl f_sound)), (lt_group, .inl (cI, 26, .inl fg))] s.heap := hP
  have hl := lv_entry ([.ref o, .ref t]) (n := 6) (Nat.le_of_ble_eq_true rfl)
  rw [lg_entry_eq]
  generalize (lg_sl ([.ref o, .ref t]) ++ List.replicate (6 - (lg_sl ([.ref o, .ref t])).length) Slot.unset).toArray = ls at hl ⊢
  have hl : lv_has ls 6 [(0, .ref o), (1, .ref t)] := hl
  refine lv_aload_n hx hb dX1_gather_0 rfl (lv_at hl 1 rfl) ?_
  refine va_getN (D := D) (ci := 8) (v := .ref k_sound) (C := RX8) (T := TX8) (N := 16) hx hb hts (by decide +kernel) hown hK hP 1 rfl rfl 9 (by decide) (va_Nw.use rfl (hN.1 (RX1, 21, RX8, "sound", "[I", RX10) (by decide +kernel))) (fun _ h9 => h9) rfl dX1_gather_1 ?_
  refine lv_iconst (v := 0) hx hb dX1_gather_4 (by decide) ?_
  refine lv_aload_n hx hb dX1_gather_5 rfl (lv_at hl 0 rfl) ?_
  refine va_get (D := D) (ci := 1) (v := .ref lt_group) (C := RX1) (T := TX1) (N := 1) hx hb hts (by decide +kernel) hown hK hP 0 rfl rfl 0 (by decide) (hts (.fieldLink RX1 9 "LastLetter$Letters" "group" "[I") (by decide +kernel)) (fun _ h9 => h9) rfl dX1_gather_6 ?_
  refine lv_iconst (v := 0) hx hb dX1_gather_9 (by decide) ?_
  refine lv_bipush (v := 26) hx hb dX1_gather_10 (by decide) ?_
  refine va_copyi (ty := .int) hx hb (hml.trans hl.1.symm) hown (hts (.methodLink RX1 48 arraycopyName) (by decide +kernel)) (hts (.native arraycopyName) (by decide +kernel)) (hts (.static arraycopyName) (by decide +kernel)) (hts (.initialized "java/lang/System") (by decide +kernel)) hK hP hD hS 4 5 1 1 rfl rfl rfl rfl rfl (by decide) (by decide) (by decide) (Nat.le_of_ble_eq_true rfl) (Nat.le_of_ble_eq_true rfl) (fun _ _ => rfl) (Nat.le_of_ble_eq_true rfl) (Nat.le_of_ble_eq_true rfl) dX1_gather_12 (fun H locs hP hD hS => ?_)
  have hP : va_P D vwCl [(o, .inr (1, [.ref lt_group])), (t, .inr (8, [.ref k_name, .ref k_worth, .ref k_times, .ref k_first, .ref k_second, .ref k_beforeLast, .ref k_last, .ref k_errandOf, .ref k_errandAfter, .ref k_sound, .ref k_followers, .ref k_leaders, .int (nI w), .int k_errands, .int k_alikes, .int k_law])), (k_first, .inl (cI, 24, .inl f_first)), (k_last, .inl (cI, 24, .inl f_last)), (k_sound, .inl (cI, 26, .inl f_sound)), (lt_group, .inl (cI, 26, .inl (va_cpy f_sound fg (Int32.toNatClampNeg 0) (Int32.toNatClampNeg 0) (Int32.toNatClampNeg 26))))] H := hP
  have hD : va_D A [(o, .inr (1, [.ref lt_group])), (t, .inr (8, [.ref k_name, .ref k_worth, .ref k_times, .ref k_first, .ref k_second, .ref k_beforeLast, .ref k_last, .ref k_errandOf, .ref k_errandAfter, .ref k_sound, .ref k_followers, .ref k_leaders, .int (nI w), .int k_errands, .int k_alikes, .int k_law])), (k_first, .inl (cI, 24, .inl f_first)), (k_last, .inl (cI, 24, .inl f_last)), (k_sound, .inl (cI, 26, .inl f_sound)), (lt_group, .inl (cI, 26, .inl (va_cpy f_sound fg (Int32.toNatClampNeg 0) (Int32.toNatClampNeg 0) (Int32.toNatClampNeg 26))))] := hD
  generalize eg_1 : va_cpy f_sound fg (Int32.toNatClampNeg 0) (Int32.toNatClampNeg 0) (Int32.toNatClampNeg 26) = g_1 at hP hD
  refine lv_iconst (v := 0) hx hb dX1_gather_15 (by decide) ?_
  refine lv_istore_n (lv' := [(2, .int 0), (0, .ref o), (1, .ref t)]) hx hb dX1_gather_16 rfl hl (by decide) rfl (fun ls hl => ?_)
  refine xb_wh (fun (n9 : Nat) H locs ls => ∃ i : Nat, ∃ g : Nat → Int32, (w - i) = n9 ∧ va_P D vwCl [(o, .inr (1, [.ref lt_group])), (t, .inr (8, [.ref k_name, .ref k_worth, .ref k_times, .ref k_first, .ref k_second, .ref k_beforeLast, .ref k_last, .ref k_errandOf, .ref k_errandAfter, .ref k_sound, .ref k_followers, .ref k_leaders, .int (nI w), .int k_errands, .int k_alikes, .int k_law])), (k_first, .inl (cI, 24, .inl f_first)), (k_last, .inl (cI, 24, .inl f_last)), (k_sound, .inl (cI, 26, .inl f_sound)), (lt_group, .inl (cI, 26, .inl g))] H ∧ va_D A [(o, .inr (1, [.ref lt_group])), (t, .inr (8, [.ref k_name, .ref k_worth, .ref k_times, .ref k_first, .ref k_second, .ref k_beforeLast, .ref k_last, .ref k_errandOf, .ref k_errandAfter, .ref k_sound, .ref k_followers, .ref k_leaders, .int (nI w), .int k_errands, .int k_alikes, .int k_law])), (k_first, .inl (cI, 24, .inl f_first)), (k_last, .inl (cI, 24, .inl f_last)), (k_sound, .inl (cI, 26, .inl f_sound)), (lt_group, .inl (cI, 26, .inl g))] ∧ va_S A s.heap H locs ∧ lv_has ls 6 [(2, .int (nI i)), (0, .ref o), (1, .ref t)] ∧ (i ≤ w)) ⟨0, g_1, rfl, hP, hD, hS, lv_sub hl [0, 1, 2] rfl, (by first | assumption | omega)⟩ (fun n9 H locs ls hI kk_17 => ?_)
  obtain ⟨i, g, hn_17, hP, hD, hS, hl, hF_h_2⟩ := hI
  refine lv_iload_n hx hb dX1_gather_17 rfl (lv_at hl 0 rfl) ?_
  refine lv_aload_n hx hb dX1_gather_18 rfl (lv_at hl 2 rfl) ?_
  refine va_getN (D := D) (ci := 8) (v := .int (nI w)) (C := RX8) (T := TX8) (N := 16) hx hb hts (by decide +kernel) hown hK hP 1 rfl rfl 12 (by decide) (va_Nw.use rfl (hN.1 (RX1, 15, RX8, "words", "I", RX10) (by decide +kernel))) (fun _ h9 => h9) rfl dX1_gather_19 ?_
  refine lv_icmp_ge (tgt := 92) hx hb dX1_gather_22 (by decide) (fun c_3 => ?_) (fun c_3 => ?_)
  · have dc_3 : w ≤ i := (nI_leI (a := w) (b := i) (by omega) (by omega)).mp c_3
    have hP9 := hP.sub (ws' := [(o, .inr (1, [.ref lt_group])), (t, .inr (8, [.ref k_name, .ref k_worth, .ref k_times, .ref k_first, .ref k_second, .ref k_beforeLast, .ref k_last, .ref k_errandOf, .ref k_errandAfter, .ref k_sound, .ref k_followers, .ref k_leaders, .int (nI w), .int k_errands, .int k_alikes, .int k_law])), (k_first, .inl (cI, 24, .inl f_first)), (k_last, .inl (cI, 24, .inl f_last)), (k_sound, .inl (cI, 26, .inl f_sound)), (lt_group, .inl (cI, 26, .inl g))]) [0, 1, 2, 3, 4, 5] rfl
    have hD9 := hD.sub (ws' := [(o, .inr (1, [.ref lt_group])), (t, .inr (8, [.ref k_name, .ref k_worth, .ref k_times, .ref k_first, .ref k_second, .ref k_beforeLast, .ref k_last, .ref k_errandOf, .ref k_errandAfter, .ref k_sound, .ref k_followers, .ref k_leaders, .int (nI w), .int k_errands, .int k_alikes, .int k_law])), (k_first, .inl (cI, 24, .inl f_first)), (k_last, .inl (cI, 24, .inl f_last)), (k_sound, .inl (cI, 26, .inl f_sound)), (lt_group, .inl (cI, 26, .inl g))]) [0, 1, 2, 3, 4, 5] (by decide) rfl
    refine W.widen (k := 0) (n := 0) (Nat.le_of_ble_eq_true rfl) (Nat.le_of_ble_eq_true rfl) ?_
    exact W.vret hx hb hr (fun tz htz hWz => ⟨⟨[(o, .inr (1, [.ref lt_group])), (t, .inr (8, [.ref k_name, .ref k_worth, .ref k_times, .ref k_first, .ref k_second, .ref k_beforeLast, .ref k_last, .ref k_errandOf, .ref k_errandAfter, .ref k_sound, .ref k_followers, .ref k_leaders, .int (nI w), .int k_errands, .int k_alikes, .int k_law])), (k_first, .inl (cI, 24, .inl f_first)), (k_last, .inl (cI, 24, .inl f_last)), (k_sound, .inl (cI, 26, .inl f_sound)), (lt_group, .inl (cI, 26, .inl g))], rfl, ⟨g, rfl⟩, by rw [htz]; exact hP9, va_K.moved hWz.alike hK, hD9⟩, hS.F htz⟩) hS.2.2 dX1_gather_92
  · have dc_3 : ¬ w ≤ i := fun h => c_3 ((nI_leI (a := w) (b := i) (by omega) (by omega)).mpr h)
    refine lv_aload_n hx hb dX1_gather_25 rfl (lv_at hl 1 rfl) ?_
    refine va_get (D := D) (ci := 1) (v := .ref lt_group) (C := RX1) (T := TX1) (N := 1) hx hb hts (by decide +kernel) hown hK hP 0 rfl rfl 0 (by decide) (hts (.fieldLink RX1 9 "LastLetter$Letters" "group" "[I") (by decide +kernel)) (fun _ h9 => h9) rfl dX1_gather_26 ?_
    refine lv_aload_n hx hb dX1_gather_29 rfl (lv_at hl 2 rfl) ?_
    refine va_getN (D := D) (ci := 8) (v := .ref k_first) (C := RX8) (T := TX8) (N := 16) hx hb hts (by decide +kernel) hown hK hP 1 rfl rfl 3 (by decide) (va_Nw.use rfl (hN.1 (RX1, 24, RX8, "first", "[I", RX10) (by decide +kernel))) (fun _ h9 => h9) rfl dX1_gather_30 ?_
    refine lv_iload_n hx hb dX1_gather_33 rfl (lv_at hl 0 rfl) ?_
    refine va_iald hx hb hK hP 2 1 rfl rfl (vp_in_nI (by omega) (by omega)) dX1_gather_34 ?_
    refine xb_top (y := f_first i) (by rw [nI_clamp (by omega)]) ?_
    obtain ⟨q_4, hq_4, eq_4⟩ := hf i (by omega)
    refine xb_top (y := nI q_4) eq_4 ?_
    refine va_iald hx hb hK hP 5 1 rfl rfl (vp_in_nI (by omega) (by omega)) dX1_gather_35 ?_
    refine xb_top (y := g q_4) (by rw [nI_clamp (by omega)]) ?_
    refine lv_istore_n (lv' := [(3, .int (g q_4)), (2, .int (nI i)), (0, .ref o), (1, .ref t)]) hx hb dX1_gather_36 rfl hl (by decide) rfl (fun ls hl => ?_)
    refine lv_aload_n hx hb dX1_gather_37 rfl (lv_at hl 2 rfl) ?_
    refine va_get (D := D) (ci := 1) (v := .ref lt_group) (C := RX1) (T := TX1) (N := 1) hx hb hts (by decide +kernel) hown hK hP 0 rfl rfl 0 (by decide) (hts (.fieldLink RX1 9 "LastLetter$Letters" "group" "[I") (by decide +kernel)) (fun _ h9 => h9) rfl dX1_gather_38 ?_
    refine lv_aload_n hx hb dX1_gather_41 rfl (lv_at hl 3 rfl) ?_
    refine va_getN (D := D) (ci := 8) (v := .ref k_last) (C := RX8) (T := TX8) (N := 16) hx hb hts (by decide +kernel) hown hK hP 1 rfl rfl 6 (by decide) (va_Nw.use rfl (hN.1 (RX1, 27, RX8, "last", "[I", RX10) (by decide +kernel))) (fun _ h9 => h9) rfl dX1_gather_42 ?_
    refine lv_iload_n hx hb dX1_gather_45 rfl (lv_at hl 1 rfl) ?_
    refine va_iald hx hb hK hP 3 1 rfl rfl (vp_in_nI (by omega) (by omega)) dX1_gather_46 ?_
    refine xb_top (y := f_last i) (by rw [nI_clamp (by omega)]) ?_
    obtain ⟨q_5, hq_5, eq_5⟩ := hl1 i (by omega)
    refine xb_top (y := nI q_5) eq_5 ?_
    refine va_iald hx hb hK hP 5 1 rfl rfl (vp_in_nI (by omega) (by omega)) dX1_gather_47 ?_
    refine xb_top (y := g q_5) (by rw [nI_clamp (by omega)]) ?_
    refine lv_istore (lv' := [(4, .int (g q_5)), (3, .int (g q_4)), (2, .int (nI i)), (0, .ref o), (1, .ref t)]) hx hb dX1_gather_48 hl (by decide) rfl (fun ls hl => ?_)
    refine lv_iconst (v := 0) hx hb dX1_gather_50 (by decide) ?_
    refine lv_istore (lv' := [(5, .int 0), (4, .int (g q_5)), (3, .int (g q_4)), (2, .int (nI i)), (0, .ref o), (1, .ref t)]) hx hb dX1_gather_51 hl (by decide) rfl (fun ls hl => ?_)
    refine xb_wh (fun (n9 : Nat) H locs ls => ∃ k : Nat, ∃ gk : Nat → Int32, (26 - k) = n9 ∧ va_P D vwCl [(o, .inr (1, [.ref lt_group])), (t, .inr (8, [.ref k_name, .ref k_worth, .ref k_times, .ref k_first, .ref k_second, .ref k_beforeLast, .ref k_last, .ref k_errandOf, .ref k_errandAfter, .ref k_sound, .ref k_followers, .ref k_leaders, .int (nI w), .int k_errands, .int k_alikes, .int k_law])), (k_first, .inl (cI, 24, .inl f_first)), (k_last, .inl (cI, 24, .inl f_last)), (k_sound, .inl (cI, 26, .inl f_sound)), (lt_group, .inl (cI, 26, .inl gk))] H ∧ va_D A [(o, .inr (1, [.ref lt_group])), (t, .inr (8, [.ref k_name, .ref k_worth, .ref k_times, .ref k_first, .ref k_second, .ref k_beforeLast, .ref k_last, .ref k_errandOf, .ref k_errandAfter, .ref k_sound, .ref k_followers, .ref k_leaders, .int (nI w), .int k_errands, .int k_alikes, .int k_law])), (k_first, .inl (cI, 24, .inl f_first)), (k_last, .inl (cI, 24, .inl f_last)), (k_sound, .inl (cI, 26, .inl f_sound)), (lt_group, .inl (cI, 26, .inl gk))] ∧ va_S A s.heap H locs ∧ lv_has ls 6 [(5, .int (nI k)), (4, .int (g q_5)), (3, .int (g q_4)), (2, .int (nI i)), (0, .ref o), (1, .ref t)] ∧ (k ≤ 26)) ⟨0, g, rfl, hP, hD, hS, lv_sub hl [0, 1, 2, 3, 4, 5] rfl, (by first | assumption | omega)⟩ (fun n9 H locs ls hI kk_53 => ?_)
    obtain ⟨k, gk, hn_53, hP, hD, hS, hl, hF_h_6⟩ := hI
    refine lv_iload hx hb dX1_gather_53 (lv_at hl 0 rfl) ?_
    refine lv_bipush (v := 26) hx hb dX1_gather_55 (by decide) ?_
    refine lv_icmp_ge (tgt := 86) hx hb dX1_gather_57 (by decide) (fun c_7 => ?_) (fun c_7 => ?_)
    · have dc_7 : 26 ≤ k := (nI_leI (a := 26) (b := k) (by omega) (by omega)).mp c_7
      refine lv_iinc (v := nI (i + 1)) (lv' := [(2, .int (nI (i + 1))), (5, .int (nI k)), (4, .int (g q_5)), (3, .int (g q_4)), (0, .ref o), (1, .ref t)]) hx hb dX1_gather_86 hl (k := 3) rfl (nI_1 i) (by decide) rfl (fun ls hl => ?_)
      refine lv_goto (tgt := 17) hx hb dX1_gather_89 (by decide) ?_
      exact kk_17 _ _ _ _ (by rw [← hn_17]; omega) ⟨(i + 1), gk, rfl, hP, hD, hS, lv_sub hl [0, 4, 5] rfl, (by first | assumption | omega)⟩
    · have dc_7 : ¬ 26 ≤ k := fun h => c_7 ((nI_leI (a := 26) (b := k) (by omega) (by omega)).mpr h)
      refine lv_aload_n hx hb dX1_gather_60 rfl (lv_at hl 4 rfl) ?_
      refine va_get (D := D) (ci := 1) (v := .ref lt_group) (C := RX1) (T := TX1) (N := 1) hx hb hts (by decide +kernel) hown hK hP 0 rfl rfl 0 (by decide) (hts (.fieldLink RX1 9 "LastLetter$Letters" "group" "[I") (by decide +kernel)) (fun _ h9 => h9) rfl dX1_gather_61 ?_
      refine lv_iload hx hb dX1_gather_64 (lv_at hl 0 rfl) ?_
      refine va_iald hx hb hK hP 5 1 rfl rfl (vp_in_nI (by omega) (by omega)) dX1_gather_66 ?_
      refine xb_top (y := gk k) (by rw [nI_clamp (by omega)]) ?_
      refine lv_iload hx hb dX1_gather_67 (lv_at hl 1 rfl) ?_
      refine lv_icmp_ne (tgt := 80) hx hb dX1_gather_69 (by decide) (fun c_8 => ?_) (fun c_8 => ?_)
      · refine lv_iinc (v := nI (k + 1)) (lv' := [(5, .int (nI (k + 1))), (4, .int (g q_5)), (3, .int (g q_4)), (2, .int (nI i)), (0, .ref o), (1, .ref t)]) hx hb dX1_gather_80 hl (k := 0) rfl (nI_1 k) (by decide) rfl (fun ls hl => ?_)
        refine lv_goto (tgt := 53) hx hb dX1_gather_83 (by decide) ?_
        exact kk_53 _ _ _ _ (by rw [← hn_53]; omega) ⟨(k + 1), gk, rfl, hP, hD, hS, lv_sub hl [0, 1, 2, 3, 4, 5] rfl, (by first | assumption | omega)⟩
      · refine lv_aload_n hx hb dX1_gather_72 rfl (lv_at hl 4 rfl) ?_
        refine va_get (D := D) (ci := 1) (v := .ref lt_group) (C := RX1) (T := TX1) (N := 1) hx hb hts (by decide +kernel) hown hK hP 0 rfl rfl 0 (by decide) (hts (.fieldLink RX1 9 "LastLetter$Letters" "group" "[I") (by decide +kernel)) (fun _ h9 => h9) rfl dX1_gather_73 ?_
        refine lv_iload hx hb dX1_gather_76 (lv_at hl 0 rfl) ?_
        refine lv_iload_n hx hb dX1_gather_78 rfl (lv_at hl 2 rfl) ?_
        refine va_iast hx hb hK hP hD hS 5 1 rfl rfl (vp_in_nI (by omega) (by omega)) dX1_gather_79 (fun H locs hP hD hS => ?_)
        have hP : va_P D vwCl [(o, .inr (1, [.ref lt_group])), (t, .inr (8, [.ref k_name, .ref k_worth, .ref k_times, .ref k_first, .ref k_second, .ref k_beforeLast, .ref k_last, .ref k_errandOf, .ref k_errandAfter, .ref k_sound, .ref k_followers, .ref k_leaders, .int (nI w), .int k_errands, .int k_alikes, .int k_law])), (k_first, .inl (cI, 24, .inl f_first)), (k_last, .inl (cI, 24, .inl f_last)), (k_sound, .inl (cI, 26, .inl f_sound)), (lt_group, .inl (cI, 26, .inl (upd gk (Int32.toNatClampNeg (nI k)) (g q_4))))] H := hP
        have hD : va_D A [(o, .inr (1, [.ref lt_group])), (t, .inr (8, [.ref k_name, .ref k_worth, .ref k_times, .ref k_first, .ref k_second, .ref k_beforeLast, .ref k_last, .ref k_errandOf, .ref k_errandAfter, .ref k_sound, .ref k_followers, .ref k_leaders, .int (nI w), .int k_errands, .int k_alikes, .int k_law])), (k_first, .inl (cI, 24, .inl f_first)), (k_last, .inl (cI, 24, .inl f_last)), (k_sound, .inl (cI, 26, .inl f_sound)), (lt_group, .inl (cI, 26, .inl (upd gk (Int32.toNatClampNeg (nI k)) (g q_4))))] := hD
        generalize eg_9 : upd gk (Int32.toNatClampNeg (nI k)) (g q_4) = g_9 at hP hD
        refine lv_iinc (v := nI (k + 1)) (lv' := [(5, .int (nI (k + 1))), (4, .int (g q_5)), (3, .int (g q_4)), (2, .int (nI i)), (0, .ref o), (1, .ref t)]) hx hb dX1_gather_80 hl (k := 0) rfl (nI_1 k) (by decide) rfl (fun ls hl => ?_)
        refine lv_goto (tgt := 53) hx hb dX1_gather_83 (by decide) ?_
        exact kk_53 _ _ _ _ (by rw [← hn_53]; omega) ⟨(k + 1), g_9, rfl, hP, hD, hS, lv_sub hl [0, 1, 2, 3, 4, 5] rfl, (by first | assumption | omega)⟩

set_option maxHeartbeats 4000000 in
set_option maxRecDepth 100000 in
theorem c_X1_surplusOf (l : Launch) (D : va_G) (cB cI cJ cS cZ cO : ClassId) (sz : Nat) (o : Nat) (t : Nat) (x : Int32) (lt_group : Nat) (k_name : Nat) (k_worth : Nat) (k_times : Nat) (k_first : Nat) (k_second : Nat) (k_beforeLast : Nat) (k_last : Nat) (k_errandOf : Nat) (k_errandAfter : Nat) (k_sound : Nat) (k_followers : Nat) (k_leaders : Nat) (w : Nat) (k_errands : Int32) (k_alikes : Int32) (k_law : Int32) (f_first : Nat → Int32) (f_last : Nat → Int32) (f_sound : Nat → Int32) (fg : Nat → Int32) (hw : w ≤ 24) (hf : rgN f_first w 26) (hl1 : rgN f_last w 26) : Met l yX1_surplusOf wsX1_surplusOf ({ frames := 1, cells := 0, slots := 0, locals := 24 }) (xPre D (tyL cB cI cJ cS cZ cO) [(o, .inr (1, [.ref lt_group])), (t, .inr (8, [.ref k_name, .ref k_worth, .ref k_times, .ref k_first, .ref k_second, .ref k_beforeLast, .ref k_last, .ref k_errandOf, .ref k_errandAfter, .ref k_sound, .ref k_followers, .ref k_leaders, .int (nI w), .int k_errands, .int k_alikes, .int k_law])), (k_first, .inl (cI, 24, .inl f_first)), (k_last, .inl (cI, 24, .inl f_last)), (k_sound, .inl (cI, 26, .inl f_sound)), (lt_group, .inl (cI, 26, .inl fg))] sz [.ref o, .ref t, .int x]) (xQi D (tyL cB cI cJ cS cZ cO) (va_A [(o, .inr (1, [.ref lt_group])), (t, .inr (8, [.ref k_name, .ref k_worth, .ref k_times, .ref k_first, .ref k_second, .ref k_beforeLast, .ref k_last, .ref k_errandOf, .ref k_errandAfter, .ref k_sound, .ref k_followers, .ref k_leaders, .int (nI w), .int k_errands, .int k_alikes, .int k_law])), (k_first, .inl (cI, 24, .inl f_first)), (k_last, .inl (cI, 24, .inl f_last)), (k_sound, .inl (cI, 26, .inl f_sound)), (lt_group, .inl (cI, 26, .inl fg))] sz) (fun (r : Int32) (u : va_W) => u = [(o, .inr (1, [.ref lt_group])), (t, .inr (8, [.ref k_name, .ref k_worth, .ref k_times, .ref k_first, .ref k_second, .ref k_beforeLast, .ref k_last, .ref k_errandOf, .ref k_errandAfter, .ref k_sound, .ref k_followers, .ref k_leaders, .int (nI w), .int k_errands, .int k_alikes, .int k_law])), (k_first, .inl (cI, 24, .inl f_first)), (k_last, .inl (cI, 24, .inl f_last)), (k_sound, .inl (cI, 26, .inl f_sound)), (lt_group, .inl (cI, 26, .inl fg))])) 0 0 (va_A [(o, .inr (1, [.ref lt_group])), (t, .inr (8, [.ref k_name, .ref k_worth, .ref k_times, .ref k_first, .ref k_second, .ref k_beforeLast, .ref k_last, .ref k_errandOf, .ref k_errandAfter, .ref k_sound, .ref k_followers, .ref k_leaders, .int (nI w), .int k_errands, .int k_alikes, .int k_law])), (k_first, .inl (cI, 24, .inl f_first)), (k_last, .inl (cI, 24, .inl f_last)), (k_sound, .inl (cI, 26, .inl f_sound)), (lt_group, .inl (cI, 26, .inl fg))] sz) := by
  refine Met.ofW (cc := cX1_surplusOf) (maxL := 5) (ret := (some .int)) (by decide) rfl ?_
  intro p e s m args below meth c s₁ B hml hv
  obtain ⟨rfl, hsz, hP, hK, hD0, hN⟩ := hv
  have hx := B.exec
  have hb := B.bytes
  have hr := B.returns
  have hts := atoms_spec (ws := wsX1_surplusOf) B.pre
  have hown : s.vm.findClass RX1 = some m.cls := findClass_of_methodNamed B.named
  have hlocks := B.notSynchronized
  subst hsz
  have hD := hD0.self (sz := s.heap.size)
  generalize hAe : va_A [(o, .inr (1, [.ref lt_group])), (t, .inr (8, [.ref k_name, .ref k_worth, .ref k_times, .ref k_first, .ref k_second, .ref k_beforeLast, .ref k_last, .ref k_errandOf, .ref k_errandAfter, .ref k_sound, .ref k_followers, .ref k_leaders, .int (nI w), .int k_errands, .int k_alikes, .int k_law])), (k_first, .inl (cI, 24, .inl f_first)), (k_last, .inl (cI, 24, .inl f_last)), (k_sound, .inl (cI, 26, .inl f_sound)), (lt_group, .inl (cI, 26, .inl fg))] s.heap.size = A at hD ⊢
  have hA : ∀ q : Nat, s.heap.size ≤ q → A q := fun q h => by rw [← hAe]; exact Or.inr h
  have hS : va_S A s.heap s.heap [] := va_S.rf
  have hP : va_P D vwCl [(o, .inr (1, [.ref lt_group])), (t, .inr (8, [.ref k_name, .ref k_worth, .ref k_times, .ref k_first, .ref k_second, .ref k_beforeLast, .ref k_last, .ref k_errandOf, .ref k_errandAfter, .ref k_sound, .ref k_followers, .ref k_leaders, .int (nI w), .int k_errands, .int k_alikes, .int k_law])), (k_first, .inl (cI, 24, .inl f_first)), (k_last, .inl (cI, 24, .inl f_last)), (k_sound, .inl (cI, 26, .inl f_sound)), (lt_group, .inl (cI, 26, .inl fg))] s.heap := hP
  have hl := lv_entry ([.ref o, .ref t, .int x]) (n := 5) (Nat.le_of_ble_eq_true rfl)
  rw [lg_entry_eq]
  generalize (lg_sl ([.ref o, .ref t, .int x]) ++ List.replicate (5 - (lg_sl ([.ref o, .ref t, .int x])).length) Slot.unset).toArray = ls at hl ⊢
  have hl : lv_has ls 5 [(0, .ref o), (1, .ref t), (2, .int x)] := hl
  refine lv_iconst (v := 0) hx hb dX1_surplusOf_0 (by decide) ?_
  refine lv_istore_n (lv' := [(3, .int 0), (0, .ref o), (1, .ref t), (2, .int x)]) hx hb dX1_surplusOf_1 rfl hl (by decide) rfl (fun ls hl => ?_)
  refine lv_iconst (v := 0) hx hb dX1_surplusOf_2 (by decide) ?_
  refine lv_istore (lv' := [(4, .int 0), (3, .int 0), (0, .ref o), (1, .ref t), (2, .int x)]) hx hb dX1_surplusOf_3 hl (by decide) rfl (fun ls hl => ?_)
  refine xb_wh (fun (n9 : Nat) H locs ls => ∃ i : Nat, ∃ su : Int32, (26 - i) = n9 ∧ va_P D vwCl [(o, .inr (1, [.ref lt_group])), (t, .inr (8, [.ref k_name, .ref k_worth, .ref k_times, .ref k_first, .ref k_second, .ref k_beforeLast, .ref k_last, .ref k_errandOf, .ref k_errandAfter, .ref k_sound, .ref k_followers, .ref k_leaders, .int (nI w), .int k_errands, .int k_alikes, .int k_law])), (k_first, .inl (cI, 24, .inl f_first)), (k_last, .inl (cI, 24, .inl f_last)), (k_sound, .inl (cI, 26, .inl f_sound)), (lt_group, .inl (cI, 26, .inl fg))] H ∧ va_D A [(o, .inr (1, [.ref lt_group])), (t, .inr (8, [.ref k_name, .ref k_worth, .ref k_times, .ref k_first, .ref k_second, .ref k_beforeLast, .ref k_last, .ref k_errandOf, .ref k_errandAfter, .ref k_sound, .ref k_followers, .ref k_leaders, .int (nI w), .int k_errands, .int k_alikes, .int k_law])), (k_first, .inl (cI, 24, .inl f_first)), (k_last, .inl (cI, 24, .inl f_last)), (k_sound, .inl (cI, 26, .inl f_sound)), (lt_group, .inl (cI, 26, .inl fg))] ∧ va_S A s.heap H locs ∧ lv_has ls 5 [(4, .int (nI i)), (3, .int su), (0, .ref o), (1, .ref t), (2, .int x)] ∧ (i ≤ 26)) ⟨0, 0, rfl, hP, hD, hS, lv_sub hl [0, 1, 2, 3, 4] rfl, (by first | assumption | omega)⟩ (fun n9 H locs ls hI kk_5 => ?_)
  obtain ⟨i, su, hn_5, hP, hD, hS, hl, hF_h_1⟩ := hI
  refine lv_iload hx hb dX1_surplusOf_5 (lv_at hl 0 rfl) ?_
  refine lv_bipush (v := 26) hx hb dX1_surplusOf_7 (by decide) ?_
  refine lv_icmp_ge (tgt := 55) hx hb dX1_surplusOf_9 (by decide) (fun c_2 => ?_) (fun c_2 => ?_)
  · have dc_2 : 26 ≤ i := (nI_leI (a := 26) (b := i) (by omega) (by omega)).mp c_2
    refine lv_iload_n hx hb dX1_surplusOf_55 rfl (lv_at hl 1 rfl) ?_
    have hP9 := hP.sub (ws' := [(o, .inr (1, [.ref lt_group])), (t, .inr (8, [.ref k_name, .ref k_worth, .ref k_times, .ref k_first, .ref k_second, .ref k_beforeLast, .ref k_last, .ref k_errandOf, .ref k_errandAfter, .ref k_sound, .ref k_followers, .ref k_leaders, .int (nI w), .int k_errands, .int k_alikes, .int k_law])), (k_first, .inl (cI, 24, .inl f_first)), (k_last, .inl (cI, 24, .inl f_last)), (k_sound, .inl (cI, 26, .inl f_sound)), (lt_group, .inl (cI, 26, .inl fg))]) [0, 1, 2, 3, 4, 5] rfl
    have hD9 := hD.sub (ws' := [(o, .inr (1, [.ref lt_group])), (t, .inr (8, [.ref k_name, .ref k_worth, .ref k_times, .ref k_first, .ref k_second, .ref k_beforeLast, .ref k_last, .ref k_errandOf, .ref k_errandAfter, .ref k_sound, .ref k_followers, .ref k_leaders, .int (nI w), .int k_errands, .int k_alikes, .int k_law])), (k_first, .inl (cI, 24, .inl f_first)), (k_last, .inl (cI, 24, .inl f_last)), (k_sound, .inl (cI, 26, .inl f_sound)), (lt_group, .inl (cI, 26, .inl fg))]) [0, 1, 2, 3, 4, 5] (by decide) rfl
    refine W.widen (k := 0) (n := 0) (Nat.le_of_ble_eq_true rfl) (Nat.le_of_ble_eq_true rfl) ?_
    exact W.iret (v := su) hx hb hr (fun tz htz hWz => ⟨⟨su, [(o, .inr (1, [.ref lt_group])), (t, .inr (8, [.ref k_name, .ref k_worth, .ref k_times, .ref k_first, .ref k_second, .ref k_beforeLast, .ref k_last, .ref k_errandOf, .ref k_errandAfter, .ref k_sound, .ref k_followers, .ref k_leaders, .int (nI w), .int k_errands, .int k_alikes, .int k_law])), (k_first, .inl (cI, 24, .inl f_first)), (k_last, .inl (cI, 24, .inl f_last)), (k_sound, .inl (cI, 26, .inl f_sound)), (lt_group, .inl (cI, 26, .inl fg))], rfl, rfl, by rw [htz]; exact hP9, va_K.moved hWz.alike hK, hD9⟩, hS.F htz⟩) hS.2.2 dX1_surplusOf_56
  · have dc_2 : ¬ 26 ≤ i := fun h => c_2 ((nI_leI (a := 26) (b := i) (by omega) (by omega)).mpr h)
    refine lv_aload_n hx hb dX1_surplusOf_12 rfl (lv_at hl 3 rfl) ?_
    refine va_getN (D := D) (ci := 8) (v := .ref k_sound) (C := RX8) (T := TX8) (N := 16) hx hb hts (by decide +kernel) hown hK hP 1 rfl rfl 9 (by decide) (va_Nw.use rfl (hN.1 (RX1, 21, RX8, "sound", "[I", RX10) (by decide +kernel))) (fun _ h9 => h9) rfl dX1_surplusOf_13 ?_
    refine lv_iload hx hb dX1_surplusOf_16 (lv_at hl 0 rfl) ?_
    refine va_iald hx hb hK hP 4 1 rfl rfl (vp_in_nI (by omega) (by omega)) dX1_surplusOf_18 ?_
    refine xb_top (y := f_sound i) (by rw [nI_clamp (by omega)]) ?_
    refine lv_iload hx hb dX1_surplusOf_19 (lv_at hl 0 rfl) ?_
    refine lv_icmp_ne (tgt := 49) hx hb dX1_surplusOf_21 (by decide) (fun c_3 => ?_) (fun c_3 => ?_)
    · refine lv_iinc (v := nI (i + 1)) (lv' := [(4, .int (nI (i + 1))), (3, .int su), (0, .ref o), (1, .ref t), (2, .int x)]) hx hb dX1_surplusOf_49 hl (k := 0) rfl (nI_1 i) (by decide) rfl (fun ls hl => ?_)
      refine lv_goto (tgt := 5) hx hb dX1_surplusOf_52 (by decide) ?_
      exact kk_5 _ _ _ _ (by rw [← hn_5]; omega) ⟨(i + 1), su, rfl, hP, hD, hS, lv_sub hl [0, 1, 2, 3, 4] rfl, (by first | assumption | omega)⟩
    · refine lv_aload_n hx hb dX1_surplusOf_24 rfl (lv_at hl 2 rfl) ?_
      refine va_get (D := D) (ci := 1) (v := .ref lt_group) (C := RX1) (T := TX1) (N := 1) hx hb hts (by decide +kernel) hown hK hP 0 rfl rfl 0 (by decide) (hts (.fieldLink RX1 9 "LastLetter$Letters" "group" "[I") (by decide +kernel)) (fun _ h9 => h9) rfl dX1_surplusOf_25 ?_
      refine lv_iload hx hb dX1_surplusOf_28 (lv_at hl 0 rfl) ?_
      refine va_iald hx hb hK hP 5 1 rfl rfl (vp_in_nI (by omega) (by omega)) dX1_surplusOf_30 ?_
      refine xb_top (y := fg i) (by rw [nI_clamp (by omega)]) ?_
      refine lv_iload_n hx hb dX1_surplusOf_31 rfl (lv_at hl 4 rfl) ?_
      refine lv_icmp_ne (tgt := 49) hx hb dX1_surplusOf_32 (by decide) (fun c_4 => ?_) (fun c_4 => ?_)
      · refine lv_iinc (v := nI (i + 1)) (lv' := [(4, .int (nI (i + 1))), (3, .int su), (0, .ref o), (1, .ref t), (2, .int x)]) hx hb dX1_surplusOf_49 hl (k := 0) rfl (nI_1 i) (by decide) rfl (fun ls hl => ?_)
        refine lv_goto (tgt := 5) hx hb dX1_surplusOf_52 (by decide) ?_
        exact kk_5 _ _ _ _ (by rw [← hn_5]; omega) ⟨(i + 1), su, rfl, hP, hD, hS, lv_sub hl [0, 1, 2, 3, 4] rfl, (by first | assumption | omega)⟩
      · refine lv_iload_n hx hb dX1_surplusOf_35 rfl (lv_at hl 1 rfl) ?_
        refine lv_iconst (v := 0) hx hb dX1_surplusOf_36 (by decide) ?_
        refine lv_aload_n hx hb dX1_surplusOf_37 rfl (lv_at hl 2 rfl) ?_
        refine lv_aload_n hx hb dX1_surplusOf_38 rfl (lv_at hl 3 rfl) ?_
        refine lv_iload hx hb dX1_surplusOf_39 (lv_at hl 0 rfl) ?_
        refine xCi (wr := [(lt_group, .inl (cI, 26, .inl fg))]) (win := [(o, .inr (1, [.ref lt_group])), (t, .inr (8, [.ref k_name, .ref k_worth, .ref k_times, .ref k_first, .ref k_second, .ref k_beforeLast, .ref k_last, .ref k_errandOf, .ref k_errandAfter, .ref k_sound, .ref k_followers, .ref k_leaders, .int (nI w), .int k_errands, .int k_alikes, .int k_law])), (k_first, .inl (cI, 24, .inl f_first)), (k_last, .inl (cI, 24, .inl f_last)), (k_sound, .inl (cI, 26, .inl f_sound))]) hP hD hS hA [0, 1, 2, 3, 4] [5] rfl rfl (by decide) (by decide) (va_runV (As := [.ref t, .int (nI i)]) (rest := [.int 0, .int su]) ⟨hx, hb, hml, hown, hts⟩ (c_X1_balance l D cB cI cJ cS cZ cO H.size o t (nI i) lt_group k_name k_worth k_times k_first k_second k_beforeLast k_last k_errandOf k_errandAfter k_sound k_followers k_leaders w k_errands k_alikes k_law f_first f_last f_sound (by first | assumption | omega | decide) (by first | assumption | omega | decide) (by first | assumption | omega | decide)) (cwV 2 hts gX1_surplusOf_X1_balance rfl rfl rfl (by decide +kernel) ⟨Nat.le_of_ble_eq_true rfl, Nat.le_of_ble_eq_true rfl⟩) (xPreV (win := [(o, .inr (1, [.ref lt_group])), (t, .inr (8, [.ref k_name, .ref k_worth, .ref k_times, .ref k_first, .ref k_second, .ref k_beforeLast, .ref k_last, .ref k_errandOf, .ref k_errandAfter, .ref k_sound, .ref k_followers, .ref k_leaders, .int (nI w), .int k_errands, .int k_alikes, .int k_law])), (k_first, .inl (cI, 24, .inl f_first)), (k_last, .inl (cI, 24, .inl f_last)), (k_sound, .inl (cI, 26, .inl f_sound))]) hN hK hP hD [0, 1, 2, 3, 4] (by decide) rfl 0 1 rfl rfl rfl) rfl rfl hl.1 rfl (lv_room (Nat.le_of_ble_eq_true rfl)) dX1_surplusOf_41 ⟨Nat.le_of_ble_eq_true rfl, Nat.le_of_ble_eq_true rfl⟩) (fun r_5 w0 H locs hw hP hD hS => ?_)
        subst hw
        have hP : va_P D vwCl [(lt_group, .inl (cI, 26, .inl fg)), (o, .inr (1, [.ref lt_group])), (t, .inr (8, [.ref k_name, .ref k_worth, .ref k_times, .ref k_first, .ref k_second, .ref k_beforeLast, .ref k_last, .ref k_errandOf, .ref k_errandAfter, .ref k_sound, .ref k_followers, .ref k_leaders, .int (nI w), .int k_errands, .int k_alikes, .int k_law])), (k_first, .inl (cI, 24, .inl f_first)), (k_last, .inl (cI, 24, .inl f_last)), (k_sound, .inl (cI, 26, .inl f_sound))] H := hP
        have hD : va_D A [(lt_group, .inl (cI, 26, .inl fg)), (o, .inr (1, [.ref lt_group])), (t, .inr (8, [.ref k_name, .ref k_worth, .ref k_times, .ref k_first, .ref k_second, .ref k_beforeLast, .ref k_last, .ref k_errandOf, .ref k_errandAfter, .ref k_sound, .ref k_followers, .ref k_leaders, .int (nI w), .int k_errands, .int k_alikes, .int k_law])), (k_first, .inl (cI, 24, .inl f_first)), (k_last, .inl (cI, 24, .inl f_last)), (k_sound, .inl (cI, 26, .inl f_sound))] := hD
        refine va_mmax hx hb (hml.trans hl.1.symm) hown (hts (.methodLink RX1 42 Lib.Math.max.name) (by decide +kernel)) (hts (.static Lib.Math.max.name) (by decide +kernel)) (hts (.initialized "java/lang/Math") (by decide +kernel)) (hts (.code Lib.Math.max.name Lib.Math.max.code 2 (some .int)) (by decide +kernel)) (Nat.le_of_ble_eq_true rfl) (Nat.le_of_ble_eq_true rfl) (Nat.le_of_ble_eq_true rfl) (Nat.le_of_ble_eq_true rfl) dX1_surplusOf_44 ?_
        refine lv_iadd hx hb dX1_surplusOf_47 ?_
        refine lv_topi (fun v_6 ev_6 => ?_)
        refine lv_istore_n (lv' := [(3, .int v_6), (4, .int (nI i)), (0, .ref o), (1, .ref t), (2, .int x)]) hx hb dX1_surplusOf_48 rfl hl (by decide) rfl (fun ls hl => ?_)
        refine lv_iinc (v := nI (i + 1)) (lv' := [(4, .int (nI (i + 1))), (3, .int v_6), (0, .ref o), (1, .ref t), (2, .int x)]) hx hb dX1_surplusOf_49 hl (k := 1) rfl (nI_1 i) (by decide) rfl (fun ls hl => ?_)
        refine lv_goto (tgt := 5) hx hb dX1_surplusOf_52 (by decide) ?_
        exact kk_5 _ _ _ _ (by rw [← hn_5]; omega) ⟨(i + 1), v_6, rfl, hP.sub [1, 2, 3, 4, 5, 0] rfl, hD.sub [1, 2, 3, 4, 5, 0] (by decide) rfl, hS, lv_sub hl [0, 1, 2, 3, 4] rfl, (by first | assumption | omega)⟩

set_option maxHeartbeats 4000000 in
set_option maxRecDepth 100000 in
theorem c_X1_lacking (l : Launch) (D : va_G) (cB cI cJ cS cZ cO : ClassId) (sz : Nat) (o : Nat) (t : Nat) (lt_group : Nat) (k_name : Nat) (k_worth : Nat) (k_times : Nat) (k_first : Nat) (k_second : Nat) (k_beforeLast : Nat) (k_last : Nat) (k_errandOf : Nat) (k_errandAfter : Nat) (k_sound : Nat) (k_followers : Nat) (k_leaders : Nat) (w : Nat) (k_errands : Int32) (k_alikes : Int32) (k_law : Int32) (f_first : Nat → Int32) (f_last : Nat → Int32) (f_sound : Nat → Int32) (fg : Nat → Int32) (hw : w ≤ 24) (hf : rgN f_first w 26) (hl1 : rgN f_last w 26) : Met l yX1_lacking wsX1_lacking ({ frames := 2, cells := 0, slots := 0, locals := 65 }) (xPre D (tyL cB cI cJ cS cZ cO) [(o, .inr (1, [.ref lt_group])), (t, .inr (8, [.ref k_name, .ref k_worth, .ref k_times, .ref k_first, .ref k_second, .ref k_beforeLast, .ref k_last, .ref k_errandOf, .ref k_errandAfter, .ref k_sound, .ref k_followers, .ref k_leaders, .int (nI w), .int k_errands, .int k_alikes, .int k_law])), (k_first, .inl (cI, 24, .inl f_first)), (k_last, .inl (cI, 24, .inl f_last)), (k_sound, .inl (cI, 26, .inl f_sound)), (lt_group, .inl (cI, 26, .inl fg))] sz [.ref o, .ref t]) (xQi D (tyL cB cI cJ cS cZ cO) (va_A [(o, .inr (1, [.ref lt_group])), (t, .inr (8, [.ref k_name, .ref k_worth, .ref k_times, .ref k_first, .ref k_second, .ref k_beforeLast, .ref k_last, .ref k_errandOf, .ref k_errandAfter, .ref k_sound, .ref k_followers, .ref k_leaders, .int (nI w), .int k_errands, .int k_alikes, .int k_law])), (k_first, .inl (cI, 24, .inl f_first)), (k_last, .inl (cI, 24, .inl f_last)), (k_sound, .inl (cI, 26, .inl f_sound)), (lt_group, .inl (cI, 26, .inl fg))] sz) (fun (r : Int32) (u : va_W) => ∃ g : Nat → Int32, u = [(o, .inr (1, [.ref lt_group])), (t, .inr (8, [.ref k_name, .ref k_worth, .ref k_times, .ref k_first, .ref k_second, .ref k_beforeLast, .ref k_last, .ref k_errandOf, .ref k_errandAfter, .ref k_sound, .ref k_followers, .ref k_leaders, .int (nI w), .int k_errands, .int k_alikes, .int k_law])), (k_first, .inl (cI, 24, .inl f_first)), (k_last, .inl (cI, 24, .inl f_last)), (k_sound, .inl (cI, 26, .inl f_sound)), (lt_group, .inl (cI, 26, .inl g))])) 0 0 (va_A [(o, .inr (1, [.ref lt_group])), (t, .inr (8, [.ref k_name, .ref k_worth, .ref k_times, .ref k_first, .ref k_second, .ref k_beforeLast, .ref k_last, .ref k_errandOf, .ref k_errandAfter, .ref k_sound, .ref k_followers, .ref k_leaders, .int (nI w), .int k_errands, .int k_alikes, .int k_law])), (k_first, .inl (cI, 24, .inl f_first)), (k_last, .inl (cI, 24, .inl f_last)), (k_sound, .inl (cI, 26, .inl f_sound)), (lt_group, .inl (cI, 26, .inl fg))] sz) := by
  refine Met.ofW (cc := cX1_lacking) (maxL := 4) (ret := (some .int)) (by decide) rfl ?_
  intro p e s m args below meth c s₁ B hml hv
  obtain ⟨rfl, hsz, hP, hK, hD0, hN⟩ := hv
  have hx := B.exec
  have hb := B.bytes
  have hr := B.returns
  have hts := atoms_spec (ws := wsX1_lacking) B.pre
  have hown : s.vm.findClass RX1 = some m.cls := findClass_of_methodNamed B.named
  have hlocks := B.notSynchronized
  subst hsz
  have hD := hD0.self (sz := s.heap.size)
  generalize hAe : va_A [(o, .inr (1, [.ref lt_group])), (t, .inr (8, [.ref k_name, .ref k_worth, .ref k_times, .ref k_first, .ref k_second, .ref k_beforeLast, .ref k_last, .ref k_errandOf, .ref k_errandAfter, .ref k_sound, .ref k_followers, .ref k_leaders, .int (nI w), .int k_errands, .int k_alikes, .int k_law])), (k_first, .inl (cI, 24, .inl f_first)), (k_last, .inl (cI, 24, .inl f_last)), (k_sound, .inl (cI, 26, .inl f_sound)), (lt_group, .inl (cI, 26, .inl fg))] s.heap.size = A at hD ⊢
  have hA : ∀ q : Nat, s.heap.size ≤ q → A q := fun q h => by rw [← hAe]; exact Or.inr h
  have hS : va_S A s.heap s.heap [] := va_S.rf
  have hP : va_P D vwCl [(o, .inr (1, [.ref lt_group])), (t, .inr (8, [.ref k_name, .ref k_worth, .ref k_times, .ref k_first, .ref k_second, .ref k_beforeLast, .ref k_last, .ref k_errandOf, .ref k_errandAfter, .ref k_sound, .ref k_followers, .ref k_leaders, .int (nI w), .int k_errands, .int k_alikes, .int k_law])), (k_first, .inl (cI, 24, .inl f_first)), (k_last, .inl (cI, 24, .inl f_last)), (k_sound, .inl (cI, 26, .inl f_sound)), (lt_group, .inl (cI, 26, .inl fg))] s.heap := hP
  have hl := lv_entry ([.ref o, .ref t]) (n := 4) (Nat.le_of_ble_eq_true rfl)
  rw [lg_entry_eq]
  generalize (lg_sl ([.ref o, .ref t]) ++ List.replicate (4 - (lg_sl ([.ref o, .ref t])).length) Slot.unset).toArray = ls at hl ⊢
  have hl : lv_has ls 4 [(0, .ref o), (1, .ref t)] := hl
  refine lv_aload_n hx hb dX1_lacking_0 rfl (lv_at hl 0 rfl) ?_
  refine lv_aload_n hx hb dX1_lacking_1 rfl (lv_at hl 1 rfl) ?_
  refine xCv (wr := []) (win := [(o, .inr (1, [.ref lt_group])), (t, .inr (8, [.ref k_name, .ref k_worth, .ref k_times, .ref k_first, .ref k_second, .ref k_beforeLast, .ref k_last, .ref k_errandOf, .ref k_errandAfter, .ref k_sound, .ref k_followers, .ref k_leaders, .int (nI w), .int k_errands, .int k_alikes, .int k_law])), (k_first, .inl (cI, 24, .inl f_first)), (k_last, .inl (cI, 24, .inl f_last)), (k_sound, .inl (cI, 26, .inl f_sound)), (lt_group, .inl (cI, 26, .inl fg))]) hP hD hS hA [0, 1, 2, 3, 4, 5] [] rfl rfl (by decide) (by decide) (va_runV (As := [.ref t]) (rest := []) ⟨hx, hb, hml, hown, hts⟩ (c_X1_gather l D cB cI cJ cS cZ cO s.heap.size o t lt_group k_name k_worth k_times k_first k_second k_beforeLast k_last k_errandOf k_errandAfter k_sound k_followers k_leaders w k_errands k_alikes k_law f_first f_last f_sound fg (by first | assumption | omega | decide) (by first | assumption | omega | decide) (by first | assumption | omega | decide)) (cwV 1 hts gX1_lacking_X1_gather rfl rfl rfl (by decide +kernel) ⟨Nat.le_of_ble_eq_true rfl, Nat.le_of_ble_eq_true rfl⟩) (xPreV (win := [(o, .inr (1, [.ref lt_group])), (t, .inr (8, [.ref k_name, .ref k_worth, .ref k_times, .ref k_first, .ref k_second, .ref k_beforeLast, .ref k_last, .ref k_errandOf, .ref k_errandAfter, .ref k_sound, .ref k_followers, .ref k_leaders, .int (nI w), .int k_errands, .int k_alikes, .int k_law])), (k_first, .inl (cI, 24, .inl f_first)), (k_last, .inl (cI, 24, .inl f_last)), (k_sound, .inl (cI, 26, .inl f_sound)), (lt_group, .inl (cI, 26, .inl fg))]) hN hK hP hD [0, 1, 2, 3, 4, 5] (by decide) rfl 0 1 rfl rfl rfl) rfl rfl hl.1 rfl (lv_room (Nat.le_of_ble_eq_true rfl)) dX1_lacking_2 ⟨Nat.le_of_ble_eq_true rfl, Nat.le_of_ble_eq_true rfl⟩) (fun w0 H locs hw hP hD hS => ?_)
  obtain ⟨g_1, rfl⟩ := hw
  have hP : va_P D vwCl [(o, .inr (1, [.ref lt_group])), (t, .inr (8, [.ref k_name, .ref k_worth, .ref k_times, .ref k_first, .ref k_second, .ref k_beforeLast, .ref k_last, .ref k_errandOf, .ref k_errandAfter, .ref k_sound, .ref k_followers, .ref k_leaders, .int (nI w), .int k_errands, .int k_alikes, .int k_law])), (k_first, .inl (cI, 24, .inl f_first)), (k_last, .inl (cI, 24, .inl f_last)), (k_sound, .inl (cI, 26, .inl f_sound)), (lt_group, .inl (cI, 26, .inl g_1))] H := hP
  have hD : va_D A [(o, .inr (1, [.ref lt_group])), (t, .inr (8, [.ref k_name, .ref k_worth, .ref k_times, .ref k_first, .ref k_second, .ref k_beforeLast, .ref k_last, .ref k_errandOf, .ref k_errandAfter, .ref k_sound, .ref k_followers, .ref k_leaders, .int (nI w), .int k_errands, .int k_alikes, .int k_law])), (k_first, .inl (cI, 24, .inl f_first)), (k_last, .inl (cI, 24, .inl f_last)), (k_sound, .inl (cI, 26, .inl f_sound)), (lt_group, .inl (cI, 26, .inl g_1))] := hD
  refine lv_iconst (v := 0) hx hb dX1_lacking_5 (by decide) ?_
  refine lv_istore_n (lv' := [(2, .int 0), (0, .ref o), (1, .ref t)]) hx hb dX1_lacking_6 rfl hl (by decide) rfl (fun ls hl => ?_)
  refine lv_iconst (v := 0) hx hb dX1_lacking_7 (by decide) ?_
  refine lv_istore_n (lv' := [(3, .int 0), (2, .int 0), (0, .ref o), (1, .ref t)]) hx hb dX1_lacking_8 rfl hl (by decide) rfl (fun ls hl => ?_)
  refine xb_wh (fun (n9 : Nat) H locs ls => ∃ i : Nat, ∃ wk : Int32, (26 - i) = n9 ∧ va_P D vwCl [(o, .inr (1, [.ref lt_group])), (t, .inr (8, [.ref k_name, .ref k_worth, .ref k_times, .ref k_first, .ref k_second, .ref k_beforeLast, .ref k_last, .ref k_errandOf, .ref k_errandAfter, .ref k_sound, .ref k_followers, .ref k_leaders, .int (nI w), .int k_errands, .int k_alikes, .int k_law])), (k_first, .inl (cI, 24, .inl f_first)), (k_last, .inl (cI, 24, .inl f_last)), (k_sound, .inl (cI, 26, .inl f_sound)), (lt_group, .inl (cI, 26, .inl g_1))] H ∧ va_D A [(o, .inr (1, [.ref lt_group])), (t, .inr (8, [.ref k_name, .ref k_worth, .ref k_times, .ref k_first, .ref k_second, .ref k_beforeLast, .ref k_last, .ref k_errandOf, .ref k_errandAfter, .ref k_sound, .ref k_followers, .ref k_leaders, .int (nI w), .int k_errands, .int k_alikes, .int k_law])), (k_first, .inl (cI, 24, .inl f_first)), (k_last, .inl (cI, 24, .inl f_last)), (k_sound, .inl (cI, 26, .inl f_sound)), (lt_group, .inl (cI, 26, .inl g_1))] ∧ va_S A s.heap H locs ∧ lv_has ls 4 [(3, .int (nI i)), (2, .int wk), (0, .ref o), (1, .ref t)] ∧ (i ≤ 26)) ⟨0, 0, rfl, hP, hD, hS, lv_sub hl [0, 1, 2, 3] rfl, (by first | assumption | omega)⟩ (fun n9 H locs ls hI kk_9 => ?_)
  obtain ⟨i, wk, hn_9, hP, hD, hS, hl, hF_h_2⟩ := hI
  refine lv_iload_n hx hb dX1_lacking_9 rfl (lv_at hl 0 rfl) ?_
  refine lv_bipush (v := 26) hx hb dX1_lacking_10 (by decide) ?_
  refine lv_icmp_ge (tgt := 43) hx hb dX1_lacking_12 (by decide) (fun c_3 => ?_) (fun c_3 => ?_)
  · have dc_3 : 26 ≤ i := (nI_leI (a := 26) (b := i) (by omega) (by omega)).mp c_3
    refine lv_iconst (v := 0) hx hb dX1_lacking_43 (by decide) ?_
    refine lv_iload_n hx hb dX1_lacking_44 rfl (lv_at hl 1 rfl) ?_
    refine lv_iconst (v := 1) hx hb dX1_lacking_45 (by decide) ?_
    refine lv_isub hx hb dX1_lacking_46 ?_
    refine va_mmax hx hb (hml.trans hl.1.symm) hown (hts (.methodLink RX1 42 Lib.Math.max.name) (by decide +kernel)) (hts (.static Lib.Math.max.name) (by decide +kernel)) (hts (.initialized "java/lang/Math") (by decide +kernel)) (hts (.code Lib.Math.max.name Lib.Math.max.code 2 (some .int)) (by decide +kernel)) (Nat.le_of_ble_eq_true rfl) (Nat.le_of_ble_eq_true rfl) (Nat.le_of_ble_eq_true rfl) (Nat.le_of_ble_eq_true rfl) dX1_lacking_47 ?_
    have hP9 := hP.sub (ws' := [(o, .inr (1, [.ref lt_group])), (t, .inr (8, [.ref k_name, .ref k_worth, .ref k_times, .ref k_first, .ref k_second, .ref k_beforeLast, .ref k_last, .ref k_errandOf, .ref k_errandAfter, .ref k_sound, .ref k_followers, .ref k_leaders, .int (nI w), .int k_errands, .int k_alikes, .int k_law])), (k_first, .inl (cI, 24, .inl f_first)), (k_last, .inl (cI, 24, .inl f_last)), (k_sound, .inl (cI, 26, .inl f_sound)), (lt_group, .inl (cI, 26, .inl g_1))]) [0, 1, 2, 3, 4, 5] rfl
    have hD9 := hD.sub (ws' := [(o, .inr (1, [.ref lt_group])), (t, .inr (8, [.ref k_name, .ref k_worth, .ref k_times, .ref k_first, .ref k_second, .ref k_beforeLast, .ref k_last, .ref k_errandOf, .ref k_errandAfter, .ref k_sound, .ref k_followers, .ref k_leaders, .int (nI w), .int k_errands, .int k_alikes, .int k_law])), (k_first, .inl (cI, 24, .inl f_first)), (k_last, .inl (cI, 24, .inl f_last)), (k_sound, .inl (cI, 26, .inl f_sound)), (lt_group, .inl (cI, 26, .inl g_1))]) [0, 1, 2, 3, 4, 5] (by decide) rfl
    refine W.widen (k := 0) (n := 0) (Nat.le_of_ble_eq_true rfl) (Nat.le_of_ble_eq_true rfl) ?_
    exact W.iret (v := if 0 < (wk - 1) then (wk - 1) else 0) hx hb hr (fun tz htz hWz => ⟨⟨if 0 < (wk - 1) then (wk - 1) else 0, [(o, .inr (1, [.ref lt_group])), (t, .inr (8, [.ref k_name, .ref k_worth, .ref k_times, .ref k_first, .ref k_second, .ref k_beforeLast, .ref k_last, .ref k_errandOf, .ref k_errandAfter, .ref k_sound, .ref k_followers, .ref k_leaders, .int (nI w), .int k_errands, .int k_alikes, .int k_law])), (k_first, .inl (cI, 24, .inl f_first)), (k_last, .inl (cI, 24, .inl f_last)), (k_sound, .inl (cI, 26, .inl f_sound)), (lt_group, .inl (cI, 26, .inl g_1))], rfl, ⟨g_1, rfl⟩, by rw [htz]; exact hP9, va_K.moved hWz.alike hK, hD9⟩, hS.F htz⟩) hS.2.2 dX1_lacking_50
  · have dc_3 : ¬ 26 ≤ i := fun h => c_3 ((nI_leI (a := 26) (b := i) (by omega) (by omega)).mpr h)
    refine lv_aload_n hx hb dX1_lacking_15 rfl (lv_at hl 2 rfl) ?_
    refine lv_aload_n hx hb dX1_lacking_16 rfl (lv_at hl 3 rfl) ?_
    refine lv_iload_n hx hb dX1_lacking_17 rfl (lv_at hl 0 rfl) ?_
    refine xCi (wr := [(k_last, .inl (cI, 24, .inl f_last)), (k_sound, .inl (cI, 26, .inl f_sound))]) (win := [(o, .inr (1, [.ref lt_group])), (t, .inr (8, [.ref k_name, .ref k_worth, .ref k_times, .ref k_first, .ref k_second, .ref k_beforeLast, .ref k_last, .ref k_errandOf, .ref k_errandAfter, .ref k_sound, .ref k_followers, .ref k_leaders, .int (nI w), .int k_errands, .int k_alikes, .int k_law])), (k_first, .inl (cI, 24, .inl f_first)), (lt_group, .inl (cI, 26, .inl g_1))]) hP hD hS hA [0, 1, 2, 5] [3, 4] rfl rfl (by decide) (by decide) (va_runV (As := [.ref t, .int (nI i)]) (rest := []) ⟨hx, hb, hml, hown, hts⟩ (c_X1_hasWords l D cB cI cJ cS cZ cO H.size o t (nI i) lt_group k_name k_worth k_times k_first k_second k_beforeLast k_last k_errandOf k_errandAfter k_sound k_followers k_leaders w k_errands k_alikes k_law f_first g_1 (by first | assumption | omega | decide) (by first | assumption | omega | decide)) (cwV 2 hts gX1_lacking_X1_hasWords rfl rfl rfl (by decide +kernel) ⟨Nat.le_of_ble_eq_true rfl, Nat.le_of_ble_eq_true rfl⟩) (xPreV (win := [(o, .inr (1, [.ref lt_group])), (t, .inr (8, [.ref k_name, .ref k_worth, .ref k_times, .ref k_first, .ref k_second, .ref k_beforeLast, .ref k_last, .ref k_errandOf, .ref k_errandAfter, .ref k_sound, .ref k_followers, .ref k_leaders, .int (nI w), .int k_errands, .int k_alikes, .int k_law])), (k_first, .inl (cI, 24, .inl f_first)), (lt_group, .inl (cI, 26, .inl g_1))]) hN hK hP hD [0, 1, 2, 5] (by decide) rfl 0 1 rfl rfl rfl) rfl rfl hl.1 rfl (lv_room (Nat.le_of_ble_eq_true rfl)) dX1_lacking_18 ⟨Nat.le_of_ble_eq_true rfl, Nat.le_of_ble_eq_true rfl⟩) (fun r_4 w0 H locs hw hP hD hS => ?_)
    obtain ⟨rfl, hf_5⟩ := hw
    have hP : va_P D vwCl [(k_last, .inl (cI, 24, .inl f_last)), (k_sound, .inl (cI, 26, .inl f_sound)), (o, .inr (1, [.ref lt_group])), (t, .inr (8, [.ref k_name, .ref k_worth, .ref k_times, .ref k_first, .ref k_second, .ref k_beforeLast, .ref k_last, .ref k_errandOf, .ref k_errandAfter, .ref k_sound, .ref k_followers, .ref k_leaders, .int (nI w), .int k_errands, .int k_alikes, .int k_law])), (k_first, .inl (cI, 24, .inl f_first)), (lt_group, .inl (cI, 26, .inl g_1))] H := hP
    have hD : va_D A [(k_last, .inl (cI, 24, .inl f_last)), (k_sound, .inl (cI, 26, .inl f_sound)), (o, .inr (1, [.ref lt_group])), (t, .inr (8, [.ref k_name, .ref k_worth, .ref k_times, .ref k_first, .ref k_second, .ref k_beforeLast, .ref k_last, .ref k_errandOf, .ref k_errandAfter, .ref k_sound, .ref k_followers, .ref k_leaders, .int (nI w), .int k_errands, .int k_alikes, .int k_law])), (k_first, .inl (cI, 24, .inl f_first)), (lt_group, .inl (cI, 26, .inl g_1))] := hD
    refine lv_if_eq (tgt := 37) hx hb dX1_lacking_21 (by decide) (fun c_6 => ?_) (fun c_6 => ?_)
    · refine lv_iinc (v := nI (i + 1)) (lv' := [(3, .int (nI (i + 1))), (2, .int wk), (0, .ref o), (1, .ref t)]) hx hb dX1_lacking_37 hl (k := 0) rfl (nI_1 i) (by decide) rfl (fun ls hl => ?_)
      refine lv_goto (tgt := 9) hx hb dX1_lacking_40 (by decide) ?_
      exact kk_9 _ _ _ _ (by rw [← hn_9]; omega) ⟨(i + 1), wk, rfl, hP.sub [2, 3, 4, 0, 1, 5] rfl, hD.sub [2, 3, 4, 0, 1, 5] (by decide) rfl, hS, lv_sub hl [0, 1, 2, 3] rfl, (by first | assumption | omega)⟩
    · refine lv_iload_n hx hb dX1_lacking_24 rfl (lv_at hl 1 rfl) ?_
      refine lv_iconst (v := 1) hx hb dX1_lacking_25 (by decide) ?_
      refine lv_aload_n hx hb dX1_lacking_26 rfl (lv_at hl 2 rfl) ?_
      refine lv_aload_n hx hb dX1_lacking_27 rfl (lv_at hl 3 rfl) ?_
      refine lv_iload_n hx hb dX1_lacking_28 rfl (lv_at hl 0 rfl) ?_
      refine xCi (wr := []) (win := [(o, .inr (1, [.ref lt_group])), (t, .inr (8, [.ref k_name, .ref k_worth, .ref k_times, .ref k_first, .ref k_second, .ref k_beforeLast, .ref k_last, .ref k_errandOf, .ref k_errandAfter, .ref k_sound, .ref k_followers, .ref k_leaders, .int (nI w), .int k_errands, .int k_alikes, .int k_law])), (k_first, .inl (cI, 24, .inl f_first)), (k_last, .inl (cI, 24, .inl f_last)), (k_sound, .inl (cI, 26, .inl f_sound)), (lt_group, .inl (cI, 26, .inl g_1))]) hP hD hS hA [2, 3, 4, 0, 1, 5] [] rfl rfl (by decide) (by decide) (va_runV (As := [.ref t, .int (nI i)]) (rest := [.int 1, .int wk]) ⟨hx, hb, hml, hown, hts⟩ (c_X1_surplusOf l D cB cI cJ cS cZ cO H.size o t (nI i) lt_group k_name k_worth k_times k_first k_second k_beforeLast k_last k_errandOf k_errandAfter k_sound k_followers k_leaders w k_errands k_alikes k_law f_first f_last f_sound g_1 (by first | assumption | omega | decide) (by first | assumption | omega | decide) (by first | assumption | omega | decide)) (cwV 2 hts gX1_lacking_X1_surplusOf rfl rfl rfl (by decide +kernel) ⟨Nat.le_of_ble_eq_true rfl, Nat.le_of_ble_eq_true rfl⟩) (xPreV (win := [(o, .inr (1, [.ref lt_group])), (t, .inr (8, [.ref k_name, .ref k_worth, .ref k_times, .ref k_first, .ref k_second, .ref k_beforeLast, .ref k_last, .ref k_errandOf, .ref k_errandAfter, .ref k_sound, .ref k_followers, .ref k_leaders, .int (nI w), .int k_errands, .int k_alikes, .int k_law])), (k_first, .inl (cI, 24, .inl f_first)), (k_last, .inl (cI, 24, .inl f_last)), (k_sound, .inl (cI, 26, .inl f_sound)), (lt_group, .inl (cI, 26, .inl g_1))]) hN hK hP hD [2, 3, 4, 0, 1, 5] (by decide) rfl 2 1 rfl rfl rfl) rfl rfl hl.1 rfl (lv_room (Nat.le_of_ble_eq_true rfl)) dX1_lacking_29 ⟨Nat.le_of_ble_eq_true rfl, Nat.le_of_ble_eq_true rfl⟩) (fun r_7 w0 H locs hw hP hD hS => ?_)
      subst hw
      have hP : va_P D vwCl [(o, .inr (1, [.ref lt_group])), (t, .inr (8, [.ref k_name, .ref k_worth, .ref k_times, .ref k_first, .ref k_second, .ref k_beforeLast, .ref k_last, .ref k_errandOf, .ref k_errandAfter, .ref k_sound, .ref k_followers, .ref k_leaders, .int (nI w), .int k_errands, .int k_alikes, .int k_law])), (k_first, .inl (cI, 24, .inl f_first)), (k_last, .inl (cI, 24, .inl f_last)), (k_sound, .inl (cI, 26, .inl f_sound)), (lt_group, .inl (cI, 26, .inl g_1))] H := hP
      have hD : va_D A [(o, .inr (1, [.ref lt_group])), (t, .inr (8, [.ref k_name, .ref k_worth, .ref k_times, .ref k_first, .ref k_second, .ref k_beforeLast, .ref k_last, .ref k_errandOf, .ref k_errandAfter, .ref k_sound, .ref k_followers, .ref k_leaders, .int (nI w), .int k_errands, .int k_alikes, .int k_law])), (k_first, .inl (cI, 24, .inl f_first)), (k_last, .inl (cI, 24, .inl f_last)), (k_sound, .inl (cI, 26, .inl f_sound)), (lt_group, .inl (cI, 26, .inl g_1))] := hD
      refine va_mmax hx hb (hml.trans hl.1.symm) hown (hts (.methodLink RX1 42 Lib.Math.max.name) (by decide +kernel)) (hts (.static Lib.Math.max.name) (by decide +kernel)) (hts (.initialized "java/lang/Math") (by decide +kernel)) (hts (.code Lib.Math.max.name Lib.Math.max.code 2 (some .int)) (by decide +kernel)) (Nat.le_of_ble_eq_true rfl) (Nat.le_of_ble_eq_true rfl) (Nat.le_of_ble_eq_true rfl) (Nat.le_of_ble_eq_true rfl) dX1_lacking_32 ?_
      refine lv_iadd hx hb dX1_lacking_35 ?_
      refine lv_topi (fun v_8 ev_8 => ?_)
      refine lv_istore_n (lv' := [(2, .int v_8), (3, .int (nI i)), (0, .ref o), (1, .ref t)]) hx hb dX1_lacking_36 rfl hl (by decide) rfl (fun ls hl => ?_)
      refine lv_iinc (v := nI (i + 1)) (lv' := [(3, .int (nI (i + 1))), (2, .int v_8), (0, .ref o), (1, .ref t)]) hx hb dX1_lacking_37 hl (k := 1) rfl (nI_1 i) (by decide) rfl (fun ls hl => ?_)
      refine lv_goto (tgt := 9) hx hb dX1_lacking_40 (by decide) ?_
      exact kk_9 _ _ _ _ (by rw [← hn_9]; omega) ⟨(i + 1), v_8, rfl, hP, hD, hS, lv_sub hl [0, 1, 2, 3] rfl, (by first | assumption | omega)⟩
