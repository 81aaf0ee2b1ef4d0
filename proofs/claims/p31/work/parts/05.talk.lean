theorem dJ6_bitCount_0f7a4_0 : decode cJ6_bitCount_0f7a4 0 = .ok (.iload_n 0, 1) := by decide +kernel
theorem dJ6_bitCount_0f7a4_1 : decode cJ6_bitCount_0f7a4 1 = .ok (.iload_n 0, 1) := by decide +kernel
theorem dJ6_bitCount_0f7a4_2 : decode cJ6_bitCount_0f7a4 2 = .ok (.iconst 1, 1) := by decide +kernel
theorem dJ6_bitCount_0f7a4_3 : decode cJ6_bitCount_0f7a4 3 = .ok (.iushr, 1) := by decide +kernel
theorem dJ6_bitCount_0f7a4_4 : decode cJ6_bitCount_0f7a4 4 = .ok (.ldc_w 265, 3) := by decide +kernel
theorem dJ6_bitCount_0f7a4_7 : decode cJ6_bitCount_0f7a4 7 = .ok (.iand, 1) := by decide +kernel
theorem dJ6_bitCount_0f7a4_8 : decode cJ6_bitCount_0f7a4 8 = .ok (.isub, 1) := by decide +kernel
theorem dJ6_bitCount_0f7a4_9 : decode cJ6_bitCount_0f7a4 9 = .ok (.istore_n 0, 1) := by decide +kernel
theorem dJ6_bitCount_0f7a4_10 : decode cJ6_bitCount_0f7a4 10 = .ok (.iload_n 0, 1) := by decide +kernel
theorem dJ6_bitCount_0f7a4_11 : decode cJ6_bitCount_0f7a4 11 = .ok (.ldc_w 266, 3) := by decide +kernel
theorem dJ6_bitCount_0f7a4_14 : decode cJ6_bitCount_0f7a4 14 = .ok (.iand, 1) := by decide +kernel
theorem dJ6_bitCount_0f7a4_15 : decode cJ6_bitCount_0f7a4 15 = .ok (.iload_n 0, 1) := by decide +kernel
theorem dJ6_bitCount_0f7a4_16 : decode cJ6_bitCount_0f7a4 16 = .ok (.iconst 2, 1) := by decide +kernel
theorem dJ6_bitCount_0f7a4_17 : decode cJ6_bitCount_0f7a4 17 = .ok (.iushr, 1) := by decide +kernel
theorem dJ6_bitCount_0f7a4_18 : decode cJ6_bitCount_0f7a4 18 = .ok (.ldc_w 266, 3) := by decide +kernel
theorem dJ6_bitCount_0f7a4_21 : decode cJ6_bitCount_0f7a4 21 = .ok (.iand, 1) := by decide +kernel
theorem dJ6_bitCount_0f7a4_22 : decode cJ6_bitCount_0f7a4 22 = .ok (.iadd, 1) := by decide +kernel
theorem dJ6_bitCount_0f7a4_23 : decode cJ6_bitCount_0f7a4 23 = .ok (.istore_n 0, 1) := by decide +kernel
theorem dJ6_bitCount_0f7a4_24 : decode cJ6_bitCount_0f7a4 24 = .ok (.iload_n 0, 1) := by decide +kernel
theorem dJ6_bitCount_0f7a4_25 : decode cJ6_bitCount_0f7a4 25 = .ok (.iload_n 0, 1) := by decide +kernel
theorem dJ6_bitCount_0f7a4_26 : decode cJ6_bitCount_0f7a4 26 = .ok (.iconst 4, 1) := by decide +kernel
theorem dJ6_bitCount_0f7a4_27 : decode cJ6_bitCount_0f7a4 27 = .ok (.iushr, 1) := by decide +kernel
theorem dJ6_bitCount_0f7a4_28 : decode cJ6_bitCount_0f7a4 28 = .ok (.iadd, 1) := by decide +kernel
theorem dJ6_bitCount_0f7a4_29 : decode cJ6_bitCount_0f7a4 29 = .ok (.ldc_w 267, 3) := by decide +kernel
theorem dJ6_bitCount_0f7a4_32 : decode cJ6_bitCount_0f7a4 32 = .ok (.iand, 1) := by decide +kernel
theorem dJ6_bitCount_0f7a4_33 : decode cJ6_bitCount_0f7a4 33 = .ok (.istore_n 0, 1) := by decide +kernel
theorem dJ6_bitCount_0f7a4_34 : decode cJ6_bitCount_0f7a4 34 = .ok (.iload_n 0, 1) := by decide +kernel
theorem dJ6_bitCount_0f7a4_35 : decode cJ6_bitCount_0f7a4 35 = .ok (.iload_n 0, 1) := by decide +kernel
theorem dJ6_bitCount_0f7a4_36 : decode cJ6_bitCount_0f7a4 36 = .ok (.bipush 8, 2) := by decide +kernel
theorem dJ6_bitCount_0f7a4_38 : decode cJ6_bitCount_0f7a4 38 = .ok (.iushr, 1) := by decide +kernel
theorem dJ6_bitCount_0f7a4_39 : decode cJ6_bitCount_0f7a4 39 = .ok (.iadd, 1) := by decide +kernel
theorem dJ6_bitCount_0f7a4_40 : decode cJ6_bitCount_0f7a4 40 = .ok (.istore_n 0, 1) := by decide +kernel
theorem dJ6_bitCount_0f7a4_41 : decode cJ6_bitCount_0f7a4 41 = .ok (.iload_n 0, 1) := by decide +kernel
theorem dJ6_bitCount_0f7a4_42 : decode cJ6_bitCount_0f7a4 42 = .ok (.iload_n 0, 1) := by decide +kernel
theorem dJ6_bitCount_0f7a4_43 : decode cJ6_bitCount_0f7a4 43 = .ok (.bipush 16, 2) := by decide +kernel
theorem dJ6_bitCount_0f7a4_45 : decode cJ6_bitCount_0f7a4 45 = .ok (.iushr, 1) := by decide +kernel
theorem dJ6_bitCount_0f7a4_46 : decode cJ6_bitCount_0f7a4 46 = .ok (.iadd, 1) := by decide +kernel
theorem dJ6_bitCount_0f7a4_47 : decode cJ6_bitCount_0f7a4 47 = .ok (.istore_n 0, 1) := by decide +kernel
theorem dJ6_bitCount_0f7a4_48 : decode cJ6_bitCount_0f7a4 48 = .ok (.iload_n 0, 1) := by decide +kernel
theorem dJ6_bitCount_0f7a4_49 : decode cJ6_bitCount_0f7a4 49 = .ok (.bipush 63, 2) := by decide +kernel
theorem dJ6_bitCount_0f7a4_51 : decode cJ6_bitCount_0f7a4 51 = .ok (.iand, 1) := by decide +kernel
theorem dJ6_bitCount_0f7a4_52 : decode cJ6_bitCount_0f7a4 52 = .ok (.ireturn, 1) := by decide +kernel
theorem dX6_begin_0 : decode cX6_begin 0 = .ok (.aload_n 0, 1) := by decide +kernel
theorem dX6_begin_1 : decode cX6_begin 1 = .ok (.iconst (-1), 1) := by decide +kernel
theorem dX6_begin_2 : decode cX6_begin 2 = .ok (.putfield 15, 3) := by decide +kernel
theorem dX6_begin_5 : decode cX6_begin 5 = .ok (.aload_n 0, 1) := by decide +kernel
theorem dX6_begin_6 : decode cX6_begin 6 = .ok (.iconst 0, 1) := by decide +kernel
theorem dX6_begin_7 : decode cX6_begin 7 = .ok (.putfield 37, 3) := by decide +kernel
theorem dX6_begin_10 : decode cX6_begin 10 = .ok (.return_, 1) := by decide +kernel
theorem dX6_copy_0 : decode cX6_copy 0 = .ok (.aload_n 1, 1) := by decide +kernel
theorem dX6_copy_1 : decode cX6_copy 1 = .ok (.getfield 9, 3) := by decide +kernel
theorem dX6_copy_4 : decode cX6_copy 4 = .ok (.iconst 0, 1) := by decide +kernel
theorem dX6_copy_5 : decode cX6_copy 5 = .ok (.aload_n 0, 1) := by decide +kernel
theorem dX6_copy_6 : decode cX6_copy 6 = .ok (.getfield 9, 3) := by decide +kernel
theorem dX6_copy_9 : decode cX6_copy 9 = .ok (.iconst 0, 1) := by decide +kernel
theorem dX6_copy_10 : decode cX6_copy 10 = .ok (.bipush 24, 2) := by decide +kernel
theorem dX6_copy_12 : decode cX6_copy 12 = .ok (.invokestatic 40, 3) := by decide +kernel
theorem dX6_copy_15 : decode cX6_copy 15 = .ok (.aload_n 0, 1) := by decide +kernel
theorem dX6_copy_16 : decode cX6_copy 16 = .ok (.aload_n 1, 1) := by decide +kernel
theorem dX6_copy_17 : decode cX6_copy 17 = .ok (.getfield 15, 3) := by decide +kernel
theorem dX6_copy_20 : decode cX6_copy 20 = .ok (.putfield 15, 3) := by decide +kernel
theorem dX6_copy_23 : decode cX6_copy 23 = .ok (.aload_n 0, 1) := by decide +kernel
theorem dX6_copy_24 : decode cX6_copy 24 = .ok (.aload_n 1, 1) := by decide +kernel
theorem dX6_copy_25 : decode cX6_copy 25 = .ok (.getfield 37, 3) := by decide +kernel
theorem dX6_copy_28 : decode cX6_copy 28 = .ok (.putfield 37, 3) := by decide +kernel
theorem dX6_copy_31 : decode cX6_copy 31 = .ok (.aload_n 0, 1) := by decide +kernel
theorem dX6_copy_32 : decode cX6_copy 32 = .ok (.aload_n 1, 1) := by decide +kernel
theorem dX6_copy_33 : decode cX6_copy 33 = .ok (.getfield 28, 3) := by decide +kernel
theorem dX6_copy_36 : decode cX6_copy 36 = .ok (.putfield 28, 3) := by decide +kernel
theorem dX6_copy_39 : decode cX6_copy 39 = .ok (.aload_n 0, 1) := by decide +kernel
theorem dX6_copy_40 : decode cX6_copy 40 = .ok (.aload_n 1, 1) := by decide +kernel
theorem dX6_copy_41 : decode cX6_copy 41 = .ok (.getfield 31, 3) := by decide +kernel
theorem dX6_copy_44 : decode cX6_copy 44 = .ok (.putfield 31, 3) := by decide +kernel
theorem dX6_copy_47 : decode cX6_copy 47 = .ok (.aload_n 0, 1) := by decide +kernel
theorem dX6_copy_48 : decode cX6_copy 48 = .ok (.aload_n 1, 1) := by decide +kernel
theorem dX6_copy_49 : decode cX6_copy 49 = .ok (.getfield 19, 3) := by decide +kernel
theorem dX6_copy_52 : decode cX6_copy 52 = .ok (.putfield 19, 3) := by decide +kernel
theorem dX6_copy_55 : decode cX6_copy 55 = .ok (.return_, 1) := by decide +kernel
theorem dX6_forget_0 : decode cX6_forget 0 = .ok (.aload_n 0, 1) := by decide +kernel
theorem dX6_forget_1 : decode cX6_forget 1 = .ok (.getfield 9, 3) := by decide +kernel
theorem dX6_forget_4 : decode cX6_forget 4 = .ok (.iconst 0, 1) := by decide +kernel
theorem dX6_forget_5 : decode cX6_forget 5 = .ok (.invokestatic 22, 3) := by decide +kernel
theorem dX6_forget_8 : decode cX6_forget 8 = .ok (.aload_n 0, 1) := by decide +kernel
theorem dX6_forget_9 : decode cX6_forget 9 = .ok (.iconst 0, 1) := by decide +kernel
theorem dX6_forget_10 : decode cX6_forget 10 = .ok (.putfield 28, 3) := by decide +kernel
theorem dX6_forget_13 : decode cX6_forget 13 = .ok (.aload_n 0, 1) := by decide +kernel
theorem dX6_forget_14 : decode cX6_forget 14 = .ok (.iconst 0, 1) := by decide +kernel
theorem dX6_forget_15 : decode cX6_forget 15 = .ok (.putfield 31, 3) := by decide +kernel
theorem dX6_forget_18 : decode cX6_forget 18 = .ok (.aload_n 0, 1) := by decide +kernel
theorem dX6_forget_19 : decode cX6_forget 19 = .ok (.invokevirtual 34, 3) := by decide +kernel
theorem dX6_forget_22 : decode cX6_forget 22 = .ok (.return_, 1) := by decide +kernel
theorem dX6_left_0 : decode cX6_left 0 = .ok (.aload_n 1, 1) := by decide +kernel
theorem dX6_left_1 : decode cX6_left 1 = .ok (.getfield 46, 3) := by decide +kernel
theorem dX6_left_4 : decode cX6_left 4 = .ok (.iload_n 2, 1) := by decide +kernel
theorem dX6_left_5 : decode cX6_left 5 = .ok (.iaload, 1) := by decide +kernel
theorem dX6_left_6 : decode cX6_left 6 = .ok (.aload_n 0, 1) := by decide +kernel
theorem dX6_left_7 : decode cX6_left 7 = .ok (.getfield 9, 3) := by decide +kernel
theorem dX6_left_10 : decode cX6_left 10 = .ok (.iload_n 2, 1) := by decide +kernel
theorem dX6_left_11 : decode cX6_left 11 = .ok (.iaload, 1) := by decide +kernel
theorem dX6_left_12 : decode cX6_left 12 = .ok (.isub, 1) := by decide +kernel
theorem dX6_left_13 : decode cX6_left 13 = .ok (.ireturn, 1) := by decide +kernel
theorem dX6_open_0 : decode cX6_open 0 = .ok (.aload_n 1, 1) := by decide +kernel
theorem dX6_open_1 : decode cX6_open 1 = .ok (.aload_n 0, 1) := by decide +kernel
theorem dX6_open_2 : decode cX6_open 2 = .ok (.getfield 15, 3) := by decide +kernel
theorem dX6_open_5 : decode cX6_open 5 = .ok (.invokevirtual 51, 3) := by decide +kernel
theorem dX6_open_8 : decode cX6_open 8 = .ok (.ifCond .eq 15, 3) := by decide +kernel
theorem dX6_open_11 : decode cX6_open 11 = .ok (.aload_n 1, 1) := by decide +kernel
theorem dX6_open_12 : decode cX6_open 12 = .ok (.getfield 55, 3) := by decide +kernel
theorem dX6_open_15 : decode cX6_open 15 = .ok (.aload_n 0, 1) := by decide +kernel
theorem dX6_open_16 : decode cX6_open 16 = .ok (.getfield 15, 3) := by decide +kernel
theorem dX6_open_19 : decode cX6_open 19 = .ok (.iaload, 1) := by decide +kernel
theorem dX6_open_20 : decode cX6_open 20 = .ok (.goto 7, 3) := by decide +kernel
theorem dX6_open_23 : decode cX6_open 23 = .ok (.aload_n 1, 1) := by decide +kernel
theorem dX6_open_24 : decode cX6_open 24 = .ok (.invokevirtual 58, 3) := by decide +kernel
theorem dX6_open_27 : decode cX6_open 27 = .ok (.istore_n 2, 1) := by decide +kernel
theorem dX6_open_28 : decode cX6_open 28 = .ok (.iconst 0, 1) := by decide +kernel
theorem dX6_open_29 : decode cX6_open 29 = .ok (.istore_n 3, 1) := by decide +kernel
theorem dX6_open_30 : decode cX6_open 30 = .ok (.iconst 0, 1) := by decide +kernel
theorem dX6_open_31 : decode cX6_open 31 = .ok (.istore 4, 2) := by decide +kernel
theorem dX6_open_33 : decode cX6_open 33 = .ok (.iload 4, 2) := by decide +kernel
theorem dX6_open_35 : decode cX6_open 35 = .ok (.aload_n 1, 1) := by decide +kernel
theorem dX6_open_36 : decode cX6_open 36 = .ok (.getfield 62, 3) := by decide +kernel
theorem dX6_open_39 : decode cX6_open 39 = .ok (.if_icmp .ge 35, 3) := by decide +kernel
theorem dX6_open_42 : decode cX6_open 42 = .ok (.iload_n 2, 1) := by decide +kernel
theorem dX6_open_43 : decode cX6_open 43 = .ok (.iload 4, 2) := by decide +kernel
theorem dX6_open_45 : decode cX6_open 45 = .ok (.invokestatic 65, 3) := by decide +kernel
theorem dX6_open_48 : decode cX6_open 48 = .ok (.ifCond .eq 20, 3) := by decide +kernel
theorem dX6_open_51 : decode cX6_open 51 = .ok (.aload_n 0, 1) := by decide +kernel
theorem dX6_open_52 : decode cX6_open 52 = .ok (.aload_n 1, 1) := by decide +kernel
theorem dX6_open_53 : decode cX6_open 53 = .ok (.iload 4, 2) := by decide +kernel
theorem dX6_open_55 : decode cX6_open 55 = .ok (.invokevirtual 69, 3) := by decide +kernel
theorem dX6_open_58 : decode cX6_open 58 = .ok (.ifCond .le 10, 3) := by decide +kernel
theorem dX6_open_61 : decode cX6_open 61 = .ok (.iload_n 3, 1) := by decide +kernel
theorem dX6_open_62 : decode cX6_open 62 = .ok (.iconst 1, 1) := by decide +kernel
theorem dX6_open_63 : decode cX6_open 63 = .ok (.iload 4, 2) := by decide +kernel
theorem dX6_open_65 : decode cX6_open 65 = .ok (.ishl, 1) := by decide +kernel
theorem dX6_open_66 : decode cX6_open 66 = .ok (.ior, 1) := by decide +kernel
theorem dX6_open_67 : decode cX6_open 67 = .ok (.istore_n 3, 1) := by decide +kernel
theorem dX6_open_68 : decode cX6_open 68 = .ok (.iinc 4 1, 3) := by decide +kernel
theorem dX6_open_71 : decode cX6_open 71 = .ok (.goto (-38), 3) := by decide +kernel
theorem dX6_open_74 : decode cX6_open 74 = .ok (.iload_n 3, 1) := by decide +kernel
theorem dX6_open_75 : decode cX6_open 75 = .ok (.ireturn, 1) := by decide +kernel
theorem dX6_openBehind_0 : decode cX6_openBehind 0 = .ok (.iconst 0, 1) := by decide +kernel
theorem dX6_openBehind_1 : decode cX6_openBehind 1 = .ok (.istore_n 3, 1) := by decide +kernel
theorem dX6_openBehind_2 : decode cX6_openBehind 2 = .ok (.iconst 0, 1) := by decide +kernel
theorem dX6_openBehind_3 : decode cX6_openBehind 3 = .ok (.istore 4, 2) := by decide +kernel
theorem dX6_openBehind_5 : decode cX6_openBehind 5 = .ok (.iload 4, 2) := by decide +kernel
theorem dX6_openBehind_7 : decode cX6_openBehind 7 = .ok (.aload_n 1, 1) := by decide +kernel
theorem dX6_openBehind_8 : decode cX6_openBehind 8 = .ok (.getfield 62, 3) := by decide +kernel
theorem dX6_openBehind_11 : decode cX6_openBehind 11 = .ok (.if_icmp .ge 51, 3) := by decide +kernel
theorem dX6_openBehind_14 : decode cX6_openBehind 14 = .ok (.iload 4, 2) := by decide +kernel
theorem dX6_openBehind_16 : decode cX6_openBehind 16 = .ok (.iload_n 2, 1) := by decide +kernel
theorem dX6_openBehind_17 : decode cX6_openBehind 17 = .ok (.if_icmp .ne 7, 3) := by decide +kernel
theorem dX6_openBehind_20 : decode cX6_openBehind 20 = .ok (.iconst 1, 1) := by decide +kernel
theorem dX6_openBehind_21 : decode cX6_openBehind 21 = .ok (.goto 4, 3) := by decide +kernel
theorem dX6_openBehind_24 : decode cX6_openBehind 24 = .ok (.iconst 0, 1) := by decide +kernel
theorem dX6_openBehind_25 : decode cX6_openBehind 25 = .ok (.istore 5, 2) := by decide +kernel
theorem dX6_openBehind_27 : decode cX6_openBehind 27 = .ok (.aload_n 1, 1) := by decide +kernel
theorem dX6_openBehind_28 : decode cX6_openBehind 28 = .ok (.getfield 55, 3) := by decide +kernel
theorem dX6_openBehind_31 : decode cX6_openBehind 31 = .ok (.iload_n 2, 1) := by decide +kernel
theorem dX6_openBehind_32 : decode cX6_openBehind 32 = .ok (.iaload, 1) := by decide +kernel
theorem dX6_openBehind_33 : decode cX6_openBehind 33 = .ok (.iload 4, 2) := by decide +kernel
theorem dX6_openBehind_35 : decode cX6_openBehind 35 = .ok (.invokestatic 65, 3) := by decide +kernel
theorem dX6_openBehind_38 : decode cX6_openBehind 38 = .ok (.ifCond .eq 18, 3) := by decide +kernel
theorem dX6_openBehind_41 : decode cX6_openBehind 41 = .ok (.aload_n 0, 1) := by decide +kernel
theorem dX6_openBehind_42 : decode cX6_openBehind 42 = .ok (.aload_n 1, 1) := by decide +kernel
theorem dX6_openBehind_43 : decode cX6_openBehind 43 = .ok (.iload 4, 2) := by decide +kernel
theorem dX6_openBehind_45 : decode cX6_openBehind 45 = .ok (.invokevirtual 69, 3) := by decide +kernel
theorem dX6_openBehind_48 : decode cX6_openBehind 48 = .ok (.iload 5, 2) := by decide +kernel
theorem dX6_openBehind_50 : decode cX6_openBehind 50 = .ok (.if_icmp .le 6, 3) := by decide +kernel
theorem dX6_openBehind_53 : decode cX6_openBehind 53 = .ok (.iinc 3 1, 3) := by decide +kernel
theorem dX6_openBehind_56 : decode cX6_openBehind 56 = .ok (.iinc 4 1, 3) := by decide +kernel
theorem dX6_openBehind_59 : decode cX6_openBehind 59 = .ok (.goto (-54), 3) := by decide +kernel
theorem dX6_openBehind_62 : decode cX6_openBehind 62 = .ok (.iload_n 3, 1) := by decide +kernel
theorem dX6_openBehind_63 : decode cX6_openBehind 63 = .ok (.ireturn, 1) := by decide +kernel
theorem dX6_rank_0 : decode cX6_rank 0 = .ok (.iload_n 2, 1) := by decide +kernel
theorem dX6_rank_1 : decode cX6_rank 1 = .ok (.tableswitch 49 0 2 #[27, 34, 42], 27) := by decide +kernel
theorem dX6_rank_28 : decode cX6_rank 28 = .ok (.aload_n 0, 1) := by decide +kernel
theorem dX6_rank_29 : decode cX6_rank 29 = .ok (.aload_n 1, 1) := by decide +kernel
theorem dX6_rank_30 : decode cX6_rank 30 = .ok (.iload_n 3, 1) := by decide +kernel
theorem dX6_rank_31 : decode cX6_rank 31 = .ok (.invokevirtual 92, 3) := by decide +kernel
theorem dX6_rank_34 : decode cX6_rank 34 = .ok (.ireturn, 1) := by decide +kernel
theorem dX6_rank_35 : decode cX6_rank 35 = .ok (.aload_n 0, 1) := by decide +kernel
theorem dX6_rank_36 : decode cX6_rank 36 = .ok (.aload_n 1, 1) := by decide +kernel
theorem dX6_rank_37 : decode cX6_rank 37 = .ok (.iload_n 3, 1) := by decide +kernel
theorem dX6_rank_38 : decode cX6_rank 38 = .ok (.invokevirtual 92, 3) := by decide +kernel
theorem dX6_rank_41 : decode cX6_rank 41 = .ok (.ineg, 1) := by decide +kernel
theorem dX6_rank_42 : decode cX6_rank 42 = .ok (.ireturn, 1) := by decide +kernel
theorem dX6_rank_43 : decode cX6_rank 43 = .ok (.aload_n 1, 1) := by decide +kernel
theorem dX6_rank_44 : decode cX6_rank 44 = .ok (.getfield 73, 3) := by decide +kernel
theorem dX6_rank_47 : decode cX6_rank 47 = .ok (.iload_n 3, 1) := by decide +kernel
theorem dX6_rank_48 : decode cX6_rank 48 = .ok (.iaload, 1) := by decide +kernel
theorem dX6_rank_49 : decode cX6_rank 49 = .ok (.ireturn, 1) := by decide +kernel
theorem dX6_rank_50 : decode cX6_rank 50 = .ok (.aload_n 0, 1) := by decide +kernel
theorem dX6_rank_51 : decode cX6_rank 51 = .ok (.aload_n 1, 1) := by decide +kernel
theorem dX6_rank_52 : decode cX6_rank 52 = .ok (.iload_n 3, 1) := by decide +kernel
theorem dX6_rank_53 : decode cX6_rank 53 = .ok (.invokevirtual 69, 3) := by decide +kernel
theorem dX6_rank_56 : decode cX6_rank 56 = .ok (.ireturn, 1) := by decide +kernel
theorem dX6_speak_0 : decode cX6_speak 0 = .ok (.aload_n 0, 1) := by decide +kernel
theorem dX6_speak_1 : decode cX6_speak 1 = .ok (.getfield 9, 3) := by decide +kernel
theorem dX6_speak_4 : decode cX6_speak 4 = .ok (.iload_n 2, 1) := by decide +kernel
theorem dX6_speak_5 : decode cX6_speak 5 = .ok (.dup2, 1) := by decide +kernel
theorem dX6_speak_6 : decode cX6_speak 6 = .ok (.iaload, 1) := by decide +kernel
theorem dX6_speak_7 : decode cX6_speak 7 = .ok (.iconst 1, 1) := by decide +kernel
theorem dX6_speak_8 : decode cX6_speak 8 = .ok (.iadd, 1) := by decide +kernel
theorem dX6_speak_9 : decode cX6_speak 9 = .ok (.iastore, 1) := by decide +kernel
theorem dX6_speak_10 : decode cX6_speak 10 = .ok (.aload_n 0, 1) := by decide +kernel
theorem dX6_speak_11 : decode cX6_speak 11 = .ok (.iload_n 2, 1) := by decide +kernel
theorem dX6_speak_12 : decode cX6_speak 12 = .ok (.putfield 15, 3) := by decide +kernel
theorem dX6_speak_15 : decode cX6_speak 15 = .ok (.aload_n 0, 1) := by decide +kernel
theorem dX6_speak_16 : decode cX6_speak 16 = .ok (.dup, 1) := by decide +kernel
theorem dX6_speak_17 : decode cX6_speak 17 = .ok (.getfield 37, 3) := by decide +kernel
theorem dX6_speak_20 : decode cX6_speak 20 = .ok (.iconst 1, 1) := by decide +kernel
theorem dX6_speak_21 : decode cX6_speak 21 = .ok (.iadd, 1) := by decide +kernel
theorem dX6_speak_22 : decode cX6_speak 22 = .ok (.putfield 37, 3) := by decide +kernel
theorem dX6_speak_25 : decode cX6_speak 25 = .ok (.aload_n 0, 1) := by decide +kernel
theorem dX6_speak_26 : decode cX6_speak 26 = .ok (.dup, 1) := by decide +kernel
theorem dX6_speak_27 : decode cX6_speak 27 = .ok (.getfield 28, 3) := by decide +kernel
theorem dX6_speak_30 : decode cX6_speak 30 = .ok (.aload_n 1, 1) := by decide +kernel
theorem dX6_speak_31 : decode cX6_speak 31 = .ok (.getfield 73, 3) := by decide +kernel
theorem dX6_speak_34 : decode cX6_speak 34 = .ok (.iload_n 2, 1) := by decide +kernel
theorem dX6_speak_35 : decode cX6_speak 35 = .ok (.iaload, 1) := by decide +kernel
theorem dX6_speak_36 : decode cX6_speak 36 = .ok (.iadd, 1) := by decide +kernel
theorem dX6_speak_37 : decode cX6_speak 37 = .ok (.putfield 28, 3) := by decide +kernel
theorem dX6_speak_40 : decode cX6_speak 40 = .ok (.aload_n 0, 1) := by decide +kernel
theorem dX6_speak_41 : decode cX6_speak 41 = .ok (.aload_n 1, 1) := by decide +kernel
theorem dX6_speak_42 : decode cX6_speak 42 = .ok (.aload_n 0, 1) := by decide +kernel
theorem dX6_speak_43 : decode cX6_speak 43 = .ok (.getfield 31, 3) := by decide +kernel
theorem dX6_speak_46 : decode cX6_speak 46 = .ok (.iload_n 2, 1) := by decide +kernel
theorem dX6_speak_47 : decode cX6_speak 47 = .ok (.invokevirtual 76, 3) := by decide +kernel
theorem dX6_speak_50 : decode cX6_speak 50 = .ok (.putfield 31, 3) := by decide +kernel
theorem dX6_speak_53 : decode cX6_speak 53 = .ok (.return_, 1) := by decide +kernel
set_option maxRecDepth 20000 in
theorem ggX6_forget_J7_fill_53178 : GoodIn wsX6_forget wsJ7_fill_53178 := goodIn_r _ [7] (by decide +kernel) (by decide +kernel)
set_option maxRecDepth 20000 in
theorem gX6_forget_J7_fill_53178 : GoodIn wsX6_forget (va_wsS RX6 22 yJ7_fill_53178 wsJ7_fill_53178) := goodIn_app (goodIn_of _ (by decide +kernel)) ggX6_forget_J7_fill_53178
set_option maxRecDepth 20000 in
theorem ggX6_forget_X6_begin : GoodIn wsX6_forget wsX6_begin := goodIn_r _ [12, 13, 14, 15, 16, 17, 18, 19, 20, 21] (by decide +kernel) (by decide +kernel)
set_option maxRecDepth 20000 in
theorem gX6_forget_X6_begin : GoodIn wsX6_forget (wsV RX6 34 RX6 yX6_begin wsX6_begin) := goodIn_app (goodIn_of _ (by decide +kernel)) ggX6_forget_X6_begin
set_option maxRecDepth 20000 in
theorem ggX6_openBehind_X10_isIn : GoodIn wsX6_openBehind wsX10_isIn := goodIn_r _ [3] (by decide +kernel) (by decide +kernel)
set_option maxRecDepth 20000 in
theorem gX6_openBehind_X10_isIn_n65 : GoodIn wsX6_openBehind (wsX10_isIn) := ggX6_openBehind_X10_isIn
set_option maxRecDepth 20000 in
theorem ggX6_openBehind_X6_left : GoodIn wsX6_openBehind wsX6_left := goodIn_r _ [8, 9, 10, 11, 12, 13, 14, 15, 16, 17, 18, 19, 20, 21, 22, 23, 24, 25, 26, 27, 28, 29, 30, 31, 32] (by decide +kernel) (by decide +kernel)
set_option maxRecDepth 20000 in
theorem gX6_openBehind_X6_left : GoodIn wsX6_openBehind (wsV RX6 69 RX6 yX6_left wsX6_left) := goodIn_app (goodIn_of _ (by decide +kernel)) ggX6_openBehind_X6_left
set_option maxRecDepth 20000 in
theorem ggX6_open_X10_isIn : GoodIn wsX6_open wsX10_isIn := goodIn_r _ [14] (by decide +kernel) (by decide +kernel)
set_option maxRecDepth 20000 in
theorem gX6_open_X10_isIn_n65 : GoodIn wsX6_open (wsX10_isIn) := ggX6_open_X10_isIn
set_option maxRecDepth 20000 in
theorem ggX6_open_X6_left : GoodIn wsX6_open wsX6_left := goodIn_r _ [19, 20, 28, 29, 30, 31, 32, 33, 34, 35, 36, 37, 38, 39, 40, 41, 42, 43, 21, 22, 23, 24, 25, 26, 27] (by decide +kernel) (by decide +kernel)
set_option maxRecDepth 20000 in
theorem gX6_open_X6_left : GoodIn wsX6_open (wsV RX6 69 RX6 yX6_left wsX6_left) := goodIn_app (goodIn_of _ (by decide +kernel)) ggX6_open_X6_left
set_option maxRecDepth 20000 in
theorem ggX6_open_X8_everyWord : GoodIn wsX6_open wsX8_everyWord := goodIn_r _ [11, 7, 28, 29, 30, 31, 32, 33, 34, 35, 36, 37, 38, 39, 40, 41, 42, 43] (by decide +kernel) (by decide +kernel)
set_option maxRecDepth 20000 in
theorem gX6_open_X8_everyWord : GoodIn wsX6_open (wsV RX6 58 RX8 yX8_everyWord wsX8_everyWord) := goodIn_app (goodIn_of _ (by decide +kernel)) ggX6_open_X8_everyWord
set_option maxRecDepth 20000 in
theorem ggX6_open_X8_has : GoodIn wsX6_open wsX8_has := goodIn_r _ [6, 7, 28, 29, 30, 31, 32, 33, 34, 35, 36, 37, 38, 39, 40, 41, 42, 43] (by decide +kernel) (by decide +kernel)
set_option maxRecDepth 20000 in
theorem gX6_open_X8_has : GoodIn wsX6_open (wsV RX6 51 RX8 yX8_has wsX8_has) := goodIn_app (goodIn_of _ (by decide +kernel)) ggX6_open_X8_has
set_option maxRecDepth 20000 in
theorem ggX6_rank_X6_left : GoodIn wsX6_rank wsX6_left := goodIn_r _ [12, 13, 14, 15, 16, 17, 18, 19, 20, 21, 22, 23, 24, 25, 26, 27, 28, 29, 30, 31, 32, 33, 34, 35, 36] (by decide +kernel) (by decide +kernel)
set_option maxRecDepth 20000 in
theorem gX6_rank_X6_left : GoodIn wsX6_rank (wsV RX6 69 RX6 yX6_left wsX6_left) := goodIn_app (goodIn_of _ (by decide +kernel)) ggX6_rank_X6_left
set_option maxRecDepth 20000 in
theorem ggX6_rank_X6_openBehind : GoodIn wsX6_rank wsX6_openBehind := goodIn_r _ [5, 6, 7, 8, 9, 10, 11, 4, 12, 13, 14, 15, 16, 17, 18, 19, 20, 21, 22, 23, 24, 25, 26, 27, 28, 29, 30, 31, 32, 33, 34, 35, 36] (by decide +kernel) (by decide +kernel)
set_option maxRecDepth 20000 in
theorem gX6_rank_X6_openBehind : GoodIn wsX6_rank (wsV RX6 92 RX6 yX6_openBehind wsX6_openBehind) := goodIn_app (goodIn_of _ (by decide +kernel)) ggX6_rank_X6_openBehind
set_option maxRecDepth 20000 in
theorem ggX6_speak_X8_doneBehind : GoodIn wsX6_speak wsX8_doneBehind := goodIn_r _ [10, 11, 12, 13, 14, 15, 23, 24, 25, 26, 27, 28, 29, 30, 31, 32, 33, 34, 35, 36, 37, 38] (by decide +kernel) (by decide +kernel)
set_option maxRecDepth 20000 in
theorem gX6_speak_X8_doneBehind : GoodIn wsX6_speak (wsV RX6 76 RX8 yX8_doneBehind wsX8_doneBehind) := goodIn_app (goodIn_of _ (by decide +kernel)) ggX6_speak_X8_doneBehind
set_option maxHeartbeats 4000000 in
set_option maxRecDepth 100000 in
theorem c_X6_left (l : Launch) (D : va_G) (cB cI cJ cS cZ cO : ClassId) (sz : Nat) (o : Nat) (t : Nat) (k : Nat) (p_said : Nat) (p_latest : Int32) (p_spoken : Int32) (p_earned : Int32) (p_dn : Nat) (p_w : Int32) (p_kept : Int32) (f_p_said : Nat → Int32) (k_name : Nat) (k_worth : Nat) (k_times : Nat) (k_first : Nat) (k_second : Nat) (k_beforeLast : Nat) (k_last : Nat) (k_errandOf : Nat) (k_errandAfter : Nat) (k_sound : Nat) (k_followers : Nat) (k_leaders : Nat) (w : Nat) (k_errands : Int32) (k_alikes : Int32) (k_law : Int32) (f_times : Nat → Int32) (hk : k < 24) : Met l yX6_left wsX6_left ({ frames := 0, cells := 0, slots := 0, locals := 0 }) (xPre D (tyL cB cI cJ cS cZ cO) [(o, .inr (6, [.ref p_said, .int p_latest, .int p_spoken, .int p_earned, .int (nI p_dn), .int p_w, .int p_kept])), (p_said, .inl (cI, 24, .inl f_p_said)), (t, .inr (8, [.ref k_name, .ref k_worth, .ref k_times, .ref k_first, .ref k_second, .ref k_beforeLast, .ref k_last, .ref k_errandOf, .ref k_errandAfter, .ref k_sound, .ref k_followers, .ref k_leaders, .int (nI w), .int k_errands, .int k_alikes, .int k_law])), (k_times, .inl (cI, 24, .inl f_times))] sz [.ref o, .ref t, .int (nI k)]) (xQi D (tyL cB cI cJ cS cZ cO) (va_A [(o, .inr (6, [.ref p_said, .int p_latest, .int p_spoken, .int p_earned, .int (nI p_dn), .int p_w, .int p_kept])), (p_said, .inl (cI, 24, .inl f_p_said)), (t, .inr (8, [.ref k_name, .ref k_worth, .ref k_times, .ref k_first, .ref k_second, .ref k_beforeLast, .ref k_last, .ref k_errandOf, .ref k_errandAfter, .ref k_sound, .ref k_followers, .ref k_leaders, .int (nI w), .int k_errands, .int k_alikes, .int k_law])), (k_times, .inl (cI, 24, .inl f_times))] sz) (fun (r : Int32) (u : va_W) => u = [(o, .inr (6, [.ref p_said, .int p_latest, .int p_spoken, .int p_earned, .int (nI p_dn), .int p_w, .int p_kept])), (p_said, .inl (cI, 24, .inl f_p_said)), (t, .inr (8, [.ref k_name, .ref k_worth, .ref k_times, .ref k_first, .ref k_second, .ref k_beforeLast, .ref k_last, .ref k_errandOf, .ref k_errandAfter, .ref k_sound, .ref k_followers, .ref k_leaders, .int (nI w), .int k_errands, .int k_alikes, .int k_law])), (k_times, .inl (cI, 24, .inl f_times))])) 0 0 (va_A [(o, .inr (6, [.ref p_said, .int p_latest, .int p_spoken, .int p_earned, .int (nI p_dn), .int p_w, .int p_kept])), (p_said, .inl (cI, 24, .inl f_p_said)), (t, .inr (8, [.ref k_name, .ref k_worth, .ref k_times, .ref k_first, .ref k_second, .ref k_beforeLast, .ref k_last, .ref k_errandOf, .ref k_errandAfter, .ref k_sound, .ref k_followers, .ref k_leaders, .int (nI w), .int k_errands, .int k_alikes, .int k_law])), (k_times, .inl (cI, 24, .inl f_times))] sz) := by
  refine Met.ofW (cc := cX6_left) (maxL := 3) (ret := (some .int)) (by decide) rfl ?_
  intro p e s m args below meth c s₁ B hml hv
  obtain ⟨rfl, hsz, hP, hK, hD0, hN⟩ := hv
  have hx := B.exec
  have hb := B.bytes
  have hr := B.returns
  have hts := atoms_spec (ws := wsX6_left) B.pre
  have hown : s.vm.findClass RX6 = some m.cls := findClass_of_methodNamed B.named
  have hlocks := B.notSynchronized
  subst hsz
  have hD := hD0.self (sz := s.heap.size)
  generalize hAe : va_A [(o, .inr (6, [.ref p_said, .int p_latest, .int p_spoken, .int p_earned, .int (nI p_dn), .int p_w, .int p_kept])), (p_said, .inl (cI, 24, .inl f_p_said)), (t, .inr (8, [.ref k_name, .ref k_worth, .ref k_times, .ref k_first, .ref k_second, .ref k_beforeLast, .ref k_last, .ref k_errandOf, .ref k_errandAfter, .ref k_sound, .ref k_followers, .ref k_leaders, .int (nI w), .int k_errands, .int k_alikes, .int k_law])), (k_times, .inl (cI, 24, .inl f_times))] s.heap.size = A at hD ⊢
  have hA : ∀ q : Nat, s.heap.size ≤ q → A q := fun q h => by rw [← hAe]; exact Or.inr h
  have hS : va_S A s.heap s.heap [] := va_S.rf
  have hP : va_P D vwCl [(o, .inr (6, [.ref p_said, .int p_latest, .int p_spoken, .int p_earned, .int (nI p_dn), .int p_w, .int p_kept])), (p_said, .inl (cI, 24, .inl f_p_said)), (t, .inr (8, [.ref k_name, .ref k_worth, .ref k_times, .ref k_first, .ref k_second, .ref k_beforeLast, .ref k_last, .ref k_errandOf, .ref k_errandAfter, .ref k_sound, .ref k_followers, .ref k_leaders, .int (nI w), .int k_errands, .int k_alikes, .int k_law])), (k_times, .inl (cI, 24, .inl f_times))] s.heap := hP
  have hl := lv_entry ([.ref o, .ref t, .int (nI k)]) (n := 3) (Nat.le_of_ble_eq_true rfl)
  rw [lg_entry_eq]
  generalize (lg_sl ([.ref o, .ref t, .int (nI k)]) ++ List.replicate (3 - (lg_sl ([.ref o, .ref t, .int (nI k)])).length) Slot.unset).toArray = ls at hl ⊢
  have hl : lv_has ls 3 [(0, .ref o), (1, .ref t), (2, .int (nI k))] := hl
  refine lv_aload_n hx hb dX6_left_0 rfl (lv_at hl 1 rfl) ?_
  refine va_getN (D := D) (ci := 8) (v := .ref k_times) (C := RX8) (T := TX8) (N := 16) hx hb hts (by decide +kernel) hown hK hP 2 rfl rfl 2 (by decide) (va_Nw.use rfl (hN.1 (RX6, 46, RX8, "times", "[I", RX10) (by decide +kernel))) (fun _ h9 => h9) rfl dX6_left_1 ?_
  refine lv_iload_n hx hb dX6_left_4 rfl (lv_at hl 2 rfl) ?_
  refine va_iald hx hb hK hP 3 1 rfl rfl (vp_in_nI (by omega) (by omega)) dX6_left_5 ?_
  refine xb_top (y := f_times k) (by rw [nI_clamp (by omega)]) ?_
  refine lv_aload_n hx hb dX6_left_6 rfl (lv_at hl 0 rfl) ?_
  refine va_get (D := D) (ci := 6) (v := .ref p_said) (C := RX6) (T := TX6) (N := 7) hx hb hts (by decide +kernel) hown hK hP 0 rfl rfl 0 (by decide) (hts (.fieldLink RX6 9 "LastLetter$Talk" "said" "[I") (by decide +kernel)) (fun _ h9 => h9) rfl dX6_left_7 ?_
  refine lv_iload_n hx hb dX6_left_10 rfl (lv_at hl 2 rfl) ?_
  refine va_iald hx hb hK hP 1 1 rfl rfl (vp_in_nI (by omega) (by omega)) dX6_left_11 ?_
  refine xb_top (y := f_p_said k) (by rw [nI_clamp (by omega)]) ?_
  refine lv_isub hx hb dX6_left_12 ?_
  have hP9 := hP.sub (ws' := [(o, .inr (6, [.ref p_said, .int p_latest, .int p_spoken, .int p_earned, .int (nI p_dn), .int p_w, .int p_kept])), (p_said, .inl (cI, 24, .inl f_p_said)), (t, .inr (8, [.ref k_name, .ref k_worth, .ref k_times, .ref k_first, .ref k_second, .ref k_beforeLast, .ref k_last, .ref k_errandOf, .ref k_errandAfter, .ref k_sound, .ref k_followers, .ref k_leaders, .int (nI w), .int k_errands, .int k_alikes, .int k_law])), (k_times, .inl (cI, 24, .inl f_times))]) [0, 1, 2, 3] rfl
  have hD9 := hD.sub (ws' := [(o, .inr (6, [.ref p_said, .int p_latest, .int p_spoken, .int p_earned, .int (nI p_dn), .int p_w, .int p_kept])), (p_said, .inl (cI, 24, .inl f_p_said)), (t, .inr (8, [.ref k_name, .ref k_worth, .ref k_times, .ref k_first, .ref k_second, .ref k_beforeLast, .ref k_last, .ref k_errandOf, .ref k_errandAfter, .ref k_sound, .ref k_followers, .ref k_leaders, .int (nI w), .int k_errands, .int k_alikes, .int k_law])), (k_times, .inl (cI, 24, .inl f_times))]) [0, 1, 2, 3] (by decide) rfl
  refine W.widen (k := 0) (n := 0) (Nat.le_of_ble_eq_true rfl) (Nat.le_of_ble_eq_true rfl) ?_
  exact W.iret (v := (f_times k) - (f_p_said k)) hx hb hr (fun tz htz hWz => ⟨⟨(f_times k) - (f_p_said k), [(o, .inr (6, [.ref p_said, .int p_latest, .int p_spoken, .int p_earned, .int (nI p_dn), .int p_w, .int p_kept])), (p_said, .inl (cI, 24, .inl f_p_said)), (t, .inr (8, [.ref k_name, .ref k_worth, .ref k_times, .ref k_first, .ref k_second, .ref k_beforeLast, .ref k_last, .ref k_errandOf, .ref k_errandAfter, .ref k_sound, .ref k_followers, .ref k_leaders, .int (nI w), .int k_errands, .int k_alikes, .int k_law])), (k_times, .inl (cI, 24, .inl f_times))], rfl, rfl, by rw [htz]; exact hP9, va_K.moved hWz.alike hK, hD9⟩, hS.F htz⟩) hS.2.2 dX6_left_13

set_option maxHeartbeats 4000000 in
set_option maxRecDepth 100000 in
theorem c_X6_begin (l : Launch) (D : va_G) (cB cI cJ cS cZ cO : ClassId) (sz : Nat) (o : Nat) (p_said : Nat) (p_latest : Int32) (p_spoken : Int32) (p_earned : Int32) (p_dn : Nat) (p_w : Int32) (p_kept : Int32) : Met l yX6_begin wsX6_begin ({ frames := 0, cells := 0, slots := 0, locals := 0 }) (xPre D (tyL cB cI cJ cS cZ cO) [(o, .inr (6, [.ref p_said, .int p_latest, .int p_spoken, .int p_earned, .int (nI p_dn), .int p_w, .int p_kept]))] sz [.ref o]) (xQv D (tyL cB cI cJ cS cZ cO) (va_A [(o, .inr (6, [.ref p_said, .int p_latest, .int p_spoken, .int p_earned, .int (nI p_dn), .int p_w, .int p_kept]))] sz) (fun u : va_W => u = [(o, .inr (6, [.ref p_said, .int (-1), .int 0, .int p_earned, .int (nI p_dn), .int p_w, .int p_kept]))])) 0 0 (va_A [(o, .inr (6, [.ref p_said, .int p_latest, .int p_spoken, .int p_earned, .int (nI p_dn), .int p_w, .int p_kept]))] sz) := by
  refine Met.ofW (cc := cX6_begin) (maxL := 1) (ret := none) (by decide) rfl ?_
  intro p e s m args below meth c s₁ B hml hv
  obtain ⟨rfl, hsz, hP, hK, hD0, hN⟩ := hv
  have hx := B.exec
  have hb := B.bytes
  have hr := B.returns
  have hts := atoms_spec (ws := wsX6_begin) B.pre
  have hown : s.vm.findClass RX6 = some m.cls := findClass_of_methodNamed B.named
  have hlocks := B.notSynchronized
  subst hsz
  have hD := hD0.self (sz := s.heap.size)
  generalize hAe : va_A [(o, .inr (6, [.ref p_said, .int p_latest, .int p_spoken, .int p_earned, .int (nI p_dn), .int p_w, .int p_kept]))] s.heap.size = A at hD ⊢
  have hA : ∀ q : Nat, s.heap.size ≤ q → A q := fun q h => by rw [← hAe]; exact Or.inr h
  have hS : va_S A s.heap s.heap [] := va_S.rf
  have hP : va_P D vwCl [(o, .inr (6, [.ref p_said, .int p_latest, .int p_spoken, .int p_earned, .int (nI p_dn), .int p_w, .int p_kept]))] s.heap := hP
  have hl := lv_entry ([.ref o]) (n := 1) (Nat.le_of_ble_eq_true rfl)
  rw [lg_entry_eq]
  generalize (lg_sl ([.ref o]) ++ List.replicate (1 - (lg_sl ([.ref o])).length) Slot.unset).toArray = ls at hl ⊢
  have hl : lv_has ls 1 [(0, .ref o)] := hl
  refine lv_aload_n hx hb dX6_begin_0 rfl (lv_at hl 0 rfl) ?_
  refine lv_iconst (v := (-1)) hx hb dX6_begin_1 (by decide) ?_
  refine va_put (D := D) (ci := 6) (v := .int (-1)) (ty := .int) (C := RX6) (T := TX6) (N := 7) hx hb hts (by decide +kernel) tyX6 tyX6_ok nmX6 hown hK hP hD hS 0 rfl rfl 1 (by decide) (hts (.fieldLink RX6 15 "LastLetter$Talk" "latest" "I") (by decide +kernel)) (fun _ h9 => h9) rfl (by decide +kernel) rfl rfl (Nat.le_of_ble_eq_true rfl) dX6_begin_2 (fun H locs hP hD hS => ?_)
  have hP : va_P D vwCl [(o, .inr (6, [.ref p_said, .int (-1), .int p_spoken, .int p_earned, .int (nI p_dn), .int p_w, .int p_kept]))] H := hP
  have hD : va_D A [(o, .inr (6, [.ref p_said, .int (-1), .int p_spoken, .int p_earned, .int (nI p_dn), .int p_w, .int p_kept]))] := hD
  refine lv_aload_n hx hb dX6_begin_5 rfl (lv_at hl 0 rfl) ?_
  refine lv_iconst (v := 0) hx hb dX6_begin_6 (by decide) ?_
  refine va_put (D := D) (ci := 6) (v := .int 0) (ty := .int) (C := RX6) (T := TX6) (N := 7) hx hb hts (by decide +kernel) tyX6 tyX6_ok nmX6 hown hK hP hD hS 0 rfl rfl 2 (by decide) (hts (.fieldLink RX6 37 "LastLetter$Talk" "spoken" "I") (by decide +kernel)) (fun _ h9 => h9) rfl (by decide +kernel) rfl rfl (Nat.le_of_ble_eq_true rfl) dX6_begin_7 (fun H locs hP hD hS => ?_)
  have hP : va_P D vwCl [(o, .inr (6, [.ref p_said, .int (-1), .int 0, .int p_earned, .int (nI p_dn), .int p_w, .int p_kept]))] H := hP
  have hD : va_D A [(o, .inr (6, [.ref p_said, .int (-1), .int 0, .int p_earned, .int (nI p_dn), .int p_w, .int p_kept]))] := hD
  have hP9 := hP.sub (ws' := [(o, .inr (6, [.ref p_said, .int (-1), .int 0, .int p_earned, .int (nI p_dn), .int p_w, .int p_kept]))]) [0] rfl
  have hD9 := hD.sub (ws' := [(o, .inr (6, [.ref p_said, .int (-1), .int 0, .int p_earned, .int (nI p_dn), .int p_w, .int p_kept]))]) [0] (by decide) rfl
  refine W.widen (k := 0) (n := 0) (Nat.le_of_ble_eq_true rfl) (Nat.le_of_ble_eq_true rfl) ?_
  exact W.vret hx hb hr (fun tz htz hWz => ⟨⟨[(o, .inr (6, [.ref p_said, .int (-1), .int 0, .int p_earned, .int (nI p_dn), .int p_w, .int p_kept]))], rfl, rfl, by rw [htz]; exact hP9, va_K.moved hWz.alike hK, hD9⟩, hS.F htz⟩) hS.2.2 dX6_begin_10

set_option maxHeartbeats 4000000 in
set_option maxRecDepth 100000 in
theorem c_X6_forget (l : Launch) (D : va_G) (cB cI cJ cS cZ cO : ClassId) (sz : Nat) (o : Nat) (p_said : Nat) (p_latest : Int32) (p_spoken : Int32) (p_earned : Int32) (p_dn : Nat) (p_w : Int32) (p_kept : Int32) (f_p_said : Nat → Int32) : Met l yX6_forget wsX6_forget ({ frames := 1, cells := 0, slots := 0, locals := 23 }) (xPre D (tyL cB cI cJ cS cZ cO) [(o, .inr (6, [.ref p_said, .int p_latest, .int p_spoken, .int p_earned, .int (nI p_dn), .int p_w, .int p_kept])), (p_said, .inl (cI, 24, .inl f_p_said))] sz [.ref o]) (xQv D (tyL cB cI cJ cS cZ cO) (va_A [(o, .inr (6, [.ref p_said, .int p_latest, .int p_spoken, .int p_earned, .int (nI p_dn), .int p_w, .int p_kept])), (p_said, .inl (cI, 24, .inl f_p_said))] sz) (fun u : va_W => ∃ g : Nat → Int32, u = [(o, .inr (6, [.ref p_said, .int (-1), .int 0, .int 0, .int 0, .int p_w, .int p_kept])), (p_said, .inl (cI, 24, .inl g))])) 0 0 (va_A [(o, .inr (6, [.ref p_said, .int p_latest, .int p_spoken, .int p_earned, .int (nI p_dn), .int p_w, .int p_kept])), (p_said, .inl (cI, 24, .inl f_p_said))] sz) := by
  refine Met.ofW (cc := cX6_forget) (maxL := 1) (ret := none) (by decide) rfl ?_
  intro p e s m args below meth c s₁ B hml hv
  obtain ⟨rfl, hsz, hP, hK, hD0, hN⟩ := hv
  have hx := B.exec
  have hb := B.bytes
  have hr := B.returns
  have hts := atoms_spec (ws := wsX6_forget) B.pre
  have hown : s.vm.findClass RX6 = some m.cls := findClass_of_methodNamed B.named
  have hlocks := B.notSynchronized
  subst hsz
  have hD := hD0.self (sz := s.heap.size)
  generalize hAe : va_A [(o, .inr (6, [.ref p_said, .int p_latest, .int p_spoken, .int p_earned, .int (nI p_dn), .int p_w, .int p_kept])), (p_said, .inl (cI, 24, .inl f_p_said))] s.heap.size = A at hD ⊢
  have hA : ∀ q : Nat, s.heap.size ≤ q → A q := fun q h => by rw [← hAe]; exact Or.inr h
  have hS : va_S A s.heap s.heap [] := va_S.rf
  have hP : va_P D vwCl [(o, .inr (6, [.ref p_said, .int p_latest, .int p_spoken, .int p_earned, .int (nI p_dn), .int p_w, .int p_kept])), (p_said, .inl (cI, 24, .inl f_p_said))] s.heap := hP
  have hl := lv_entry ([.ref o]) (n := 1) (Nat.le_of_ble_eq_true rfl)
  rw [lg_entry_eq]
  generalize (lg_sl ([.ref o]) ++ List.replicate (1 - (lg_sl ([.ref o])).length) Slot.unset).toArray = ls at hl ⊢
  have hl : lv_has ls 1 [(0, .ref o)] := hl
  refine lv_aload_n hx hb dX6_forget_0 rfl (lv_at hl 0 rfl) ?_
  refine va_get (D := D) (ci := 6) (v := .ref p_said) (C := RX6) (T := TX6) (N := 7) hx hb hts (by decide +kernel) hown hK hP 0 rfl rfl 0 (by decide) (hts (.fieldLink RX6 9 "LastLetter$Talk" "said" "[I") (by decide +kernel)) (fun _ h9 => h9) rfl dX6_forget_1 ?_
  refine lv_iconst (v := 0) hx hb dX6_forget_4 (by decide) ?_
  refine xCv (wr := [(o, .inr (6, [.ref p_said, .int p_latest, .int p_spoken, .int p_earned, .int (nI p_dn), .int p_w, .int p_kept]))]) (win := [(p_said, .inl (cI, 24, .inl f_p_said))]) hP hD hS hA [1] [0] rfl rfl (by decide) (by decide) (va_runS (As := [.ref p_said, .int 0]) (rest := []) ⟨hx, hb, hml, hown, hts⟩ (c_J7_fill_53178 l D cB cI cJ cS cZ cO s.heap.size p_said 0 24 f_p_said (by first | assumption | omega | decide)) (va_cwS 2 hts gX6_forget_J7_fill_53178 rfl rfl rfl (by decide +kernel) ⟨Nat.le_of_ble_eq_true rfl, Nat.le_of_ble_eq_true rfl⟩) (xPreS (win := [(p_said, .inl (cI, 24, .inl f_p_said))]) hN hK hP hD [1] (by decide) rfl) rfl rfl hl.1 rfl (lv_room (Nat.le_of_ble_eq_true rfl)) dX6_forget_5 ⟨Nat.le_of_ble_eq_true rfl, Nat.le_of_ble_eq_true rfl⟩) (fun w0 H locs hw hP hD hS => ?_)
  obtain ⟨g_1, rfl, hf_2⟩ := hw
  have hP : va_P D vwCl [(o, .inr (6, [.ref p_said, .int p_latest, .int p_spoken, .int p_earned, .int (nI p_dn), .int p_w, .int p_kept])), (p_said, .inl (cI, 24, .inl g_1))] H := hP
  have hD : va_D A [(o, .inr (6, [.ref p_said, .int p_latest, .int p_spoken, .int p_earned, .int (nI p_dn), .int p_w, .int p_kept])), (p_said, .inl (cI, 24, .inl g_1))] := hD
  refine lv_aload_n hx hb dX6_forget_8 rfl (lv_at hl 0 rfl) ?_
  refine lv_iconst (v := 0) hx hb dX6_forget_9 (by decide) ?_
  refine va_put (D := D) (ci := 6) (v := .int 0) (ty := .int) (C := RX6) (T := TX6) (N := 7) hx hb hts (by decide +kernel) tyX6 tyX6_ok nmX6 hown hK hP hD hS 0 rfl rfl 3 (by decide) (hts (.fieldLink RX6 28 "LastLetter$Talk" "earned" "I") (by decide +kernel)) (fun _ h9 => h9) rfl (by decide +kernel) rfl rfl (Nat.le_of_ble_eq_true rfl) dX6_forget_10 (fun H locs hP hD hS => ?_)
  have hP : va_P D vwCl [(o, .inr (6, [.ref p_said, .int p_latest, .int p_spoken, .int 0, .int (nI p_dn), .int p_w, .int p_kept])), (p_said, .inl (cI, 24, .inl g_1))] H := hP
  have hD : va_D A [(o, .inr (6, [.ref p_said, .int p_latest, .int p_spoken, .int 0, .int (nI p_dn), .int p_w, .int p_kept])), (p_said, .inl (cI, 24, .inl g_1))] := hD
  refine lv_aload_n hx hb dX6_forget_13 rfl (lv_at hl 0 rfl) ?_
  refine lv_iconst (v := 0) hx hb dX6_forget_14 (by decide) ?_
  refine va_put (D := D) (ci := 6) (v := .int 0) (ty := .int) (C := RX6) (T := TX6) (N := 7) hx hb hts (by decide +kernel) tyX6 tyX6_ok nmX6 hown hK hP hD hS 0 rfl rfl 4 (by decide) (hts (.fieldLink RX6 31 "LastLetter$Talk" "doneErrands" "I") (by decide +kernel)) (fun _ h9 => h9) rfl (by decide +kernel) rfl rfl (Nat.le_of_ble_eq_true rfl) dX6_forget_15 (fun H locs hP hD hS => ?_)
  have hP : va_P D vwCl [(o, .inr (6, [.ref p_said, .int p_latest, .int p_spoken, .int 0, .int 0, .int p_w, .int p_kept])), (p_said, .inl (cI, 24, .inl g_1))] H := hP
  have hD : va_D A [(o, .inr (6, [.ref p_said, .int p_latest, .int p_spoken, .int 0, .int 0, .int p_w, .int p_kept])), (p_said, .inl (cI, 24, .inl g_1))] := hD
  refine lv_aload_n hx hb dX6_forget_18 rfl (lv_at hl 0 rfl) ?_
  refine xCv (wr := [(p_said, .inl (cI, 24, .inl g_1))]) (win := [(o, .inr (6, [.ref p_said, .int p_latest, .int p_spoken, .int 0, .int 0, .int p_w, .int p_kept]))]) hP hD hS hA [0] [1] rfl rfl (by decide) (by decide) (va_runV (As := []) (rest := []) ⟨hx, hb, hml, hown, hts⟩ (c_X6_begin l D cB cI cJ cS cZ cO H.size o p_said p_latest p_spoken 0 0 p_w p_kept ) (cwV 0 hts gX6_forget_X6_begin rfl rfl rfl (by decide +kernel) ⟨Nat.le_of_ble_eq_true rfl, Nat.le_of_ble_eq_true rfl⟩) (xPreV (win := [(o, .inr (6, [.ref p_said, .int p_latest, .int p_spoken, .int 0, .int 0, .int p_w, .int p_kept]))]) hN hK hP hD [0] (by decide) rfl 0 6 rfl rfl rfl) rfl rfl hl.1 rfl (lv_room (Nat.le_of_ble_eq_true rfl)) dX6_forget_19 ⟨Nat.le_of_ble_eq_true rfl, Nat.le_of_ble_eq_true rfl⟩) (fun w0 H locs hw hP hD hS => ?_)
  subst hw
  have hP : va_P D vwCl [(p_said, .inl (cI, 24, .inl g_1)), (o, .inr (6, [.ref p_said, .int (-1), .int 0, .int 0, .int 0, .int p_w, .int p_kept]))] H := hP
  have hD : va_D A [(p_said, .inl (cI, 24, .inl g_1)), (o, .inr (6, [.ref p_said, .int (-1), .int 0, .int 0, .int 0, .int p_w, .int p_kept]))] := hD
  have hP9 := hP.sub (ws' := [(o, .inr (6, [.ref p_said, .int (-1), .int 0, .int 0, .int 0, .int p_w, .int p_kept])), (p_said, .inl (cI, 24, .inl g_1))]) [1, 0] rfl
  have hD9 := hD.sub (ws' := [(o, .inr (6, [.ref p_said, .int (-1), .int 0, .int 0, .int 0, .int p_w, .int p_kept])), (p_said, .inl (cI, 24, .inl g_1))]) [1, 0] (by decide) rfl
  refine W.widen (k := 0) (n := 0) (Nat.le_of_ble_eq_true rfl) (Nat.le_of_ble_eq_true rfl) ?_
  exact W.vret hx hb hr (fun tz htz hWz => ⟨⟨[(o, .inr (6, [.ref p_said, .int (-1), .int 0, .int 0, .int 0, .int p_w, .int p_kept])), (p_said, .inl (cI, 24, .inl g_1))], rfl, ⟨g_1, rfl⟩, by rw [htz]; exact hP9, va_K.moved hWz.alike hK, hD9⟩, hS.F htz⟩) hS.2.2 dX6_forget_22

set_option maxHeartbeats 4000000 in
set_option maxRecDepth 100000 in
theorem c_X6_copy (l : Launch) (D : va_G) (cB cI cJ cS cZ cO : ClassId) (sz : Nat) (o : Nat) (t : Nat) (p_said : Nat) (p_latest : Int32) (p_spoken : Int32) (p_earned : Int32) (p_dn : Nat) (p_w : Int32) (p_kept : Int32) (r_said : Nat) (r_latest : Int32) (r_spoken : Int32) (r_earned : Int32) (r_dn : Nat) (r_w : Int32) (r_kept : Int32) (f_p_said : Nat → Int32) (f_r_said : Nat → Int32) : Met l yX6_copy wsX6_copy ({ frames := 1, cells := 0, slots := 0, locals := 40 }) (xPre D (tyL cB cI cJ cS cZ cO) [(o, .inr (6, [.ref p_said, .int p_latest, .int p_spoken, .int p_earned, .int (nI p_dn), .int p_w, .int p_kept])), (t, .inr (6, [.ref r_said, .int r_latest, .int r_spoken, .int r_earned, .int (nI r_dn), .int r_w, .int r_kept])), (p_said, .inl (cI, 24, .inl f_p_said)), (r_said, .inl (cI, 24, .inl f_r_said))] sz [.ref o, .ref t]) (xQv D (tyL cB cI cJ cS cZ cO) (va_A [(o, .inr (6, [.ref p_said, .int p_latest, .int p_spoken, .int p_earned, .int (nI p_dn), .int p_w, .int p_kept])), (t, .inr (6, [.ref r_said, .int r_latest, .int r_spoken, .int r_earned, .int (nI r_dn), .int r_w, .int r_kept])), (p_said, .inl (cI, 24, .inl f_p_said)), (r_said, .inl (cI, 24, .inl f_r_said))] sz) (fun u : va_W => ∃ g : Nat → Int32, u = [(o, .inr (6, [.ref p_said, .int r_latest, .int r_spoken, .int r_earned, .int (nI r_dn), .int r_w, .int p_kept])), (t, .inr (6, [.ref r_said, .int r_latest, .int r_spoken, .int r_earned, .int (nI r_dn), .int r_w, .int r_kept])), (p_said, .inl (cI, 24, .inl g)), (r_said, .inl (cI, 24, .inl f_r_said))])) 0 0 (va_A [(o, .inr (6, [.ref p_said, .int p_latest, .int p_spoken, .int p_earned, .int (nI p_dn), .int p_w, .int p_kept])), (t, .inr (6, [.ref r_said, .int r_latest, .int r_spoken, .int r_earned, .int (nI r_dn), .int r_w, .int r_kept])), (p_said, .inl (cI, 24, .inl f_p_said)), (r_said, .inl (cI, 24, .inl f_r_said))] sz) := by
  refine Met.ofW (cc := cX6_copy) (maxL := 2) (ret := none) (by decide) rfl ?_
  intro p e s m args below meth c s₁ B hml hv
  obtain ⟨rfl, hsz, hP, hK, hD0, hN⟩ := hv
  have hx := B.exec
  have hb := B.bytes
  have hr := B.returns
  have hts := atoms_spec (ws := wsX6_copy) B.pre
  have hown : s.vm.findClass RX6 = some m.cls := findClass_of_methodNamed B.named
  have hlocks := B.notSynchronized
  subst hsz
  have hD := hD0.self (sz := s.heap.size)
  generalize hAe : va_A [(o, .inr (6, [.ref p_said, .int p_latest, .int p_spoken, .int p_earned, .int (nI p_dn), .int p_w, .int p_kept])), (t, .inr (6, [.ref r_said, .int r_latest, .int r_spoken, .int r_earned, .int (nI r_dn), .int r_w, .int r_kept])), (p_said, .inl (cI, 24, .inl f_p_said)), (r_said, .inl (cI, 24, .inl f_r_said))] s.heap.size = A at hD ⊢
  have hA : ∀ q : Nat, s.heap.size ≤ q → A q := fun q h => by rw [← hAe]; exact Or.inr h
  have hS : va_S A s.heap s.heap [] := va_S.rf
  have hP : va_P D vwCl [(o, .inr (6, [.ref p_said, .int p_latest, .int p_spoken, .int p_earned, .int (nI p_dn), .int p_w, .int p_kept])), (t, .inr (6, [.ref r_said, .int r_latest, .int r_spoken, .int r_earned, .int (nI r_dn), .int r_w, .int r_kept])), (p_said, .inl (cI, 24, .inl f_p_said)), (r_said, .inl (cI, 24, .inl f_r_said))] s.heap := hP
  have hl := lv_entry ([.ref o, .ref t]) (n := 2) (Nat.le_of_ble_eq_true rfl)
  rw [lg_entry_eq]
  generalize (lg_sl ([.ref o, .ref t]) ++ List.replicate (2 - (lg_sl ([.ref o, .ref t])).length) Slot.unset).toArray = ls at hl ⊢
  have hl : lv_has ls 2 [(0, .ref o), (1, .ref t)] := hl
  refine lv_aload_n hx hb dX6_copy_0 rfl (lv_at hl 1 rfl) ?_
  refine va_get (D := D) (ci := 6) (v := .ref r_said) (C := RX6) (T := TX6) (N := 7) hx hb hts (by decide +kernel) hown hK hP 1 rfl rfl 0 (by decide) (hts (.fieldLink RX6 9 "LastLetter$Talk" "said" "[I") (by decide +kernel)) (fun _ h9 => h9) rfl dX6_copy_1 ?_
  refine lv_iconst (v := 0) hx hb dX6_copy_4 (by decide) ?_
  refine lv_aload_n hx hb dX6_copy_5 rfl (lv_at hl 0 rfl) ?_
  refine va_get (D := D) (ci := 6) (v := .ref p_said) (C := RX6) (T := TX6) (N := 7) hx hb hts (by decide +kernel) hown hK hP 0 rfl rfl 0 (by decide) (hts (.fieldLink RX6 9 "LastLetter$Talk" "said" "[I") (by decide +kernel)) (fun _ h9 => h9) rfl dX6_copy_6 ?_
  refine lv_iconst (v := 0) hx hb dX6_copy_9 (by decide) ?_
  refine lv_bipush (v := 24) hx hb dX6_copy_10 (by decide) ?_
  refine va_copyi (ty := .int) hx hb (hml.trans hl.1.symm) hown (hts (.methodLink RX6 40 arraycopyName) (by decide +kernel)) (hts (.native arraycopyName) (by decide +kernel)) (hts (.static arraycopyName) (by decide +kernel)) (hts (.initialized "java/lang/System") (by decide +kernel)) hK hP hD hS 3 2 1 1 rfl rfl rfl rfl rfl (by decide) (by decide) (by decide) (Nat.le_of_ble_eq_true rfl) (Nat.le_of_ble_eq_true rfl) (fun _ _ => rfl) (Nat.le_of_ble_eq_true rfl) (Nat.le_of_ble_eq_true rfl) dX6_copy_12 (fun H locs hP hD hS => ?_)
  have hP : va_P D vwCl [(o, .inr (6, [.ref p_said, .int p_latest, .int p_spoken, .int p_earned, .int (nI p_dn), .int p_w, .int p_kept])), (t, .inr (6, [.ref r_said, .int r_latest, .int r_spoken, .int r_earned, .int (nI r_dn), .int r_w, .int r_kept])), (p_said, .inl (cI, 24, .inl (va_cpy f_r_said f_p_said (Int32.toNatClampNeg 0) (Int32.toNatClampNeg 0) (Int32.toNatClampNeg 24)))), (r_said, .inl (cI, 24, .inl f_r_said))] H := hP
  have hD : va_D A [(o, .inr (6, [.ref p_said, .int p_latest, .int p_spoken, .int p_earned, .int (nI p_dn), .int p_w, .int p_kept])), (t, .inr (6, [.ref r_said, .int r_latest, .int r_spoken, .int r_earned, .int (nI r_dn), .int r_w, .int r_kept])), (p_said, .inl (cI, 24, .inl (va_cpy f_r_said f_p_said (Int32.toNatClampNeg 0) (Int32.toNatClampNeg 0) (Int32.toNatClampNeg 24)))), (r_said, .inl (cI, 24, .inl f_r_said))] := hD
  generalize eg_1 : va_cpy f_r_said f_p_said (Int32.toNatClampNeg 0) (Int32.toNatClampNeg 0) (Int32.toNatClampNeg 24) = g_1 at hP hD
  refine lv_aload_n hx hb dX6_copy_15 rfl (lv_at hl 0 rfl) ?_
  refine lv_aload_n hx hb dX6_copy_16 rfl (lv_at hl 1 rfl) ?_
  refine va_get (D := D) (ci := 6) (v := .int r_latest) (C := RX6) (T := TX6) (N := 7) hx hb hts (by decide +kernel) hown hK hP 1 rfl rfl 1 (by decide) (hts (.fieldLink RX6 15 "LastLetter$Talk" "latest" "I") (by decide +kernel)) (fun _ h9 => h9) rfl dX6_copy_17 ?_
  refine va_put (D := D) (ci := 6) (v := .int r_latest) (ty := .int) (C := RX6) (T := TX6) (N := 7) hx hb hts (by decide +kernel) tyX6 tyX6_ok nmX6 hown hK hP hD hS 0 rfl rfl 1 (by decide) (hts (.fieldLink RX6 15 "LastLetter$Talk" "latest" "I") (by decide +kernel)) (fun _ h9 => h9) rfl (by decide +kernel) rfl rfl (Nat.le_of_ble_eq_true rfl) dX6_copy_20 (fun H locs hP hD hS => ?_)
  have hP : va_P D vwCl [(o, .inr (6, [.ref p_said, .int r_latest, .int p_spoken, .int p_earned, .int (nI p_dn), .int p_w, .int p_kept])), (t, .inr (6, [.ref r_said, .int r_latest, .int r_spoken, .int r_earned, .int (nI r_dn), .int r_w, .int r_kept])), (p_said, .inl (cI, 24, .inl g_1)), (r_said, .inl (cI, 24, .inl f_r_said))] H := hP
  have hD : va_D A [(o, .inr (6, [.ref p_said, .int r_latest, .int p_spoken, .int p_earned, .int (nI p_dn), .int p_w, .int p_kept])), (t, .inr (6, [.ref r_said, .int r_latest, .int r_spoken, .int r_earned, .int (nI r_dn), .int r_w, .int r_kept])), (p_said, .inl (cI, 24, .inl g_1)), (r_said, .inl (cI, 24, .inl f_r_said))] := hD
  refine lv_aload_n hx hb dX6_copy_23 rfl (lv_at hl 0 rfl) ?_
  refine lv_aload_n hx hb dX6_copy_24 rfl (lv_at hl 1 rfl) ?_
  refine va_get (D := D) (ci := 6) (v := .int r_spoken) (C := RX6) (T := TX6) (N := 7) hx hb hts (by decide +kernel) hown hK hP 1 rfl rfl 2 (by decide) (hts (.fieldLink RX6 37 "LastLetter$Talk" "spoken" "I") (by decide +kernel)) (fun _ h9 => h9) rfl dX6_copy_25 ?_
  refine va_put (D := D) (ci := 6) (v := .int r_spoken) (ty := .int) (C := RX6) (T := TX6) (N := 7) hx hb hts (by decide +kernel) tyX6 tyX6_ok nmX6 hown hK hP hD hS 0 rfl rfl 2 (by decide) (hts (.fieldLink RX6 37 "LastLetter$Talk" "spoken" "I") (by decide +kernel)) (fun _ h9 => h9) rfl (by decide +kernel) rfl rfl (Nat.le_of_ble_eq_true rfl) dX6_copy_28 (fun H locs hP hD hS => ?_)
  have hP : va_P D vwCl [(o, .inr (6, [.ref p_said, .int r_latest, .int r_spoken, .int p_earned, .int (nI p_dn), .int p_w, .int p_kept])), (t, .inr (6, [.ref r_said, .int r_latest, .int r_spoken, .int r_earned, .int (nI r_dn), .int r_w, .int r_kept])), (p_said, .inl (cI, 24, .inl g_1)), (r_said, .inl (cI, 24, .inl f_r_said))] H := hP
  have hD : va_D A [(o, .inr (6, [.ref p_said, .int r_latest, .int r_spoken, .int p_earned, .int (nI p_dn), .int p_w, .int p_kept])), (t, .inr (6, [.ref r_said, .int r_latest, .int r_spoken, .int r_earned, .int (nI r_dn), .int r_w, .int r_kept])), (p_said, .inl (cI, 24, .inl g_1)), (r_said, .inl (cI, 24, .inl f_r_said))] := hD
  refine lv_aload_n hx hb dX6_copy_31 rfl (lv_at hl 0 rfl) ?_
  refine lv_aload_n hx hb dX6_copy_32 rfl (lv_at hl 1 rfl) ?_
  refine va_get (D := D) (ci := 6) (v := .int r_earned) (C := RX6) (T := TX6) (N := 7) hx hb hts (by decide +kernel) hown hK hP 1 rfl rfl 3 (by decide) (hts (.fieldLink RX6 28 "LastLetter$Talk" "earned" "I") (by decide +kernel)) (fun _ h9 => h9) rfl dX6_copy_33 ?_
  refine va_put (D := D) (ci := 6) (v := .int r_earned) (ty := .int) (C := RX6) (T := TX6) (N := 7) hx hb hts (by decide +kernel) tyX6 tyX6_ok nmX6 hown hK hP hD hS 0 rfl rfl 3 (by decide) (hts (.fieldLink RX6 28 "LastLetter$Talk" "earned" "I") (by decide +kernel)) (fun _ h9 => h9) rfl (by decide +kernel) rfl rfl (Nat.le_of_ble_eq_true rfl) dX6_copy_36 (fun H locs hP hD hS => ?_)
  have hP : va_P D vwCl [(o, .inr (6, [.ref p_said, .int r_latest, .int r_spoken, .int r_earned, .int (nI p_dn), .int p_w, .int p_kept])), (t, .inr (6, [.ref r_said, .int r_latest, .int r_spoken, .int r_earned, .int (nI r_dn), .int r_w, .int r_kept])), (p_said, .inl (cI, 24, .inl g_1)), (r_said, .inl (cI, 24, .inl f_r_said))] H := hP
  have hD : va_D A [(o, .inr (6, [.ref p_said, .int r_latest, .int r_spoken, .int r_earned, .int (nI p_dn), .int p_w, .int p_kept])), (t, .inr (6, [.ref r_said, .int r_latest, .int r_spoken, .int r_earned, .int (nI r_dn), .int r_w, .int r_kept])), (p_said, .inl (cI, 24, .inl g_1)), (r_said, .inl (cI, 24, .inl f_r_said))] := hD
  refine lv_aload_n hx hb dX6_copy_39 rfl (lv_at hl 0 rfl) ?_
  refine lv_aload_n hx hb dX6_copy_40 rfl (lv_at hl 1 rfl) ?_
  refine va_get (D := D) (ci := 6) (v := .int (nI r_dn)) (C := RX6) (T := TX6) (N := 7) hx hb hts (by decide +kernel) hown hK hP 1 rfl rfl 4 (by decide) (hts (.fieldLink RX6 31 "LastLetter$Talk" "doneErrands" "I") (by decide +kernel)) (fun _ h9 => h9) rfl dX6_copy_41 ?_
  refine va_put (D := D) (ci := 6) (v := .int (nI r_dn)) (ty := .int) (C := RX6) (T := TX6) (N := 7) hx hb hts (by decide +kernel) tyX6 tyX6_ok nmX6 hown hK hP hD hS 0 rfl rfl 4 (by decide) (hts (.fieldLink RX6 31 "LastLetter$Talk" "doneErrands" "I") (by decide +kernel)) (fun _ h9 => h9) rfl (by decide +kernel) rfl rfl (Nat.le_of_ble_eq_true rfl) dX6_copy_44 (fun H locs hP hD hS => ?_)
  have hP : va_P D vwCl [(o, .inr (6, [.ref p_said, .int r_latest, .int r_spoken, .int r_earned, .int (nI r_dn), .int p_w, .int p_kept])), (t, .inr (6, [.ref r_said, .int r_latest, .int r_spoken, .int r_earned, .int (nI r_dn), .int r_w, .int r_kept])), (p_said, .inl (cI, 24, .inl g_1)), (r_said, .inl (cI, 24, .inl f_r_said))] H := hP
  have hD : va_D A [(o, .inr (6, [.ref p_said, .int r_latest, .int r_spoken, .int r_earned, .int (nI r_dn), .int p_w, .int p_kept])), (t, .inr (6, [.ref r_said, .int r_latest, .int r_spoken, .int r_earned, .int (nI r_dn), .int r_w, .int r_kept])), (p_said, .inl (cI, 24, .inl g_1)), (r_said, .inl (cI, 24, .inl f_r_said))] := hD
  refine lv_aload_n hx hb dX6_copy_47 rfl (lv_at hl 0 rfl) ?_
  refine lv_aload_n hx hb dX6_copy_48 rfl (lv_at hl 1 rfl) ?_
  refine va_get (D := D) (ci := 6) (v := .int r_w) (C := RX6) (T := TX6) (N := 7) hx hb hts (by decide +kernel) hown hK hP 1 rfl rfl 5 (by decide) (hts (.fieldLink RX6 19 "LastLetter$Talk" "w" "I") (by decide +kernel)) (fun _ h9 => h9) rfl dX6_copy_49 ?_
  refine va_put (D := D) (ci := 6) (v := .int r_w) (ty := .int) (C := RX6) (T := TX6) (N := 7) hx hb hts (by decide +kernel) tyX6 tyX6_ok nmX6 hown hK hP hD hS 0 rfl rfl 5 (by decide) (hts (.fieldLink RX6 19 "LastLetter$Talk" "w" "I") (by decide +kernel)) (fun _ h9 => h9) rfl (by decide +kernel) rfl rfl (Nat.le_of_ble_eq_true rfl) dX6_copy_52 (fun H locs hP hD hS => ?_)
  have hP : va_P D vwCl [(o, .inr (6, [.ref p_said, .int r_latest, .int r_spoken, .int r_earned, .int (nI r_dn), .int r_w, .int p_kept])), (t, .inr (6, [.ref r_said, .int r_latest, .int r_spoken, .int r_earned, .int (nI r_dn), .int r_w, .int r_kept])), (p_said, .inl (cI, 24, .inl g_1)), (r_said, .inl (cI, 24, .inl f_r_said))] H := hP
  have hD : va_D A [(o, .inr (6, [.ref p_said, .int r_latest, .int r_spoken, .int r_earned, .int (nI r_dn), .int r_w, .int p_kept])), (t, .inr (6, [.ref r_said, .int r_latest, .int r_spoken, .int r_earned, .int (nI r_dn), .int r_w, .int r_kept])), (p_said, .inl (cI, 24, .inl g_1)), (r_said, .inl (cI, 24, .inl f_r_said))] := hD
  have hP9 := hP.sub (ws' := [(o, .inr (6, [.ref p_said, .int r_latest, .int r_spoken, .int r_earned, .int (nI r_dn), .int r_w, .int p_kept])), (t, .inr (6, [.ref r_said, .int r_latest, .int r_spoken, .int r_earned, .int (nI r_dn), .int r_w, .int r_kept])), (p_said, .inl (cI, 24, .inl g_1)), (r_said, .inl (cI, 24, .inl f_r_said))]) [0, 1, 2, 3] rfl
  have hD9 := hD.sub (ws' := [(o, .inr (6, [.ref p_said, .int r_latest, .int r_spoken, .int r_earned, .int (nI r_dn), .int r_w, .int p_kept])), (t, .inr (6, [.ref r_said, .int r_latest, .int r_spoken, .int r_earned, .int (nI r_dn), .int r_w, .int r_kept])), (p_said, .inl (cI, 24, .inl g_1)), (r_said, .inl (cI, 24, .inl f_r_said))]) [0, 1, 2, 3] (by decide) rfl
  refine W.widen (k := 0) (n := 0) (Nat.le_of_ble_eq_true rfl) (Nat.le_of_ble_eq_true rfl) ?_
  exact W.vret hx hb hr (fun tz htz hWz => ⟨⟨[(o, .inr (6, [.ref p_said, .int r_latest, .int r_spoken, .int r_earned, .int (nI r_dn), .int r_w, .int p_kept])), (t, .inr (6, [.ref r_said, .int r_latest, .int r_spoken, .int r_earned, .int (nI r_dn), .int r_w, .int r_kept])), (p_said, .inl (cI, 24, .inl g_1)), (r_said, .inl (cI, 24, .inl f_r_said))], rfl, ⟨g_1, rfl⟩, by rw [htz]; exact hP9, va_K.moved hWz.alike hK, hD9⟩, hS.F htz⟩) hS.2.2 dX6_copy_55

set_option maxHeartbeats 4000000 in
set_option maxRecDepth 100000 in
theorem c_X6_open (l : Launch) (D : va_G) (cB cI cJ cS cZ cO : ClassId) (sz : Nat) (o : Nat) (t : Nat) (p_said : Nat) (p_latest : Int32) (p_spoken : Int32) (p_earned : Int32) (p_dn : Nat) (p_w : Int32) (p_kept : Int32) (f_p_said : Nat → Int32) (k_name : Nat) (k_worth : Nat) (k_times : Nat) (k_first : Nat) (k_second : Nat) (k_beforeLast : Nat) (k_last : Nat) (k_errandOf : Nat) (k_errandAfter : Nat) (k_sound : Nat) (k_followers : Nat) (k_leaders : Nat) (w : Nat) (k_errands : Int32) (k_alikes : Int32) (k_law : Int32) (f_times : Nat → Int32) (f_followers : Nat → Int32) (hw : w ≤ 24) : Met l yX6_open wsX6_open ({ frames := 1, cells := 0, slots := 0, locals := 22 }) (xPre D (tyL cB cI cJ cS cZ cO) [(o, .inr (6, [.ref p_said, .int p_latest, .int p_spoken, .int p_earned, .int (nI p_dn), .int p_w, .int p_kept])), (p_said, .inl (cI, 24, .inl f_p_said)), (t, .inr (8, [.ref k_name, .ref k_worth, .ref k_times, .ref k_first, .ref k_second, .ref k_beforeLast, .ref k_last, .ref k_errandOf, .ref k_errandAfter, .ref k_sound, .ref k_followers, .ref k_leaders, .int (nI w), .int k_errands, .int k_alikes, .int k_law])), (k_times, .inl (cI, 24, .inl f_times)), (k_followers, .inl (cI, 24, .inl f_followers))] sz [.ref o, .ref t]) (xQi D (tyL cB cI cJ cS cZ cO) (va_A [(o, .inr (6, [.ref p_said, .int p_latest, .int p_spoken, .int p_earned, .int (nI p_dn), .int p_w, .int p_kept])), (p_said, .inl (cI, 24, .inl f_p_said)), (t, .inr (8, [.ref k_name, .ref k_worth, .ref k_times, .ref k_first, .ref k_second, .ref k_beforeLast, .ref k_last, .ref k_errandOf, .ref k_errandAfter, .ref k_sound, .ref k_followers, .ref k_leaders, .int (nI w), .int k_errands, .int k_alikes, .int k_law])), (k_times, .inl (cI, 24, .inl f_times)), (k_followers, .inl (cI, 24, .inl f_followers))] sz) (fun (r : Int32) (u : va_W) => u = [(o, .inr (6, [.ref p_said, .int p_latest, .int p_spoken, .int p_earned, .int (nI p_dn), .int p_w, .int p_kept])), (p_said, .inl (cI, 24, .inl f_p_said)), (t, .inr (8, [.ref k_name, .ref k_worth, .ref k_times, .ref k_first, .ref k_second, .ref k_beforeLast, .ref k_last, .ref k_errandOf, .ref k_errandAfter, .ref k_sound, .ref k_followers, .ref k_leaders, .int (nI w), .int k_errands, .int k_alikes, .int k_law])), (k_times, .inl (cI, 24, .inl f_times)), (k_followers, .inl (cI, 24, .inl f_followers))])) 0 0 (va_A [(o, .inr (6, [.ref p_said, .int p_latest, .int p_spoken, .int p_earned, .int (nI p_dn), .int p_w, .int p_kept])), (p_said, .inl (cI, 24, .inl f_p_said)), (t, .inr (8, [.ref k_name, .ref k_worth, .ref k_times, .ref k_first, .ref k_second, .ref k_beforeLast, .ref k_last, .ref k_errandOf, .ref k_errandAfter, .ref k_sound, .ref k_followers, .ref k_leaders, .int (nI w), .int k_errands, .int k_alikes, .int k_law])), (k_times, .inl (cI, 24, .inl f_times)), (k_followers, .inl (cI, 24, .inl f_followers))] sz) := by
  refine Met.ofW (cc := cX6_open) (maxL := 5) (ret := (some .int)) (by decide) rfl ?_
  intro p e s m args below meth c s₁ B hml hv
  obtain ⟨rfl, hsz, hP, hK, hD0, hN⟩ := hv
  have hx := B.exec
  have hb := B.bytes
  have hr := B.returns
  have hts := atoms_spec (ws := wsX6_open) B.pre
  have hown : s.vm.findClass RX6 = some m.cls := findClass_of_methodNamed B.named
  have hlocks := B.notSynchronized
  subst hsz
  have hD := hD0.self (sz := s.heap.size)
  generalize hAe : va_A [(o, .inr (6, [.ref p_said, .int p_latest, .int p_spoken, .int p_earned, .int (nI p_dn), .int p_w, .int p_kept])), (p_said, .inl (cI, 24, .inl f_p_said)), (t, .inr (8, [.ref k_name, .ref k_worth, .ref k_times, .ref k_first, .ref k_second, .ref k_beforeLast, .ref k_last, .ref k_errandOf, .ref k_errandAfter, .ref k_sound, .ref k_followers, .ref k_leaders, .int (nI w), .int k_errands, .int k_alikes, .int k_law])), (k_times, .inl (cI, 24, .inl f_times)), (k_followers, .inl (cI, 24, .inl f_followers))] s.heap.size = A at hD ⊢
  have hA : ∀ q : Nat, s.heap.size ≤ q → A q := fun q h => by rw [← hAe]; exact Or.inr h
  have hS : va_S A s.heap s.heap [] := va_S.rf
  have hP : va_P D vwCl [(o, .inr (6, [.ref p_said, .int p_latest, .int p_spoken, .int p_earned, .int (nI p_dn), .int p_w, .int p_kept])), (p_said, .inl (cI, 24, .inl f_p_said)), (t, .inr (8, [.ref k_name, .ref k_worth, .ref k_times, .ref k_first, .ref k_second, .ref k_beforeLast, .ref k_last, .ref k_errandOf, .ref k_errandAfter, .ref k_sound, .ref k_followers, .ref k_leaders, .int (nI w), .int k_errands, .int k_alikes, .int k_law])), (k_times, .inl (cI, 24, .inl f_times)), (k_followers, .inl (cI, 24, .inl f_followers))] s.heap := hP
  have hl := lv_entry ([.ref o, .ref t]) (n := 5) (Nat.le_of_ble_eq_true rfl)
  rw [lg_entry_eq]
  generalize (lg_sl ([.ref o, .ref t]) ++ List.replicate (5 - (lg_sl ([.ref o, .ref t])).length) Slot.unset).toArray = ls at hl ⊢
  have hl : lv_has ls 5 [(0, .ref o), (1, .ref t)] := hl
  refine lv_aload_n hx hb dX6_open_0 rfl (lv_at hl 1 rfl) ?_
  refine lv_aload_n hx hb dX6_open_1 rfl (lv_at hl 0 rfl) ?_
  refine va_get (D := D) (ci := 6) (v := .int p_latest) (C := RX6) (T := TX6) (N := 7) hx hb hts (by decide +kernel) hown hK hP 0 rfl rfl 1 (by decide) (hts (.fieldLink RX6 15 "LastLetter$Talk" "latest" "I") (by decide +kernel)) (fun _ h9 => h9) rfl dX6_open_2 ?_
  refine xCi (wr := [(o, .inr (6, [.ref p_said, .int p_latest, .int p_spoken, .int p_earned, .int (nI p_dn), .int p_w, .int p_kept])), (p_said, .inl (cI, 24, .inl f_p_said)), (k_times, .inl (cI, 24, .inl f_times)), (k_followers, .inl (cI, 24, .inl f_followers))]) (win := [(t, .inr (8, [.ref k_name, .ref k_worth, .ref k_times, .ref k_first, .ref k_second, .ref k_beforeLast, .ref k_last, .ref k_errandOf, .ref k_errandAfter, .ref k_sound, .ref k_followers, .ref k_leaders, .int (nI w), .int k_errands, .int k_alikes, .int k_law]))]) hP hD hS hA [2] [0, 1, 3, 4] rfl rfl (by decide) (by decide) (va_runV (As := [.int p_latest]) (rest := []) ⟨hx, hb, hml, hown, hts⟩ (c_X8_has l D cB cI cJ cS cZ cO s.heap.size t p_latest k_name k_worth k_times k_first k_second k_beforeLast k_last k_errandOf k_errandAfter k_sound k_followers k_leaders w k_errands k_alikes k_law (by first | assumption | omega | decide)) (cwV 1 hts gX6_open_X8_has rfl rfl rfl (by decide +kernel) ⟨Nat.le_of_ble_eq_true rfl, Nat.le_of_ble_eq_true rfl⟩) (xPreV (win := [(t, .inr (8, [.ref k_name, .ref k_worth, .ref k_times, .ref k_first, .ref k_second, .ref k_beforeLast, .ref k_last, .ref k_errandOf, .ref k_errandAfter, .ref k_sound, .ref k_followers, .ref k_leaders, .int (nI w), .int k_errands, .int k_alikes, .int k_law]))]) hN hK hP hD [2] (by decide) rfl 2 8 rfl rfl rfl) rfl rfl hl.1 rfl (lv_room (Nat.le_of_ble_eq_true rfl)) dX6_open_5 ⟨Nat.le_of_ble_eq_true rfl, Nat.le_of_ble_eq_true rfl⟩) (fun r_1 w0 H locs hw hP hD hS => ?_)
  obtain ⟨rfl, hf_2⟩ := hw
  have hP : va_P D vwCl [(o, .inr (6, [.ref p_said, .int p_latest, .int p_spoken, .int p_earned, .int (nI p_dn), .int p_w, .int p_kept])), (p_said, .inl (cI, 24, .inl f_p_said)), (k_times, .inl (cI, 24, .inl f_times)), (k_followers, .inl (cI, 24, .inl f_followers)), (t, .inr (8, [.ref k_name, .ref k_worth, .ref k_times, .ref k_first, .ref k_second, .ref k_beforeLast, .ref k_last, .ref k_errandOf, .ref k_errandAfter, .ref k_sound, .ref k_followers, .ref k_leaders, .int (nI w), .int k_errands, .int k_alikes, .int k_law]))] H := hP
  have hD : va_D A [(o, .inr (6, [.ref p_said, .int p_latest, .int p_spoken, .int p_earned, .int (nI p_dn), .int p_w, .int p_kept])), (p_said, .inl (cI, 24, .inl f_p_said)), (k_times, .inl (cI, 24, .inl f_times)), (k_followers, .inl (cI, 24, .inl f_followers)), (t, .inr (8, [.ref k_name, .ref k_worth, .ref k_times, .ref k_first, .ref k_second, .ref k_beforeLast, .ref k_last, .ref k_errandOf, .ref k_errandAfter, .ref k_sound, .ref k_followers, .ref k_leaders, .int (nI w), .int k_errands, .int k_alikes, .int k_law]))] := hD
  refine lv_if_eq (tgt := 23) hx hb dX6_open_8 (by decide) (fun c_3 => ?_) (fun c_3 => ?_)
  · refine lv_aload_n hx hb dX6_open_23 rfl (lv_at hl 1 rfl) ?_
    refine xCi (wr := [(o, .inr (6, [.ref p_said, .int p_latest, .int p_spoken, .int p_earned, .int (nI p_dn), .int p_w, .int p_kept])), (p_said, .inl (cI, 24, .inl f_p_said)), (k_times, .inl (cI, 24, .inl f_times)), (k_followers, .inl (cI, 24, .inl f_followers))]) (win := [(t, .inr (8, [.ref k_name, .ref k_worth, .ref k_times, .ref k_first, .ref k_second, .ref k_beforeLast, .ref k_last, .ref k_errandOf, .ref k_errandAfter, .ref k_sound, .ref k_followers, .ref k_leaders, .int (nI w), .int k_errands, .int k_alikes, .int k_law]))]) hP hD hS hA [4] [0, 1, 2, 3] rfl rfl (by decide) (by decide) (va_runV (As := []) (rest := []) ⟨hx, hb, hml, hown, hts⟩ (c_X8_everyWord l D cB cI cJ cS cZ cO H.size t k_name k_worth k_times k_first k_second k_beforeLast k_last k_errandOf k_errandAfter k_sound k_followers k_leaders w k_errands k_alikes k_law (by first | assumption | omega | decide)) (cwV 0 hts gX6_open_X8_everyWord rfl rfl rfl (by decide +kernel) ⟨Nat.le_of_ble_eq_true rfl, Nat.le_of_ble_eq_true rfl⟩) (xPreV (win := [(t, .inr (8, [.ref k_name, .ref k_worth, .ref k_times, .ref k_first, .ref k_second, .ref k_beforeLast, .ref k_last, .ref k_errandOf, .ref k_errandAfter, .ref k_sound, .ref k_followers, .ref k_leaders, .int (nI w), .int k_errands, .int k_alikes, .int k_law]))]) hN hK hP hD [4] (by decide) rfl 4 8 rfl rfl rfl) rfl rfl hl.1 rfl (lv_room (Nat.le_of_ble_eq_true rfl)) dX6_open_24 ⟨Nat.le_of_ble_eq_true rfl, Nat.le_of_ble_eq_true rfl⟩) (fun r0 w0 H locs hw hP hD hS => ?_)
    obtain ⟨rfl, rfl⟩ := hw
    have hP : va_P D vwCl [(o, .inr (6, [.ref p_said, .int p_latest, .int p_spoken, .int p_earned, .int (nI p_dn), .int p_w, .int p_kept])), (p_said, .inl (cI, 24, .inl f_p_said)), (k_times, .inl (cI, 24, .inl f_times)), (k_followers, .inl (cI, 24, .inl f_followers)), (t, .inr (8, [.ref k_name, .ref k_worth, .ref k_times, .ref k_first, .ref k_second, .ref k_beforeLast, .ref k_last, .ref k_errandOf, .ref k_errandAfter, .ref k_sound, .ref k_followers, .ref k_leaders, .int (nI w), .int k_errands, .int k_alikes, .int k_law]))] H := hP
    have hD : va_D A [(o, .inr (6, [.ref p_said, .int p_latest, .int p_spoken, .int p_earned, .int (nI p_dn), .int p_w, .int p_kept])), (p_said, .inl (cI, 24, .inl f_p_said)), (k_times, .inl (cI, 24, .inl f_times)), (k_followers, .inl (cI, 24, .inl f_followers)), (t, .inr (8, [.ref k_name, .ref k_worth, .ref k_times, .ref k_first, .ref k_second, .ref k_beforeLast, .ref k_last, .ref k_errandOf, .ref k_errandAfter, .ref k_sound, .ref k_followers, .ref k_leaders, .int (nI w), .int k_errands, .int k_alikes, .int k_law]))] := hD
    refine lv_istore_n (lv' := [(2, .int (nI (2 ^ w - 1))), (0, .ref o), (1, .ref t)]) hx hb dX6_open_27 rfl hl (by decide) rfl (fun ls hl => ?_)
    refine lv_iconst (v := 0) hx hb dX6_open_28 (by decide) ?_
    refine lv_istore_n (lv' := [(3, .int 0), (2, .int (nI (2 ^ w - 1))), (0, .ref o), (1, .ref t)]) hx hb dX6_open_29 rfl hl (by decide) rfl (fun ls hl => ?_)
    refine lv_iconst (v := 0) hx hb dX6_open_30 (by decide) ?_
    refine lv_istore (lv' := [(4, .int 0), (3, .int 0), (2, .int (nI (2 ^ w - 1))), (0, .ref o), (1, .ref t)]) hx hb dX6_open_31 hl (by decide) rfl (fun ls hl => ?_)
    refine xb_wh (fun (n9 : Nat) H locs ls => ∃ i : Nat, ∃ bits : Int32, (w - i) = n9 ∧ va_P D vwCl [(o, .inr (6, [.ref p_said, .int p_latest, .int p_spoken, .int p_earned, .int (nI p_dn), .int p_w, .int p_kept])), (p_said, .inl (cI, 24, .inl f_p_said)), (k_times, .inl (cI, 24, .inl f_times)), (k_followers, .inl (cI, 24, .inl f_followers)), (t, .inr (8, [.ref k_name, .ref k_worth, .ref k_times, .ref k_first, .ref k_second, .ref k_beforeLast, .ref k_last, .ref k_errandOf, .ref k_errandAfter, .ref k_sound, .ref k_followers, .ref k_leaders, .int (nI w), .int k_errands, .int k_alikes, .int k_law]))] H ∧ va_D A [(o, .inr (6, [.ref p_said, .int p_latest, .int p_spoken, .int p_earned, .int (nI p_dn), .int p_w, .int p_kept])), (p_said, .inl (cI, 24, .inl f_p_said)), (k_times, .inl (cI, 24, .inl f_times)), (k_followers, .inl (cI, 24, .inl f_followers)), (t, .inr (8, [.ref k_name, .ref k_worth, .ref k_times, .ref k_first, .ref k_second, .ref k_beforeLast, .ref k_last, .ref k_errandOf, .ref k_errandAfter, .ref k_sound, .ref k_followers, .ref k_leaders, .int (nI w), .int k_errands, .int k_alikes, .int k_law]))] ∧ va_S A s.heap H locs ∧ lv_has ls 5 [(4, .int (nI i)), (3, .int bits), (2, .int (nI (2 ^ w - 1))), (0, .ref o), (1, .ref t)] ∧ (i ≤ w)) ⟨0, 0, rfl, hP, hD, hS, lv_sub hl [0, 1, 2, 3, 4] rfl, (by first | assumption | omega)⟩ (fun n9 H locs ls hI kk_33 => ?_)
    obtain ⟨i, bits, hn_33, hP, hD, hS, hl, hF_h_4⟩ := hI
    refine lv_iload hx hb dX6_open_33 (lv_at hl 0 rfl) ?_
    refine lv_aload_n hx hb dX6_open_35 rfl (lv_at hl 4 rfl) ?_
    refine va_getN (D := D) (ci := 8) (v := .int (nI w)) (C := RX8) (T := TX8) (N := 16) hx hb hts (by decide +kernel) hown hK hP 4 rfl rfl 12 (by decide) (va_Nw.use rfl (hN.1 (RX6, 62, RX8, "words", "I", RX10) (by decide +kernel))) (fun _ h9 => h9) rfl dX6_open_36 ?_
    refine lv_icmp_ge (tgt := 74) hx hb dX6_open_39 (by decide) (fun c_5 => ?_) (fun c_5 => ?_)
    · have dc_5 : w ≤ i := (nI_leI (a := w) (b := i) (by omega) (by omega)).mp c_5
      refine lv_iload_n hx hb dX6_open_74 rfl (lv_at hl 1 rfl) ?_
      have hP9 := hP.sub (ws' := [(o, .inr (6, [.ref p_said, .int p_latest, .int p_spoken, .int p_earned, .int (nI p_dn), .int p_w, .int p_kept])), (p_said, .inl (cI, 24, .inl f_p_said)), (t, .inr (8, [.ref k_name, .ref k_worth, .ref k_times, .ref k_first, .ref k_second, .ref k_beforeLast, .ref k_last, .ref k_errandOf, .ref k_errandAfter, .ref k_sound, .ref k_followers, .ref k_leaders, .int (nI w), .int k_errands, .int k_alikes, .int k_law])), (k_times, .inl (cI, 24, .inl f_times)), (k_followers, .inl (cI, 24, .inl f_followers))]) [0, 1, 4, 2, 3] rfl
      have hD9 := hD.sub (ws' := [(o, .inr (6, [.ref p_said, .int p_latest, .int p_spoken, .int p_earned, .int (nI p_dn), .int p_w, .int p_kept])), (p_said, .inl (cI, 24, .inl f_p_said)), (t, .inr (8, [.ref k_name, .ref k_worth, .ref k_times, .ref k_first, .ref k_second, .ref k_beforeLast, .ref k_last, .ref k_errandOf, .ref k_errandAfter, .ref k_sound, .ref k_followers, .ref k_leaders, .int (nI w), .int k_errands, .int k_alikes, .int k_law])), (k_times, .inl (cI, 24, .inl f_times)), (k_followers, .inl (cI, 24, .inl f_followers))]) [0, 1, 4, 2, 3] (by decide) rfl
      refine W.widen (k := 0) (n := 0) (Nat.le_of_ble_eq_true rfl) (Nat.le_of_ble_eq_true rfl) ?_
      exact W.iret (v := bits) hx hb hr (fun tz htz hWz => ⟨⟨bits, [(o, .inr (6, [.ref p_said, .int p_latest, .int p_spoken, .int p_earned, .int (nI p_dn), .int p_w, .int p_kept])), (p_said, .inl (cI, 24, .inl f_p_said)), (t, .inr (8, [.ref k_name, .ref k_worth, .ref k_times, .ref k_first, .ref k_second, .ref k_beforeLast, .ref k_last, .ref k_errandOf, .ref k_errandAfter, .ref k_sound, .ref k_followers, .ref k_leaders, .int (nI w), .int k_errands, .int k_alikes, .int k_law])), (k_times, .inl (cI, 24, .inl f_times)), (k_followers, .inl (cI, 24, .inl f_followers))], rfl, rfl, by rw [htz]; exact hP9, va_K.moved hWz.alike hK, hD9⟩, hS.F htz⟩) hS.2.2 dX6_open_75
    · have dc_5 : ¬ w ≤ i := fun h => c_5 ((nI_leI (a := w) (b := i) (by omega) (by omega)).mpr h)
      refine lv_iload_n hx hb dX6_open_42 rfl (lv_at hl 2 rfl) ?_
      refine lv_iload hx hb dX6_open_43 (lv_at hl 0 rfl) ?_
      refine xCi (wr := [(o, .inr (6, [.ref p_said, .int p_latest, .int p_spoken, .int p_earned, .int (nI p_dn), .int p_w, .int p_kept])), (p_said, .inl (cI, 24, .inl f_p_said)), (k_times, .inl (cI, 24, .inl f_times)), (k_followers, .inl (cI, 24, .inl f_followers)), (t, .inr (8, [.ref k_name, .ref k_worth, .ref k_times, .ref k_first, .ref k_second, .ref k_beforeLast, .ref k_last, .ref k_errandOf, .ref k_errandAfter, .ref k_sound, .ref k_followers, .ref k_leaders, .int (nI w), .int k_errands, .int k_alikes, .int k_law]))]) (win := []) hP hD hS hA [] [0, 1, 2, 3, 4] rfl rfl (by decide) (by decide) (va_runSN (As := [.int (nI (2 ^ w - 1)), .int (nI i)]) (rest := []) ⟨hx, hb, hml, hown, hts⟩ (c_X10_isIn l D cB cI cJ cS cZ cO H.size (nI (2 ^ w - 1)) (nI i) ) ⟨va_cnB 2 hts gX6_open_X10_isIn_n65 rfl rfl rfl (hN.2.1 (RX6, 65, yX10_isIn, RX10) (by decide +kernel)) (hts (.initialized RX10) (by decide +kernel)) (by decide +kernel) ⟨Nat.le_of_ble_eq_true rfl, Nat.le_of_ble_eq_true rfl⟩, hts (.static yX10_isIn) (by decide +kernel), trivial⟩ (xPreS (win := []) hN hK hP hD [] (by decide) rfl) rfl rfl hl.1 rfl (lv_room (Nat.le_of_ble_eq_true rfl)) dX6_open_45 ⟨Nat.le_of_ble_eq_true rfl, Nat.le_of_ble_eq_true rfl⟩) (fun r_6 w0 H locs hw hP hD hS => ?_)
      obtain ⟨rfl, hf_7⟩ := hw
      have hP : va_P D vwCl [(o, .inr (6, [.ref p_said, .int p_latest, .int p_spoken, .int p_earned, .int (nI p_dn), .int p_w, .int p_kept])), (p_said, .inl (cI, 24, .inl f_p_said)), (k_times, .inl (cI, 24, .inl f_times)), (k_followers, .inl (cI, 24, .inl f_followers)), (t, .inr (8, [.ref k_name, .ref k_worth, .ref k_times, .ref k_first, .ref k_second, .ref k_beforeLast, .ref k_last, .ref k_errandOf, .ref k_errandAfter, .ref k_sound, .ref k_followers, .ref k_leaders, .int (nI w), .int k_errands, .int k_alikes, .int k_law]))] H := hP
      have hD : va_D A [(o, .inr (6, [.ref p_said, .int p_latest, .int p_spoken, .int p_earned, .int (nI p_dn), .int p_w, .int p_kept])), (p_said, .inl (cI, 24, .inl f_p_said)), (k_times, .inl (cI, 24, .inl f_times)), (k_followers, .inl (cI, 24, .inl f_followers)), (t, .inr (8, [.ref k_name, .ref k_worth, .ref k_times, .ref k_first, .ref k_second, .ref k_beforeLast, .ref k_last, .ref k_errandOf, .ref k_errandAfter, .ref k_sound, .ref k_followers, .ref k_leaders, .int (nI w), .int k_errands, .int k_alikes, .int k_law]))] := hD
      refine lv_if_eq (tgt := 68) hx hb dX6_open_48 (by decide) (fun c_8 => ?_) (fun c_8 => ?_)
      · refine lv_iinc (v := nI (i + 1)) (lv' := [(4, .int (nI (i + 1))), (3, .int bits), (2, .int (nI (2 ^ w - 1))), (0, .ref o), (1, .ref t)]) hx hb dX6_open_68 hl (k := 0) rfl (nI_1 i) (by decide) rfl (fun ls hl => ?_)
        refine lv_goto (tgt := 33) hx hb dX6_open_71 (by decide) ?_
        exact kk_33 _ _ _ _ (by rw [← hn_33]; omega) ⟨(i + 1), bits, rfl, hP, hD, hS, lv_sub hl [0, 1, 2, 3, 4] rfl, (by first | assumption | omega)⟩
      · refine lv_aload_n hx hb dX6_open_51 rfl (lv_at hl 3 rfl) ?_
        refine lv_aload_n hx hb dX6_open_52 rfl (lv_at hl 4 rfl) ?_
        refine lv_iload hx hb dX6_open_53 (lv_at hl 0 rfl) ?_
        refine xCi (wr := [(k_followers, .inl (cI, 24, .inl f_followers))]) (win := [(o, .inr (6, [.ref p_said, .int p_latest, .int p_spoken, .int p_earned, .int (nI p_dn), .int p_w, .int p_kept])), (p_said, .inl (cI, 24, .inl f_p_said)), (t, .inr (8, [.ref k_name, .ref k_worth, .ref k_times, .ref k_first, .ref k_second, .ref k_beforeLast, .ref k_last, .ref k_errandOf, .ref k_errandAfter, .ref k_sound, .ref k_followers, .ref k_leaders, .int (nI w), .int k_errands, .int k_alikes, .int k_law])), (k_times, .inl (cI, 24, .inl f_times))]) hP hD hS hA [0, 1, 4, 2] [3] rfl rfl (by decide) (by decide) (va_runV (As := [.ref t, .int (nI i)]) (rest := []) ⟨hx, hb, hml, hown, hts⟩ (c_X6_left l D cB cI cJ cS cZ cO H.size o t i p_said p_latest p_spoken p_earned p_dn p_w p_kept f_p_said k_name k_worth k_times k_first k_second k_beforeLast k_last k_errandOf k_errandAfter k_sound k_followers k_leaders w k_errands k_alikes k_law f_times (by first | assumption | omega | decide)) (cwV 2 hts gX6_open_X6_left rfl rfl rfl (by decide +kernel) ⟨Nat.le_of_ble_eq_true rfl, Nat.le_of_ble_eq_true rfl⟩) (xPreV (win := [(o, .inr (6, [.ref p_said, .int p_latest, .int p_spoken, .int p_earned, .int (nI p_dn), .int p_w, .int p_kept])), (p_said, .inl (cI, 24, .inl f_p_said)), (t, .inr (8, [.ref k_name, .ref k_worth, .ref k_times, .ref k_first, .ref k_second, .ref k_beforeLast, .ref k_last, .ref k_errandOf, .ref k_errandAfter, .ref k_sound, .ref k_followers, .ref k_leaders, .int (nI w), .int k_errands, .int k_alikes, .int k_law])), (k_times, .inl (cI, 24, .inl f_times))]) hN hK hP hD [0, 1, 4, 2] (by decide) rfl 0 6 rfl rfl rfl) rfl rfl hl.1 rfl (lv_room (Nat.le_of_ble_eq_true rfl)) dX6_open_55 ⟨Nat.le_of_ble_eq_true rfl, Nat.le_of_ble_eq_true rfl⟩) (fun r_9 w0 H locs hw hP hD hS => ?_)
        subst hw
        have hP : va_P D vwCl [(k_followers, .inl (cI, 24, .inl f_followers)), (o, .inr (6, [.ref p_said, .int p_latest, .int p_spoken, .int p_earned, .int (nI p_dn), .int p_w, .int p_kept])), (p_said, .inl (cI, 24, .inl f_p_said)), (t, .inr (8, [.ref k_name, .ref k_worth, .ref k_times, .ref k_first, .ref k_second, .ref k_beforeLast, .ref k_last, .ref k_errandOf, .ref k_errandAfter, .ref k_sound, .ref k_followers, .ref k_leaders, .int (nI w), .int k_errands, .int k_alikes, .int k_law])), (k_times, .inl (cI, 24, .inl f_times))] H := hP
        have hD : va_D A [(k_followers, .inl (cI, 24, .inl f_followers)), (o, .inr (6, [.ref p_said, .int p_latest, .int p_spoken, .int p_earned, .int (nI p_dn), .int p_w, .int p_kept])), (p_said, .inl (cI, 24, .inl f_p_said)), (t, .inr (8, [.ref k_name, .ref k_worth, .ref k_times, .ref k_first, .ref k_second, .ref k_beforeLast, .ref k_last, .ref k_errandOf, .ref k_errandAfter, .ref k_sound, .ref k_followers, .ref k_leaders, .int (nI w), .int k_errands, .int k_alikes, .int k_law])), (k_times, .inl (cI, 24, .inl f_times))] := hD
        refine lv_if_le (tgt := 68) hx hb dX6_open_58 (by decide) (fun c_10 => ?_) (fun c_10 => ?_)
        · refine lv_iinc (v := nI (i + 1)) (lv' := [(4, .int (nI (i + 1))), (3, .int bits), (2, .int (nI (2 ^ w - 1))), (0, .ref o), (1, .ref t)]) hx hb dX6_open_68 hl (k := 0) rfl (nI_1 i) (by decide) rfl (fun ls hl => ?_)
          refine lv_goto (tgt := 33) hx hb dX6_open_71 (by decide) ?_
          exact kk_33 _ _ _ _ (by rw [← hn_33]; omega) ⟨(i + 1), bits, rfl, hP.sub [1, 2, 4, 0, 3] rfl, hD.sub [1, 2, 4, 0, 3] (by decide) rfl, hS, lv_sub hl [0, 1, 2, 3, 4] rfl, (by first | assumption | omega)⟩
        · refine lv_iload_n hx hb dX6_open_61 rfl (lv_at hl 1 rfl) ?_
          refine lv_iconst (v := 1) hx hb dX6_open_62 (by decide) ?_
          refine lv_iload hx hb dX6_open_63 (lv_at hl 0 rfl) ?_
          refine lv_ishl hx hb dX6_open_65 ?_
          refine xb_top (y := nI (1 * 2 ^ i)) (nb_shl (a := 1) (i := i) (by omega)) ?_
          refine lv_ior hx hb dX6_open_66 ?_
          refine lv_topi (fun v_11 ev_11 => ?_)
          refine lv_istore_n (lv' := [(3, .int v_11), (4, .int (nI i)), (2, .int (nI (2 ^ w - 1))), (0, .ref o), (1, .ref t)]) hx hb dX6_open_67 rfl hl (by decide) rfl (fun ls hl => ?_)
          refine lv_iinc (v := nI (i + 1)) (lv' := [(4, .int (nI (i + 1))), (3, .int v_11), (2, .int (nI (2 ^ w - 1))), (0, .ref o), (1, .ref t)]) hx hb dX6_open_68 hl (k := 1) rfl (nI_1 i) (by decide) rfl (fun ls hl => ?_)
          refine lv_goto (tgt := 33) hx hb dX6_open_71 (by decide) ?_
          exact kk_33 _ _ _ _ (by rw [← hn_33]; omega) ⟨(i + 1), v_11, rfl, hP.sub [1, 2, 4, 0, 3] rfl, hD.sub [1, 2, 4, 0, 3] (by decide) rfl, hS, lv_sub hl [0, 1, 2, 3, 4] rfl, (by first | assumption | omega)⟩
  · refine lv_aload_n hx hb dX6_open_11 rfl (lv_at hl 1 rfl) ?_
    refine va_getN (D := D) (ci := 8) (v := .ref k_followers) (C := RX8) (T := TX8) (N := 16) hx hb hts (by decide +kernel) hown hK hP 4 rfl rfl 10 (by decide) (va_Nw.use rfl (hN.1 (RX6, 55, RX8, "followers", "[I", RX10) (by decide +kernel))) (fun _ h9 => h9) rfl dX6_open_12 ?_
    refine lv_aload_n hx hb dX6_open_15 rfl (lv_at hl 0 rfl) ?_
    refine va_get (D := D) (ci := 6) (v := .int p_latest) (C := RX6) (T := TX6) (N := 7) hx hb hts (by decide +kernel) hown hK hP 0 rfl rfl 1 (by decide) (hts (.fieldLink RX6 15 "LastLetter$Talk" "latest" "I") (by decide +kernel)) (fun _ h9 => h9) rfl dX6_open_16 ?_
    obtain ⟨q1, hq1, eq1⟩ := (hf_2.resolve_left c_3).2
    refine xb_top (y := nI q1) eq1 ?_
    refine va_iald hx hb hK hP 3 1 rfl rfl (vp_in_nI (by omega) (by omega)) dX6_open_19 ?_
    refine xb_top (y := f_followers q1) (by rw [nI_clamp (by omega)]) ?_
    refine lv_goto (tgt := 27) hx hb dX6_open_20 (by decide) ?_
    refine lv_istore_n (lv' := [(2, .int (f_followers q1)), (0, .ref o), (1, .ref t)]) hx hb dX6_open_27 rfl hl (by decide) rfl (fun ls hl => ?_)
    refine lv_iconst (v := 0) hx hb dX6_open_28 (by decide) ?_
    refine lv_istore_n (lv' := [(3, .int 0), (2, .int (f_followers q1)), (0, .ref o), (1, .ref t)]) hx hb dX6_open_29 rfl hl (by decide) rfl (fun ls hl => ?_)
    refine lv_iconst (v := 0) hx hb dX6_open_30 (by decide) ?_
    refine lv_istore (lv' := [(4, .int 0), (3, .int 0), (2, .int (f_followers q1)), (0, .ref o), (1, .ref t)]) hx hb dX6_open_31 hl (by decide) rfl (fun ls hl => ?_)
    refine xb_wh (fun (n9 : Nat) H locs ls => ∃ i : Nat, ∃ bits : Int32, (w - i) = n9 ∧ va_P D vwCl [(o, .inr (6, [.ref p_said, .int p_latest, .int p_spoken, .int p_earned, .int (nI p_dn), .int p_w, .int p_kept])), (p_said, .inl (cI, 24, .inl f_p_said)), (k_times, .inl (cI, 24, .inl f_times)), (k_followers, .inl (cI, 24, .inl f_followers)), (t, .inr (8, [.ref k_name, .ref k_worth, .ref k_times, .ref k_first, .ref k_second, .ref k_beforeLast, .ref k_last, .ref k_errandOf, .ref k_errandAfter, .ref k_sound, .ref k_followers, .ref k_leaders, .int (nI w), .int k_errands, .int k_alikes, .int k_law]))] H ∧ va_D A [(o, .inr (6, [.ref p_said, .int p_latest, .int p_spoken, .int p_earned, .int (nI p_dn), .int p_w, .int p_kept])), (p_said, .inl (cI, 24, .inl f_p_said)), (k_times, .inl (cI, 24, .inl f_times)), (k_followers, .inl (cI, 24, .inl f_followers)), (t, .inr (8, [.ref k_name, .ref k_worth, .ref k_times, .ref k_first, .ref k_second, .ref k_beforeLast, .ref k_last, .ref k_errandOf, .ref k_errandAfter, .ref k_sound, .ref k_followers, .ref k_leaders, .int (nI w), .int k_errands, .int k_alikes, .int k_law]))] ∧ va_S A s.heap H locs ∧ lv_has ls 5 [(4, .int (nI i)), (3, .int bits), (2, .int (f_followers q1)), (0, .ref o), (1, .ref t)] ∧ (i ≤ w)) ⟨0, 0, rfl, hP, hD, hS, lv_sub hl [0, 1, 2, 3, 4] rfl, (by first | assumption | omega)⟩ (fun n9 H locs ls hI kk_33 => ?_)
    obtain ⟨i, bits, hn_33, hP, hD, hS, hl, hF_h_12⟩ := hI
    refine lv_iload hx hb dX6_open_33 (lv_at hl 0 rfl) ?_
    refine lv_aload_n hx hb dX6_open_35 rfl (lv_at hl 4 rfl) ?_
    refine va_getN (D := D) (ci := 8) (v := .int (nI w)) (C := RX8) (T := TX8) (N := 16) hx hb hts (by decide +kernel) hown hK hP 4 rfl rfl 12 (by decide) (va_Nw.use rfl (hN.1 (RX6, 62, RX8, "words", "I", RX10) (by decide +kernel))) (fun _ h9 => h9) rfl dX6_open_36 ?_
    refine lv_icmp_ge (tgt := 74) hx hb dX6_open_39 (by decide) (fun c_13 => ?_) (fun c_13 => ?_)
    · have dc_13 : w ≤ i := (nI_leI (a := w) (b := i) (by omega) (by omega)).mp c_13
      refine lv_iload_n hx hb dX6_open_74 rfl (lv_at hl 1 rfl) ?_
      have hP9 := hP.sub (ws' := [(o, .inr (6, [.ref p_said, .int p_latest, .int p_spoken, .int p_earned, .int (nI p_dn), .int p_w, .int p_kept])), (p_said, .inl (cI, 24, .inl f_p_said)), (t, .inr (8, [.ref k_name, .ref k_worth, .ref k_times, .ref k_first, .ref k_second, .ref k_beforeLast, .ref k_last, .ref k_errandOf, .ref k_errandAfter, .ref k_sound, .ref k_followers, .ref k_leaders, .int (nI w), .int k_errands, .int k_alikes, .int k_law])), (k_times, .inl (cI, 24, .inl f_times)), (k_followers, .inl (cI, 24, .inl f_followers))]) [0, 1, 4, 2, 3] rfl
      have hD9 := hD.sub (ws' := [(o, .inr (6, [.ref p_said, .int p_latest, .int p_spoken, .int p_earned, .int (nI p_dn), .int p_w, .int p_kept])), (p_said, .inl (cI, 24, .inl f_p_said)), (t, .inr (8, [.ref k_name, .ref k_worth, .ref k_times, .ref k_first, .ref k_second, .ref k_beforeLast, .ref k_last, .ref k_errandOf, .ref k_errandAfter, .ref k_sound, .ref k_followers, .ref k_leaders, .int (nI w), .int k_errands, .int k_alikes, .int k_law])), (k_times, .inl (cI, 24, .inl f_times)), (k_followers, .inl (cI, 24, .inl f_followers))]) [0, 1, 4, 2, 3] (by decide) rfl
      refine W.widen (k := 0) (n := 0) (Nat.le_of_ble_eq_true rfl) (Nat.le_of_ble_eq_true rfl) ?_
      exact W.iret (v := bits) hx hb hr (fun tz htz hWz => ⟨⟨bits, [(o, .inr (6, [.ref p_said, .int p_latest, .int p_spoken, .int p_earned, .int (nI p_dn), .int p_w, .int p_kept])), (p_said, .inl (cI, 24, .inl f_p_said)), (t, .inr (8, [.ref k_name, .ref k_worth, .ref k_times, .ref k_first, .ref k_second, .ref k_beforeLast, .ref k_last, .ref k_errandOf, .ref k_errandAfter, .ref k_sound, .ref k_followers, .ref k_leaders, .int (nI w), .int k_errands, .int k_alikes, .int k_law])), (k_times, .inl (cI, 24, .inl f_times)), (k_followers, .inl (cI, 24, .inl f_followers))], rfl, rfl, by rw [htz]; exact hP9, va_K.moved hWz.alike hK, hD9⟩, hS.F htz⟩) hS.2.2 dX6_open_75
    · have dc_13 : ¬ w ≤ i := fun h => c_13 ((nI_leI (a := w) (b := i) (by omega) (by omega)).mpr h)
      refine lv_iload_n hx hb dX6_open_42 rfl (lv_at hl 2 rfl) ?_
      refine lv_iload hx hb dX6_open_43 (lv_at hl 0 rfl) ?_
      refine xCi (wr := [(o, .inr (6, [.ref p_said, .int p_latest, .int p_spoken, .int p_earned, .int (nI p_dn), .int p_w, .int p_kept])), (p_said, .inl (cI, 24, .inl f_p_said)), (k_times, .inl (cI, 24, .inl f_times)), (k_followers, .inl (cI, 24, .inl f_followers)), (t, .inr (8, [.ref k_name, .ref k_worth, .ref k_times, .ref k_first, .ref k_second, .ref k_beforeLast, .ref k_last, .ref k_errandOf, .ref k_errandAfter, .ref k_sound, .ref k_followers, .ref k_leaders, .int (nI w), .int k_errands, .int k_alikes, .int k_law]))]) (win := []) hP hD hS hA [] [0, 1, 2, 3, 4] rfl rfl (by decide) (by decide) (va_runSN (As := [.int (f_followers q1), .int (nI i)]) (rest := []) ⟨hx, hb, hml, hown, hts⟩ (c_X10_isIn l D cB cI cJ cS cZ cO H.size (f_followers q1) (nI i) ) ⟨va_cnB 2 hts gX6_open_X10_isIn_n65 rfl rfl rfl (hN.2.1 (RX6, 65, yX10_isIn, RX10) (by decide +kernel)) (hts (.initialized RX10) (by decide +kernel)) (by decide +kernel) ⟨Nat.le_of_ble_eq_true rfl, Nat.le_of_ble_eq_true rfl⟩, hts (.static yX10_isIn) (by decide +kernel), trivial⟩ (xPreS (win := []) hN hK hP hD [] (by decide) rfl) rfl rfl hl.1 rfl (lv_room (Nat.le_of_ble_eq_true rfl)) dX6_open_45 ⟨Nat.le_of_ble_eq_true rfl, Nat.le_of_ble_eq_true rfl⟩) (fun r_14 w0 H locs hw hP hD hS => ?_)
      obtain ⟨rfl, hf_15⟩ := hw
      have hP : va_P D vwCl [(o, .inr (6, [.ref p_said, .int p_latest, .int p_spoken, .int p_earned, .int (nI p_dn), .int p_w, .int p_kept])), (p_said, .inl (cI, 24, .inl f_p_said)), (k_times, .inl (cI, 24, .inl f_times)), (k_followers, .inl (cI, 24, .inl f_followers)), (t, .inr (8, [.ref k_name, .ref k_worth, .ref k_times, .ref k_first, .ref k_second, .ref k_beforeLast, .ref k_last, .ref k_errandOf, .ref k_errandAfter, .ref k_sound, .ref k_followers, .ref k_leaders, .int (nI w), .int k_errands, .int k_alikes, .int k_law]))] H := hP
      have hD : va_D A [(o, .inr (6, [.ref p_said, .int p_latest, .int p_spoken, .int p_earned, .int (nI p_dn), .int p_w, .int p_kept])), (p_said, .inl (cI, 24, .inl f_p_said)), (k_times, .inl (cI, 24, .inl f_times)), (k_followers, .inl (cI, 24, .inl f_followers)), (t, .inr (8, [.ref k_name, .ref k_worth, .ref k_times, .ref k_first, .ref k_second, .ref k_beforeLast, .ref k_last, .ref k_errandOf, .ref k_errandAfter, .ref k_sound, .ref k_followers, .ref k_leaders, .int (nI w), .int k_errands, .int k_alikes, .int k_law]))] := hD
      refine lv_if_eq (tgt := 68) hx hb dX6_open_48 (by decide) (fun c_16 => ?_) (fun c_16 => ?_)
      · refine lv_iinc (v := nI (i + 1)) (lv' := [(4, .int (nI (i + 1))), (3, .int bits), (2, .int (f_followers q1)), (0, .ref o), (1, .ref t)]) hx hb dX6_open_68 hl (k := 0) rfl (nI_1 i) (by decide) rfl (fun ls hl => ?_)
        refine lv_goto (tgt := 33) hx hb dX6_open_71 (by decide) ?_
        exact kk_33 _ _ _ _ (by rw [← hn_33]; omega) ⟨(i + 1), bits, rfl, hP, hD, hS, lv_sub hl [0, 1, 2, 3, 4] rfl, (by first | assumption | omega)⟩
      · refine lv_aload_n hx hb dX6_open_51 rfl (lv_at hl 3 rfl) ?_
        refine lv_aload_n hx hb dX6_open_52 rfl (lv_at hl 4 rfl) ?_
        refine lv_iload hx hb dX6_open_53 (lv_at hl 0 rfl) ?_
        refine xCi (wr := [(k_followers, .inl (cI, 24, .inl f_followers))]) (win := [(o, .inr (6, [.ref p_said, .int p_latest, .int p_spoken, .int p_earned, .int (nI p_dn), .int p_w, .int p_kept])), (p_said, .inl (cI, 24, .inl f_p_said)), (t, .inr (8, [.ref k_name, .ref k_worth, .ref k_times, .ref k_first, .ref k_second, .ref k_beforeLast, .ref k_last, .ref k_errandOf, .ref k_errandAfter, .ref k_sound, .ref k_followers, .ref k_leaders, .int (nI w), .int k_errands, .int k_alikes, .int k_law])), (k_times, .inl (cI, 24, .inl f_times))]) hP hD hS hA [0, 1, 4, 2] [3] rfl rfl (by decide) (by decide) (va_runV (As := [.ref t, .int (nI i)]) (rest := []) ⟨hx, hb, hml, hown, hts⟩ (c_X6_left l D cB cI cJ cS cZ cO H.size o t i p_said p_latest p_spoken p_earned p_dn p_w p_kept f_p_said k_name k_worth k_times k_first k_second k_beforeLast k_last k_errandOf k_errandAfter k_sound k_followers k_leaders w k_errands k_alikes k_law f_times (by first | assumption | omega | decide)) (cwV 2 hts gX6_open_X6_left rfl rfl rfl (by decide +kernel) ⟨Nat.le_of_ble_eq_true rfl, Nat.le_of_ble_eq_true rfl⟩) (xPreV (win := [(o, .inr (6, [.ref p_said, .int p_latest, .int p_spoken, .int p_earned, .int (nI p_dn), .int p_w, .int p_kept])), (p_said, .inl (cI, 24, .inl f_p_said)), (t, .inr (8, [.ref k_name, .ref k_worth, .ref k_times, .ref k_first, .ref k_second, .ref k_beforeLast, .ref k_last, .ref k_errandOf, .ref k_errandAfter, .ref k_sound, .ref k_followers, .ref k_leaders, .int (nI w), .int k_errands, .int k_alikes, .int k_law])), (k_times, .inl (cI, 24, .inl f_times))]) hN hK hP hD [0, 1, 4, 2] (by decide) rfl 0 6 rfl rfl rfl) rfl rfl hl.1 rfl (lv_room (Nat.le_of_ble_eq_true rfl)) dX6_open_55 ⟨Nat.le_of_ble_eq_true rfl, Nat.le_of_ble_eq_true rfl⟩) (fun r_17 w0 H locs hw hP hD hS => ?_)
        subst hw
        have hP : va_P D vwCl [(k_followers, .inl (cI, 24, .inl f_followers)), (o, .inr (6, [.ref p_said, .int p_latest, .int p_spoken, .int p_earned, .int (nI p_dn), .int p_w, .int p_kept])), (p_said, .inl (cI, 24, .inl f_p_said)), (t, .inr (8, [.ref k_name, .ref k_worth, .ref k_times, .ref k_first, .ref k_second, .ref k_beforeLast, .ref k_last, .ref k_errandOf, .ref k_errandAfter, .ref k_sound, .ref k_followers, .ref k_leaders, .int (nI w), .int k_errands, .int k_alikes, .int k_law])), (k_times, .inl (cI, 24, .inl f_times))] H := hP
        have hD : va_D A [(k_followers, .inl (cI, 24, .inl f_followers)), (o, .inr (6, [.ref p_said, .int p_latest, .int p_spoken, .int p_earned, .int (nI p_dn), .int p_w, .int p_kept])), (p_said, .inl (cI, 24, .inl f_p_said)), (t, .inr (8, [.ref k_name, .ref k_worth, .ref k_times, .ref k_first, .ref k_second, .ref k_beforeLast, .ref k_last, .ref k_errandOf, .ref k_errandAfter, .ref k_sound, .ref k_followers, .ref k_leaders, .int (nI w), .int k_errands, .int k_alikes, .int k_law])), (k_times, .inl (cI, 24, .inl f_times))] := hD
        refine lv_if_le (tgt := 68) hx hb dX6_open_58 (by decide) (fun c_18 => ?_) (fun c_18 => ?_)
        · refine lv_iinc (v := nI (i + 1)) (lv' := [(4, .int (nI (i + 1))), (3, .int bits), (2, .int (f_followers q1)), (0, .ref o), (1, .ref t)]) hx hb dX6_open_68 hl (k := 0) rfl (nI_1 i) (by decide) rfl (fun ls hl => ?_)
          refine lv_goto (tgt := 33) hx hb dX6_open_71 (by decide) ?_
          exact kk_33 _ _ _ _ (by rw [← hn_33]; omega) ⟨(i + 1), bits, rfl, hP.sub [1, 2, 4, 0, 3] rfl, hD.sub [1, 2, 4, 0, 3] (by decide) rfl, hS, lv_sub hl [0, 1, 2, 3, 4] rfl, (by first | assumption | omega)⟩
        · refine lv_iload_n hx hb dX6_open_61 rfl (lv_at hl 1 rfl) ?_
          refine lv_iconst (v := 1) hx hb dX6_open_62 (by decide) ?_
          refine lv_iload hx hb dX6_open_63 (lv_at hl 0 rfl) ?_
          refine lv_ishl hx hb dX6_open_65 ?_
          refine xb_top (y := nI (1 * 2 ^ i)) (nb_shl (a := 1) (i := i) (by omega)) ?_
          refine lv_ior hx hb dX6_open_66 ?_
          refine lv_topi (fun v_19 ev_19 => ?_)
          refine lv_istore_n (lv' := [(3, .int v_19), (4, .int (nI i)), (2, .int (f_followers q1)), (0, .ref o), (1, .ref t)]) hx hb dX6_open_67 rfl hl (by decide) rfl (fun ls hl => ?_)
          refine lv_iinc (v := nI (i + 1)) (lv' := [(4, .int (nI (i + 1))), (3, .int v_19), (2, .int (f_followers q1)), (0, .ref o), (1, .ref t)]) hx hb dX6_open_68 hl (k := 1) rfl (nI_1 i) (by decide) rfl (fun ls hl => ?_)
          refine lv_goto (tgt := 33) hx hb dX6_open_71 (by decide) ?_
          exact kk_33 _ _ _ _ (by rw [← hn_33]; omega) ⟨(i + 1), v_19, rfl, hP.sub [1, 2, 4, 0, 3] rfl, hD.sub [1, 2, 4, 0, 3] (by decide) rfl, hS, lv_sub hl [0, 1, 2, 3, 4] rfl, (by first | assumption | omega)⟩

set_option maxHeartbeats 4000000 in
set_option maxRecDepth 100000 in
theorem c_X6_speak (l : Launch) (D : va_G) (cB cI cJ cS cZ cO : ClassId) (sz : Nat) (o : Nat) (t : Nat) (k : Nat) (p_said : Nat) (p_latest : Int32) (p_spoken : Int32) (p_earned : Int32) (p_dn : Nat) (p_w : Int32) (p_kept : Int32) (f_p_said : Nat → Int32) (k_name : Nat) (k_worth : Nat) (k_times : Nat) (k_first : Nat) (k_second : Nat) (k_beforeLast : Nat) (k_last : Nat) (k_errandOf : Nat) (k_errandAfter : Nat) (k_sound : Nat) (k_followers : Nat) (k_leaders : Nat) (w : Nat) (k_errands : Int32) (k_alikes : Int32) (k_law : Int32) (f_worth : Nat → Int32) (f_errandOf : Nat → Int32) (f_errandAfter : Nat → Int32) (hk : k < 24) (hdn : p_dn < 64) (hm : rgM f_errandOf 24 6) : Met l yX6_speak wsX6_speak ({ frames := 2, cells := 0, slots := 0, locals := 45 }) (xPre D (tyL cB cI cJ cS cZ cO) [(o, .inr (6, [.ref p_said, .int p_latest, .int p_spoken, .int p_earned, .int (nI p_dn), .int p_w, .int p_kept])), (p_said, .inl (cI, 24, .inl f_p_said)), (t, .inr (8, [.ref k_name, .ref k_worth, .ref k_times, .ref k_first, .ref k_second, .ref k_beforeLast, .ref k_last, .ref k_errandOf, .ref k_errandAfter, .ref k_sound, .ref k_followers, .ref k_leaders, .int (nI w), .int k_errands, .int k_alikes, .int k_law])), (k_worth, .inl (cI, 24, .inl f_worth)), (k_errandOf, .inl (cI, 24, .inl f_errandOf)), (k_errandAfter, .inl (cI, 6, .inl f_errandAfter))] sz [.ref o, .ref t, .int (nI k)]) (xQv D (tyL cB cI cJ cS cZ cO) (va_A [(o, .inr (6, [.ref p_said, .int p_latest, .int p_spoken, .int p_earned, .int (nI p_dn), .int p_w, .int p_kept])), (p_said, .inl (cI, 24, .inl f_p_said)), (t, .inr (8, [.ref k_name, .ref k_worth, .ref k_times, .ref k_first, .ref k_second, .ref k_beforeLast, .ref k_last, .ref k_errandOf, .ref k_errandAfter, .ref k_sound, .ref k_followers, .ref k_leaders, .int (nI w), .int k_errands, .int k_alikes, .int k_law])), (k_worth, .inl (cI, 24, .inl f_worth)), (k_errandOf, .inl (cI, 24, .inl f_errandOf)), (k_errandAfter, .inl (cI, 6, .inl f_errandAfter))] sz) (fun u : va_W => ∃ sp2 : Int32, ∃ ea2 : Int32, ∃ dn2 : Nat, ∃ g : Nat → Int32, u = [(o, .inr (6, [.ref p_said, .int (nI k), .int sp2, .int ea2, .int (nI dn2), .int p_w, .int p_kept])), (p_said, .inl (cI, 24, .inl g)), (t, .inr (8, [.ref k_name, .ref k_worth, .ref k_times, .ref k_first, .ref k_second, .ref k_beforeLast, .ref k_last, .ref k_errandOf, .ref k_errandAfter, .ref k_sound, .ref k_followers, .ref k_leaders, .int (nI w), .int k_errands, .int k_alikes, .int k_law])), (k_worth, .inl (cI, 24, .inl f_worth)), (k_errandOf, .inl (cI, 24, .inl f_errandOf)), (k_errandAfter, .inl (cI, 6, .inl f_errandAfter))] ∧ dn2 < 64)) 0 0 (va_A [(o, .inr (6, [.ref p_said, .int p_latest, .int p_spoken, .int p_earned, .int (nI p_dn), .int p_w, .int p_kept])), (p_said, .inl (cI, 24, .inl f_p_said)), (t, .inr (8, [.ref k_name, .ref k_worth, .ref k_times, .ref k_first, .ref k_second, .ref k_beforeLast, .ref k_last, .ref k_errandOf, .ref k_errandAfter, .ref k_sound, .ref k_followers, .ref k_leaders, .int (nI w), .int k_errands, .int k_alikes, .int k_law])), (k_worth, .inl (cI, 24, .inl f_worth)), (k_errandOf, .inl (cI, 24, .inl f_errandOf)), (k_errandAfter, .inl (cI, 6, .inl f_errandAfter))] sz) := by
  refine Met.ofW (cc := cX6_speak) (maxL := 3) (ret := none) (by decide) rfl ?_
  intro p e s m args below meth c s₁ B hml hv
  obtain ⟨rfl, hsz, hP, hK, hD0, hN⟩ := hv
  have hx := B.exec
  have hb := B.bytes
  have hr := B.returns
  have hts := atoms_spec (ws := wsX6_speak) B.pre
  have hown : s.vm.findClass RX6 = some m.cls := findClass_of_methodNamed B.named
  have hlocks := B.notSynchronized
  subst hsz
  have hD := hD0.self (sz := s.heap.size)
  generalize hAe : va_A [(o, .inr (6, [.ref p_said, .int p_latest, .int p_spoken, .int p_earned, .int (nI p_dn), .int p_w, .int p_kept])), (p_said, .inl (cI, 24, .inl f_p_said)), (t, .inr (8, [.ref k_name, .ref k_worth, .ref k_times, .ref k_first, .ref k_second, .ref k_beforeLast, .ref k_last, .ref k_errandOf, .ref k_errandAfter, .ref k_sound, .ref k_followers, .ref k_leaders, .int (nI w), .int k_errands, .int k_alikes, .int k_law])), (k_worth, .inl (cI, 24, .inl f_worth)), (k_errandOf, .inl (cI, 24, .inl f_errandOf)), (k_errandAfter, .inl (cI, 6, .inl f_errandAfter))] s.heap.size = A at hD ⊢
  have hA : ∀ q : Nat, s.heap.size ≤ q → A q := fun q h => by rw [← hAe]; exact Or.inr h
  have hS : va_S A s.heap s.heap [] := va_S.rf
  have hP : va_P D vwCl [(o, .inr (6, [.ref p_said, .int p_latest, .int p_spoken, .int p_earned, .int (nI p_dn), .int p_w, .int p_kept])), (p_said, .inl (cI, 24, .inl f_p_said)), (t, .inr (8, [.ref k_name, .ref k_worth, .ref k_times, .ref k_first, .ref k_second, .ref k_beforeLast, .ref k_last, .ref k_errandOf, .ref k_errandAfter, .ref k_sound, .ref k_followers, .ref k_leaders, .int (nI w), .int k_errands, .int k_alikes, .int k_law])), (k_worth, .inl (cI, 24, .inl f_worth)), (k_errandOf, .inl (cI, 24, .inl f_errandOf)), (k_errandAfter, .inl (cI, 6, .inl f_errandAfter))] s.heap := hP
  have hl := lv_entry ([.ref o, .ref t, .int (nI k)]) (n := 3) (Nat.le_of_ble_eq_true rfl)
  rw [lg_entry_eq]
  generalize (lg_sl ([.ref o, .ref t, .int (nI k)]) ++ List.replicate (3 - (lg_sl ([.ref o, .ref t, .int (nI k)])).length) Slot.unset).toArray = ls at hl ⊢
  have hl : lv_has ls 3 [(0, .ref o), (1, .ref t), (2, .int (nI k))] := hl
  refine lv_aload_n hx hb dX6_speak_0 rfl (lv_at hl 0 rfl) ?_
  refine va_get (D := D) (ci := 6) (v := .ref p_said) (C := RX6) (T := TX6) (N := 7) hx hb hts (by decide +kernel) hown hK hP 0 rfl rfl 0 (by decide) (hts (.fieldLink RX6 9 "LastLetter$Talk" "said" "[I") (by decide +kernel)) (fun _ h9 => h9) rfl dX6_speak_1 ?_
  refine lv_iload_n hx hb dX6_speak_4 rfl (lv_at hl 2 rfl) ?_
  refine lv_dup2_11 hx hb dX6_speak_5 rfl rfl ?_
  refine va_iald hx hb hK hP 1 1 rfl rfl (vp_in_nI (by omega) (by omega)) dX6_speak_6 ?_
  refine xb_top (y := f_p_said k) (by rw [nI_clamp (by omega)]) ?_
  refine lv_iconst (v := 1) hx hb dX6_speak_7 (by decide) ?_
  refine lv_iadd hx hb dX6_speak_8 ?_
  refine va_iast hx hb hK hP hD hS 1 1 rfl rfl (vp_in_nI (by omega) (by omega)) dX6_speak_9 (fun H locs hP hD hS => ?_)
  have hP : va_P D vwCl [(o, .inr (6, [.ref p_said, .int p_latest, .int p_spoken, .int p_earned, .int (nI p_dn), .int p_w, .int p_kept])), (p_said, .inl (cI, 24, .inl (upd f_p_said (Int32.toNatClampNeg (nI k)) ((f_p_said k) + 1)))), (t, .inr (8, [.ref k_name, .ref k_worth, .ref k_times, .ref k_first, .ref k_second, .ref k_beforeLast, .ref k_last, .ref k_errandOf, .ref k_errandAfter, .ref k_sound, .ref k_followers, .ref k_leaders, .int (nI w), .int k_errands, .int k_alikes, .int k_law])), (k_worth, .inl (cI, 24, .inl f_worth)), (k_errandOf, .inl (cI, 24, .inl f_errandOf)), (k_errandAfter, .inl (cI, 6, .inl f_errandAfter))] H := hP
  have hD : va_D A [(o, .inr (6, [.ref p_said, .int p_latest, .int p_spoken, .int p_earned, .int (nI p_dn), .int p_w, .int p_kept])), (p_said, .inl (cI, 24, .inl (upd f_p_said (Int32.toNatClampNeg (nI k)) ((f_p_said k) + 1)))), (t, .inr (8, [.ref k_name, .ref k_worth, .ref k_times, .ref k_first, .ref k_second, .ref k_beforeLast, .ref k_last, .ref k_errandOf, .ref k_errandAfter, .ref k_sound, .ref k_followers, .ref k_leaders, .int (nI w), .int k_errands, .int k_alikes, .int k_law])), (k_worth, .inl (cI, 24, .inl f_worth)), (k_errandOf, .inl (cI, 24, .inl f_errandOf)), (k_errandAfter, .inl (cI, 6, .inl f_errandAfter))] := hD
  generalize eg_1 : upd f_p_said (Int32.toNatClampNeg (nI k)) ((f_p_said k) + 1) = g_1 at hP hD
  refine lv_aload_n hx hb dX6_speak_10 rfl (lv_at hl 0 rfl) ?_
  refine lv_iload_n hx hb dX6_speak_11 rfl (lv_at hl 2 rfl) ?_
  refine va_put (D := D) (ci := 6) (v := .int (nI k)) (ty := .int) (C := RX6) (T := TX6) (N := 7) hx hb hts (by decide +kernel) tyX6 tyX6_ok nmX6 hown hK hP hD hS 0 rfl rfl 1 (by decide) (hts (.fieldLink RX6 15 "LastLetter$Talk" "latest" "I") (by decide +kernel)) (fun _ h9 => h9) rfl (by decide +kernel) rfl rfl (Nat.le_of_ble_eq_true rfl) dX6_speak_12 (fun H locs hP hD hS => ?_)
  have hP : va_P D vwCl [(o, .inr (6, [.ref p_said, .int (nI k), .int p_spoken, .int p_earned, .int (nI p_dn), .int p_w, .int p_kept])), (p_said, .inl (cI, 24, .inl g_1)), (t, .inr (8, [.ref k_name, .ref k_worth, .ref k_times, .ref k_first, .ref k_second, .ref k_beforeLast, .ref k_last, .ref k_errandOf, .ref k_errandAfter, .ref k_sound, .ref k_followers, .ref k_leaders, .int (nI w), .int k_errands, .int k_alikes, .int k_law])), (k_worth, .inl (cI, 24, .inl f_worth)), (k_errandOf, .inl (cI, 24, .inl f_errandOf)), (k_errandAfter, .inl (cI, 6, .inl f_errandAfter))] H := hP
  have hD : va_D A [(o, .inr (6, [.ref p_said, .int (nI k), .int p_spoken, .int p_earned, .int (nI p_dn), .int p_w, .int p_kept])), (p_said, .inl (cI, 24, .inl g_1)), (t, .inr (8, [.ref k_name, .ref k_worth, .ref k_times, .ref k_first, .ref k_second, .ref k_beforeLast, .ref k_last, .ref k_errandOf, .ref k_errandAfter, .ref k_sound, .ref k_followers, .ref k_leaders, .int (nI w), .int k_errands, .int k_alikes, .int k_law])), (k_worth, .inl (cI, 24, .inl f_worth)), (k_errandOf, .inl (cI, 24, .inl f_errandOf)), (k_errandAfter, .inl (cI, 6, .inl f_errandAfter))] := hD
  refine lv_aload_n hx hb dX6_speak_15 rfl (lv_at hl 0 rfl) ?_
  refine lv_dup hx hb dX6_speak_16 rfl ?_
  refine va_get (D := D) (ci := 6) (v := .int p_spoken) (C := RX6) (T := TX6) (N := 7) hx hb hts (by decide +kernel) hown hK hP 0 rfl rfl 2 (by decide) (hts (.fieldLink RX6 37 "LastLetter$Talk" "spoken" "I") (by decide +kernel)) (fun _ h9 => h9) rfl dX6_speak_17 ?_
  refine lv_iconst (v := 1) hx hb dX6_speak_20 (by decide) ?_
  refine lv_iadd hx hb dX6_speak_21 ?_
  refine lv_topi (fun f_2 ef_2 => ?_)
  refine va_put (D := D) (ci := 6) (v := .int f_2) (ty := .int) (C := RX6) (T := TX6) (N := 7) hx hb hts (by decide +kernel) tyX6 tyX6_ok nmX6 hown hK hP hD hS 0 rfl rfl 2 (by decide) (hts (.fieldLink RX6 37 "LastLetter$Talk" "spoken" "I") (by decide +kernel)) (fun _ h9 => h9) rfl (by decide +kernel) rfl rfl (Nat.le_of_ble_eq_true rfl) dX6_speak_22 (fun H locs hP hD hS => ?_)
  have hP : va_P D vwCl [(o, .inr (6, [.ref p_said, .int (nI k), .int f_2, .int p_earned, .int (nI p_dn), .int p_w, .int p_kept])), (p_said, .inl (cI, 24, .inl g_1)), (t, .inr (8, [.ref k_name, .ref k_worth, .ref k_times, .ref k_first, .ref k_second, .ref k_beforeLast, .ref k_last, .ref k_errandOf, .ref k_errandAfter, .ref k_sound, .ref k_followers, .ref k_leaders, .int (nI w), .int k_errands, .int k_alikes, .int k_law])), (k_worth, .inl (cI, 24, .inl f_worth)), (k_errandOf, .inl (cI, 24, .inl f_errandOf)), (k_errandAfter, .inl (cI, 6, .inl f_errandAfter))] H := hP
  have hD : va_D A [(o, .inr (6, [.ref p_said, .int (nI k), .int f_2, .int p_earned, .int (nI p_dn), .int p_w, .int p_kept])), (p_said, .inl (cI, 24, .inl g_1)), (t, .inr (8, [.ref k_name, .ref k_worth, .ref k_times, .ref k_first, .ref k_second, .ref k_beforeLast, .ref k_last, .ref k_errandOf, .ref k_errandAfter, .ref k_sound, .ref k_followers, .ref k_leaders, .int (nI w), .int k_errands, .int k_alikes, .int k_law])), (k_worth, .inl (cI, 24, .inl f_worth)), (k_errandOf, .inl (cI, 24, .inl f_errandOf)), (k_errandAfter, .inl (cI, 6, .inl f_errandAfter))] := hD
  refine lv_aload_n hx hb dX6_speak_25 rfl (lv_at hl 0 rfl) ?_
  refine lv_dup hx hb dX6_speak_26 rfl ?_
  refine va_get (D := D) (ci := 6) (v := .int p_earned) (C := RX6) (T := TX6) (N := 7) hx hb hts (by decide +kernel) hown hK hP 0 rfl rfl 3 (by decide) (hts (.fieldLink RX6 28 "LastLetter$Talk" "earned" "I") (by decide +kernel)) (fun _ h9 => h9) rfl dX6_speak_27 ?_
  refine lv_aload_n hx hb dX6_speak_30 rfl (lv_at hl 1 rfl) ?_
  refine va_getN (D := D) (ci := 8) (v := .ref k_worth) (C := RX8) (T := TX8) (N := 16) hx hb hts (by decide +kernel) hown hK hP 2 rfl rfl 1 (by decide) (va_Nw.use rfl (hN.1 (RX6, 73, RX8, "worth", "[I", RX10) (by decide +kernel))) (fun _ h9 => h9) rfl dX6_speak_31 ?_
  refine lv_iload_n hx hb dX6_speak_34 rfl (lv_at hl 2 rfl) ?_
  refine va_iald hx hb hK hP 3 1 rfl rfl (vp_in_nI (by omega) (by omega)) dX6_speak_35 ?_
  refine xb_top (y := f_worth k) (by rw [nI_clamp (by omega)]) ?_
  refine lv_iadd hx hb dX6_speak_36 ?_
  refine lv_topi (fun f_3 ef_3 => ?_)
  refine va_put (D := D) (ci := 6) (v := .int f_3) (ty := .int) (C := RX6) (T := TX6) (N := 7) hx hb hts (by decide +kernel) tyX6 tyX6_ok nmX6 hown hK hP hD hS 0 rfl rfl 3 (by decide) (hts (.fieldLink RX6 28 "LastLetter$Talk" "earned" "I") (by decide +kernel)) (fun _ h9 => h9) rfl (by decide +kernel) rfl rfl (Nat.le_of_ble_eq_true rfl) dX6_speak_37 (fun H locs hP hD hS => ?_)
  have hP : va_P D vwCl [(o, .inr (6, [.ref p_said, .int (nI k), .int f_2, .int f_3, .int (nI p_dn), .int p_w, .int p_kept])), (p_said, .inl (cI, 24, .inl g_1)), (t, .inr (8, [.ref k_name, .ref k_worth, .ref k_times, .ref k_first, .ref k_second, .ref k_beforeLast, .ref k_last, .ref k_errandOf, .ref k_errandAfter, .ref k_sound, .ref k_followers, .ref k_leaders, .int (nI w), .int k_errands, .int k_alikes, .int k_law])), (k_worth, .inl (cI, 24, .inl f_worth)), (k_errandOf, .inl (cI, 24, .inl f_errandOf)), (k_errandAfter, .inl (cI, 6, .inl f_errandAfter))] H := hP
  have hD : va_D A [(o, .inr (6, [.ref p_said, .int (nI k), .int f_2, .int f_3, .int (nI p_dn), .int p_w, .int p_kept])), (p_said, .inl (cI, 24, .inl g_1)), (t, .inr (8, [.ref k_name, .ref k_worth, .ref k_times, .ref k_first, .ref k_second, .ref k_beforeLast, .ref k_last, .ref k_errandOf, .ref k_errandAfter, .ref k_sound, .ref k_followers, .ref k_leaders, .int (nI w), .int k_errands, .int k_alikes, .int k_law])), (k_worth, .inl (cI, 24, .inl f_worth)), (k_errandOf, .inl (cI, 24, .inl f_errandOf)), (k_errandAfter, .inl (cI, 6, .inl f_errandAfter))] := hD
  refine lv_aload_n hx hb dX6_speak_40 rfl (lv_at hl 0 rfl) ?_
  refine lv_aload_n hx hb dX6_speak_41 rfl (lv_at hl 1 rfl) ?_
  refine lv_aload_n hx hb dX6_speak_42 rfl (lv_at hl 0 rfl) ?_
  refine va_get (D := D) (ci := 6) (v := .int (nI p_dn)) (C := RX6) (T := TX6) (N := 7) hx hb hts (by decide +kernel) hown hK hP 0 rfl rfl 4 (by decide) (hts (.fieldLink RX6 31 "LastLetter$Talk" "doneErrands" "I") (by decide +kernel)) (fun _ h9 => h9) rfl dX6_speak_43 ?_
  refine lv_iload_n hx hb dX6_speak_46 rfl (lv_at hl 2 rfl) ?_
  refine xCi (wr := [(o, .inr (6, [.ref p_said, .int (nI k), .int f_2, .int f_3, .int (nI p_dn), .int p_w, .int p_kept])), (p_said, .inl (cI, 24, .inl g_1)), (k_worth, .inl (cI, 24, .inl f_worth))]) (win := [(t, .inr (8, [.ref k_name, .ref k_worth, .ref k_times, .ref k_first, .ref k_second, .ref k_beforeLast, .ref k_last, .ref k_errandOf, .ref k_errandAfter, .ref k_sound, .ref k_followers, .ref k_leaders, .int (nI w), .int k_errands, .int k_alikes, .int k_law])), (k_errandOf, .inl (cI, 24, .inl f_errandOf)), (k_errandAfter, .inl (cI, 6, .inl f_errandAfter))]) hP hD hS hA [2, 4, 5] [0, 1, 3] rfl rfl (by decide) (by decide) (va_runV (As := [.int (nI p_dn), .int (nI k)]) (rest := [.ref o]) ⟨hx, hb, hml, hown, hts⟩ (c_X8_doneBehind l D cB cI cJ cS cZ cO H.size t p_dn k k_name k_worth k_times k_first k_second k_beforeLast k_last k_errandOf k_errandAfter k_sound k_followers k_leaders (nI w) k_errands k_alikes k_law f_errandOf f_errandAfter (by first | assumption | omega | decide) (by first | assumption | omega | decide) (by first | assumption | omega | decide)) (cwV 2 hts gX6_speak_X8_doneBehind rfl rfl rfl (by decide +kernel) ⟨Nat.le_of_ble_eq_true rfl, Nat.le_of_ble_eq_true rfl⟩) (xPreV (win := [(t, .inr (8, [.ref k_name, .ref k_worth, .ref k_times, .ref k_first, .ref k_second, .ref k_beforeLast, .ref k_last, .ref k_errandOf, .ref k_errandAfter, .ref k_sound, .ref k_followers, .ref k_leaders, .int (nI w), .int k_errands, .int k_alikes, .int k_law])), (k_errandOf, .inl (cI, 24, .inl f_errandOf)), (k_errandAfter, .inl (cI, 6, .inl f_errandAfter))]) hN hK hP hD [2, 4, 5] (by decide) rfl 2 8 rfl rfl rfl) rfl rfl hl.1 rfl (lv_room (Nat.le_of_ble_eq_true rfl)) dX6_speak_47 ⟨Nat.le_of_ble_eq_true rfl, Nat.le_of_ble_eq_true rfl⟩) (fun r0 w0 H locs hw hP hD hS => ?_)
  obtain ⟨rr_4, rfl, rfl, hf_5⟩ := hw
  have hP : va_P D vwCl [(o, .inr (6, [.ref p_said, .int (nI k), .int f_2, .int f_3, .int (nI p_dn), .int p_w, .int p_kept])), (p_said, .inl (cI, 24, .inl g_1)), (k_worth, .inl (cI, 24, .inl f_worth)), (t, .inr (8, [.ref k_name, .ref k_worth, .ref k_times, .ref k_first, .ref k_second, .ref k_beforeLast, .ref k_last, .ref k_errandOf, .ref k_errandAfter, .ref k_sound, .ref k_followers, .ref k_leaders, .int (nI w), .int k_errands, .int k_alikes, .int k_law])), (k_errandOf, .inl (cI, 24, .inl f_errandOf)), (k_errandAfter, .inl (cI, 6, .inl f_errandAfter))] H := hP
  have hD : va_D A [(o, .inr (6, [.ref p_said, .int (nI k), .int f_2, .int f_3, .int (nI p_dn), .int p_w, .int p_kept])), (p_said, .inl (cI, 24, .inl g_1)), (k_worth, .inl (cI, 24, .inl f_worth)), (t, .inr (8, [.ref k_name, .ref k_worth, .ref k_times, .ref k_first, .ref k_second, .ref k_beforeLast, .ref k_last, .ref k_errandOf, .ref k_errandAfter, .ref k_sound, .ref k_followers, .ref k_leaders, .int (nI w), .int k_errands, .int k_alikes, .int k_law])), (k_errandOf, .inl (cI, 24, .inl f_errandOf)), (k_errandAfter, .inl (cI, 6, .inl f_errandAfter))] := hD
  refine va_put (D := D) (ci := 6) (v := .int (nI rr_4)) (ty := .int) (C := RX6) (T := TX6) (N := 7) hx hb hts (by decide +kernel) tyX6 tyX6_ok nmX6 hown hK hP hD hS 0 rfl rfl 4 (by decide) (hts (.fieldLink RX6 31 "LastLetter$Talk" "doneErrands" "I") (by decide +kernel)) (fun _ h9 => h9) rfl (by decide +kernel) rfl rfl (Nat.le_of_ble_eq_true rfl) dX6_speak_50 (fun H locs hP hD hS => ?_)
  have hP : va_P D vwCl [(o, .inr (6, [.ref p_said, .int (nI k), .int f_2, .int f_3, .int (nI rr_4), .int p_w, .int p_kept])), (p_said, .inl (cI, 24, .inl g_1)), (k_worth, .inl (cI, 24, .inl f_worth)), (t, .inr (8, [.ref k_name, .ref k_worth, .ref k_times, .ref k_first, .ref k_second, .ref k_beforeLast, .ref k_last, .ref k_errandOf, .ref k_errandAfter, .ref k_sound, .ref k_followers, .ref k_leaders, .int (nI w), .int k_errands, .int k_alikes, .int k_law])), (k_errandOf, .inl (cI, 24, .inl f_errandOf)), (k_errandAfter, .inl (cI, 6, .inl f_errandAfter))] H := hP
  have hD : va_D A [(o, .inr (6, [.ref p_said, .int (nI k), .int f_2, .int f_3, .int (nI rr_4), .int p_w, .int p_kept])), (p_said, .inl (cI, 24, .inl g_1)), (k_worth, .inl (cI, 24, .inl f_worth)), (t, .inr (8, [.ref k_name, .ref k_worth, .ref k_times, .ref k_first, .ref k_second, .ref k_beforeLast, .ref k_last, .ref k_errandOf, .ref k_errandAfter, .ref k_sound, .ref k_followers, .ref k_leaders, .int (nI w), .int k_errands, .int k_alikes, .int k_law])), (k_errandOf, .inl (cI, 24, .inl f_errandOf)), (k_errandAfter, .inl (cI, 6, .inl f_errandAfter))] := hD
  have hP9 := hP.sub (ws' := [(o, .inr (6, [.ref p_said, .int (nI k), .int f_2, .int f_3, .int (nI rr_4), .int p_w, .int p_kept])), (p_said, .inl (cI, 24, .inl g_1)), (t, .inr (8, [.ref k_name, .ref k_worth, .ref k_times, .ref k_first, .ref k_second, .ref k_beforeLast, .ref k_last, .ref k_errandOf, .ref k_errandAfter, .ref k_sound, .ref k_followers, .ref k_leaders, .int (nI w), .int k_errands, .int k_alikes, .int k_law])), (k_worth, .inl (cI, 24, .inl f_worth)), (k_errandOf, .inl (cI, 24, .inl f_errandOf)), (k_errandAfter, .inl (cI, 6, .inl f_errandAfter))]) [0, 1, 3, 2, 4, 5] rfl
  have hD9 := hD.sub (ws' := [(o, .inr (6, [.ref p_said, .int (nI k), .int f_2, .int f_3, .int (nI rr_4), .int p_w, .int p_kept])), (p_said, .inl (cI, 24, .inl g_1)), (t, .inr (8, [.ref k_name, .ref k_worth, .ref k_times, .ref k_first, .ref k_second, .ref k_beforeLast, .ref k_last, .ref k_errandOf, .ref k_errandAfter, .ref k_sound, .ref k_followers, .ref k_leaders, .int (nI w), .int k_errands, .int k_alikes, .int k_law])), (k_worth, .inl (cI, 24, .inl f_worth)), (k_errandOf, .inl (cI, 24, .inl f_errandOf)), (k_errandAfter, .inl (cI, 6, .inl f_errandAfter))]) [0, 1, 3, 2, 4, 5] (by decide) rfl
  refine W.widen (k := 0) (n := 0) (Nat.le_of_ble_eq_true rfl) (Nat.le_of_ble_eq_true rfl) ?_
  exact W.vret hx hb hr (fun tz htz hWz => ⟨⟨[(o, .inr (6, [.ref p_said, .int (nI k), .int f_2, .int f_3, .int (nI rr_4), .int p_w, .int p_kept])), (p_said, .inl (cI, 24, .inl g_1)), (t, .inr (8, [.ref k_name, .ref k_worth, .ref k_times, .ref k_first, .ref k_second, .ref k_beforeLast, .ref k_last, .ref k_errandOf, .ref k_errandAfter, .ref k_sound, .ref k_followers, .ref k_leaders, .int (nI w), .int k_errands, .int k_alikes, .int k_law])), (k_worth, .inl (cI, 24, .inl f_worth)), (k_errandOf, .inl (cI, 24, .inl f_errandOf)), (k_errandAfter, .inl (cI, 6, .inl f_errandAfter))], rfl, ⟨f_2, f_3, rr_4, g_1, rfl, hf_5⟩, by rw [htz]; exact hP9, va_K.moved hWz.alike hK, hD9⟩, hS.F htz⟩) hS.2.2 dX6_speak_53

set_option maxHeartbeats 4000000 in
set_option maxRecDepth 100000 in
theorem c_X6_openBehind (l : Launch) (D : va_G) (cB cI cJ cS cZ cO : ClassId) (sz : Nat) (o : Nat) (t : Nat) (k : Nat) (p_said : Nat) (p_latest : Int32) (p_spoken : Int32) (p_earned : Int32) (p_dn : Nat) (p_w : Int32) (p_kept : Int32) (f_p_said : Nat → Int32) (k_name : Nat) (k_worth : Nat) (k_times : Nat) (k_first : Nat) (k_second : Nat) (k_beforeLast : Nat) (k_last : Nat) (k_errandOf : Nat) (k_errandAfter : Nat) (k_sound : Nat) (k_followers : Nat) (k_leaders : Nat) (w : Nat) (k_errands : Int32) (k_alikes : Int32) (k_law : Int32) (f_times : Nat → Int32) (f_followers : Nat → Int32) (hw : w ≤ 24) (hk : k < w) : Met l yX6_openBehind wsX6_openBehind ({ frames := 1, cells := 0, slots := 0, locals := 22 }) (xPre D (tyL cB cI cJ cS cZ cO) [(o, .inr (6, [.ref p_said, .int p_latest, .int p_spoken, .int p_earned, .int (nI p_dn), .int p_w, .int p_kept])), (p_said, .inl (cI, 24, .inl f_p_said)), (t, .inr (8, [.ref k_name, .ref k_worth, .ref k_times, .ref k_first, .ref k_second, .ref k_beforeLast, .ref k_last, .ref k_errandOf, .ref k_errandAfter, .ref k_sound, .ref k_followers, .ref k_leaders, .int (nI w), .int k_errands, .int k_alikes, .int k_law])), (k_times, .inl (cI, 24, .inl f_times)), (k_followers, .inl (cI, 24, .inl f_followers))] sz [.ref o, .ref t, .int (nI k)]) (xQi D (tyL cB cI cJ cS cZ cO) (va_A [(o, .inr (6, [.ref p_said, .int p_latest, .int p_spoken, .int p_earned, .int (nI p_dn), .int p_w, .int p_kept])), (p_said, .inl (cI, 24, .inl f_p_said)), (t, .inr (8, [.ref k_name, .ref k_worth, .ref k_times, .ref k_first, .ref k_second, .ref k_beforeLast, .ref k_last, .ref k_errandOf, .ref k_errandAfter, .ref k_sound, .ref k_followers, .ref k_leaders, .int (nI w), .int k_errands, .int k_alikes, .int k_law])), (k_times, .inl (cI, 24, .inl f_times)), (k_followers, .inl (cI, 24, .inl f_followers))] sz) (fun (r : Int32) (u : va_W) => u = [(o, .inr (6, [.ref p_said, .int p_latest, .int p_spoken, .int p_earned, .int (nI p_dn), .int p_w, .int p_kept])), (p_said, .inl (cI, 24, .inl f_p_said)), (t, .inr (8, [.ref k_name, .ref k_worth, .ref k_times, .ref k_first, .ref k_second, .ref k_beforeLast, .ref k_last, .ref k_errandOf, .ref k_errandAfter, .ref k_sound, .ref k_followers, .ref k_leaders, .int (nI w), .int k_errands, .int k_alikes, .int k_law])), (k_times, .inl (cI, 24, .inl f_times)), (k_followers, .inl (cI, 24, .inl f_followers))])) 0 0 (va_A [(o, .inr (6, [.ref p_said, .int p_latest, .int p_spoken, .int p_earned, .int (nI p_dn), .int p_w, .int p_kept])), (p_said, .inl (cI, 24, .inl f_p_said)), (t, .inr (8, [.ref k_name, .ref k_worth, .ref k_times, .ref k_first, .ref k_second, .ref k_beforeLast, .ref k_last, .ref k_errandOf, .ref k_errandAfter, .ref k_sound, .ref k_followers, .ref k_leaders, .int (nI w), .int k_errands, .int k_alikes, .int k_law])), (k_times, .inl (cI, 24, .inl f_times)), (k_followers, .inl (cI, 24, .inl f_followers))] sz) := by
  refine Met.ofW (cc := cX6_openBehind) (maxL := 6) (ret := (some .int)) (by decide) rfl ?_
  intro p e s m args below meth c s₁ B hml hv
  obtain ⟨rfl, hsz, hP, hK, hD0, hN⟩ := hv
  have hx := B.exec
  have hb := B.bytes
  have hr := B.returns
  have hts := atoms_spec (ws := wsX6_openBehind) B.pre
  have hown : s.vm.findClass RX6 = some m.cls := findClass_of_methodNamed B.named
  have hlocks := B.notSynchronized
  subst hsz
  have hD := hD0.self (sz := s.heap.size)
  generalize hAe : va_A [(o, .inr (6, [.ref p_said, .int p_latest, .int p_spoken, .int p_earned, .int (nI p_dn), .int p_w, .int p_kept])), (p_said, .inl (cI, 24, .inl f_p_said)), (t, .inr (8, [.ref k_name, .ref k_worth, .ref k_times, .ref k_first, .ref k_second, .ref k_beforeLast, .ref k_last, .ref k_errandOf, .ref k_errandAfter, .ref k_sound, .ref k_followers, .ref k_leaders, .int (nI w), .int k_errands, .int k_alikes, .int k_law])), (k_times, .inl (cI, 24, .inl f_times)), (k_followers, .inl (cI, 24, .inl f_followers))] s.heap.size = A at hD ⊢
  have hA : ∀ q : Nat, s.heap.size ≤ q → A q := fun q h => by rw [← hAe]; exact Or.inr h
  have hS : va_S A s.heap s.heap [] := va_S.rf
  have hP : va_P D vwCl [(o, .inr (6, [.ref p_said, .int p_latest, .int p_spoken, .int p_earned, .int (nI p_dn), .int p_w, .int p_kept])), (p_said, .inl (cI, 24, .inl f_p_said)), (t, .inr (8, [.ref k_name, .ref k_worth, .ref k_times, .ref k_first, .ref k_second, .ref k_beforeLast, .ref k_last, .ref k_errandOf, .ref k_errandAfter, .ref k_sound, .ref k_followers, .ref k_leaders, .int (nI w), .int k_errands, .int k_alikes, .int k_law])), (k_times, .inl (cI, 24, .inl f_times)), (k_followers, .inl (cI, 24, .inl f_followers))] s.heap := hP
  have hl := lv_entry ([.ref o, .ref t, .int (nI k)]) (n := 6) (Nat.le_of_ble_eq_true rfl)
  rw [lg_entry_eq]
  generalize (lg_sl ([.ref o, .ref t, .int (nI k)]) ++ List.replicate (6 - (lg_sl ([.ref o, .ref t, .int (nI k)])).length) Slot.unset).toArray = ls at hl ⊢
  have hl : lv_has ls 6 [(0, .ref o), (1, .ref t), (2, .int (nI k))] := hl
  refine lv_iconst (v := 0) hx hb dX6_openBehind_0 (by decide) ?_
  refine lv_istore_n (lv' := [(3, .int 0), (0, .ref o), (1, .ref t), (2, .int (nI k))]) hx hb dX6_openBehind_1 rfl hl (by decide) rfl (fun ls hl => ?_)
  refine lv_iconst (v := 0) hx hb dX6_openBehind_2 (by decide) ?_
  refine lv_istore (lv' := [(4, .int 0), (3, .int 0), (0, .ref o), (1, .ref t), (2, .int (nI k))]) hx hb dX6_openBehind_3 hl (by decide) rfl (fun ls hl => ?_)
  refine xb_wh (fun (n9 : Nat) H locs ls => ∃ i : Nat, ∃ cnt : Int32, (w - i) = n9 ∧ va_P D vwCl [(o, .inr (6, [.ref p_said, .int p_latest, .int p_spoken, .int p_earned, .int (nI p_dn), .int p_w, .int p_kept])), (p_said, .inl (cI, 24, .inl f_p_said)), (t, .inr (8, [.ref k_name, .ref k_worth, .ref k_times, .ref k_first, .ref k_second, .ref k_beforeLast, .ref k_last, .ref k_errandOf, .ref k_errandAfter, .ref k_sound, .ref k_followers, .ref k_leaders, .int (nI w), .int k_errands, .int k_alikes, .int k_law])), (k_times, .inl (cI, 24, .inl f_times)), (k_followers, .inl (cI, 24, .inl f_followers))] H ∧ va_D A [(o, .inr (6, [.ref p_said, .int p_latest, .int p_spoken, .int p_earned, .int (nI p_dn), .int p_w, .int p_kept])), (p_said, .inl (cI, 24, .inl f_p_said)), (t, .inr (8, [.ref k_name, .ref k_worth, .ref k_times, .ref k_first, .ref k_second, .ref k_beforeLast, .ref k_last, .ref k_errandOf, .ref k_errandAfter, .ref k_sound, .ref k_followers, .ref k_leaders, .int (nI w), .int k_errands, .int k_alikes, .int k_law])), (k_times, .inl (cI, 24, .inl f_times)), (k_followers, .inl (cI, 24, .inl f_followers))] ∧ va_S A s.heap H locs ∧ lv_has ls 6 [(4, .int (nI i)), (3, .int cnt), (0, .ref o), (1, .ref t), (2, .int (nI k))] ∧ (i ≤ w)) ⟨0, 0, rfl, hP, hD, hS, lv_sub hl [0, 1, 2, 3, 4] rfl, (by first | assumption | omega)⟩ (fun n9 H locs ls hI kk_5 => ?_)
  obtain ⟨i, cnt, hn_5, hP, hD, hS, hl, hF_h_1⟩ := hI
  refine lv_iload hx hb dX6_openBehind_5 (lv_at hl 0 rfl) ?_
  refine lv_aload_n hx hb dX6_openBehind_7 rfl (lv_at hl 3 rfl) ?_
  refine va_getN (D := D) (ci := 8) (v := .int (nI w)) (C := RX8) (T := TX8) (N := 16) hx hb hts (by decide +kernel) hown hK hP 2 rfl rfl 12 (by decide) (va_Nw.use rfl (hN.1 (RX6, 62, RX8, "words", "I", RX10) (by decide +kernel))) (fun _ h9 => h9) rfl dX6_openBehind_8 ?_
  refine lv_icmp_ge (tgt := 62) hx hb dX6_openBehind_11 (by decide) (fun c_2 => ?_) (fun c_2 => ?_)
  · have dc_2 : w ≤ i := (nI_leI (a := w) (b := i) (by omega) (by omega)).mp c_2
    refine lv_iload_n hx hb dX6_openBehind_62 rfl (lv_at hl 1 rfl) ?_
    have hP9 := hP.sub (ws' := [(o, .inr (6, [.ref p_said, .int p_latest, .int p_spoken, .int p_earned, .int (nI p_dn), .int p_w, .int p_kept])), (p_said, .inl (cI, 24, .inl f_p_said)), (t, .inr (8, [.ref k_name, .ref k_worth, .ref k_times, .ref k_first, .ref k_second, .ref k_beforeLast, .ref k_last, .ref k_errandOf, .ref k_errandAfter, .ref k_sound, .ref k_followers, .ref k_leaders, .int (nI w), .int k_errands, .int k_alikes, .int k_law])), (k_times, .inl (cI, 24, .inl f_times)), (k_followers, .inl (cI, 24, .inl f_followers))]) [0, 1, 2, 3, 4] rfl
    have hD9 := hD.sub (ws' := [(o, .inr (6, [.ref p_said, .int p_latest, .int p_spoken, .int p_earned, .int (nI p_dn), .int p_w, .int p_kept])), (p_said, .inl (cI, 24, .inl f_p_said)), (t, .inr (8, [.ref k_name, .ref k_worth, .ref k_times, .ref k_first, .ref k_second, .ref k_beforeLast, .ref k_last, .ref k_errandOf, .ref k_errandAfter, .ref k_sound, .ref k_followers, .ref k_leaders, .int (nI w), .int k_errands, .int k_alikes, .int k_law])), (k_times, .inl (cI, 24, .inl f_times)), (k_followers, .inl (cI, 24, .inl f_followers))]) [0, 1, 2, 3, 4] (by decide) rfl
    refine W.widen (k := 0) (n := 0) (Nat.le_of_ble_eq_true rfl) (Nat.le_of_ble_eq_true rfl) ?_
    exact W.iret (v := cnt) hx hb hr (fun tz htz hWz => ⟨⟨cnt, [(o, .inr (6, [.ref p_said, .int p_latest, .int p_spoken, .int p_earned, .int (nI p_dn), .int p_w, .int p_kept])), (p_said, .inl (cI, 24, .inl f_p_said)), (t, .inr (8, [.ref k_name, .ref k_worth, .ref k_times, .ref k_first, .ref k_second, .ref k_beforeLast, .ref k_last, .ref k_errandOf, .ref k_errandAfter, .ref k_sound, .ref k_followers, .ref k_leaders, .int (nI w), .int k_errands, .int k_alikes, .int k_law])), (k_times, .inl (cI, 24, .inl f_times)), (k_followers, .inl (cI, 24, .inl f_followers))], rfl, rfl, by rw [htz]; exact hP9, va_K.moved hWz.alike hK, hD9⟩, hS.F htz⟩) hS.2.2 dX6_openBehind_63
  · have dc_2 : ¬ w ≤ i := fun h => c_2 ((nI_leI (a := w) (b := i) (by omega) (by omega)).mpr h)
    refine lv_iload hx hb dX6_openBehind_14 (lv_at hl 0 rfl) ?_
    refine lv_iload_n hx hb dX6_openBehind_16 rfl (lv_at hl 4 rfl) ?_
    refine lv_icmp_ne (tgt := 24) hx hb dX6_openBehind_17 (by decide) (fun c_3 => ?_) (fun c_3 => ?_)
    · have dc_3 : ¬ i = k := fun h => c_3 ((nI_eq (a := i) (b := k) (by omega) (by omega)).mpr h)
      refine lv_iconst (v := 0) hx hb dX6_openBehind_24 (by decide) ?_
      refine lv_istore (lv' := [(5, .int 0), (4, .int (nI i)), (3, .int cnt), (0, .ref o), (1, .ref t), (2, .int (nI k))]) hx hb dX6_openBehind_25 hl (by decide) rfl (fun ls hl => ?_)
      refine lv_aload_n hx hb dX6_openBehind_27 rfl (lv_at hl 4 rfl) ?_
      refine va_getN (D := D) (ci := 8) (v := .ref k_followers) (C := RX8) (T := TX8) (N := 16) hx hb hts (by decide +kernel) hown hK hP 2 rfl rfl 10 (by decide) (va_Nw.use rfl (hN.1 (RX6, 55, RX8, "followers", "[I", RX10) (by decide +kernel))) (fun _ h9 => h9) rfl dX6_openBehind_28 ?_
      refine lv_iload_n hx hb dX6_openBehind_31 rfl (lv_at hl 5 rfl) ?_
      refine va_iald hx hb hK hP 4 1 rfl rfl (vp_in_nI (by omega) (by omega)) dX6_openBehind_32 ?_
      refine xb_top (y := f_followers k) (by rw [nI_clamp (by omega)]) ?_
      refine lv_iload hx hb dX6_openBehind_33 (lv_at hl 1 rfl) ?_
      refine xCi (wr := [(o, .inr (6, [.ref p_said, .int p_latest, .int p_spoken, .int p_earned, .int (nI p_dn), .int p_w, .int p_kept])), (p_said, .inl (cI, 24, .inl f_p_said)), (t, .inr (8, [.ref k_name, .ref k_worth, .ref k_times, .ref k_first, .ref k_second, .ref k_beforeLast, .ref k_last, .ref k_errandOf, .ref k_errandAfter, .ref k_sound, .ref k_followers, .ref k_leaders, .int (nI w), .int k_errands, .int k_alikes, .int k_law])), (k_times, .inl (cI, 24, .inl f_times)), (k_followers, .inl (cI, 24, .inl f_followers))]) (win := []) hP hD hS hA [] [0, 1, 2, 3, 4] rfl rfl (by decide) (by decide) (va_runSN (As := [.int (f_followers k), .int (nI i)]) (rest := []) ⟨hx, hb, hml, hown, hts⟩ (c_X10_isIn l D cB cI cJ cS cZ cO H.size (f_followers k) (nI i) ) ⟨va_cnB 2 hts gX6_openBehind_X10_isIn_n65 rfl rfl rfl (hN.2.1 (RX6, 65, yX10_isIn, RX10) (by decide +kernel)) (hts (.initialized RX10) (by decide +kernel)) (by decide +kernel) ⟨Nat.le_of_ble_eq_true rfl, Nat.le_of_ble_eq_true rfl⟩, hts (.static yX10_isIn) (by decide +kernel), trivial⟩ (xPreS (win := []) hN hK hP hD [] (by decide) rfl) rfl rfl hl.1 rfl (lv_room (Nat.le_of_ble_eq_true rfl)) dX6_openBehind_35 ⟨Nat.le_of_ble_eq_true rfl, Nat.le_of_ble_eq_true rfl⟩) (fun r_4 w0 H locs hw hP hD hS => ?_)
      obtain ⟨rfl, hf_5⟩ := hw
      have hP : va_P D vwCl [(o, .inr (6, [.ref p_said, .int p_latest, .int p_spoken, .int p_earned, .int (nI p_dn), .int p_w, .int p_kept])), (p_said, .inl (cI, 24, .inl f_p_said)), (t, .inr (8, [.ref k_name, .ref k_worth, .ref k_times, .ref k_first, .ref k_second, .ref k_beforeLast, .ref k_last, .ref k_errandOf, .ref k_errandAfter, .ref k_sound, .ref k_followers, .ref k_leaders, .int (nI w), .int k_errands, .int k_alikes, .int k_law])), (k_times, .inl (cI, 24, .inl f_times)), (k_followers, .inl (cI, 24, .inl f_followers))] H := hP
      have hD : va_D A [(o, .inr (6, [.ref p_said, .int p_latest, .int p_spoken, .int p_earned, .int (nI p_dn), .int p_w, .int p_kept])), (p_said, .inl (cI, 24, .inl f_p_said)), (t, .inr (8, [.ref k_name, .ref k_worth, .ref k_times, .ref k_first, .ref k_second, .ref k_beforeLast, .ref k_last, .ref k_errandOf, .ref k_errandAfter, .ref k_sound, .ref k_followers, .ref k_leaders, .int (nI w), .int k_errands, .int k_alikes, .int k_law])), (k_times, .inl (cI, 24, .inl f_times)), (k_followers, .inl (cI, 24, .inl f_followers))] := hD
      refine lv_if_eq (tgt := 56) hx hb dX6_openBehind_38 (by decide) (fun c_6 => ?_) (fun c_6 => ?_)
      · refine lv_iinc (v := nI (i + 1)) (lv' := [(4, .int (nI (i + 1))), (5, .int 0), (3, .int cnt), (0, .ref o), (1, .ref t), (2, .int (nI k))]) hx hb dX6_openBehind_56 hl (k := 1) rfl (nI_1 i) (by decide) rfl (fun ls hl => ?_)
        refine lv_goto (tgt := 5) hx hb dX6_openBehind_59 (by decide) ?_
        exact kk_5 _ _ _ _ (by rw [← hn_5]; omega) ⟨(i + 1), cnt, rfl, hP, hD, hS, lv_sub hl [0, 2, 3, 4, 5] rfl, (by first | assumption | omega)⟩
      · refine lv_aload_n hx hb dX6_openBehind_41 rfl (lv_at hl 3 rfl) ?_
        refine lv_aload_n hx hb dX6_openBehind_42 rfl (lv_at hl 4 rfl) ?_
        refine lv_iload hx hb dX6_openBehind_43 (lv_at hl 1 rfl) ?_
        refine xCi (wr := [(k_followers, .inl (cI, 24, .inl f_followers))]) (win := [(o, .inr (6, [.ref p_said, .int p_latest, .int p_spoken, .int p_earned, .int (nI p_dn), .int p_w, .int p_kept])), (p_said, .inl (cI, 24, .inl f_p_said)), (t, .inr (8, [.ref k_name, .ref k_worth, .ref k_times, .ref k_first, .ref k_second, .ref k_beforeLast, .ref k_last, .ref k_errandOf, .ref k_errandAfter, .ref k_sound, .ref k_followers, .ref k_leaders, .int (nI w), .int k_errands, .int k_alikes, .int k_law])), (k_times, .inl (cI, 24, .inl f_times))]) hP hD hS hA [0, 1, 2, 3] [4] rfl rfl (by decide) (by decide) (va_runV (As := [.ref t, .int (nI i)]) (rest := []) ⟨hx, hb, hml, hown, hts⟩ (c_X6_left l D cB cI cJ cS cZ cO H.size o t i p_said p_latest p_spoken p_earned p_dn p_w p_kept f_p_said k_name k_worth k_times k_first k_second k_beforeLast k_last k_errandOf k_errandAfter k_sound k_followers k_leaders w k_errands k_alikes k_law f_times (by first | assumption | omega | decide)) (cwV 2 hts gX6_openBehind_X6_left rfl rfl rfl (by decide +kernel) ⟨Nat.le_of_ble_eq_true rfl, Nat.le_of_ble_eq_true rfl⟩) (xPreV (win := [(o, .inr (6, [.ref p_said, .int p_latest, .int p_spoken, .int p_earned, .int (nI p_dn), .int p_w, .int p_kept])), (p_said, .inl (cI, 24, .inl f_p_said)), (t, .inr (8, [.ref k_name, .ref k_worth, .ref k_times, .ref k_first, .ref k_second, .ref k_beforeLast, .ref k_last, .ref k_errandOf, .ref k_errandAfter, .ref k_sound, .ref k_followers, .ref k_leaders, .int (nI w), .int k_errands, .int k_alikes, .int k_law])), (k_times, .inl (cI, 24, .inl f_times))]) hN hK hP hD [0, 1, 2, 3] (by decide) rfl 0 6 rfl rfl rfl) rfl rfl hl.1 rfl (lv_room (Nat.le_of_ble_eq_true rfl)) dX6_openBehind_45 ⟨Nat.le_of_ble_eq_true rfl, Nat.le_of_ble_eq_true rfl⟩) (fun r_7 w0 H locs hw hP hD hS => ?_)
        subst hw
        have hP : va_P D vwCl [(k_followers, .inl (cI, 24, .inl f_followers)), (o, .inr (6, [.ref p_said, .int p_latest, .int p_spoken, .int p_earned, .int (nI p_dn), .int p_w, .int p_kept])), (p_said, .inl (cI, 24, .inl f_p_said)), (t, .inr (8, [.ref k_name, .ref k_worth, .ref k_times, .ref k_first, .ref k_second, .ref k_beforeLast, .ref k_last, .ref k_errandOf, .ref k_errandAfter, .ref k_sound, .ref k_followers, .ref k_leaders, .int (nI w), .int k_errands, .int k_alikes, .int k_law])), (k_times, .inl (cI, 24, .inl f_times))] H := hP
        have hD : va_D A [(k_followers, .inl (cI, 24, .inl f_followers)), (o, .inr (6, [.ref p_said, .int p_latest, .int p_spoken, .int p_earned, .int (nI p_dn), .int p_w, .int p_kept])), (p_said, .inl (cI, 24, .inl f_p_said)), (t, .inr (8, [.ref k_name, .ref k_worth, .ref k_times, .ref k_first, .ref k_second, .ref k_beforeLast, .ref k_last, .ref k_errandOf, .ref k_errandAfter, .ref k_sound, .ref k_followers, .ref k_leaders, .int (nI w), .int k_errands, .int k_alikes, .int k_law])), (k_times, .inl (cI, 24, .inl f_times))] := hD
        refine lv_iload hx hb dX6_openBehind_48 (lv_at hl 0 rfl) ?_
        refine lv_icmp_le (tgt := 56) hx hb dX6_openBehind_50 (by decide) (fun c_8 => ?_) (fun c_8 => ?_)
        · refine lv_iinc (v := nI (i + 1)) (lv' := [(4, .int (nI (i + 1))), (5, .int 0), (3, .int cnt), (0, .ref o), (1, .ref t), (2, .int (nI k))]) hx hb dX6_openBehind_56 hl (k := 1) rfl (nI_1 i) (by decide) rfl (fun ls hl => ?_)
          refine lv_goto (tgt := 5) hx hb dX6_openBehind_59 (by decide) ?_
          exact kk_5 _ _ _ _ (by rw [← hn_5]; omega) ⟨(i + 1), cnt, rfl, hP.sub [1, 2, 3, 4, 0] rfl, hD.sub [1, 2, 3, 4, 0] (by decide) rfl, hS, lv_sub hl [0, 2, 3, 4, 5] rfl, (by first | assumption | omega)⟩
        · refine lv_iinc (v := cnt + 1) (lv' := [(3, .int (cnt + 1)), (5, .int 0), (4, .int (nI i)), (0, .ref o), (1, .ref t), (2, .int (nI k))]) hx hb dX6_openBehind_53 hl (k := 2) rfl rfl (by decide) rfl (fun ls hl => ?_)
          refine lv_iinc (v := nI (i + 1)) (lv' := [(4, .int (nI (i + 1))), (3, .int (cnt + 1)), (5, .int 0), (0, .ref o), (1, .ref t), (2, .int (nI k))]) hx hb dX6_openBehind_56 hl (k := 2) rfl (nI_1 i) (by decide) rfl (fun ls hl => ?_)
          refine lv_goto (tgt := 5) hx hb dX6_openBehind_59 (by decide) ?_
          exact kk_5 _ _ _ _ (by rw [← hn_5]; omega) ⟨(i + 1), (cnt + 1), rfl, hP.sub [1, 2, 3, 4, 0] rfl, hD.sub [1, 2, 3, 4, 0] (by decide) rfl, hS, lv_sub hl [0, 1, 3, 4, 5] rfl, (by first | assumption | omega)⟩
    · have dc_3 : i = k := (nI_eq (a := i) (b := k) (by omega) (by omega)).mp c_3
      refine lv_iconst (v := 1) hx hb dX6_openBehind_20 (by decide) ?_
      refine lv_goto (tgt := 25) hx hb dX6_openBehind_21 (by decide) ?_
      refine lv_istore (lv' := [(5, .int 1), (4, .int (nI i)), (3, .int cnt), (0, .ref o), (1, .ref t), (2, .int (nI k))]) hx hb dX6_openBehind_25 hl (by decide) rfl (fun ls hl => ?_)
      refine lv_aload_n hx hb dX6_openBehind_27 rfl (lv_at hl 4 rfl) ?_
      refine va_getN (D := D) (ci := 8) (v := .ref k_followers) (C := RX8) (T := TX8) (N := 16) hx hb hts (by decide +kernel) hown hK hP 2 rfl rfl 10 (by decide) (va_Nw.use rfl (hN.1 (RX6, 55, RX8, "followers", "[I", RX10) (by decide +kernel))) (fun _ h9 => h9) rfl dX6_openBehind_28 ?_
      refine lv_iload_n hx hb dX6_openBehind_31 rfl (lv_at hl 5 rfl) ?_
      refine va_iald hx hb hK hP 4 1 rfl rfl (vp_in_nI (by omega) (by omega)) dX6_openBehind_32 ?_
      refine xb_top (y := f_followers k) (by rw [nI_clamp (by omega)]) ?_
      refine lv_iload hx hb dX6_openBehind_33 (lv_at hl 1 rfl) ?_
      refine xCi (wr := [(o, .inr (6, [.ref p_said, .int p_latest, .int p_spoken, .int p_earned, .int (nI p_dn), .int p_w, .int p_kept])), (p_said, .inl (cI, 24, .inl f_p_said)), (t, .inr (8, [.ref k_name, .ref k_worth, .ref k_times, .ref k_first, .ref k_second, .ref k_beforeLast, .ref k_last, .ref k_errandOf, .ref k_errandAfter, .ref k_sound, .ref k_followers, .ref k_leaders, .int (nI w), .int k_errands, .int k_alikes, .int k_law])), (k_times, .inl (cI, 24, .inl f_times)), (k_followers, .inl (cI, 24, .inl f_followers))]) (win := []) hP hD hS hA [] [0, 1, 2, 3, 4] rfl rfl (by decide) (by decide) (va_runSN (As := [.int (f_followers k), .int (nI i)]) (rest := []) ⟨hx, hb, hml, hown, hts⟩ (c_X10_isIn l D cB cI cJ cS cZ cO H.size (f_followers k) (nI i) ) ⟨va_cnB 2 hts gX6_openBehind_X10_isIn_n65 rfl rfl rfl (hN.2.1 (RX6, 65, yX10_isIn, RX10) (by decide +kernel)) (hts (.initialized RX10) (by decide +kernel)) (by decide +kernel) ⟨Nat.le_of_ble_eq_true rfl, Nat.le_of_ble_eq_true rfl⟩, hts (.static yX10_isIn) (by decide +kernel), trivial⟩ (xPreS (win := []) hN hK hP hD [] (by decide) rfl) rfl rfl hl.1 rfl (lv_room (Nat.le_of_ble_eq_true rfl)) dX6_openBehind_35 ⟨Nat.le_of_ble_eq_true rfl, Nat.le_of_ble_eq_true rfl⟩) (fun r_9 w0 H locs hw hP hD hS => ?_)
      obtain ⟨rfl, hf_10⟩ := hw
      have hP : va_P D vwCl [(o, .inr (6, [.ref p_said, .int p_latest, .int p_spoken, .int p_earned, .int (nI p_dn), .int p_w, .int p_kept])), (p_said, .inl (cI, 24, .inl f_p_said)), (t, .inr (8, [.ref k_name, .ref k_worth, .ref k_times, .ref k_first, .ref k_second, .ref k_beforeLast, .ref k_last, .ref k_errandOf, .ref k_errandAfter, .ref k_sound, .ref k_followers, .ref k_leaders, .int (nI w), .int k_errands, .int k_alikes, .int k_law])), (k_times, .inl (cI, 24, .inl f_times)), (k_followers, .inl (cI, 24, .inl f_followers))] H := hP
      have hD : va_D A [(o, .inr (6, [.ref p_said, .int p_latest, .int p_spoken, .int p_earned, .int (nI p_dn), .int p_w, .int p_kept])), (p_said, .inl (cI, 24, .inl f_p_said)), (t, .inr (8, [.ref k_name, .ref k_worth, .ref k_times, .ref k_first, .ref k_second, .ref k_beforeLast, .ref k_last, .ref k_errandOf, .ref k_errandAfter, .ref k_sound, .ref k_followers, .ref k_leaders, .int (nI w), .int k_errands, .int k_alikes, .int k_law])), (k_times, .inl (cI, 24, .inl f_times)), (k_followers, .inl (cI, 24, .inl f_followers))] := hD
      refine lv_if_eq (tgt := 56) hx hb dX6_openBehind_38 (by decide) (fun c_11 => ?_) (fun c_11 => ?_)
      · refine lv_iinc (v := nI (i + 1)) (lv' := [(4, .int (nI (i + 1))), (5, .int 1), (3, .int cnt), (0, .ref o), (1, .ref t), (2, .int (nI k))]) hx hb dX6_openBehind_56 hl (k := 1) rfl (nI_1 i) (by decide) rfl (fun ls hl => ?_)
        refine lv_goto (tgt := 5) hx hb dX6_openBehind_59 (by decide) ?_
        exact kk_5 _ _ _ _ (by rw [← hn_5]; omega) ⟨(i + 1), cnt, rfl, hP, hD, hS, lv_sub hl [0, 2, 3, 4, 5] rfl, (by first | assumption | omega)⟩
      · refine lv_aload_n hx hb dX6_openBehind_41 rfl (lv_at hl 3 rfl) ?_
        refine lv_aload_n hx hb dX6_openBehind_42 rfl (lv_at hl 4 rfl) ?_
        refine lv_iload hx hb dX6_openBehind_43 (lv_at hl 1 rfl) ?_
        refine xCi (wr := [(k_followers, .inl (cI, 24, .inl f_followers))]) (win := [(o, .inr (6, [.ref p_said, .int p_latest, .int p_spoken, .int p_earned, .int (nI p_dn), .int p_w, .int p_kept])), (p_said, .inl (cI, 24, .inl f_p_said)), (t, .inr (8, [.ref k_name, .ref k_worth, .ref k_times, .ref k_first, .ref k_second, .ref k_beforeLast, .ref k_last, .ref k_errandOf, .ref k_errandAfter, .ref k_sound, .ref k_followers, .ref k_leaders, .int (nI w), .int k_errands, .int k_alikes, .int k_law])), (k_times, .inl (cI, 24, .inl f_times))]) hP hD hS hA [0, 1, 2, 3] [4] rfl rfl (by decide) (by decide) (va_runV (As := [.ref t, .int (nI i)]) (rest := []) ⟨hx, hb, hml, hown, hts⟩ (c_X6_left l D cB cI cJ cS cZ cO H.size o t i p_said p_latest p_spoken p_earned p_dn p_w p_kept f_p_said k_name k_worth k_times k_first k_second k_beforeLast k_last k_errandOf k_errandAfter k_sound k_followers k_leaders w k_errands k_alikes k_law f_times (by first | assumption | omega | decide)) (cwV 2 hts gX6_openBehind_X6_left rfl rfl rfl (by decide +kernel) ⟨Nat.le_of_ble_eq_true rfl, Nat.le_of_ble_eq_true rfl⟩) (xPreV (win := [(o, .inr (6, [.ref p_said, .int p_latest, .int p_spoken, .int p_earned, .int (nI p_dn), .int p_w, .int p_kept])), (p_said, .inl (cI, 24, .inl f_p_said)), (t, .inr (8, [.ref k_name, .ref k_worth, .ref k_times, .ref k_first, .ref k_second, .ref k_beforeLast, .ref k_last, .ref k_errandOf, .ref k_errandAfter, .ref k_sound, .ref k_followers, .ref k_leaders, .int (nI w), .int k_errands, .int k_alikes, .int k_law])), (k_times, .inl (cI, 24, .inl f_times))]) hN hK hP hD [0, 1, 2, 3] (by decide) rfl 0 6 rfl rfl rfl) rfl rfl hl.1 rfl (lv_room (Nat.le_of_ble_eq_true rfl)) dX6_openBehind_45 ⟨Nat.le_of_ble_eq_true rfl, Nat.le_of_ble_eq_true rfl⟩) (fun r_12 w0 H locs hw hP hD hS => ?_)
        subst hw
        have hP : va_P D vwCl [(k_followers, .inl (cI, 24, .inl f_followers)), (o, .inr (6, [.ref p_said, .int p_latest, .int p_spoken, .int p_earned, .int (nI p_dn), .int p_w, .int p_kept])), (p_said, .inl (cI, 24, .inl f_p_said)), (t, .inr (8, [.ref k_name, .ref k_worth, .ref k_times, .ref k_first, .ref k_second, .ref k_beforeLast, .ref k_last, .ref k_errandOf, .ref k_errandAfter, .ref k_sound, .ref k_followers, .ref k_leaders, .int (nI w), .int k_errands, .int k_alikes, .int k_law])), (k_times, .inl (cI, 24, .inl f_times))] H := hP
        have hD : va_D A [(k_followers, .inl (cI, 24, .inl f_followers)), (o, .inr (6, [.ref p_said, .int p_latest, .int p_spoken, .int p_earned, .int (nI p_dn), .int p_w, .int p_kept])), (p_said, .inl (cI, 24, .inl f_p_said)), (t, .inr (8, [.ref k_name, .ref k_worth, .ref k_times, .ref k_first, .ref k_second, .ref k_beforeLast, .ref k_last, .ref k_errandOf, .ref k_errandAfter, .ref k_sound, .ref k_followers, .ref k_leaders, .int (nI w), .int k_errands, .int k_alikes, .int k_law])), (k_times, .inl (cI, 24, .inl f_times))] := hD
        refine lv_iload hx hb dX6_openBehind_48 (lv_at hl 0 rfl) ?_
        refine lv_icmp_le (tgt := 56) hx hb dX6_openBehind_50 (by decide) (fun c_13 => ?_) (fun c_13 => ?_)
        · refine lv_iinc (v := nI (i + 1)) (lv' := [(4, .int (nI (i + 1))), (5, .int 1), (3, .int cnt), (0, .ref o), (1, .ref t), (2, .int (nI k))]) hx hb dX6_openBehind_56 hl (k := 1) rfl (nI_1 i) (by decide) rfl (fun ls hl => ?_)
          refine lv_goto (tgt := 5) hx hb dX6_openBehind_59 (by decide) ?_
          exact kk_5 _ _ _ _ (by rw [← hn_5]; omega) ⟨(i + 1), cnt, rfl, hP.sub [1, 2, 3, 4, 0] rfl, hD.sub [1, 2, 3, 4, 0] (by decide) rfl, hS, lv_sub hl [0, 2, 3, 4, 5] rfl, (by first | assumption | omega)⟩
        · refine lv_iinc (v := cnt + 1) (lv' := [(3, .int (cnt + 1)), (5, .int 1), (4, .int (nI i)), (0, .ref o), (1, .ref t), (2, .int (nI k))]) hx hb dX6_openBehind_53 hl (k := 2) rfl rfl (by decide) rfl (fun ls hl => ?_)
          refine lv_iinc (v := nI (i + 1)) (lv' := [(4, .int (nI (i + 1))), (3, .int (cnt + 1)), (5, .int 1), (0, .ref o), (1, .ref t), (2, .int (nI k))]) hx hb dX6_openBehind_56 hl (k := 2) rfl (nI_1 i) (by decide) rfl (fun ls hl => ?_)
          refine lv_goto (tgt := 5) hx hb dX6_openBehind_59 (by decide) ?_
          exact kk_5 _ _ _ _ (by rw [← hn_5]; omega) ⟨(i + 1), (cnt + 1), rfl, hP.sub [1, 2, 3, 4, 0] rfl, hD.sub [1, 2, 3, 4, 0] (by decide) rfl, hS, lv_sub hl [0, 1, 3, 4, 5] rfl, (by first | assumption | omega)⟩

set_option maxHeartbeats 4000000 in
set_option maxRecDepth 100000 in
theorem c_X6_rank (l : Launch) (D : va_G) (cB cI cJ cS cZ cO : ClassId) (sz : Nat) (o : Nat) (t : Nat) (x : Int32) (k : Nat) (p_said : Nat) (p_latest : Int32) (p_spoken : Int32) (p_earned : Int32) (p_dn : Nat) (p_w : Int32) (p_kept : Int32) (f_p_said : Nat → Int32) (k_name : Nat) (k_worth : Nat) (k_times : Nat) (k_first : Nat) (k_second : Nat) (k_beforeLast : Nat) (k_last : Nat) (k_errandOf : Nat) (k_errandAfter : Nat) (k_sound : Nat) (k_followers : Nat) (k_leaders : Nat) (w : Nat) (k_errands : Int32) (k_alikes : Int32) (k_law : Int32) (f_times : Nat → Int32) (f_followers : Nat → Int32) (f_worth : Nat → Int32) (hw : w ≤ 24) (hk : k < w) : Met l yX6_rank wsX6_rank ({ frames := 2, cells := 0, slots := 0, locals := 47 }) (xPre D (tyL cB cI cJ cS cZ cO) [(o, .inr (6, [.ref p_said, .int p_latest, .int p_spoken, .int p_earned, .int (nI p_dn), .int p_w, .int p_kept])), (p_said, .inl (cI, 24, .inl f_p_said)), (t, .inr (8, [.ref k_name, .ref k_worth, .ref k_times, .ref k_first, .ref k_second, .ref k_beforeLast, .ref k_last, .ref k_errandOf, .ref k_errandAfter, .ref k_sound, .ref k_followers, .ref k_leaders, .int (nI w), .int k_errands, .int k_alikes, .int k_law])), (k_times, .inl (cI, 24, .inl f_times)), (k_followers, .inl (cI, 24, .inl f_followers)), (k_worth, .inl (cI, 24, .inl f_worth))] sz [.ref o, .ref t, .int x, .int (nI k)]) (xQi D (tyL cB cI cJ cS cZ cO) (va_A [(o, .inr (6, [.ref p_said, .int p_latest, .int p_spoken, .int p_earned, .int (nI p_dn), .int p_w, .int p_kept])), (p_said, .inl (cI, 24, .inl f_p_said)), (t, .inr (8, [.ref k_name, .ref k_worth, .ref k_times, .ref k_first, .ref k_second, .ref k_beforeLast, .ref k_last, .ref k_errandOf, .ref k_errandAfter, .ref k_sound, .ref k_followers, .ref k_leaders, .int (nI w), .int k_errands, .int k_alikes, .int k_law])), (k_times, .inl (cI, 24, .inl f_times)), (k_followers, .inl (cI, 24, .inl f_followers)), (k_worth, .inl (cI, 24, .inl f_worth))] sz) (fun (r : Int32) (u : va_W) => u = [(o, .inr (6, [.ref p_said, .int p_latest, .int p_spoken, .int p_earned, .int (nI p_dn), .int p_w, .int p_kept])), (p_said, .inl (cI, 24, .inl f_p_said)), (t, .inr (8, [.ref k_name, .ref k_worth, .ref k_times, .ref k_first, .ref k_second, .ref k_beforeLast, .ref k_last, .ref k_errandOf, .ref k_errandAfter, .ref k_sound, .ref k_followers, .ref k_leaders, .int (nI w), .int k_errands, .int k_alikes, .int k_law])), (k_times, .inl (cI, 24, .inl f_times)), (k_followers, .inl (cI, 24, .inl f_followers)), (k_worth, .inl (cI, 24, .inl f_worth))])) 0 0 (va_A [(o, .inr (6, [.ref p_said, .int p_latest, .int p_spoken, .int p_earned, .int (nI p_dn), .int p_w, .int p_kept])), (p_said, .inl (cI, 24, .inl f_p_said)), (t, .inr (8, [.ref k_name, .ref k_worth, .ref k_times, .ref k_first, .ref k_second, .ref k_beforeLast, .ref k_last, .ref k_errandOf, .ref k_errandAfter, .ref k_sound, .ref k_followers, .ref k_leaders, .int (nI w), .int k_errands, .int k_alikes, .int k_law])), (k_times, .inl (cI, 24, .inl f_times)), (k_followers, .inl (cI, 24, .inl f_followers)), (k_worth, .inl (cI, 24, .inl f_worth))] sz) := by
  refine Met.ofW (cc := cX6_rank) (maxL := 4) (ret := (some .int)) (by decide) rfl ?_
  intro p e s m args below meth c s₁ B hml hv
  obtain ⟨rfl, hsz, hP, hK, hD0, hN⟩ := hv
  have hx := B.exec
  have hb := B.bytes
  have hr := B.returns
  have hts := atoms_spec (ws := wsX6_rank) B.pre
  have hown : s.vm.findClass RX6 = some m.cls := findClass_of_methodNamed B.named
  have hlocks := B.notSynchronized
  subst hsz
  have hD := hD0.self (sz := s.heap.size)
  generalize hAe : va_A [(o, .inr (6, [.ref p_said, .int p_latest, .int p_spoken, .int p_earned, .int (nI p_dn), .int p_w, .int p_kept])), (p_said, .inl (cI, 24, .inl f_p_said)), (t, .inr (8, [.ref k_name, .ref k_worth, .ref k_times, .ref k_first, .ref k_second, .ref k_beforeLast, .ref k_last, .ref k_errandOf, .ref k_errandAfter, .ref k_sound, .ref k_followers, .ref k_leaders, .int (nI w), .int k_errands, .int k_alikes, .int k_law])), (k_times, .inl (cI, 24, .inl f_times)), (k_followers, .inl (cI, 24, .inl f_followers)), (k_worth, .inl (cI, 24, .inl f_worth))] s.heap.size = A at hD ⊢
  have hA : ∀ q : Nat, s.heap.size ≤ q → A q := fun q h => by rw [← hAe]; exact Or.inr h
  have hS : va_S A s.heap s.heap [] := va_S.rf
  have hP : va_P D vwCl [(o, .inr (6, [.ref p_said, .int p_latest, .int p_spoken, .int p_earned, .int (nI p_dn), .int p_w, .int p_kept])), (p_said, .inl (cI, 24, .inl f_p_said)), (t, .inr (8, [.ref k_name, .ref k_worth, .ref k_times, .ref k_first, .ref k_second, .ref k_beforeLast, .ref k_last, .ref k_errandOf, .ref k_errandAfter, .ref k_sound, .ref k_followers, .ref k_leaders, .int (nI w), .int k_errands, .int k_alikes, .int k_law])), (k_times, .inl (cI, 24, .inl f_times)), (k_followers, .inl (cI, 24, .inl f_followers)), (k_worth, .inl (cI, 24, .inl f_worth))] s.heap := hP
  have hl := lv_entry ([.ref o, .ref t, .int x, .int (nI k)]) (n := 4) (Nat.le_of_ble_eq_true rfl)
  rw [lg_entry_eq]
  generalize (lg_sl ([.ref o, .ref t, .int x, .int (nI k)]) ++ List.replicate (4 - (lg_sl ([.ref o, .ref t, .int x, .int (nI k)])).length) Slot.unset).toArray = ls at hl ⊢
  have hl : lv_has ls 4 [(0, .ref o), (1, .ref t), (2, .int x), (3, .int (nI k))] := hl
  refine lv_iload_n hx hb dX6_rank_0 rfl (lv_at hl 2 rfl) ?_
  rcases pk_ix x (n := 3) (by decide) with hsw | hsw | ⟨j, hj, ej⟩
  · refine lv_tableOut (tgt := 50) hx hb dX6_rank_1 (Or.inl (Int32.lt_iff_toInt_lt.mp hsw)) (by decide) ?_
    refine lv_aload_n hx hb dX6_rank_50 rfl (lv_at hl 0 rfl) ?_
    refine lv_aload_n hx hb dX6_rank_51 rfl (lv_at hl 1 rfl) ?_
    refine lv_iload_n hx hb dX6_rank_52 rfl (lv_at hl 3 rfl) ?_
    refine xCi (wr := [(k_followers, .inl (cI, 24, .inl f_followers)), (k_worth, .inl (cI, 24, .inl f_worth))]) (win := [(o, .inr (6, [.ref p_said, .int p_latest, .int p_spoken, .int p_earned, .int (nI p_dn), .int p_w, .int p_kept])), (p_said, .inl (cI, 24, .inl f_p_said)), (t, .inr (8, [.ref k_name, .ref k_worth, .ref k_times, .ref k_first, .ref k_second, .ref k_beforeLast, .ref k_last, .ref k_errandOf, .ref k_errandAfter, .ref k_sound, .ref k_followers, .ref k_leaders, .int (nI w), .int k_errands, .int k_alikes, .int k_law])), (k_times, .inl (cI, 24, .inl f_times))]) hP hD hS hA [0, 1, 2, 3] [4, 5] rfl rfl (by decide) (by decide) (va_runV (As := [.ref t, .int (nI k)]) (rest := []) ⟨hx, hb, hml, hown, hts⟩ (c_X6_left l D cB cI cJ cS cZ cO s.heap.size o t k p_said p_latest p_spoken p_earned p_dn p_w p_kept f_p_said k_name k_worth k_times k_first k_second k_beforeLast k_last k_errandOf k_errandAfter k_sound k_followers k_leaders w k_errands k_alikes k_law f_times (by first | assumption | omega | decide)) (cwV 2 hts gX6_rank_X6_left rfl rfl rfl (by decide +kernel) ⟨Nat.le_of_ble_eq_true rfl, Nat.le_of_ble_eq_true rfl⟩) (xPreV (win := [(o, .inr (6, [.ref p_said, .int p_latest, .int p_spoken, .int p_earned, .int (nI p_dn), .int p_w, .int p_kept])), (p_said, .inl (cI, 24, .inl f_p_said)), (t, .inr (8, [.ref k_name, .ref k_worth, .ref k_times, .ref k_first, .ref k_second, .ref k_beforeLast, .ref k_last, .ref k_errandOf, .ref k_errandAfter, .ref k_sound, .ref k_followers, .ref k_leaders, .int (nI w), .int k_errands, .int k_alikes, .int k_law])), (k_times, .inl (cI, 24, .inl f_times))]) hN hK hP hD [0, 1, 2, 3] (by decide) rfl 0 6 rfl rfl rfl) rfl rfl hl.1 rfl (lv_room (Nat.le_of_ble_eq_true rfl)) dX6_rank_53 ⟨Nat.le_of_ble_eq_true rfl, Nat.le_of_ble_eq_true rfl⟩) (fun r_1 w0 H locs hw hP hD hS => ?_)
    subst hw
    have hP : va_P D vwCl [(k_followers, .inl (cI, 24, .inl f_followers)), (k_worth, .inl (cI, 24, .inl f_worth)), (o, .inr (6, [.ref p_said, .int p_latest, .int p_spoken, .int p_earned, .int (nI p_dn), .int p_w, .int p_kept])), (p_said, .inl (cI, 24, .inl f_p_said)), (t, .inr (8, [.ref k_name, .ref k_worth, .ref k_times, .ref k_first, .ref k_second, .ref k_beforeLast, .ref k_last, .ref k_errandOf, .ref k_errandAfter, .ref k_sound, .ref k_followers, .ref k_leaders, .int (nI w), .int k_errands, .int k_alikes, .int k_law])), (k_times, .inl (cI, 24, .inl f_times))] H := hP
    have hD : va_D A [(k_followers, .inl (cI, 24, .inl f_followers)), (k_worth, .inl (cI, 24, .inl f_worth)), (o, .inr (6, [.ref p_said, .int p_latest, .int p_spoken, .int p_earned, .int (nI p_dn), .int p_w, .int p_kept])), (p_said, .inl (cI, 24, .inl f_p_said)), (t, .inr (8, [.ref k_name, .ref k_worth, .ref k_times, .ref k_first, .ref k_second, .ref k_beforeLast, .ref k_last, .ref k_errandOf, .ref k_errandAfter, .ref k_sound, .ref k_followers, .ref k_leaders, .int (nI w), .int k_errands, .int k_alikes, .int k_law])), (k_times, .inl (cI, 24, .inl f_times))] := hD
    have hP9 := hP.sub (ws' := [(o, .inr (6, [.ref p_said, .int p_latest, .int p_spoken, .int p_earned, .int (nI p_dn), .int p_w, .int p_kept])), (p_said, .inl (cI, 24, .inl f_p_said)), (t, .inr (8, [.ref k_name, .ref k_worth, .ref k_times, .ref k_first, .ref k_second, .ref k_beforeLast, .ref k_last, .ref k_errandOf, .ref k_errandAfter, .ref k_sound, .ref k_followers, .ref k_leaders, .int (nI w), .int k_errands, .int k_alikes, .int k_law])), (k_times, .inl (cI, 24, .inl f_times)), (k_followers, .inl (cI, 24, .inl f_followers)), (k_worth, .inl (cI, 24, .inl f_worth))]) [2, 3, 4, 5, 0, 1] rfl
    have hD9 := hD.sub (ws' := [(o, .inr (6, [.ref p_said, .int p_latest, .int p_spoken, .int p_earned, .int (nI p_dn), .int p_w, .int p_kept])), (p_said, .inl (cI, 24, .inl f_p_said)), (t, .inr (8, [.ref k_name, .ref k_worth, .ref k_times, .ref k_first, .ref k_second, .ref k_beforeLast, .ref k_last, .ref k_errandOf, .ref k_errandAfter, .ref k_sound, .ref k_followers, .ref k_leaders, .int (nI w), .int k_errands, .int k_alikes, .int k_law])), (k_times, .inl (cI, 24, .inl f_times)), (k_followers, .inl (cI, 24, .inl f_followers)), (k_worth, .inl (cI, 24, .inl f_worth))]) [2, 3, 4, 5, 0, 1] (by decide) rfl
    refine W.widen (k := 0) (n := 0) (Nat.le_of_ble_eq_true rfl) (Nat.le_of_ble_eq_true rfl) ?_
    exact W.iret (v := r_1) hx hb hr (fun tz htz hWz => ⟨⟨r_1, [(o, .inr (6, [.ref p_said, .int p_latest, .int p_spoken, .int p_earned, .int (nI p_dn), .int p_w, .int p_kept])), (p_said, .inl (cI, 24, .inl f_p_said)), (t, .inr (8, [.ref k_name, .ref k_worth, .ref k_times, .ref k_first, .ref k_second, .ref k_beforeLast, .ref k_last, .ref k_errandOf, .ref k_errandAfter, .ref k_sound, .ref k_followers, .ref k_leaders, .int (nI w), .int k_errands, .int k_alikes, .int k_law])), (k_times, .inl (cI, 24, .inl f_times)), (k_followers, .inl (cI, 24, .inl f_followers)), (k_worth, .inl (cI, 24, .inl f_worth))], rfl, rfl, by rw [htz]; exact hP9, va_K.moved hWz.alike hK, hD9⟩, hS.F htz⟩) hS.2.2 dX6_rank_56
  · refine lv_tableOut (tgt := 50) hx hb dX6_rank_1 (Or.inr (tsw_hi hsw (by decide) (by decide))) (by decide) ?_
    refine lv_aload_n hx hb dX6_rank_50 rfl (lv_at hl 0 rfl) ?_
    refine lv_aload_n hx hb dX6_rank_51 rfl (lv_at hl 1 rfl) ?_
    refine lv_iload_n hx hb dX6_rank_52 rfl (lv_at hl 3 rfl) ?_
    refine xCi (wr := [(k_followers, .inl (cI, 24, .inl f_followers)), (k_worth, .inl (cI, 24, .inl f_worth))]) (win := [(o, .inr (6, [.ref p_said, .int p_latest, .int p_spoken, .int p_earned, .int (nI p_dn), .int p_w, .int p_kept])), (p_said, .inl (cI, 24, .inl f_p_said)), (t, .inr (8, [.ref k_name, .ref k_worth, .ref k_times, .ref k_first, .ref k_second, .ref k_beforeLast, .ref k_last, .ref k_errandOf, .ref k_errandAfter, .ref k_sound, .ref k_followers, .ref k_leaders, .int (nI w), .int k_errands, .int k_alikes, .int k_law])), (k_times, .inl (cI, 24, .inl f_times))]) hP hD hS hA [0, 1, 2, 3] [4, 5] rfl rfl (by decide) (by decide) (va_runV (As := [.ref t, .int (nI k)]) (rest := []) ⟨hx, hb, hml, hown, hts⟩ (c_X6_left l D cB cI cJ cS cZ cO s.heap.size o t k p_said p_latest p_spoken p_earned p_dn p_w p_kept f_p_said k_name k_worth k_times k_first k_second k_beforeLast k_last k_errandOf k_errandAfter k_sound k_followers k_leaders w k_errands k_alikes k_law f_times (by first | assumption | omega | decide)) (cwV 2 hts gX6_rank_X6_left rfl rfl rfl (by decide +kernel) ⟨Nat.le_of_ble_eq_true rfl, Nat.le_of_ble_eq_true rfl⟩) (xPreV (win := [(o, .inr (6, [.ref p_said, .int p_latest, .int p_spoken, .int p_earned, .int (nI p_dn), .int p_w, .int p_kept])), (p_said, .inl (cI, 24, .inl f_p_said)), (t, .inr (8, [.ref k_name, .ref k_worth, .ref k_times, .ref k_first, .ref k_second, .ref k_beforeLast, .ref k_last, .ref k_errandOf, .ref k_errandAfter, .ref k_sound, .ref k_followers, .ref k_leaders, .int (nI w), .int k_errands, .int k_alikes, .int k_law])), (k_times, .inl (cI, 24, .inl f_times))]) hN hK hP hD [0, 1, 2, 3] (by decide) rfl 0 6 rfl rfl rfl) rfl rfl hl.1 rfl (lv_room (Nat.le_of_ble_eq_true rfl)) dX6_rank_53 ⟨Nat.le_of_ble_eq_true rfl, Nat.le_of_ble_eq_true rfl⟩) (fun r_2 w0 H locs hw hP hD hS => ?_)
    subst hw
    have hP : va_P D vwCl [(k_followers, .inl (cI, 24, .inl f_followers)), (k_worth, .inl (cI, 24, .inl f_worth)), (o, .inr (6, [.ref p_said, .int p_latest, .int p_spoken, .int p_earned, .int (nI p_dn), .int p_w, .int p_kept])), (p_said, .inl (cI, 24, .inl f_p_said)), (t, .inr (8, [.ref k_name, .ref k_worth, .ref k_times, .ref k_first, .ref k_second, .ref k_beforeLast, .ref k_last, .ref k_errandOf, .ref k_errandAfter, .ref k_sound, .ref k_followers, .ref k_leaders, .int (nI w), .int k_errands, .int k_alikes, .int k_law])), (k_times, .inl (cI, 24, .inl f_times))] H := hP
    have hD : va_D A [(k_followers, .inl (cI, 24, .inl f_followers)), (k_worth, .inl (cI, 24, .inl f_worth)), (o, .inr (6, [.ref p_said, .int p_latest, .int p_spoken, .int p_earned, .int (nI p_dn), .int p_w, .int p_kept])), (p_said, .inl (cI, 24, .inl f_p_said)), (t, .inr (8, [.ref k_name, .ref k_worth, .ref k_times, .ref k_first, .ref k_second, .ref k_beforeLast, .ref k_last, .ref k_errandOf, .ref k_errandAfter, .ref k_sound, .ref k_followers, .ref k_leaders, .int (nI w), .int k_errands, .int k_alikes, .int k_law])), (k_times, .inl (cI, 24, .inl f_times))] := hD
    have hP9 := hP.sub (ws' := [(o, .inr (6, [.ref p_said, .int p_latest, .int p_spoken, .int p_earned, .int (nI p_dn), .int p_w, .int p_kept])), (p_said, .inl (cI, 24, .inl f_p_said)), (t, .inr (8, [.ref k_name, .ref k_worth, .ref k_times, .ref k_first, .ref k_second, .ref k_beforeLast, .ref k_last, .ref k_errandOf, .ref k_errandAfter, .ref k_sound, .ref k_followers, .ref k_leaders, .int (nI w), .int k_errands, .int k_alikes, .int k_law])), (k_times, .inl (cI, 24, .inl f_times)), (k_followers, .inl (cI, 24, .inl f_followers)), (k_worth, .inl (cI, 24, .inl f_worth))]) [2, 3, 4, 5, 0, 1] rfl
    have hD9 := hD.sub (ws' := [(o, .inr (6, [.ref p_said, .int p_latest, .int p_spoken, .int p_earned, .int (nI p_dn), .int p_w, .int p_kept])), (p_said, .inl (cI, 24, .inl f_p_said)), (t, .inr (8, [.ref k_name, .ref k_worth, .ref k_times, .ref k_first, .ref k_second, .ref k_beforeLast, .ref k_last, .ref k_errandOf, .ref k_errandAfter, .ref k_sound, .ref k_followers, .ref k_leaders, .int (nI w), .int k_errands, .int k_alikes, .int k_law])), (k_times, .inl (cI, 24, .inl f_times)), (k_followers, .inl (cI, 24, .inl f_followers)), (k_worth, .inl (cI, 24, .inl f_worth))]) [2, 3, 4, 5, 0, 1] (by decide) rfl
    refine W.widen (k := 0) (n := 0) (Nat.le_of_ble_eq_true rfl) (Nat.le_of_ble_eq_true rfl) ?_
    exact W.iret (v := r_2) hx hb hr (fun tz htz hWz => ⟨⟨r_2, [(o, .inr (6, [.ref p_said, .int p_latest, .int p_spoken, .int p_earned, .int (nI p_dn), .int p_w, .int p_kept])), (p_said, .inl (cI, 24, .inl f_p_said)), (t, .inr (8, [.ref k_name, .ref k_worth, .ref k_times, .ref k_first, .ref k_second, .ref k_beforeLast, .ref k_last, .ref k_errandOf, .ref k_errandAfter, .ref k_sound, .ref k_followers, .ref k_leaders, .int (nI w), .int k_errands, .int k_alikes, .int k_law])), (k_times, .inl (cI, 24, .inl f_times)), (k_followers, .inl (cI, 24, .inl f_followers)), (k_worth, .inl (cI, 24, .inl f_worth))], rfl, rfl, by rw [htz]; exact hP9, va_K.moved hWz.alike hK, hD9⟩, hS.F htz⟩) hS.2.2 dX6_rank_56
  · rcases (show j = 0 ∨ j = 1 ∨ j = 2 by omega) with rfl | rfl | rfl
    · refine xb_top (y := 0) ej ?_
      refine lv_tableIn (off := 27) (tgt := 28) hx hb dX6_rank_1 (by decide) (by decide) (by decide) (by decide) ?_
      refine lv_aload_n hx hb dX6_rank_28 rfl (lv_at hl 0 rfl) ?_
      refine lv_aload_n hx hb dX6_rank_29 rfl (lv_at hl 1 rfl) ?_
      refine lv_iload_n hx hb dX6_rank_30 rfl (lv_at hl 3 rfl) ?_
      refine xCi (wr := [(k_worth, .inl (cI, 24, .inl f_worth))]) (win := [(o, .inr (6, [.ref p_said, .int p_latest, .int p_spoken, .int p_earned, .int (nI p_dn), .int p_w, .int p_kept])), (p_said, .inl (cI, 24, .inl f_p_said)), (t, .inr (8, [.ref k_name, .ref k_worth, .ref k_times, .ref k_first, .ref k_second, .ref k_beforeLast, .ref k_last, .ref k_errandOf, .ref k_errandAfter, .ref k_sound, .ref k_followers, .ref k_leaders, .int (nI w), .int k_errands, .int k_alikes, .int k_law])), (k_times, .inl (cI, 24, .inl f_times)), (k_followers, .inl (cI, 24, .inl f_followers))]) hP hD hS hA [0, 1, 2, 3, 4] [5] rfl rfl (by decide) (by decide) (va_runV (As := [.ref t, .int (nI k)]) (rest := []) ⟨hx, hb, hml, hown, hts⟩ (c_X6_openBehind l D cB cI cJ cS cZ cO s.heap.size o t k p_said p_latest p_spoken p_earned p_dn p_w p_kept f_p_said k_name k_worth k_times k_first k_second k_beforeLast k_last k_errandOf k_errandAfter k_sound k_followers k_leaders w k_errands k_alikes k_law f_times f_followers (by first | assumption | omega | decide) (by first | assumption | omega | decide)) (cwV 2 hts gX6_rank_X6_openBehind rfl rfl rfl (by decide +kernel) ⟨Nat.le_of_ble_eq_true rfl, Nat.le_of_ble_eq_true rfl⟩) (xPreV (win := [(o, .inr (6, [.ref p_said, .int p_latest, .int p_spoken, .int p_earned, .int (nI p_dn), .int p_w, .int p_kept])), (p_said, .inl (cI, 24, .inl f_p_said)), (t, .inr (8, [.ref k_name, .ref k_worth, .ref k_times, .ref k_first, .ref k_second, .ref k_beforeLast, .ref k_last, .ref k_errandOf, .ref k_errandAfter, .ref k_sound, .ref k_followers, .ref k_leaders, .int (nI w), .int k_errands, .int k_alikes, .int k_law])), (k_times, .inl (cI, 24, .inl f_times)), (k_followers, .inl (cI, 24, .inl f_followers))]) hN hK hP hD [0, 1, 2, 3, 4] (by decide) rfl 0 6 rfl rfl rfl) rfl rfl hl.1 rfl (lv_room (Nat.le_of_ble_eq_true rfl)) dX6_rank_31 ⟨Nat.le_of_ble_eq_true rfl, Nat.le_of_ble_eq_true rfl⟩) (fun r_3 w0 H locs hw hP hD hS => ?_)
      subst hw
      have hP : va_P D vwCl [(k_worth, .inl (cI, 24, .inl f_worth)), (o, .inr (6, [.ref p_said, .int p_latest, .int p_spoken, .int p_earned, .int (nI p_dn), .int p_w, .int p_kept])), (p_said, .inl (cI, 24, .inl f_p_said)), (t, .inr (8, [.ref k_name, .ref k_worth, .ref k_times, .ref k_first, .ref k_second, .ref k_beforeLast, .ref k_last, .ref k_errandOf, .ref k_errandAfter, .ref k_sound, .ref k_followers, .ref k_leaders, .int (nI w), .int k_errands, .int k_alikes, .int k_law])), (k_times, .inl (cI, 24, .inl f_times)), (k_followers, .inl (cI, 24, .inl f_followers))] H := hP
      have hD : va_D A [(k_worth, .inl (cI, 24, .inl f_worth)), (o, .inr (6, [.ref p_said, .int p_latest, .int p_spoken, .int p_earned, .int (nI p_dn), .int p_w, .int p_kept])), (p_said, .inl (cI, 24, .inl f_p_said)), (t, .inr (8, [.ref k_name, .ref k_worth, .ref k_times, .ref k_first, .ref k_second, .ref k_beforeLast, .ref k_last, .ref k_errandOf, .ref k_errandAfter, .ref k_sound, .ref k_followers, .ref k_leaders, .int (nI w), .int k_errands, .int k_alikes, .int k_law])), (k_times, .inl (cI, 24, .inl f_times)), (k_followers, .inl (cI, 24, .inl f_followers))] := hD
      have hP9 := hP.sub (ws' := [(o, .inr (6, [.ref p_said, .int p_latest, .int p_spoken, .int p_earned, .int (nI p_dn), .int p_w, .int p_kept])), (p_said, .inl (cI, 24, .inl f_p_said)), (t, .inr (8, [.ref k_name, .ref k_worth, .ref k_times, .ref k_first, .ref k_second, .ref k_beforeLast, .ref k_last, .ref k_errandOf, .ref k_errandAfter, .ref k_sound, .ref k_followers, .ref k_leaders, .int (nI w), .int k_errands, .int k_alikes, .int k_law])), (k_times, .inl (cI, 24, .inl f_times)), (k_followers, .inl (cI, 24, .inl f_followers)), (k_worth, .inl (cI, 24, .inl f_worth))]) [1, 2, 3, 4, 5, 0] rfl
      have hD9 := hD.sub (ws' := [(o, .inr (6, [.ref p_said, .int p_latest, .int p_spoken, .int p_earned, .int (nI p_dn), .int p_w, .int p_kept])), (p_said, .inl (cI, 24, .inl f_p_said)), (t, .inr (8, [.ref k_name, .ref k_worth, .ref k_times, .ref k_first, .ref k_second, .ref k_beforeLast, .ref k_last, .ref k_errandOf, .ref k_errandAfter, .ref k_sound, .ref k_followers, .ref k_leaders, .int (nI w), .int k_errands, .int k_alikes, .int k_law])), (k_times, .inl (cI, 24, .inl f_times)), (k_followers, .inl (cI, 24, .inl f_followers)), (k_worth, .inl (cI, 24, .inl f_worth))]) [1, 2, 3, 4, 5, 0] (by decide) rfl
      refine W.widen (k := 0) (n := 0) (Nat.le_of_ble_eq_true rfl) (Nat.le_of_ble_eq_true rfl) ?_
      exact W.iret (v := r_3) hx hb hr (fun tz htz hWz => ⟨⟨r_3, [(o, .inr (6, [.ref p_said, .int p_latest, .int p_spoken, .int p_earned, .int (nI p_dn), .int p_w, .int p_kept])), (p_said, .inl (cI, 24, .inl f_p_said)), (t, .inr (8, [.ref k_name, .ref k_worth, .ref k_times, .ref k_first, .ref k_second, .ref k_beforeLast, .ref k_last, .ref k_errandOf, .ref k_errandAfter, .ref k_sound, .ref k_followers, .ref k_leaders, .int (nI w), .int k_errands, .int k_alikes, .int k_law])), (k_times, .inl (cI, 24, .inl f_times)), (k_followers, .inl (cI, 24, .inl f_followers)), (k_worth, .inl (cI, 24, .inl f_worth))], rfl, rfl, by rw [htz]; exact hP9, va_K.moved hWz.alike hK, hD9⟩, hS.F htz⟩) hS.2.2 dX6_rank_34
    · refine xb_top (y := 1) ej ?_
      refine lv_tableIn (off := 34) (tgt := 35) hx hb dX6_rank_1 (by decide) (by decide) (by decide) (by decide) ?_
      refine lv_aload_n hx hb dX6_rank_35 rfl (lv_at hl 0 rfl) ?_
      refine lv_aload_n hx hb dX6_rank_36 rfl (lv_at hl 1 rfl) ?_
      refine lv_iload_n hx hb dX6_rank_37 rfl (lv_at hl 3 rfl) ?_
      refine xCi (wr := [(k_worth, .inl (cI, 24, .inl f_worth))]) (win := [(o, .inr (6, [.ref p_said, .int p_latest, .int p_spoken, .int p_earned, .int (nI p_dn), .int p_w, .int p_kept])), (p_said, .inl (cI, 24, .inl f_p_said)), (t, .inr (8, [.ref k_name, .ref k_worth, .ref k_times, .ref k_first, .ref k_second, .ref k_beforeLast, .ref k_last, .ref k_errandOf, .ref k_errandAfter, .ref k_sound, .ref k_followers, .ref k_leaders, .int (nI w), .int k_errands, .int k_alikes, .int k_law])), (k_times, .inl (cI, 24, .inl f_times)), (k_followers, .inl (cI, 24, .inl f_followers))]) hP hD hS hA [0, 1, 2, 3, 4] [5] rfl rfl (by decide) (by decide) (va_runV (As := [.ref t, .int (nI k)]) (rest := []) ⟨hx, hb, hml, hown, hts⟩ (c_X6_openBehind l D cB cI cJ cS cZ cO s.heap.size o t k p_said p_latest p_spoken p_earned p_dn p_w p_kept f_p_said k_name k_worth k_times k_first k_second k_beforeLast k_last k_errandOf k_errandAfter k_sound k_followers k_leaders w k_errands k_alikes k_law f_times f_followers (by first | assumption | omega | decide) (by first | assumption | omega | decide)) (cwV 2 hts gX6_rank_X6_openBehind rfl rfl rfl (by decide +kernel) ⟨Nat.le_of_ble_eq_true rfl, Nat.le_of_ble_eq_true rfl⟩) (xPreV (win := [(o, .inr (6, [.ref p_said, .int p_latest, .int p_spoken, .int p_earned, .int (nI p_dn), .int p_w, .int p_kept])), (p_said, .inl (cI, 24, .inl f_p_said)), (t, .inr (8, [.ref k_name, .ref k_worth, .ref k_times, .ref k_first, .ref k_second, .ref k_beforeLast, .ref k_last, .ref k_errandOf, .ref k_errandAfter, .ref k_sound, .ref k_followers, .ref k_leaders, .int (nI w), .int k_errands, .int k_alikes, .int k_law])), (k_times, .inl (cI, 24, .inl f_times)), (k_followers, .inl (cI, 24, .inl f_followers))]) hN hK hP hD [0, 1, 2, 3, 4] (by decide) rfl 0 6 rfl rfl rfl) rfl rfl hl.1 rfl (lv_room (Nat.le_of_ble_eq_true rfl)) dX6_rank_38 ⟨Nat.le_of_ble_eq_true rfl, Nat.le_of_ble_eq_true rfl⟩) (fun r_4 w0 H locs hw hP hD hS => ?_)
      subst hw
      have hP : va_P D vwCl [(k_worth, .inl (cI, 24, .inl f_worth)), (o, .inr (6, [.ref p_said, .int p_latest, .int p_spoken, .int p_earned, .int (nI p_dn), .int p_w, .int p_kept])), (p_said, .inl (cI, 24, .inl f_p_said)), (t, .inr (8, [.ref k_name, .ref k_worth, .ref k_times, .ref k_first, .ref k_second, .ref k_beforeLast, .ref k_last, .ref k_errandOf, .ref k_errandAfter, .ref k_sound, .ref k_followers, .ref k_leaders, .int (nI w), .int k_errands, .int k_alikes, .int k_law])), (k_times, .inl (cI, 24, .inl f_times)), (k_followers, .inl (cI, 24, .inl f_followers))] H := hP
      have hD : va_D A [(k_worth, .inl (cI, 24, .inl f_worth)), (o, .inr (6, [.ref p_said, .int p_latest, .int p_spoken, .int p_earned, .int (nI p_dn), .int p_w, .int p_kept])), (p_said, .inl (cI, 24, .inl f_p_said)), (t, .inr (8, [.ref k_name, .ref k_worth, .ref k_times, .ref k_first, .ref k_second, .ref k_beforeLast, .ref k_last, .ref k_errandOf, .ref k_errandAfter, .ref k_sound, .ref k_followers, .ref k_leaders, .int (nI w), .int k_errands, .int k_alikes, .int k_law])), (k_times, .inl (cI, 24, .inl f_times)), (k_followers, .inl (cI, 24, .inl f_followers))] := hD
      refine lv_ineg hx hb dX6_rank_41 ?_
      have hP9 := hP.sub (ws' := [(o, .inr (6, [.ref p_said, .int p_latest, .int p_spoken, .int p_earned, .int (nI p_dn), .int p_w, .int p_kept])), (p_said, .inl (cI, 24, .inl f_p_said)), (t, .inr (8, [.ref k_name, .ref k_worth, .ref k_times, .ref k_first, .ref k_second, .ref k_beforeLast, .ref k_last, .ref k_errandOf, .ref k_errandAfter, .ref k_sound, .ref k_followers, .ref k_leaders, .int (nI w), .int k_errands, .int k_alikes, .int k_law])), (k_times, .inl (cI, 24, .inl f_times)), (k_followers, .inl (cI, 24, .inl f_followers)), (k_worth, .inl (cI, 24, .inl f_worth))]) [1, 2, 3, 4, 5, 0] rfl
      have hD9 := hD.sub (ws' := [(o, .inr (6, [.ref p_said, .int p_latest, .int p_spoken, .int p_earned, .int (nI p_dn), .int p_w, .int p_kept])), (p_said, .inl (cI, 24, .inl f_p_said)), (t, .inr (8, [.ref k_name, .ref k_worth, .ref k_times, .ref k_first, .ref k_second, .ref k_beforeLast, .ref k_last, .ref k_errandOf, .ref k_errandAfter, .ref k_sound, .ref k_followers, .ref k_leaders, .int (nI w), .int k_errands, .int k_alikes, .int k_law])), (k_times, .inl (cI, 24, .inl f_times)), (k_followers, .inl (cI, 24, .inl f_followers)), (k_worth, .inl (cI, 24, .inl f_worth))]) [1, 2, 3, 4, 5, 0] (by decide) rfl
      refine W.widen (k := 0) (n := 0) (Nat.le_of_ble_eq_true rfl) (Nat.le_of_ble_eq_true rfl) ?_
      exact W.iret (v := -r_4) hx hb hr (fun tz htz hWz => ⟨⟨-r_4, [(o, .inr (6, [.ref p_said, .int p_latest, .int p_spoken, .int p_earned, .int (nI p_dn), .int p_w, .int p_kept])), (p_said, .inl (cI, 24, .inl f_p_said)), (t, .inr (8, [.ref k_name, .ref k_worth, .ref k_times, .ref k_first, .ref k_second, .ref k_beforeLast, .ref k_last, .ref k_errandOf, .ref k_errandAfter, .ref k_sound, .ref k_followers, .ref k_leaders, .int (nI w), .int k_errands, .int k_alikes, .int k_law])), (k_times, .inl (cI, 24, .inl f_times)), (k_followers, .inl (cI, 24, .inl f_followers)), (k_worth, .inl (cI, 24, .inl f_worth))], rfl, rfl, by rw [htz]; exact hP9, va_K.moved hWz.alike hK, hD9⟩, hS.F htz⟩) hS.2.2 dX6_rank_42
    · refine xb_top (y := 2) ej ?_
      refine lv_tableIn (off := 42) (tgt := 43) hx hb dX6_rank_1 (by decide) (by decide) (by decide) (by decide) ?_
      refine lv_aload_n hx hb dX6_rank_43 rfl (lv_at hl 1 rfl) ?_
      refine va_getN (D := D) (ci := 8) (v := .ref k_worth) (C := RX8) (T := TX8) (N := 16) hx hb hts (by decide +kernel) hown hK hP 2 rfl rfl 1 (by decide) (va_Nw.use rfl (hN.1 (RX6, 73, RX8, "worth", "[I", RX10) (by decide +kernel))) (fun _ h9 => h9) rfl dX6_rank_44 ?_
      refine lv_iload_n hx hb dX6_rank_47 rfl (lv_at hl 3 rfl) ?_
      refine va_iald hx hb hK hP 5 1 rfl rfl (vp_in_nI (by omega) (by omega)) dX6_rank_48 ?_
      refine xb_top (y := f_worth k) (by rw [nI_clamp (by omega)]) ?_
      have hP9 := hP.sub (ws' := [(o, .inr (6, [.ref p_said, .int p_latest, .int p_spoken, .int p_earned, .int (nI p_dn), .int p_w, .int p_kept])), (p_said, .inl (cI, 24, .inl f_p_said)), (t, .inr (8, [.ref k_name, .ref k_worth, .ref k_times, .ref k_first, .ref k_second, .ref k_beforeLast, .ref k_last, .ref k_errandOf, .ref k_errandAfter, .ref k_sound, .ref k_followers, .ref k_leaders, .int (nI w), .int k_errands, .int k_alikes, .int k_law])), (k_times, .inl (cI, 24, .inl f_times)), (k_followers, .inl (cI, 24, .inl f_followers)), (k_worth, .inl (cI, 24, .inl f_worth))]) [0, 1, 2, 3, 4, 5] rfl
      have hD9 := hD.sub (ws' := [(o, .inr (6, [.ref p_said, .int p_latest, .int p_spoken, .int p_earned, .int (nI p_dn), .int p_w, .int p_kept])), (p_said, .inl (cI, 24, .inl f_p_said)), (t, .inr (8, [.ref k_name, .ref k_worth, .ref k_times, .ref k_first, .ref k_second, .ref k_beforeLast, .ref k_last, .ref k_errandOf, .ref k_errandAfter, .ref k_sound, .ref k_followers, .ref k_leaders, .int (nI w), .int k_errands, .int k_alikes, .int k_law])), (k_times, .inl (cI, 24, .inl f_times)), (k_followers, .inl (cI, 24, .inl f_followers)), (k_worth, .inl (cI, 24, .inl f_worth))]) [0, 1, 2, 3, 4, 5] (by decide) rfl
      refine W.widen (k := 0) (n := 0) (Nat.le_of_ble_eq_true rfl) (Nat.le_of_ble_eq_true rfl) ?_
      exact W.iret (v := f_worth k) hx hb hr (fun tz htz hWz => ⟨⟨f_worth k, [(o, .inr (6, [.ref p_said, .int p_latest, .int p_spoken, .int p_earned, .int (nI p_dn), .int p_w, .int p_kept])), (p_said, .inl (cI, 24, .inl f_p_said)), (t, .inr (8, [.ref k_name, .ref k_worth, .ref k_times, .ref k_first, .ref k_second, .ref k_beforeLast, .ref k_last, .ref k_errandOf, .ref k_errandAfter, .ref k_sound, .ref k_followers, .ref k_leaders, .int (nI w), .int k_errands, .int k_alikes, .int k_law])), (k_times, .inl (cI, 24, .inl f_times)), (k_followers, .inl (cI, 24, .inl f_followers)), (k_worth, .inl (cI, 24, .inl f_worth))], rfl, rfl, by rw [htz]; exact hP9, va_K.moved hWz.alike hK, hD9⟩, hS.F htz⟩) hS.2.2 dX6_rank_49

set_option maxHeartbeats 4000000 in
set_option maxRecDepth 100000 in
theorem c_J6_bitCount_0f7a4 (l : Launch) (D : va_G) (cB cI cJ cS cZ cO : ClassId) (sz : Nat) (x : Int32) : Met l yJ6_bitCount_0f7a4 wsJ6_bitCount_0f7a4 ({ frames := 0, cells := 0, slots := 0, locals := 0 }) (xPre D (tyL cB cI cJ cS cZ cO) [] sz [.int x]) (xQi D (tyL cB cI cJ cS cZ cO) (va_A [] sz) (fun (r : Int32) (u : va_W) => u = [])) 0 0 (va_A [] sz) := by
  refine Met.ofW (cc := cJ6_bitCount_0f7a4) (maxL := 1) (ret := (some .int)) (by decide) rfl ?_
  intro p e s m args below meth c s₁ B hml hv
  obtain ⟨rfl, hsz, hP, hK, hD0, hN⟩ := hv
  have hx := B.exec
  have hb := B.bytes
  have hr := B.returns
  have hts := atoms_spec (ws := wsJ6_bitCount_0f7a4) B.pre
  have hown : s.vm.findClass RJ6 = some m.cls := findClass_of_methodNamed B.named
  have hlocks := B.notSynchronized
  subst hsz
  have hD := hD0.self (sz := s.heap.size)
  generalize hAe : va_A [] s.heap.size = A at hD ⊢
  have hA : ∀ q : Nat, s.heap.size ≤ q → A q := fun q h => by rw [← hAe]; exact Or.inr h
  have hS : va_S A s.heap s.heap [] := va_S.rf
  have hP : va_P D vwCl [] s.heap := hP
  have hl := lv_entry ([.int x]) (n := 1) (Nat.le_of_ble_eq_true rfl)
  rw [lg_entry_eq]
  generalize (lg_sl ([.int x]) ++ List.replicate (1 - (lg_sl ([.int x])).length) Slot.unset).toArray = ls at hl ⊢
  have hl : lv_has ls 1 [(0, .int x)] := hl
  refine lv_iload_n hx hb dJ6_bitCount_0f7a4_0 rfl (lv_at hl 0 rfl) ?_
  refine lv_iload_n hx hb dJ6_bitCount_0f7a4_1 rfl (lv_at hl 0 rfl) ?_
  refine lv_iconst (v := 1) hx hb dJ6_bitCount_0f7a4_2 (by decide) ?_
  refine lv_iushr (v := (x.toUInt32 >>> (Int32.toUInt32 1 &&& Int32.toUInt32 31)).toInt32) hx hb dJ6_bitCount_0f7a4_3 rfl ?_
  refine lv_ldcw (v := 1431655765) hx hb hown (hts (.constant RJ6 265 1431655765) (by decide +kernel)) dJ6_bitCount_0f7a4_4 ?_
  refine lv_iand hx hb dJ6_bitCount_0f7a4_7 ?_
  refine lv_isub hx hb dJ6_bitCount_0f7a4_8 ?_
  refine lv_topi (fun v_1 ev_1 => ?_)
  refine lv_istore_n (lv' := [(0, .int v_1)]) hx hb dJ6_bitCount_0f7a4_9 rfl hl (by decide) rfl (fun ls hl => ?_)
  refine lv_iload_n hx hb dJ6_bitCount_0f7a4_10 rfl (lv_at hl 0 rfl) ?_
  refine lv_ldcw (v := 858993459) hx hb hown (hts (.constant RJ6 266 858993459) (by decide +kernel)) dJ6_bitCount_0f7a4_11 ?_
  refine lv_iand hx hb dJ6_bitCount_0f7a4_14 ?_
  refine lv_iload_n hx hb dJ6_bitCount_0f7a4_15 rfl (lv_at hl 0 rfl) ?_
  refine lv_iconst (v := 2) hx hb dJ6_bitCount_0f7a4_16 (by decide) ?_
  refine lv_iushr (v := (v_1.toUInt32 >>> (Int32.toUInt32 2 &&& Int32.toUInt32 31)).toInt32) hx hb dJ6_bitCount_0f7a4_17 rfl ?_
  refine lv_ldcw (v := 858993459) hx hb hown (hts (.constant RJ6 266 858993459) (by decide +kernel)) dJ6_bitCount_0f7a4_18 ?_
  refine lv_iand hx hb dJ6_bitCount_0f7a4_21 ?_
  refine lv_iadd hx hb dJ6_bitCount_0f7a4_22 ?_
  refine lv_topi (fun v_2 ev_2 => ?_)
  refine lv_istore_n (lv' := [(0, .int v_2)]) hx hb dJ6_bitCount_0f7a4_23 rfl hl (by decide) rfl (fun ls hl => ?_)
  refine lv_iload_n hx hb dJ6_bitCount_0f7a4_24 rfl (lv_at hl 0 rfl) ?_
  refine lv_iload_n hx hb dJ6_bitCount_0f7a4_25 rfl (lv_at hl 0 rfl) ?_
  refine lv_iconst (v := 4) hx hb dJ6_bitCount_0f7a4_26 (by decide) ?_
  refine lv_iushr (v := (v_2.toUInt32 >>> (Int32.toUInt32 4 &&& Int32.toUInt32 31)).toInt32) hx hb dJ6_bitCount_0f7a4_27 rfl ?_
  refine lv_iadd hx hb dJ6_bitCount_0f7a4_28 ?_
  refine lv_ldcw (v := 252645135) hx hb hown (hts (.constant RJ6 267 252645135) (by decide +kernel)) dJ6_bitCount_0f7a4_29 ?_
  refine lv_iand hx hb dJ6_bitCount_0f7a4_32 ?_
  refine lv_topi (fun v_3 ev_3 => ?_)
  refine lv_istore_n (lv' := [(0, .int v_3)]) hx hb dJ6_bitCount_0f7a4_33 rfl hl (by decide) rfl (fun ls hl => ?_)
  refine lv_iload_n hx hb dJ6_bitCount_0f7a4_34 rfl (lv_at hl 0 rfl) ?_
  refine lv_iload_n hx hb dJ6_bitCount_0f7a4_35 rfl (lv_at hl 0 rfl) ?_
  refine lv_bipush (v := 8) hx hb dJ6_bitCount_0f7a4_36 (by decide) ?_
  refine lv_iushr (v := (v_3.toUInt32 >>> (Int32.toUInt32 8 &&& Int32.toUInt32 31)).toInt32) hx hb dJ6_bitCount_0f7a4_38 rfl ?_
  refine lv_iadd hx hb dJ6_bitCount_0f7a4_39 ?_
  refine lv_topi (fun v_4 ev_4 => ?_)
  refine lv_istore_n (lv' := [(0, .int v_4)]) hx hb dJ6_bitCount_0f7a4_40 rfl hl (by decide) rfl (fun ls hl => ?_)
  refine lv_iload_n hx hb dJ6_bitCount_0f7a4_41 rfl (lv_at hl 0 rfl) ?_
  refine lv_iload_n hx hb dJ6_bitCount_0f7a4_42 rfl (lv_at hl 0 rfl) ?_
  refine lv_bipush (v := 16) hx hb dJ6_bitCount_0f7a4_43 (by decide) ?_
  refine lv_iushr (v := (v_4.toUInt32 >>> (Int32.toUInt32 16 &&& Int32.toUInt32 31)).toInt32) hx hb dJ6_bitCount_0f7a4_45 rfl ?_
  refine lv_iadd hx hb dJ6_bitCount_0f7a4_46 ?_
  refine lv_topi (fun v_5 ev_5 => ?_)
  refine lv_istore_n (lv' := [(0, .int v_5)]) hx hb dJ6_bitCount_0f7a4_47 rfl hl (by decide) rfl (fun ls hl => ?_)
  refine lv_iload_n hx hb dJ6_bitCount_0f7a4_48 rfl (lv_at hl 0 rfl) ?_
  refine lv_bipush (v := 63) hx hb dJ6_bitCount_0f7a4_49 (by decide) ?_
  refine lv_iand hx hb dJ6_bitCount_0f7a4_51 ?_
  have hP9 := hP.sub (ws' := []) [] rfl
  have hD9 := hD.sub (ws' := []) [] (by decide) rfl
  refine W.widen (k := 0) (n := 0) (Nat.le_of_ble_eq_true rfl) (Nat.le_of_ble_eq_true rfl) ?_
  exact W.iret (v := v_5 &&& 63) hx hb hr (fun tz htz hWz => ⟨⟨v_5 &&& 63, [], rfl, rfl, by rw [htz]; exact hP9, va_K.moved hWz.alike hK, hD9⟩, hS.F htz⟩) hS.2.2 dJ6_bitCount_0f7a4_52
