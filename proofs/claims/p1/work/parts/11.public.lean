theorem dX10_about_0 : decode cX10_about 0 = .ok (.iload_n 1, 1) := by decide +kernel
theorem dX10_about_1 : decode cX10_about 1 = .ok (.tableswitch 135 0 9 #[55, 63, 71, 79, 87, 95, 103, 111, 119, 127], 55) := by decide +kernel
theorem dX10_about_56 : decode cX10_about 56 = .ok (.aload_n 0, 1) := by decide +kernel
theorem dX10_about_57 : decode cX10_about 57 = .ok (.getfield 81, 3) := by decide +kernel
theorem dX10_about_60 : decode cX10_about 60 = .ok (.getfield 116, 3) := by decide +kernel
theorem dX10_about_63 : decode cX10_about 63 = .ok (.ireturn, 1) := by decide +kernel
theorem dX10_about_64 : decode cX10_about 64 = .ok (.aload_n 0, 1) := by decide +kernel
theorem dX10_about_65 : decode cX10_about 65 = .ok (.getfield 81, 3) := by decide +kernel
theorem dX10_about_68 : decode cX10_about 68 = .ok (.getfield 202, 3) := by decide +kernel
theorem dX10_about_71 : decode cX10_about 71 = .ok (.ireturn, 1) := by decide +kernel
theorem dX10_about_72 : decode cX10_about 72 = .ok (.aload_n 0, 1) := by decide +kernel
theorem dX10_about_73 : decode cX10_about 73 = .ok (.getfield 28, 3) := by decide +kernel
theorem dX10_about_76 : decode cX10_about 76 = .ok (.getfield 148, 3) := by decide +kernel
theorem dX10_about_79 : decode cX10_about 79 = .ok (.ireturn, 1) := by decide +kernel
theorem dX10_about_80 : decode cX10_about 80 = .ok (.aload_n 0, 1) := by decide +kernel
theorem dX10_about_81 : decode cX10_about 81 = .ok (.getfield 28, 3) := by decide +kernel
theorem dX10_about_84 : decode cX10_about 84 = .ok (.getfield 255, 3) := by decide +kernel
theorem dX10_about_87 : decode cX10_about 87 = .ok (.ireturn, 1) := by decide +kernel
theorem dX10_about_88 : decode cX10_about 88 = .ok (.aload_n 0, 1) := by decide +kernel
theorem dX10_about_89 : decode cX10_about 89 = .ok (.getfield 74, 3) := by decide +kernel
theorem dX10_about_92 : decode cX10_about 92 = .ok (.getfield 113, 3) := by decide +kernel
theorem dX10_about_95 : decode cX10_about 95 = .ok (.ireturn, 1) := by decide +kernel
theorem dX10_about_96 : decode cX10_about 96 = .ok (.aload_n 0, 1) := by decide +kernel
theorem dX10_about_97 : decode cX10_about 97 = .ok (.getfield 74, 3) := by decide +kernel
theorem dX10_about_100 : decode cX10_about 100 = .ok (.getfield 234, 3) := by decide +kernel
theorem dX10_about_103 : decode cX10_about 103 = .ok (.ireturn, 1) := by decide +kernel
theorem dX10_about_104 : decode cX10_about 104 = .ok (.aload_n 0, 1) := by decide +kernel
theorem dX10_about_105 : decode cX10_about 105 = .ok (.getfield 12, 3) := by decide +kernel
theorem dX10_about_108 : decode cX10_about 108 = .ok (.getfield 88, 3) := by decide +kernel
theorem dX10_about_111 : decode cX10_about 111 = .ok (.ireturn, 1) := by decide +kernel
theorem dX10_about_112 : decode cX10_about 112 = .ok (.aload_n 0, 1) := by decide +kernel
theorem dX10_about_113 : decode cX10_about 113 = .ok (.getfield 28, 3) := by decide +kernel
theorem dX10_about_116 : decode cX10_about 116 = .ok (.getfield 248, 3) := by decide +kernel
theorem dX10_about_119 : decode cX10_about 119 = .ok (.ireturn, 1) := by decide +kernel
theorem dX10_about_120 : decode cX10_about 120 = .ok (.aload_n 0, 1) := by decide +kernel
theorem dX10_about_121 : decode cX10_about 121 = .ok (.getfield 39, 3) := by decide +kernel
theorem dX10_about_124 : decode cX10_about 124 = .ok (.getfield 110, 3) := by decide +kernel
theorem dX10_about_127 : decode cX10_about 127 = .ok (.ireturn, 1) := by decide +kernel
theorem dX10_about_128 : decode cX10_about 128 = .ok (.aload_n 0, 1) := by decide +kernel
theorem dX10_about_129 : decode cX10_about 129 = .ok (.getfield 28, 3) := by decide +kernel
theorem dX10_about_132 : decode cX10_about 132 = .ok (.getfield 258, 3) := by decide +kernel
theorem dX10_about_135 : decode cX10_about 135 = .ok (.ireturn, 1) := by decide +kernel
theorem dX10_about_136 : decode cX10_about 136 = .ok (.iconst (-1), 1) := by decide +kernel
theorem dX10_about_137 : decode cX10_about 137 = .ok (.ireturn, 1) := by decide +kernel
theorem dX10_back_0 : decode cX10_back 0 = .ok (.iload_n 1, 1) := by decide +kernel
theorem dX10_back_1 : decode cX10_back 1 = .ok (.ifCond .lt 20, 3) := by decide +kernel
theorem dX10_back_4 : decode cX10_back 4 = .ok (.iload_n 1, 1) := by decide +kernel
theorem dX10_back_5 : decode cX10_back 5 = .ok (.iconst 3, 1) := by decide +kernel
theorem dX10_back_6 : decode cX10_back 6 = .ok (.if_icmp .ge 15, 3) := by decide +kernel
theorem dX10_back_9 : decode cX10_back 9 = .ok (.aload_n 0, 1) := by decide +kernel
theorem dX10_back_10 : decode cX10_back 10 = .ok (.getfield 32, 3) := by decide +kernel
theorem dX10_back_13 : decode cX10_back 13 = .ok (.iload_n 1, 1) := by decide +kernel
theorem dX10_back_14 : decode cX10_back 14 = .ok (.aaload, 1) := by decide +kernel
theorem dX10_back_15 : decode cX10_back 15 = .ok (.getfield 106, 3) := by decide +kernel
theorem dX10_back_18 : decode cX10_back 18 = .ok (.ifCond .ne 5, 3) := by decide +kernel
theorem dX10_back_21 : decode cX10_back 21 = .ok (.iconst (-1), 1) := by decide +kernel
theorem dX10_back_22 : decode cX10_back 22 = .ok (.ireturn, 1) := by decide +kernel
theorem dX10_can_0 : decode cX10_can 0 = .ok (.iload_n 1, 1) := by decide +kernel
theorem dX10_can_1 : decode cX10_can 1 = .ok (.iconst 1, 1) := by decide +kernel
theorem dX10_can_2 : decode cX10_can 2 = .ok (.if_icmp .lt 18, 3) := by decide +kernel
theorem dX10_can_5 : decode cX10_can 5 = .ok (.iload_n 1, 1) := by decide +kernel
theorem dX10_can_6 : decode cX10_can 6 = .ok (.bipush 12, 2) := by decide +kernel
theorem dX10_can_8 : decode cX10_can 8 = .ok (.if_icmp .gt 12, 3) := by decide +kernel
theorem dX10_can_11 : decode cX10_can 11 = .ok (.iload_n 2, 1) := by decide +kernel
theorem dX10_can_12 : decode cX10_can 12 = .ok (.ifCond .lt 8, 3) := by decide +kernel
theorem dX10_can_15 : decode cX10_can 15 = .ok (.iload_n 2, 1) := by decide +kernel
theorem dX10_can_16 : decode cX10_can 16 = .ok (.iload_n 1, 1) := by decide +kernel
theorem dX10_can_17 : decode cX10_can 17 = .ok (.if_icmp .lt 5, 3) := by decide +kernel
theorem dX10_can_20 : decode cX10_can 20 = .ok (.iconst (-1), 1) := by decide +kernel
theorem dX10_can_21 : decode cX10_can 21 = .ok (.ireturn, 1) := by decide +kernel
theorem dX10_can_22 : decode cX10_can 22 = .ok (.aload_n 0, 1) := by decide +kernel
theorem dX10_can_23 : decode cX10_can 23 = .ok (.getfield 74, 3) := by decide +kernel
theorem dX10_can_26 : decode cX10_can 26 = .ok (.aload_n 0, 1) := by decide +kernel
theorem dX10_can_27 : decode cX10_can 27 = .ok (.getfield 81, 3) := by decide +kernel
theorem dX10_can_30 : decode cX10_can 30 = .ok (.iload_n 1, 1) := by decide +kernel
theorem dX10_can_31 : decode cX10_can 31 = .ok (.iload_n 2, 1) := by decide +kernel
theorem dX10_can_32 : decode cX10_can 32 = .ok (.iload_n 3, 1) := by decide +kernel
theorem dX10_can_33 : decode cX10_can 33 = .ok (.invokevirtual 244, 3) := by decide +kernel
theorem dX10_can_36 : decode cX10_can 36 = .ok (.ireturn, 1) := by decide +kernel
theorem dX10_fits_0 : decode cX10_fits 0 = .ok (.iload_n 1, 1) := by decide +kernel
theorem dX10_fits_1 : decode cX10_fits 1 = .ok (.iconst 1, 1) := by decide +kernel
theorem dX10_fits_2 : decode cX10_fits 2 = .ok (.if_icmp .lt 9, 3) := by decide +kernel
theorem dX10_fits_5 : decode cX10_fits 5 = .ok (.iload_n 1, 1) := by decide +kernel
theorem dX10_fits_6 : decode cX10_fits 6 = .ok (.bipush 12, 2) := by decide +kernel
theorem dX10_fits_8 : decode cX10_fits 8 = .ok (.if_icmp .le 7, 3) := by decide +kernel
theorem dX10_fits_11 : decode cX10_fits 11 = .ok (.ldc2_w 238, 3) := by decide +kernel
theorem dX10_fits_14 : decode cX10_fits 14 = .ok (.lreturn, 1) := by decide +kernel
theorem dX10_fits_15 : decode cX10_fits 15 = .ok (.aload_n 0, 1) := by decide +kernel
theorem dX10_fits_16 : decode cX10_fits 16 = .ok (.getfield 74, 3) := by decide +kernel
theorem dX10_fits_19 : decode cX10_fits 19 = .ok (.aload_n 0, 1) := by decide +kernel
theorem dX10_fits_20 : decode cX10_fits 20 = .ok (.getfield 81, 3) := by decide +kernel
theorem dX10_fits_23 : decode cX10_fits 23 = .ok (.iload_n 1, 1) := by decide +kernel
theorem dX10_fits_24 : decode cX10_fits 24 = .ok (.iload_n 2, 1) := by decide +kernel
theorem dX10_fits_25 : decode cX10_fits 25 = .ok (.invokevirtual 240, 3) := by decide +kernel
theorem dX10_fits_28 : decode cX10_fits 28 = .ok (.lreturn, 1) := by decide +kernel
theorem dX10_hear_0 : decode cX10_hear 0 = .ok (.iload_n 1, 1) := by decide +kernel
theorem dX10_hear_1 : decode cX10_hear 1 = .ok (.ifCond .lt 18, 3) := by decide +kernel
theorem dX10_hear_4 : decode cX10_hear 4 = .ok (.iload_n 1, 1) := by decide +kernel
theorem dX10_hear_5 : decode cX10_hear 5 = .ok (.bipush 12, 2) := by decide +kernel
theorem dX10_hear_7 : decode cX10_hear 7 = .ok (.if_icmp .ge 12, 3) := by decide +kernel
theorem dX10_hear_10 : decode cX10_hear 10 = .ok (.iload_n 2, 1) := by decide +kernel
theorem dX10_hear_11 : decode cX10_hear 11 = .ok (.ifCond .lt 8, 3) := by decide +kernel
theorem dX10_hear_14 : decode cX10_hear 14 = .ok (.iload_n 2, 1) := by decide +kernel
theorem dX10_hear_15 : decode cX10_hear 15 = .ok (.iconst 2, 1) := by decide +kernel
theorem dX10_hear_16 : decode cX10_hear 16 = .ok (.if_icmp .le 5, 3) := by decide +kernel
theorem dX10_hear_19 : decode cX10_hear 19 = .ok (.iconst (-1), 1) := by decide +kernel
theorem dX10_hear_20 : decode cX10_hear 20 = .ok (.ireturn, 1) := by decide +kernel
theorem dX10_hear_21 : decode cX10_hear 21 = .ok (.iload_n 2, 1) := by decide +kernel
theorem dX10_hear_22 : decode cX10_hear 22 = .ok (.ifCond .ne 13, 3) := by decide +kernel
theorem dX10_hear_25 : decode cX10_hear 25 = .ok (.aload_n 0, 1) := by decide +kernel
theorem dX10_hear_26 : decode cX10_hear 26 = .ok (.getfield 81, 3) := by decide +kernel
theorem dX10_hear_29 : decode cX10_hear 29 = .ok (.getfield 116, 3) := by decide +kernel
theorem dX10_hear_32 : decode cX10_hear 32 = .ok (.goto 5, 3) := by decide +kernel
theorem dX10_hear_35 : decode cX10_hear 35 = .ok (.bipush 26, 2) := by decide +kernel
theorem dX10_hear_37 : decode cX10_hear 37 = .ok (.istore 4, 2) := by decide +kernel
theorem dX10_hear_39 : decode cX10_hear 39 = .ok (.iload_n 3, 1) := by decide +kernel
theorem dX10_hear_40 : decode cX10_hear 40 = .ok (.ifCond .lt 21, 3) := by decide +kernel
theorem dX10_hear_43 : decode cX10_hear 43 = .ok (.iload_n 3, 1) := by decide +kernel
theorem dX10_hear_44 : decode cX10_hear 44 = .ok (.iload 4, 2) := by decide +kernel
theorem dX10_hear_46 : decode cX10_hear 46 = .ok (.if_icmp .ge 15, 3) := by decide +kernel
theorem dX10_hear_49 : decode cX10_hear 49 = .ok (.aload_n 0, 1) := by decide +kernel
theorem dX10_hear_50 : decode cX10_hear 50 = .ok (.getfield 74, 3) := by decide +kernel
theorem dX10_hear_53 : decode cX10_hear 53 = .ok (.getfield 113, 3) := by decide +kernel
theorem dX10_hear_56 : decode cX10_hear 56 = .ok (.bipush 30, 2) := by decide +kernel
theorem dX10_hear_58 : decode cX10_hear 58 = .ok (.if_icmp .lt 5, 3) := by decide +kernel
theorem dX10_hear_61 : decode cX10_hear 61 = .ok (.iconst (-1), 1) := by decide +kernel
theorem dX10_hear_62 : decode cX10_hear 62 = .ok (.ireturn, 1) := by decide +kernel
theorem dX10_hear_63 : decode cX10_hear 63 = .ok (.aload_n 0, 1) := by decide +kernel
theorem dX10_hear_64 : decode cX10_hear 64 = .ok (.getfield 74, 3) := by decide +kernel
theorem dX10_hear_67 : decode cX10_hear 67 = .ok (.iload_n 1, 1) := by decide +kernel
theorem dX10_hear_68 : decode cX10_hear 68 = .ok (.iload_n 2, 1) := by decide +kernel
theorem dX10_hear_69 : decode cX10_hear 69 = .ok (.iload_n 3, 1) := by decide +kernel
theorem dX10_hear_70 : decode cX10_hear 70 = .ok (.invokevirtual 227, 3) := by decide +kernel
theorem dX10_hear_73 : decode cX10_hear 73 = .ok (.ireturn, 1) := by decide +kernel
theorem dX10_image_0 : decode cX10_image 0 = .ok (.iload_n 1, 1) := by decide +kernel
theorem dX10_image_1 : decode cX10_image 1 = .ok (.ifCond .lt 8, 3) := by decide +kernel
theorem dX10_image_4 : decode cX10_image 4 = .ok (.iload_n 1, 1) := by decide +kernel
theorem dX10_image_5 : decode cX10_image 5 = .ok (.iconst 3, 1) := by decide +kernel
theorem dX10_image_6 : decode cX10_image 6 = .ok (.if_icmp .lt 5, 3) := by decide +kernel
theorem dX10_image_9 : decode cX10_image 9 = .ok (.iconst (-1), 1) := by decide +kernel
theorem dX10_image_10 : decode cX10_image 10 = .ok (.ireturn, 1) := by decide +kernel
theorem dX10_image_11 : decode cX10_image 11 = .ok (.aload_n 0, 1) := by decide +kernel
theorem dX10_image_12 : decode cX10_image 12 = .ok (.getfield 32, 3) := by decide +kernel
theorem dX10_image_15 : decode cX10_image 15 = .ok (.iload_n 1, 1) := by decide +kernel
theorem dX10_image_16 : decode cX10_image 16 = .ok (.aaload, 1) := by decide +kernel
theorem dX10_image_17 : decode cX10_image 17 = .ok (.aload_n 0, 1) := by decide +kernel
theorem dX10_image_18 : decode cX10_image 18 = .ok (.getfield 28, 3) := by decide +kernel
theorem dX10_image_21 : decode cX10_image 21 = .ok (.invokevirtual 251, 3) := by decide +kernel
theorem dX10_image_24 : decode cX10_image 24 = .ok (.aload_n 0, 1) := by decide +kernel
theorem dX10_image_25 : decode cX10_image 25 = .ok (.getfield 32, 3) := by decide +kernel
theorem dX10_image_28 : decode cX10_image 28 = .ok (.iload_n 1, 1) := by decide +kernel
theorem dX10_image_29 : decode cX10_image 29 = .ok (.aaload, 1) := by decide +kernel
theorem dX10_image_30 : decode cX10_image 30 = .ok (.iconst 1, 1) := by decide +kernel
theorem dX10_image_31 : decode cX10_image 31 = .ok (.putfield 106, 3) := by decide +kernel
theorem dX10_image_34 : decode cX10_image 34 = .ok (.aload_n 0, 1) := by decide +kernel
theorem dX10_image_35 : decode cX10_image 35 = .ok (.getfield 28, 3) := by decide +kernel
theorem dX10_image_38 : decode cX10_image 38 = .ok (.getfield 148, 3) := by decide +kernel
theorem dX10_image_41 : decode cX10_image 41 = .ok (.ireturn, 1) := by decide +kernel
theorem dX10_later_0 : decode cX10_later 0 = .ok (.iload_n 1, 1) := by decide +kernel
theorem dX10_later_1 : decode cX10_later 1 = .ok (.ifCond .lt 24, 3) := by decide +kernel
theorem dX10_later_4 : decode cX10_later 4 = .ok (.iload_n 1, 1) := by decide +kernel
theorem dX10_later_5 : decode cX10_later 5 = .ok (.sipush 1000, 3) := by decide +kernel
theorem dX10_later_8 : decode cX10_later 8 = .ok (.if_icmp .gt 17, 3) := by decide +kernel
theorem dX10_later_11 : decode cX10_later 11 = .ok (.aload_n 0, 1) := by decide +kernel
theorem dX10_later_12 : decode cX10_later 12 = .ok (.getfield 74, 3) := by decide +kernel
theorem dX10_later_15 : decode cX10_later 15 = .ok (.getfield 234, 3) := by decide +kernel
theorem dX10_later_18 : decode cX10_later 18 = .ok (.iload_n 1, 1) := by decide +kernel
theorem dX10_later_19 : decode cX10_later 19 = .ok (.iadd, 1) := by decide +kernel
theorem dX10_later_20 : decode cX10_later 20 = .ok (.ldc 237, 2) := by decide +kernel
theorem dX10_later_22 : decode cX10_later 22 = .ok (.if_icmp .le 5, 3) := by decide +kernel
theorem dX10_later_25 : decode cX10_later 25 = .ok (.iconst (-1), 1) := by decide +kernel
theorem dX10_later_26 : decode cX10_later 26 = .ok (.ireturn, 1) := by decide +kernel
theorem dX10_later_27 : decode cX10_later 27 = .ok (.aload_n 0, 1) := by decide +kernel
theorem dX10_later_28 : decode cX10_later 28 = .ok (.getfield 74, 3) := by decide +kernel
theorem dX10_later_31 : decode cX10_later 31 = .ok (.dup, 1) := by decide +kernel
theorem dX10_later_32 : decode cX10_later 32 = .ok (.getfield 234, 3) := by decide +kernel
theorem dX10_later_35 : decode cX10_later 35 = .ok (.iload_n 1, 1) := by decide +kernel
theorem dX10_later_36 : decode cX10_later 36 = .ok (.iadd, 1) := by decide +kernel
theorem dX10_later_37 : decode cX10_later 37 = .ok (.putfield 234, 3) := by decide +kernel
theorem dX10_later_40 : decode cX10_later 40 = .ok (.aload_n 0, 1) := by decide +kernel
theorem dX10_later_41 : decode cX10_later 41 = .ok (.getfield 74, 3) := by decide +kernel
theorem dX10_later_44 : decode cX10_later 44 = .ok (.getfield 234, 3) := by decide +kernel
theorem dX10_later_47 : decode cX10_later 47 = .ok (.ireturn, 1) := by decide +kernel
theorem dX10_seed_0 : decode cX10_seed 0 = .ok (.aload_n 0, 1) := by decide +kernel
theorem dX10_seed_1 : decode cX10_seed 1 = .ok (.getfield 28, 3) := by decide +kernel
theorem dX10_seed_4 : decode cX10_seed 4 = .ok (.getfield 248, 3) := by decide +kernel
theorem dX10_seed_7 : decode cX10_seed 7 = .ok (.istore_n 2, 1) := by decide +kernel
theorem dX10_seed_8 : decode cX10_seed 8 = .ok (.aload_n 0, 1) := by decide +kernel
theorem dX10_seed_9 : decode cX10_seed 9 = .ok (.getfield 28, 3) := by decide +kernel
theorem dX10_seed_12 : decode cX10_seed 12 = .ok (.iload_n 1, 1) := by decide +kernel
theorem dX10_seed_13 : decode cX10_seed 13 = .ok (.putfield 248, 3) := by decide +kernel
theorem dX10_seed_16 : decode cX10_seed 16 = .ok (.iload_n 2, 1) := by decide +kernel
theorem dX10_seed_17 : decode cX10_seed 17 = .ok (.ireturn, 1) := by decide +kernel
theorem dX10_untell_0 : decode cX10_untell 0 = .ok (.aload_n 0, 1) := by decide +kernel
theorem dX10_untell_1 : decode cX10_untell 1 = .ok (.getfield 74, 3) := by decide +kernel
theorem dX10_untell_4 : decode cX10_untell 4 = .ok (.iload_n 1, 1) := by decide +kernel
theorem dX10_untell_5 : decode cX10_untell 5 = .ok (.invokevirtual 231, 3) := by decide +kernel
theorem dX10_untell_8 : decode cX10_untell 8 = .ok (.ireturn, 1) := by decide +kernel
set_option maxRecDepth 20000 in
theorem ggX10_can_X9_standAt : GoodIn wsX10_can wsX9_standAt := goodIn_r _ [7, 8, 9, 10, 11, 6, 12, 13, 14, 15, 16, 17, 18, 19, 20, 21, 22, 23, 24, 25, 26, 27, 28, 29, 30, 31, 32, 33, 34, 35, 36, 37, 38, 39, 52, 53, 54, 55, 56, 57, 58, 59, 60, 61, 62, 63, 64, 65, 66, 67, 68, 69, 70, 71, 72, 73, 74, 75, 76, 77] (by decide +kernel) (by decide +kernel)
set_option maxRecDepth 20000 in
theorem gX10_can_X9_standAt : GoodIn wsX10_can (wsV RX10 244 RX9 yX9_standAt wsX9_standAt) := goodIn_app (goodIn_of _ (by decide +kernel)) ggX10_can_X9_standAt
set_option maxRecDepth 20000 in
theorem ggX10_fits_X9_countRows : GoodIn wsX10_fits wsX9_countRows := goodIn_r _ [8, 9, 10, 11, 12, 13, 14, 15, 16, 17, 18, 19, 7, 20, 21, 22, 23, 24, 25, 26, 27, 28, 29, 30, 31, 32, 33, 34, 35, 36, 37, 38, 39, 40, 41, 42, 43, 44, 45, 46, 47, 60, 61, 62, 63, 64, 65, 66, 67, 68, 69, 70, 71, 72, 73, 74, 75, 76, 77, 78, 79, 80, 81, 82, 83, 84, 85] (by decide +kernel) (by decide +kernel)
set_option maxRecDepth 20000 in
theorem gX10_fits_X9_countRows : GoodIn wsX10_fits (wsV RX10 240 RX9 yX9_countRows wsX9_countRows) := goodIn_app (goodIn_of _ (by decide +kernel)) ggX10_fits_X9_countRows
set_option maxRecDepth 20000 in
theorem ggX10_hear_X9_add : GoodIn wsX10_hear wsX9_add := goodIn_r _ [7, 8, 9, 10, 11, 12, 13, 14, 43, 44, 45, 46, 47, 48, 49, 50, 51, 52] (by decide +kernel) (by decide +kernel)
set_option maxRecDepth 20000 in
theorem gX10_hear_X9_add : GoodIn wsX10_hear (wsV RX10 227 RX9 yX9_add wsX9_add) := goodIn_app (goodIn_of _ (by decide +kernel)) ggX10_hear_X9_add
set_option maxRecDepth 20000 in
theorem ggX10_image_X6_copy : GoodIn wsX10_image wsX6_copy := goodIn_r _ [7, 8, 9, 10, 11, 12, 13, 14, 15, 16, 17, 30, 31, 32, 33, 34, 35, 36] (by decide +kernel) (by decide +kernel)
set_option maxRecDepth 20000 in
theorem gX10_image_X6_copy : GoodIn wsX10_image (wsV RX10 251 RX6 yX6_copy wsX6_copy) := goodIn_app (goodIn_of _ (by decide +kernel)) ggX10_image_X6_copy
set_option maxRecDepth 20000 in
theorem ggX10_untell_X9_takeBack : GoodIn wsX10_untell wsX9_takeBack := goodIn_r _ [6, 7, 8, 9, 22, 23, 24, 25, 26, 27, 28, 29, 30, 31] (by decide +kernel) (by decide +kernel)
set_option maxRecDepth 20000 in
theorem gX10_untell_X9_takeBack : GoodIn wsX10_untell (wsV RX10 231 RX9 yX9_takeBack wsX9_takeBack) := goodIn_app (goodIn_of _ (by decide +kernel)) ggX10_untell_X9_takeBack
set_option maxHeartbeats 4000000 in
set_option maxRecDepth 100000 in
theorem p_X10_hear (l : Launch) (D : va_G) (cB cI cJ cS cZ cO : ClassId) (sz : Nat) (o : Nat) (x : Int32) (y : Int32) (z : Int32) (tp : Nat) (rd : Nat) (pr : Nat) (bx : Nat) (rw : Nat) (lt : Nat) (od : Nat) (se : Nat) (gm : Nat) (wl : Nat) (cu : Nat) (sp : Nat) (cu_name : Nat) (cu_worth : Nat) (cu_times : Nat) (cu_first : Nat) (cu_second : Nat) (cu_beforeLast : Nat) (cu_last : Nat) (cu_errandOf : Nat) (cu_errandAfter : Nat) (cu_sound : Nat) (cu_followers : Nat) (cu_leaders : Nat) (wl_places : Nat) (wl_kinds : Nat) (wl_values : Nat) (wl_toldAt : Nat) (wl_untoldAt : Nat) (wl_standing : Nat) (wl_rows : Nat) (wl_longer : Nat) (fwl_places : Nat → Int32) (fwl_kinds : Nat → Int32) (fwl_values : Nat → Int32) (fwl_toldAt : Nat → Int32) (fwl_untoldAt : Nat → Int32) : Met l yX10_hear wsX10_hear ({ frames := 1, cells := 0, slots := 0, locals := 24 }) (xPre D (tyL cB cI cJ cS cZ cO) [(o, .inr (10, [.ref tp, .ref rd, .ref pr, .ref bx, .ref rw, .ref lt, .ref od, .ref se, .ref gm, .ref wl, .ref cu, .ref sp])), (cu, .inr (8, [.ref cu_name, .ref cu_worth, .ref cu_times, .ref cu_first, .ref cu_second, .ref cu_beforeLast, .ref cu_last, .ref cu_errandOf, .ref cu_errandAfter, .ref cu_sound, .ref cu_followers, .ref cu_leaders, .int 0, .int 0, .int 0, .int (-1)])), (wl, .inr (9, [.ref wl_places, .ref wl_kinds, .ref wl_values, .ref wl_toldAt, .ref wl_untoldAt, .ref wl_standing, .ref wl_rows, .ref wl_longer, .int 0, .int 0])), (wl_places, .inl (cI, 30, .inl fwl_places)), (wl_kinds, .inl (cI, 30, .inl fwl_kinds)), (wl_values, .inl (cI, 30, .inl fwl_values)), (wl_toldAt, .inl (cI, 30, .inl fwl_toldAt)), (wl_untoldAt, .inl (cI, 30, .inl fwl_untoldAt))] sz [.ref o, .int x, .int y, .int z]) (xQi D (tyL cB cI cJ cS cZ cO) (va_A [(o, .inr (10, [.ref tp, .ref rd, .ref pr, .ref bx, .ref rw, .ref lt, .ref od, .ref se, .ref gm, .ref wl, .ref cu, .ref sp])), (cu, .inr (8, [.ref cu_name, .ref cu_worth, .ref cu_times, .ref cu_first, .ref cu_second, .ref cu_beforeLast, .ref cu_last, .ref cu_errandOf, .ref cu_errandAfter, .ref cu_sound, .ref cu_followers, .ref cu_leaders, .int 0, .int 0, .int 0, .int (-1)])), (wl, .inr (9, [.ref wl_places, .ref wl_kinds, .ref wl_values, .ref wl_toldAt, .ref wl_untoldAt, .ref wl_standing, .ref wl_rows, .ref wl_longer, .int 0, .int 0])), (wl_places, .inl (cI, 30, .inl fwl_places)), (wl_kinds, .inl (cI, 30, .inl fwl_kinds)), (wl_values, .inl (cI, 30, .inl fwl_values)), (wl_toldAt, .inl (cI, 30, .inl fwl_toldAt)), (wl_untoldAt, .inl (cI, 30, .inl fwl_untoldAt))] sz) (fun (r : Int32) (u : va_W) => u = [] ∧ r = if (0 ≤ x ∧ x ≤ 11) ∧ (y = 1 ∨ y = 2) ∧ (0 ≤ z ∧ z ≤ 25) then 0 else (-1))) 0 0 (va_A [(o, .inr (10, [.ref tp, .ref rd, .ref pr, .ref bx, .ref rw, .ref lt, .ref od, .ref se, .ref gm, .ref wl, .ref cu, .ref sp])), (cu, .inr (8, [.ref cu_name, .ref cu_worth, .ref cu_times, .ref cu_first, .ref cu_second, .ref cu_beforeLast, .ref cu_last, .ref cu_errandOf, .ref cu_errandAfter, .ref cu_sound, .ref cu_followers, .ref cu_leaders, .int 0, .int 0, .int 0, .int (-1)])), (wl, .inr (9, [.ref wl_places, .ref wl_kinds, .ref wl_values, .ref wl_toldAt, .ref wl_untoldAt, .ref wl_standing, .ref wl_rows, .ref wl_longer, .int 0, .int 0])), (wl_places, .inl (cI, 30, .inl fwl_places)), (wl_kinds, .inl (cI, 30, .inl fwl_kinds)), (wl_values, .inl (cI, 30, .inl fwl_values)), (wl_toldAt, .inl (cI, 30, .inl fwl_toldAt)), (wl_untoldAt, .inl (cI, 30, .inl fwl_untoldAt))] sz) := by
  refine Met.ofW (cc := cX10_hear) (maxL := 5) (ret := (some .int)) (by decide) rfl ?_
  intro p e s m args below meth c s₁ B hml hv
  obtain ⟨rfl, hsz, hP, hK, hD0, hN⟩ := hv
  have hx := B.exec
  have hb := B.bytes
  have hr := B.returns
  have hts := atoms_spec (ws := wsX10_hear) B.pre
  have hown : s.vm.findClass RX10 = some m.cls := findClass_of_methodNamed B.named
  have hlocks := B.notSynchronized
  subst hsz
  have hD := hD0.self (sz := s.heap.size)
  generalize hAe : va_A [(o, .inr (10, [.ref tp, .ref rd, .ref pr, .ref bx, .ref rw, .ref lt, .ref od, .ref se, .ref gm, .ref wl, .ref cu, .ref sp])), (cu, .inr (8, [.ref cu_name, .ref cu_worth, .ref cu_times, .ref cu_first, .ref cu_second, .ref cu_beforeLast, .ref cu_last, .ref cu_errandOf, .ref cu_errandAfter, .ref cu_sound, .ref cu_followers, .ref cu_leaders, .int 0, .int 0, .int 0, .int (-1)])), (wl, .inr (9, [.ref wl_places, .ref wl_kinds, .ref wl_values, .ref wl_toldAt, .ref wl_untoldAt, .ref wl_standing, .ref wl_rows, .ref wl_longer, .int 0, .int 0])), (wl_places, .inl (cI, 30, .inl fwl_places)), (wl_kinds, .inl (cI, 30, .inl fwl_kinds)), (wl_values, .inl (cI, 30, .inl fwl_values)), (wl_toldAt, .inl (cI, 30, .inl fwl_toldAt)), (wl_untoldAt, .inl (cI, 30, .inl fwl_untoldAt))] s.heap.size = A at hD ⊢
  have hA : ∀ q : Nat, s.heap.size ≤ q → A q := fun q h => by rw [← hAe]; exact Or.inr h
  have hS : va_S A s.heap s.heap [] := va_S.rf
  have hP : va_P D vwCl [(o, .inr (10, [.ref tp, .ref rd, .ref pr, .ref bx, .ref rw, .ref lt, .ref od, .ref se, .ref gm, .ref wl, .ref cu, .ref sp])), (cu, .inr (8, [.ref cu_name, .ref cu_worth, .ref cu_times, .ref cu_first, .ref cu_second, .ref cu_beforeLast, .ref cu_last, .ref cu_errandOf, .ref cu_errandAfter, .ref cu_sound, .ref cu_followers, .ref cu_leaders, .int 0, .int 0, .int 0, .int (-1)])), (wl, .inr (9, [.ref wl_places, .ref wl_kinds, .ref wl_values, .ref wl_toldAt, .ref wl_untoldAt, .ref wl_standing, .ref wl_rows, .ref wl_longer, .int 0, .int 0])), (wl_places, .inl (cI, 30, .inl fwl_places)), (wl_kinds, .inl (cI, 30, .inl fwl_kinds)), (wl_values, .inl (cI, 30, .inl fwl_values)), (wl_toldAt, .inl (cI, 30, .inl fwl_toldAt)), (wl_untoldAt, .inl (cI, 30, .inl fwl_untoldAt))] s.heap := hP
  have hl := lv_entry ([.ref o, .int x, .int y, .int z]) (n := 5) (Nat.le_of_ble_eq_true rfl)
  rw [lg_entry_eq]
  generalize (lg_sl ([.ref o, .int x, .int y, .int z]) ++ List.replicate (5 - (lg_sl ([.ref o, .int x, .int y, .int z])).length) Slot.unset).toArray = ls at hl ⊢
  have hl : lv_has ls 5 [(0, .ref o), (1, .int x), (2, .int y), (3, .int z)] := hl
  refine lv_iload_n hx hb dX10_hear_0 rfl (lv_at hl 1 rfl) ?_
  refine lv_if_lt (tgt := 19) hx hb dX10_hear_1 (by decide) (fun c_1 => ?_) (fun c_1 => ?_)
  · refine lv_iconst (v := (-1)) hx hb dX10_hear_19 (by decide) ?_
    have hP9 := hP.sub (ws' := []) [] rfl
    have hD9 := hD.sub (ws' := []) [] (by decide) rfl
    refine W.widen (k := 0) (n := 0) (Nat.le_of_ble_eq_true rfl) (Nat.le_of_ble_eq_true rfl) ?_
    exact W.iret (v := (-1)) hx hb hr (fun tz htz hWz => ⟨⟨(-1), [], rfl, ⟨rfl, (by grind)⟩, by rw [htz]; exact hP9, va_K.moved hWz.alike hK, hD9⟩, hS.F htz⟩) hS.2.2 dX10_hear_20
  · refine lv_iload_n hx hb dX10_hear_4 rfl (lv_at hl 1 rfl) ?_
    refine lv_bipush (v := 12) hx hb dX10_hear_5 (by decide) ?_
    refine lv_icmp_ge (tgt := 19) hx hb dX10_hear_7 (by decide) (fun c_2 => ?_) (fun c_2 => ?_)
    · refine lv_iconst (v := (-1)) hx hb dX10_hear_19 (by decide) ?_
      have hP9 := hP.sub (ws' := []) [] rfl
      have hD9 := hD.sub (ws' := []) [] (by decide) rfl
      refine W.widen (k := 0) (n := 0) (Nat.le_of_ble_eq_true rfl) (Nat.le_of_ble_eq_true rfl) ?_
      exact W.iret (v := (-1)) hx hb hr (fun tz htz hWz => ⟨⟨(-1), [], rfl, ⟨rfl, (by grind)⟩, by rw [htz]; exact hP9, va_K.moved hWz.alike hK, hD9⟩, hS.F htz⟩) hS.2.2 dX10_hear_20
    · refine lv_iload_n hx hb dX10_hear_10 rfl (lv_at hl 2 rfl) ?_
      refine lv_if_lt (tgt := 19) hx hb dX10_hear_11 (by decide) (fun c_3 => ?_) (fun c_3 => ?_)
      · refine lv_iconst (v := (-1)) hx hb dX10_hear_19 (by decide) ?_
        have hP9 := hP.sub (ws' := []) [] rfl
        have hD9 := hD.sub (ws' := []) [] (by decide) rfl
        refine W.widen (k := 0) (n := 0) (Nat.le_of_ble_eq_true rfl) (Nat.le_of_ble_eq_true rfl) ?_
        exact W.iret (v := (-1)) hx hb hr (fun tz htz hWz => ⟨⟨(-1), [], rfl, ⟨rfl, (by grind)⟩, by rw [htz]; exact hP9, va_K.moved hWz.alike hK, hD9⟩, hS.F htz⟩) hS.2.2 dX10_hear_20
      · refine lv_iload_n hx hb dX10_hear_14 rfl (lv_at hl 2 rfl) ?_
        refine lv_iconst (v := 2) hx hb dX10_hear_15 (by decide) ?_
        refine lv_icmp_le (tgt := 21) hx hb dX10_hear_16 (by decide) (fun c_4 => ?_) (fun c_4 => ?_)
        · refine lv_iload_n hx hb dX10_hear_21 rfl (lv_at hl 2 rfl) ?_
          refine lv_if_ne (tgt := 35) hx hb dX10_hear_22 (by decide) (fun c_5 => ?_) (fun c_5 => ?_)
          · refine lv_bipush (v := 26) hx hb dX10_hear_35 (by decide) ?_
            refine lv_istore (lv' := [(4, .int 26), (0, .ref o), (1, .int x), (2, .int y), (3, .int z)]) hx hb dX10_hear_37 hl (by decide) rfl (fun ls hl => ?_)
            refine lv_iload_n hx hb dX10_hear_39 rfl (lv_at hl 4 rfl) ?_
            refine lv_if_lt (tgt := 61) hx hb dX10_hear_40 (by decide) (fun c_6 => ?_) (fun c_6 => ?_)
            · refine lv_iconst (v := (-1)) hx hb dX10_hear_61 (by decide) ?_
              have hP9 := hP.sub (ws' := []) [] rfl
              have hD9 := hD.sub (ws' := []) [] (by decide) rfl
              refine W.widen (k := 0) (n := 0) (Nat.le_of_ble_eq_true rfl) (Nat.le_of_ble_eq_true rfl) ?_
              exact W.iret (v := (-1)) hx hb hr (fun tz htz hWz => ⟨⟨(-1), [], rfl, ⟨rfl, (by grind)⟩, by rw [htz]; exact hP9, va_K.moved hWz.alike hK, hD9⟩, hS.F htz⟩) hS.2.2 dX10_hear_62
            · refine lv_iload_n hx hb dX10_hear_43 rfl (lv_at hl 4 rfl) ?_
              refine lv_iload hx hb dX10_hear_44 (lv_at hl 0 rfl) ?_
              refine lv_icmp_ge (tgt := 61) hx hb dX10_hear_46 (by decide) (fun c_7 => ?_) (fun c_7 => ?_)
              · refine lv_iconst (v := (-1)) hx hb dX10_hear_61 (by decide) ?_
                have hP9 := hP.sub (ws' := []) [] rfl
                have hD9 := hD.sub (ws' := []) [] (by decide) rfl
                refine W.widen (k := 0) (n := 0) (Nat.le_of_ble_eq_true rfl) (Nat.le_of_ble_eq_true rfl) ?_
                exact W.iret (v := (-1)) hx hb hr (fun tz htz hWz => ⟨⟨(-1), [], rfl, ⟨rfl, (by grind)⟩, by rw [htz]; exact hP9, va_K.moved hWz.alike hK, hD9⟩, hS.F htz⟩) hS.2.2 dX10_hear_62
              · refine lv_aload_n hx hb dX10_hear_49 rfl (lv_at hl 1 rfl) ?_
                refine va_get (D := D) (ci := 10) (v := .ref wl) (C := RX10) (T := TX10) (N := 12) hx hb hts (by decide +kernel) hown hK hP 0 rfl rfl 9 (by decide) (hts (.fieldLink RX10 74 "LastLetter" "wall" "LLastLetter$Wall;") (by decide +kernel)) (fun _ h9 => h9) rfl dX10_hear_50 ?_
                refine va_getN (D := D) (ci := 9) (v := .int 0) (C := RX9) (T := TX9) (N := 10) hx hb hts (by decide +kernel) hown hK hP 2 rfl rfl 8 (by decide) (va_Nw.use rfl (hN.1 (RX10, 113, RX9, "sounds", "I", RX10) (by decide +kernel))) (fun _ h9 => h9) rfl dX10_hear_53 ?_
                refine lv_bipush (v := 30) hx hb dX10_hear_56 (by decide) ?_
                refine lv_icmp_lt (tgt := 63) hx hb dX10_hear_58 (by decide) (fun c_8 => ?_) (fun c_8 => absurd (by decide) c_8)
                refine lv_aload_n hx hb dX10_hear_63 rfl (lv_at hl 1 rfl) ?_
                refine va_get (D := D) (ci := 10) (v := .ref wl) (C := RX10) (T := TX10) (N := 12) hx hb hts (by decide +kernel) hown hK hP 0 rfl rfl 9 (by decide) (hts (.fieldLink RX10 74 "LastLetter" "wall" "LLastLetter$Wall;") (by decide +kernel)) (fun _ h9 => h9) rfl dX10_hear_64 ?_
                refine lv_iload_n hx hb dX10_hear_67 rfl (lv_at hl 2 rfl) ?_
                refine lv_iload_n hx hb dX10_hear_68 rfl (lv_at hl 3 rfl) ?_
                refine lv_iload_n hx hb dX10_hear_69 rfl (lv_at hl 4 rfl) ?_
                refine xCi (wr := [(o, .inr (10, [.ref tp, .ref rd, .ref pr, .ref bx, .ref rw, .ref lt, .ref od, .ref se, .ref gm, .ref wl, .ref cu, .ref sp])), (cu, .inr (8, [.ref cu_name, .ref cu_worth, .ref cu_times, .ref cu_first, .ref cu_second, .ref cu_beforeLast, .ref cu_last, .ref cu_errandOf, .ref cu_errandAfter, .ref cu_sound, .ref cu_followers, .ref cu_leaders, .int 0, .int 0, .int 0, .int (-1)]))]) (win := [(wl, .inr (9, [.ref wl_places, .ref wl_kinds, .ref wl_values, .ref wl_toldAt, .ref wl_untoldAt, .ref wl_standing, .ref wl_rows, .ref wl_longer, .int 0, .int 0])), (wl_places, .inl (cI, 30, .inl fwl_places)), (wl_kinds, .inl (cI, 30, .inl fwl_kinds)), (wl_values, .inl (cI, 30, .inl fwl_values)), (wl_toldAt, .inl (cI, 30, .inl fwl_toldAt)), (wl_untoldAt, .inl (cI, 30, .inl fwl_untoldAt))]) hP hD hS hA [2, 3, 4, 5, 6, 7] [0, 1] rfl rfl (by decide) (by decide) (va_runV (As := [.int x, .int y, .int z]) (rest := []) ⟨hx, hb, hml, hown, hts⟩ (c_X9_add l D cB cI cJ cS cZ cO s.heap.size wl x y z wl_places wl_kinds wl_values wl_toldAt wl_untoldAt wl_standing wl_rows wl_longer 0 fwl_places fwl_kinds fwl_values fwl_toldAt fwl_untoldAt ) (cwV 3 hts gX10_hear_X9_add rfl rfl rfl (by decide +kernel) ⟨Nat.le_of_ble_eq_true rfl, Nat.le_of_ble_eq_true rfl⟩) (xPreV (win := [(wl, .inr (9, [.ref wl_places, .ref wl_kinds, .ref wl_values, .ref wl_toldAt, .ref wl_untoldAt, .ref wl_standing, .ref wl_rows, .ref wl_longer, .int 0, .int 0])), (wl_places, .inl (cI, 30, .inl fwl_places)), (wl_kinds, .inl (cI, 30, .inl fwl_kinds)), (wl_values, .inl (cI, 30, .inl fwl_values)), (wl_toldAt, .inl (cI, 30, .inl fwl_toldAt)), (wl_untoldAt, .inl (cI, 30, .inl fwl_untoldAt))]) hN hK hP hD [2, 3, 4, 5, 6, 7] (by decide) rfl 2 9 rfl rfl rfl) rfl rfl hl.1 rfl (lv_room (Nat.le_of_ble_eq_true rfl)) dX10_hear_70 ⟨Nat.le_of_ble_eq_true rfl, Nat.le_of_ble_eq_true rfl⟩) (fun r0 w0 H locs hw hP hD hS => ?_)
                obtain ⟨rfl, rfl⟩ := hw
                have hP : va_P D vwCl [(o, .inr (10, [.ref tp, .ref rd, .ref pr, .ref bx, .ref rw, .ref lt, .ref od, .ref se, .ref gm, .ref wl, .ref cu, .ref sp])), (cu, .inr (8, [.ref cu_name, .ref cu_worth, .ref cu_times, .ref cu_first, .ref cu_second, .ref cu_beforeLast, .ref cu_last, .ref cu_errandOf, .ref cu_errandAfter, .ref cu_sound, .ref cu_followers, .ref cu_leaders, .int 0, .int 0, .int 0, .int (-1)]))] H := hP
                have hD : va_D A [(o, .inr (10, [.ref tp, .ref rd, .ref pr, .ref bx, .ref rw, .ref lt, .ref od, .ref se, .ref gm, .ref wl, .ref cu, .ref sp])), (cu, .inr (8, [.ref cu_name, .ref cu_worth, .ref cu_times, .ref cu_first, .ref cu_second, .ref cu_beforeLast, .ref cu_last, .ref cu_errandOf, .ref cu_errandAfter, .ref cu_sound, .ref cu_followers, .ref cu_leaders, .int 0, .int 0, .int 0, .int (-1)]))] := hD
                have hP9 := hP.sub (ws' := []) [] rfl
                have hD9 := hD.sub (ws' := []) [] (by decide) rfl
                refine W.widen (k := 0) (n := 0) (Nat.le_of_ble_eq_true rfl) (Nat.le_of_ble_eq_true rfl) ?_
                exact W.iret (v := 0) hx hb hr (fun tz htz hWz => ⟨⟨0, [], rfl, ⟨rfl, (by grind)⟩, by rw [htz]; exact hP9, va_K.moved hWz.alike hK, hD9⟩, hS.F htz⟩) hS.2.2 dX10_hear_73
          · refine lv_aload_n hx hb dX10_hear_25 rfl (lv_at hl 0 rfl) ?_
            refine va_get (D := D) (ci := 10) (v := .ref cu) (C := RX10) (T := TX10) (N := 12) hx hb hts (by decide +kernel) hown hK hP 0 rfl rfl 10 (by decide) (hts (.fieldLink RX10 81 "LastLetter" "current" "LLastLetter$Tongue;") (by decide +kernel)) (fun _ h9 => h9) rfl dX10_hear_26 ?_
            refine va_getN (D := D) (ci := 8) (v := .int 0) (C := RX8) (T := TX8) (N := 16) hx hb hts (by decide +kernel) hown hK hP 1 rfl rfl 12 (by decide) (va_Nw.use rfl (hN.1 (RX10, 116, RX8, "words", "I", RX10) (by decide +kernel))) (fun _ h9 => h9) rfl dX10_hear_29 ?_
            refine lv_goto (tgt := 37) hx hb dX10_hear_32 (by decide) ?_
            refine lv_istore (lv' := [(4, .int 0), (0, .ref o), (1, .int x), (2, .int y), (3, .int z)]) hx hb dX10_hear_37 hl (by decide) rfl (fun ls hl => ?_)
            refine lv_iload_n hx hb dX10_hear_39 rfl (lv_at hl 4 rfl) ?_
            refine lv_if_lt (tgt := 61) hx hb dX10_hear_40 (by decide) (fun c_9 => ?_) (fun c_9 => ?_)
            · refine lv_iconst (v := (-1)) hx hb dX10_hear_61 (by decide) ?_
              have hP9 := hP.sub (ws' := []) [] rfl
              have hD9 := hD.sub (ws' := []) [] (by decide) rfl
              refine W.widen (k := 0) (n := 0) (Nat.le_of_ble_eq_true rfl) (Nat.le_of_ble_eq_true rfl) ?_
              exact W.iret (v := (-1)) hx hb hr (fun tz htz hWz => ⟨⟨(-1), [], rfl, ⟨rfl, (by grind)⟩, by rw [htz]; exact hP9, va_K.moved hWz.alike hK, hD9⟩, hS.F htz⟩) hS.2.2 dX10_hear_62
            · refine lv_iload_n hx hb dX10_hear_43 rfl (lv_at hl 4 rfl) ?_
              refine lv_iload hx hb dX10_hear_44 (lv_at hl 0 rfl) ?_
              refine lv_icmp_ge (tgt := 61) hx hb dX10_hear_46 (by decide) (fun c_10 => ?_) (fun c_10 => ?_)
              · refine lv_iconst (v := (-1)) hx hb dX10_hear_61 (by decide) ?_
                have hP9 := hP.sub (ws' := []) [] rfl
                have hD9 := hD.sub (ws' := []) [] (by decide) rfl
                refine W.widen (k := 0) (n := 0) (Nat.le_of_ble_eq_true rfl) (Nat.le_of_ble_eq_true rfl) ?_
                exact W.iret (v := (-1)) hx hb hr (fun tz htz hWz => ⟨⟨(-1), [], rfl, ⟨rfl, (by grind)⟩, by rw [htz]; exact hP9, va_K.moved hWz.alike hK, hD9⟩, hS.F htz⟩) hS.2.2 dX10_hear_62
              · refine lv_aload_n hx hb dX10_hear_49 rfl (lv_at hl 1 rfl) ?_
                refine va_get (D := D) (ci := 10) (v := .ref wl) (C := RX10) (T := TX10) (N := 12) hx hb hts (by decide +kernel) hown hK hP 0 rfl rfl 9 (by decide) (hts (.fieldLink RX10 74 "LastLetter" "wall" "LLastLetter$Wall;") (by decide +kernel)) (fun _ h9 => h9) rfl dX10_hear_50 ?_
                refine va_getN (D := D) (ci := 9) (v := .int 0) (C := RX9) (T := TX9) (N := 10) hx hb hts (by decide +kernel) hown hK hP 2 rfl rfl 8 (by decide) (va_Nw.use rfl (hN.1 (RX10, 113, RX9, "sounds", "I", RX10) (by decide +kernel))) (fun _ h9 => h9) rfl dX10_hear_53 ?_
                refine lv_bipush (v := 30) hx hb dX10_hear_56 (by decide) ?_
                refine lv_icmp_lt (tgt := 63) hx hb dX10_hear_58 (by decide) (fun c_11 => ?_) (fun c_11 => absurd (by decide) c_11)
                refine lv_aload_n hx hb dX10_hear_63 rfl (lv_at hl 1 rfl) ?_
                refine va_get (D := D) (ci := 10) (v := .ref wl) (C := RX10) (T := TX10) (N := 12) hx hb hts (by decide +kernel) hown hK hP 0 rfl rfl 9 (by decide) (hts (.fieldLink RX10 74 "LastLetter" "wall" "LLastLetter$Wall;") (by decide +kernel)) (fun _ h9 => h9) rfl dX10_hear_64 ?_
                refine lv_iload_n hx hb dX10_hear_67 rfl (lv_at hl 2 rfl) ?_
                refine lv_iload_n hx hb dX10_hear_68 rfl (lv_at hl 3 rfl) ?_
                refine lv_iload_n hx hb dX10_hear_69 rfl (lv_at hl 4 rfl) ?_
                refine xCi (wr := [(o, .inr (10, [.ref tp, .ref rd, .ref pr, .ref bx, .ref rw, .ref lt, .ref od, .ref se, .ref gm, .ref wl, .ref cu, .ref sp])), (cu, .inr (8, [.ref cu_name, .ref cu_worth, .ref cu_times, .ref cu_first, .ref cu_second, .ref cu_beforeLast, .ref cu_last, .ref cu_errandOf, .ref cu_errandAfter, .ref cu_sound, .ref cu_followers, .ref cu_leaders, .int 0, .int 0, .int 0, .int (-1)]))]) (win := [(wl, .inr (9, [.ref wl_places, .ref wl_kinds, .ref wl_values, .ref wl_toldAt, .ref wl_untoldAt, .ref wl_standing, .ref wl_rows, .ref wl_longer, .int 0, .int 0])), (wl_places, .inl (cI, 30, .inl fwl_places)), (wl_kinds, .inl (cI, 30, .inl fwl_kinds)), (wl_values, .inl (cI, 30, .inl fwl_values)), (wl_toldAt, .inl (cI, 30, .inl fwl_toldAt)), (wl_untoldAt, .inl (cI, 30, .inl fwl_untoldAt))]) hP hD hS hA [2, 3, 4, 5, 6, 7] [0, 1] rfl rfl (by decide) (by decide) (va_runV (As := [.int x, .int y, .int z]) (rest := []) ⟨hx, hb, hml, hown, hts⟩ (c_X9_add l D cB cI cJ cS cZ cO s.heap.size wl x y z wl_places wl_kinds wl_values wl_toldAt wl_untoldAt wl_standing wl_rows wl_longer 0 fwl_places fwl_kinds fwl_values fwl_toldAt fwl_untoldAt ) (cwV 3 hts gX10_hear_X9_add rfl rfl rfl (by decide +kernel) ⟨Nat.le_of_ble_eq_true rfl, Nat.le_of_ble_eq_true rfl⟩) (xPreV (win := [(wl, .inr (9, [.ref wl_places, .ref wl_kinds, .ref wl_values, .ref wl_toldAt, .ref wl_untoldAt, .ref wl_standing, .ref wl_rows, .ref wl_longer, .int 0, .int 0])), (wl_places, .inl (cI, 30, .inl fwl_places)), (wl_kinds, .inl (cI, 30, .inl fwl_kinds)), (wl_values, .inl (cI, 30, .inl fwl_values)), (wl_toldAt, .inl (cI, 30, .inl fwl_toldAt)), (wl_untoldAt, .inl (cI, 30, .inl fwl_untoldAt))]) hN hK hP hD [2, 3, 4, 5, 6, 7] (by decide) rfl 2 9 rfl rfl rfl) rfl rfl hl.1 rfl (lv_room (Nat.le_of_ble_eq_true rfl)) dX10_hear_70 ⟨Nat.le_of_ble_eq_true rfl, Nat.le_of_ble_eq_true rfl⟩) (fun r0 w0 H locs hw hP hD hS => ?_)
                obtain ⟨rfl, rfl⟩ := hw
                have hP : va_P D vwCl [(o, .inr (10, [.ref tp, .ref rd, .ref pr, .ref bx, .ref rw, .ref lt, .ref od, .ref se, .ref gm, .ref wl, .ref cu, .ref sp])), (cu, .inr (8, [.ref cu_name, .ref cu_worth, .ref cu_times, .ref cu_first, .ref cu_second, .ref cu_beforeLast, .ref cu_last, .ref cu_errandOf, .ref cu_errandAfter, .ref cu_sound, .ref cu_followers, .ref cu_leaders, .int 0, .int 0, .int 0, .int (-1)]))] H := hP
                have hD : va_D A [(o, .inr (10, [.ref tp, .ref rd, .ref pr, .ref bx, .ref rw, .ref lt, .ref od, .ref se, .ref gm, .ref wl, .ref cu, .ref sp])), (cu, .inr (8, [.ref cu_name, .ref cu_worth, .ref cu_times, .ref cu_first, .ref cu_second, .ref cu_beforeLast, .ref cu_last, .ref cu_errandOf, .ref cu_errandAfter, .ref cu_sound, .ref cu_followers, .ref cu_leaders, .int 0, .int 0, .int 0, .int (-1)]))] := hD
                have hP9 := hP.sub (ws' := []) [] rfl
                have hD9 := hD.sub (ws' := []) [] (by decide) rfl
                refine W.widen (k := 0) (n := 0) (Nat.le_of_ble_eq_true rfl) (Nat.le_of_ble_eq_true rfl) ?_
                exact W.iret (v := 0) hx hb hr (fun tz htz hWz => ⟨⟨0, [], rfl, ⟨rfl, (by grind)⟩, by rw [htz]; exact hP9, va_K.moved hWz.alike hK, hD9⟩, hS.F htz⟩) hS.2.2 dX10_hear_73
        · refine lv_iconst (v := (-1)) hx hb dX10_hear_19 (by decide) ?_
          have hP9 := hP.sub (ws' := []) [] rfl
          have hD9 := hD.sub (ws' := []) [] (by decide) rfl
          refine W.widen (k := 0) (n := 0) (Nat.le_of_ble_eq_true rfl) (Nat.le_of_ble_eq_true rfl) ?_
          exact W.iret (v := (-1)) hx hb hr (fun tz htz hWz => ⟨⟨(-1), [], rfl, ⟨rfl, (by grind)⟩, by rw [htz]; exact hP9, va_K.moved hWz.alike hK, hD9⟩, hS.F htz⟩) hS.2.2 dX10_hear_20

set_option maxHeartbeats 4000000 in
set_option maxRecDepth 100000 in
theorem p_X10_untell (l : Launch) (D : va_G) (cB cI cJ cS cZ cO : ClassId) (sz : Nat) (o : Nat) (x : Int32) (tp : Nat) (rd : Nat) (pr : Nat) (bx : Nat) (rw : Nat) (lt : Nat) (od : Nat) (se : Nat) (gm : Nat) (wl : Nat) (cu : Nat) (sp : Nat) (wl_places : Nat) (wl_kinds : Nat) (wl_values : Nat) (wl_toldAt : Nat) (wl_untoldAt : Nat) (wl_standing : Nat) (wl_rows : Nat) (wl_longer : Nat) : Met l yX10_untell wsX10_untell ({ frames := 1, cells := 0, slots := 0, locals := 21 }) (xPre D (tyL cB cI cJ cS cZ cO) [(o, .inr (10, [.ref tp, .ref rd, .ref pr, .ref bx, .ref rw, .ref lt, .ref od, .ref se, .ref gm, .ref wl, .ref cu, .ref sp])), (wl, .inr (9, [.ref wl_places, .ref wl_kinds, .ref wl_values, .ref wl_toldAt, .ref wl_untoldAt, .ref wl_standing, .ref wl_rows, .ref wl_longer, .int 0, .int 0]))] sz [.ref o, .int x]) (xQi D (tyL cB cI cJ cS cZ cO) (va_A [(o, .inr (10, [.ref tp, .ref rd, .ref pr, .ref bx, .ref rw, .ref lt, .ref od, .ref se, .ref gm, .ref wl, .ref cu, .ref sp])), (wl, .inr (9, [.ref wl_places, .ref wl_kinds, .ref wl_values, .ref wl_toldAt, .ref wl_untoldAt, .ref wl_standing, .ref wl_rows, .ref wl_longer, .int 0, .int 0]))] sz) (fun (r : Int32) (u : va_W) => u = [] ∧ r = 0)) 0 0 (va_A [(o, .inr (10, [.ref tp, .ref rd, .ref pr, .ref bx, .ref rw, .ref lt, .ref od, .ref se, .ref gm, .ref wl, .ref cu, .ref sp])), (wl, .inr (9, [.ref wl_places, .ref wl_kinds, .ref wl_values, .ref wl_toldAt, .ref wl_untoldAt, .ref wl_standing, .ref wl_rows, .ref wl_longer, .int 0, .int 0]))] sz) := by
  refine Met.ofW (cc := cX10_untell) (maxL := 2) (ret := (some .boolean)) (by decide) rfl ?_
  intro p e s m args below meth c s₁ B hml hv
  obtain ⟨rfl, hsz, hP, hK, hD0, hN⟩ := hv
  have hx := B.exec
  have hb := B.bytes
  have hr := B.returns
  have hts := atoms_spec (ws := wsX10_untell) B.pre
  have hown : s.vm.findClass RX10 = some m.cls := findClass_of_methodNamed B.named
  have hlocks := B.notSynchronized
  subst hsz
  have hD := hD0.self (sz := s.heap.size)
  generalize hAe : va_A [(o, .inr (10, [.ref tp, .ref rd, .ref pr, .ref bx, .ref rw, .ref lt, .ref od, .ref se, .ref gm, .ref wl, .ref cu, .ref sp])), (wl, .inr (9, [.ref wl_places, .ref wl_kinds, .ref wl_values, .ref wl_toldAt, .ref wl_untoldAt, .ref wl_standing, .ref wl_rows, .ref wl_longer, .int 0, .int 0]))] s.heap.size = A at hD ⊢
  have hA : ∀ q : Nat, s.heap.size ≤ q → A q := fun q h => by rw [← hAe]; exact Or.inr h
  have hS : va_S A s.heap s.heap [] := va_S.rf
  have hP : va_P D vwCl [(o, .inr (10, [.ref tp, .ref rd, .ref pr, .ref bx, .ref rw, .ref lt, .ref od, .ref se, .ref gm, .ref wl, .ref cu, .ref sp])), (wl, .inr (9, [.ref wl_places, .ref wl_kinds, .ref wl_values, .ref wl_toldAt, .ref wl_untoldAt, .ref wl_standing, .ref wl_rows, .ref wl_longer, .int 0, .int 0]))] s.heap := hP
  have hl := lv_entry ([.ref o, .int x]) (n := 2) (Nat.le_of_ble_eq_true rfl)
  rw [lg_entry_eq]
  generalize (lg_sl ([.ref o, .int x]) ++ List.replicate (2 - (lg_sl ([.ref o, .int x])).length) Slot.unset).toArray = ls at hl ⊢
  have hl : lv_has ls 2 [(0, .ref o), (1, .int x)] := hl
  refine lv_aload_n hx hb dX10_untell_0 rfl (lv_at hl 0 rfl) ?_
  refine va_get (D := D) (ci := 10) (v := .ref wl) (C := RX10) (T := TX10) (N := 12) hx hb hts (by decide +kernel) hown hK hP 0 rfl rfl 9 (by decide) (hts (.fieldLink RX10 74 "LastLetter" "wall" "LLastLetter$Wall;") (by decide +kernel)) (fun _ h9 => h9) rfl dX10_untell_1 ?_
  refine lv_iload_n hx hb dX10_untell_4 rfl (lv_at hl 1 rfl) ?_
  refine xCi (wr := [(o, .inr (10, [.ref tp, .ref rd, .ref pr, .ref bx, .ref rw, .ref lt, .ref od, .ref se, .ref gm, .ref wl, .ref cu, .ref sp]))]) (win := [(wl, .inr (9, [.ref wl_places, .ref wl_kinds, .ref wl_values, .ref wl_toldAt, .ref wl_untoldAt, .ref wl_standing, .ref wl_rows, .ref wl_longer, .int 0, .int 0]))]) hP hD hS hA [1] [0] rfl rfl (by decide) (by decide) (va_runV (As := [.int x]) (rest := []) ⟨hx, hb, hml, hown, hts⟩ (c_X9_takeBack l D cB cI cJ cS cZ cO s.heap.size wl x wl_places wl_kinds wl_values wl_toldAt wl_untoldAt wl_standing wl_rows wl_longer 0 ) (cwV 1 hts gX10_untell_X9_takeBack rfl rfl rfl (by decide +kernel) ⟨Nat.le_of_ble_eq_true rfl, Nat.le_of_ble_eq_true rfl⟩) (xPreV (win := [(wl, .inr (9, [.ref wl_places, .ref wl_kinds, .ref wl_values, .ref wl_toldAt, .ref wl_untoldAt, .ref wl_standing, .ref wl_rows, .ref wl_longer, .int 0, .int 0]))]) hN hK hP hD [1] (by decide) rfl 1 9 rfl rfl rfl) rfl rfl hl.1 rfl (lv_room (Nat.le_of_ble_eq_true rfl)) dX10_untell_5 ⟨Nat.le_of_ble_eq_true rfl, Nat.le_of_ble_eq_true rfl⟩) (fun r0 w0 H locs hw hP hD hS => ?_)
  obtain ⟨rfl, rfl⟩ := hw
  have hP : va_P D vwCl [(o, .inr (10, [.ref tp, .ref rd, .ref pr, .ref bx, .ref rw, .ref lt, .ref od, .ref se, .ref gm, .ref wl, .ref cu, .ref sp])), (wl, .inr (9, [.ref wl_places, .ref wl_kinds, .ref wl_values, .ref wl_toldAt, .ref wl_untoldAt, .ref wl_standing, .ref wl_rows, .ref wl_longer, .int 0, .int 0]))] H := hP
  have hD : va_D A [(o, .inr (10, [.ref tp, .ref rd, .ref pr, .ref bx, .ref rw, .ref lt, .ref od, .ref se, .ref gm, .ref wl, .ref cu, .ref sp])), (wl, .inr (9, [.ref wl_places, .ref wl_kinds, .ref wl_values, .ref wl_toldAt, .ref wl_untoldAt, .ref wl_standing, .ref wl_rows, .ref wl_longer, .int 0, .int 0]))] := hD
  have hP9 := hP.sub (ws' := []) [] rfl
  have hD9 := hD.sub (ws' := []) [] (by decide) rfl
  refine W.widen (k := 0) (n := 0) (Nat.le_of_ble_eq_true rfl) (Nat.le_of_ble_eq_true rfl) ?_
  exact W.zret (v := 0) hx hb hr (by decide) (fun tz htz hWz => ⟨⟨0, [], rfl, ⟨rfl, rfl⟩, by rw [htz]; exact hP9, va_K.moved hWz.alike hK, hD9⟩, hS.F htz⟩) hS.2.2 dX10_untell_8

set_option maxHeartbeats 4000000 in
set_option maxRecDepth 100000 in
theorem p_X10_later (l : Launch) (D : va_G) (cB cI cJ cS cZ cO : ClassId) (sz : Nat) (o : Nat) (x : Int32) (tp : Nat) (rd : Nat) (pr : Nat) (bx : Nat) (rw : Nat) (lt : Nat) (od : Nat) (se : Nat) (gm : Nat) (wl : Nat) (cu : Nat) (sp : Nat) (wl_places : Nat) (wl_kinds : Nat) (wl_values : Nat) (wl_toldAt : Nat) (wl_untoldAt : Nat) (wl_standing : Nat) (wl_rows : Nat) (wl_longer : Nat) : Met l yX10_later wsX10_later ({ frames := 0, cells := 0, slots := 0, locals := 0 }) (xPre D (tyL cB cI cJ cS cZ cO) [(o, .inr (10, [.ref tp, .ref rd, .ref pr, .ref bx, .ref rw, .ref lt, .ref od, .ref se, .ref gm, .ref wl, .ref cu, .ref sp])), (wl, .inr (9, [.ref wl_places, .ref wl_kinds, .ref wl_values, .ref wl_toldAt, .ref wl_untoldAt, .ref wl_standing, .ref wl_rows, .ref wl_longer, .int 0, .int 0]))] sz [.ref o, .int x]) (xQi D (tyL cB cI cJ cS cZ cO) (va_A [(o, .inr (10, [.ref tp, .ref rd, .ref pr, .ref bx, .ref rw, .ref lt, .ref od, .ref se, .ref gm, .ref wl, .ref cu, .ref sp])), (wl, .inr (9, [.ref wl_places, .ref wl_kinds, .ref wl_values, .ref wl_toldAt, .ref wl_untoldAt, .ref wl_standing, .ref wl_rows, .ref wl_longer, .int 0, .int 0]))] sz) (fun (r : Int32) (u : va_W) => u = [] ∧ r = if 0 ≤ x ∧ x ≤ 1000 then x else (-1))) 0 0 (va_A [(o, .inr (10, [.ref tp, .ref rd, .ref pr, .ref bx, .ref rw, .ref lt, .ref od, .ref se, .ref gm, .ref wl, .ref cu, .ref sp])), (wl, .inr (9, [.ref wl_places, .ref wl_kinds, .ref wl_values, .ref wl_toldAt, .ref wl_untoldAt, .ref wl_standing, .ref wl_rows, .ref wl_longer, .int 0, .int 0]))] sz) := by
  refine Met.ofW (cc := cX10_later) (maxL := 2) (ret := (some .int)) (by decide) rfl ?_
  intro p e s m args below meth c s₁ B hml hv
  obtain ⟨rfl, hsz, hP, hK, hD0, hN⟩ := hv
  have hx := B.exec
  have hb := B.bytes
  have hr := B.returns
  have hts := atoms_spec (ws := wsX10_later) B.pre
  have hown : s.vm.findClass RX10 = some m.cls := findClass_of_methodNamed B.named
  have hlocks := B.notSynchronized
  subst hsz
  have hD := hD0.self (sz := s.heap.size)
  generalize hAe : va_A [(o, .inr (10, [.ref tp, .ref rd, .ref pr, .ref bx, .ref rw, .ref lt, .ref od, .ref se, .ref gm, .ref wl, .ref cu, .ref sp])), (wl, .inr (9, [.ref wl_places, .ref wl_kinds, .ref wl_values, .ref wl_toldAt, .ref wl_untoldAt, .ref wl_standing, .ref wl_rows, .ref wl_longer, .int 0, .int 0]))] s.heap.size = A at hD ⊢
  have hA : ∀ q : Nat, s.heap.size ≤ q → A q := fun q h => by rw [← hAe]; exact Or.inr h
  have hS : va_S A s.heap s.heap [] := va_S.rf
  have hP : va_P D vwCl [(o, .inr (10, [.ref tp, .ref rd, .ref pr, .ref bx, .ref rw, .ref lt, .ref od, .ref se, .ref gm, .ref wl, .ref cu, .ref sp])), (wl, .inr (9, [.ref wl_places, .ref wl_kinds, .ref wl_values, .ref wl_toldAt, .ref wl_untoldAt, .ref wl_standing, .ref wl_rows, .ref wl_longer, .int 0, .int 0]))] s.heap := hP
  have hl := lv_entry ([.ref o, .int x]) (n := 2) (Nat.le_of_ble_eq_true rfl)
  rw [lg_entry_eq]
  generalize (lg_sl ([.ref o, .int x]) ++ List.replicate (2 - (lg_sl ([.ref o, .int x])).length) Slot.unset).toArray = ls at hl ⊢
  have hl : lv_has ls 2 [(0, .ref o), (1, .int x)] := hl
  refine lv_iload_n hx hb dX10_later_0 rfl (lv_at hl 1 rfl) ?_
  refine lv_if_lt (tgt := 25) hx hb dX10_later_1 (by decide) (fun c_1 => ?_) (fun c_1 => ?_)
  · refine lv_iconst (v := (-1)) hx hb dX10_later_25 (by decide) ?_
    have hP9 := hP.sub (ws' := []) [] rfl
    have hD9 := hD.sub (ws' := []) [] (by decide) rfl
    refine W.widen (k := 0) (n := 0) (Nat.le_of_ble_eq_true rfl) (Nat.le_of_ble_eq_true rfl) ?_
    exact W.iret (v := (-1)) hx hb hr (fun tz htz hWz => ⟨⟨(-1), [], rfl, ⟨rfl, (by grind)⟩, by rw [htz]; exact hP9, va_K.moved hWz.alike hK, hD9⟩, hS.F htz⟩) hS.2.2 dX10_later_26
  · refine lv_iload_n hx hb dX10_later_4 rfl (lv_at hl 1 rfl) ?_
    refine lv_sipush (v := 1000) hx hb dX10_later_5 (by decide) ?_
    refine lv_icmp_gt (tgt := 25) hx hb dX10_later_8 (by decide) (fun c_2 => ?_) (fun c_2 => ?_)
    · refine lv_iconst (v := (-1)) hx hb dX10_later_25 (by decide) ?_
      have hP9 := hP.sub (ws' := []) [] rfl
      have hD9 := hD.sub (ws' := []) [] (by decide) rfl
      refine W.widen (k := 0) (n := 0) (Nat.le_of_ble_eq_true rfl) (Nat.le_of_ble_eq_true rfl) ?_
      exact W.iret (v := (-1)) hx hb hr (fun tz htz hWz => ⟨⟨(-1), [], rfl, ⟨rfl, (by grind)⟩, by rw [htz]; exact hP9, va_K.moved hWz.alike hK, hD9⟩, hS.F htz⟩) hS.2.2 dX10_later_26
    · refine lv_aload_n hx hb dX10_later_11 rfl (lv_at hl 0 rfl) ?_
      refine va_get (D := D) (ci := 10) (v := .ref wl) (C := RX10) (T := TX10) (N := 12) hx hb hts (by decide +kernel) hown hK hP 0 rfl rfl 9 (by decide) (hts (.fieldLink RX10 74 "LastLetter" "wall" "LLastLetter$Wall;") (by decide +kernel)) (fun _ h9 => h9) rfl dX10_later_12 ?_
      refine va_getN (D := D) (ci := 9) (v := .int 0) (C := RX9) (T := TX9) (N := 10) hx hb hts (by decide +kernel) hown hK hP 1 rfl rfl 9 (by decide) (va_Nw.use rfl (hN.1 (RX10, 234, RX9, "time", "I", RX10) (by decide +kernel))) (fun _ h9 => h9) rfl dX10_later_15 ?_
      refine lv_iload_n hx hb dX10_later_18 rfl (lv_at hl 1 rfl) ?_
      refine lv_iadd hx hb dX10_later_19 ?_
      refine lv_ldc (v := 100000) hx hb hown (hts (.constant RX10 237 100000) (by decide +kernel)) dX10_later_20 ?_
      refine lv_icmp_le (tgt := 27) hx hb dX10_later_22 (by decide) (fun c_3 => ?_) (fun c_3 => absurd (by grind) c_3)
      refine lv_aload_n hx hb dX10_later_27 rfl (lv_at hl 0 rfl) ?_
      refine va_get (D := D) (ci := 10) (v := .ref wl) (C := RX10) (T := TX10) (N := 12) hx hb hts (by decide +kernel) hown hK hP 0 rfl rfl 9 (by decide) (hts (.fieldLink RX10 74 "LastLetter" "wall" "LLastLetter$Wall;") (by decide +kernel)) (fun _ h9 => h9) rfl dX10_later_28 ?_
      refine lv_dup hx hb dX10_later_31 rfl ?_
      refine va_getN (D := D) (ci := 9) (v := .int 0) (C := RX9) (T := TX9) (N := 10) hx hb hts (by decide +kernel) hown hK hP 1 rfl rfl 9 (by decide) (va_Nw.use rfl (hN.1 (RX10, 234, RX9, "time", "I", RX10) (by decide +kernel))) (fun _ h9 => h9) rfl dX10_later_32 ?_
      refine lv_iload_n hx hb dX10_later_35 rfl (lv_at hl 1 rfl) ?_
      refine lv_iadd hx hb dX10_later_36 ?_
      refine lv_topi (fun f_4 ef_4 => ?_)
      refine va_putN (D := D) (ci := 9) (v := .int f_4) (ty := .int) (C := RX9) (T := TX9) (N := 10) hx hb hts (by decide +kernel) tyX9 tyX9_ok nmX9 hown hK hP hD hS 1 rfl rfl 9 (by decide) (va_Nw.use rfl (hN.1 (RX10, 234, RX9, "time", "I", RX10) (by decide +kernel))) (fun _ h9 => h9) rfl (by decide +kernel) rfl rfl (Nat.le_of_ble_eq_true rfl) dX10_later_37 (fun H locs hP hD hS => ?_)
      have hP : va_P D vwCl [(o, .inr (10, [.ref tp, .ref rd, .ref pr, .ref bx, .ref rw, .ref lt, .ref od, .ref se, .ref gm, .ref wl, .ref cu, .ref sp])), (wl, .inr (9, [.ref wl_places, .ref wl_kinds, .ref wl_values, .ref wl_toldAt, .ref wl_untoldAt, .ref wl_standing, .ref wl_rows, .ref wl_longer, .int 0, .int f_4]))] H := hP
      have hD : va_D A [(o, .inr (10, [.ref tp, .ref rd, .ref pr, .ref bx, .ref rw, .ref lt, .ref od, .ref se, .ref gm, .ref wl, .ref cu, .ref sp])), (wl, .inr (9, [.ref wl_places, .ref wl_kinds, .ref wl_values, .ref wl_toldAt, .ref wl_untoldAt, .ref wl_standing, .ref wl_rows, .ref wl_longer, .int 0, .int f_4]))] := hD
      refine lv_aload_n hx hb dX10_later_40 rfl (lv_at hl 0 rfl) ?_
      refine va_get (D := D) (ci := 10) (v := .ref wl) (C := RX10) (T := TX10) (N := 12) hx hb hts (by decide +kernel) hown hK hP 0 rfl rfl 9 (by decide) (hts (.fieldLink RX10 74 "LastLetter" "wall" "LLastLetter$Wall;") (by decide +kernel)) (fun _ h9 => h9) rfl dX10_later_41 ?_
      refine va_getN (D := D) (ci := 9) (v := .int f_4) (C := RX9) (T := TX9) (N := 10) hx hb hts (by decide +kernel) hown hK hP 1 rfl rfl 9 (by decide) (va_Nw.use rfl (hN.1 (RX10, 234, RX9, "time", "I", RX10) (by decide +kernel))) (fun _ h9 => h9) rfl dX10_later_44 ?_
      have hP9 := hP.sub (ws' := []) [] rfl
      have hD9 := hD.sub (ws' := []) [] (by decide) rfl
      refine W.widen (k := 0) (n := 0) (Nat.le_of_ble_eq_true rfl) (Nat.le_of_ble_eq_true rfl) ?_
      exact W.iret (v := f_4) hx hb hr (fun tz htz hWz => ⟨⟨f_4, [], rfl, ⟨rfl, (by grind)⟩, by rw [htz]; exact hP9, va_K.moved hWz.alike hK, hD9⟩, hS.F htz⟩) hS.2.2 dX10_later_47

set_option maxHeartbeats 4000000 in
set_option maxRecDepth 100000 in
theorem p_X10_fits (l : Launch) (D : va_G) (cB cI cJ cS cZ cO : ClassId) (sz : Nat) (o : Nat) (x : Int32) (y : Int32) (tp : Nat) (rd : Nat) (pr : Nat) (bx : Nat) (rw : Nat) (lt : Nat) (od : Nat) (se : Nat) (gm : Nat) (wl : Nat) (cu : Nat) (sp : Nat) (wl_places : Nat) (wl_kinds : Nat) (wl_values : Nat) (wl_toldAt : Nat) (wl_untoldAt : Nat) (wl_standing : Nat) (wl_rows : Nat) (wl_longer : Nat) (cu_name : Nat) (cu_worth : Nat) (cu_times : Nat) (cu_first : Nat) (cu_second : Nat) (cu_beforeLast : Nat) (cu_last : Nat) (cu_errandOf : Nat) (cu_errandAfter : Nat) (cu_sound : Nat) (cu_followers : Nat) (cu_leaders : Nat) (fwl_standing : Nat → Int32) : Met l yX10_fits wsX10_fits ({ frames := 3, cells := 0, slots := 0, locals := 73 }) (xPre D (tyL cB cI cJ cS cZ cO) [(o, .inr (10, [.ref tp, .ref rd, .ref pr, .ref bx, .ref rw, .ref lt, .ref od, .ref se, .ref gm, .ref wl, .ref cu, .ref sp])), (wl, .inr (9, [.ref wl_places, .ref wl_kinds, .ref wl_values, .ref wl_toldAt, .ref wl_untoldAt, .ref wl_standing, .ref wl_rows, .ref wl_longer, .int 0, .int 0])), (cu, .inr (8, [.ref cu_name, .ref cu_worth, .ref cu_times, .ref cu_first, .ref cu_second, .ref cu_beforeLast, .ref cu_last, .ref cu_errandOf, .ref cu_errandAfter, .ref cu_sound, .ref cu_followers, .ref cu_leaders, .int 0, .int 0, .int 0, .int (-1)])), (wl_standing, .inl (cI, 12, .inl fwl_standing))] sz [.ref o, .int x, .int y]) (xQl D (tyL cB cI cJ cS cZ cO) (va_A [(o, .inr (10, [.ref tp, .ref rd, .ref pr, .ref bx, .ref rw, .ref lt, .ref od, .ref se, .ref gm, .ref wl, .ref cu, .ref sp])), (wl, .inr (9, [.ref wl_places, .ref wl_kinds, .ref wl_values, .ref wl_toldAt, .ref wl_untoldAt, .ref wl_standing, .ref wl_rows, .ref wl_longer, .int 0, .int 0])), (cu, .inr (8, [.ref cu_name, .ref cu_worth, .ref cu_times, .ref cu_first, .ref cu_second, .ref cu_beforeLast, .ref cu_last, .ref cu_errandOf, .ref cu_errandAfter, .ref cu_sound, .ref cu_followers, .ref cu_leaders, .int 0, .int 0, .int 0, .int (-1)])), (wl_standing, .inl (cI, 12, .inl fwl_standing))] sz) (fun (r : Int64) (u : va_W) => u = [] ∧ r = if 1 ≤ x ∧ x ≤ 12 then 0 else (-1))) 0 0 (va_A [(o, .inr (10, [.ref tp, .ref rd, .ref pr, .ref bx, .ref rw, .ref lt, .ref od, .ref se, .ref gm, .ref wl, .ref cu, .ref sp])), (wl, .inr (9, [.ref wl_places, .ref wl_kinds, .ref wl_values, .ref wl_toldAt, .ref wl_untoldAt, .ref wl_standing, .ref wl_rows, .ref wl_longer, .int 0, .int 0])), (cu, .inr (8, [.ref cu_name, .ref cu_worth, .ref cu_times, .ref cu_first, .ref cu_second, .ref cu_beforeLast, .ref cu_last, .ref cu_errandOf, .ref cu_errandAfter, .ref cu_sound, .ref cu_followers, .ref cu_leaders, .int 0, .int 0, .int 0, .int (-1)])), (wl_standing, .inl (cI, 12, .inl fwl_standing))] sz) := by
  refine Met.ofW (cc := cX10_fits) (maxL := 3) (ret := (some .long)) (by decide) rfl ?_
  intro p e s m args below meth c s₁ B hml hv
  obtain ⟨rfl, hsz, hP, hK, hD0, hN⟩ := hv
  have hx := B.exec
  have hb := B.bytes
  have hr := B.returns
  have hts := atoms_spec (ws := wsX10_fits) B.pre
  have hown : s.vm.findClass RX10 = some m.cls := findClass_of_methodNamed B.named
  have hlocks := B.notSynchronized
  subst hsz
  have hD := hD0.self (sz := s.heap.size)
  generalize hAe : va_A [(o, .inr (10, [.ref tp, .ref rd, .ref pr, .ref bx, .ref rw, .ref lt, .ref od, .ref se, .ref gm, .ref wl, .ref cu, .ref sp])), (wl, .inr (9, [.ref wl_places, .ref wl_kinds, .ref wl_values, .ref wl_toldAt, .ref wl_untoldAt, .ref wl_standing, .ref wl_rows, .ref wl_longer, .int 0, .int 0])), (cu, .inr (8, [.ref cu_name, .ref cu_worth, .ref cu_times, .ref cu_first, .ref cu_second, .ref cu_beforeLast, .ref cu_last, .ref cu_errandOf, .ref cu_errandAfter, .ref cu_sound, .ref cu_followers, .ref cu_leaders, .int 0, .int 0, .int 0, .int (-1)])), (wl_standing, .inl (cI, 12, .inl fwl_standing))] s.heap.size = A at hD ⊢
  have hA : ∀ q : Nat, s.heap.size ≤ q → A q := fun q h => by rw [← hAe]; exact Or.inr h
  have hS : va_S A s.heap s.heap [] := va_S.rf
  have hP : va_P D vwCl [(o, .inr (10, [.ref tp, .ref rd, .ref pr, .ref bx, .ref rw, .ref lt, .ref od, .ref se, .ref gm, .ref wl, .ref cu, .ref sp])), (wl, .inr (9, [.ref wl_places, .ref wl_kinds, .ref wl_values, .ref wl_toldAt, .ref wl_untoldAt, .ref wl_standing, .ref wl_rows, .ref wl_longer, .int 0, .int 0])), (cu, .inr (8, [.ref cu_name, .ref cu_worth, .ref cu_times, .ref cu_first, .ref cu_second, .ref cu_beforeLast, .ref cu_last, .ref cu_errandOf, .ref cu_errandAfter, .ref cu_sound, .ref cu_followers, .ref cu_leaders, .int 0, .int 0, .int 0, .int (-1)])), (wl_standing, .inl (cI, 12, .inl fwl_standing))] s.heap := hP
  have hl := lv_entry ([.ref o, .int x, .int y]) (n := 3) (Nat.le_of_ble_eq_true rfl)
  rw [lg_entry_eq]
  generalize (lg_sl ([.ref o, .int x, .int y]) ++ List.replicate (3 - (lg_sl ([.ref o, .int x, .int y])).length) Slot.unset).toArray = ls at hl ⊢
  have hl : lv_has ls 3 [(0, .ref o), (1, .int x), (2, .int y)] := hl
  refine lv_iload_n hx hb dX10_fits_0 rfl (lv_at hl 1 rfl) ?_
  refine lv_iconst (v := 1) hx hb dX10_fits_1 (by decide) ?_
  refine lv_icmp_lt (tgt := 11) hx hb dX10_fits_2 (by decide) (fun c_1 => ?_) (fun c_1 => ?_)
  · refine lv_ldc2 (v := (-1)) hx hb hown (hts (.constantLong RX10 238 (-1)) (by decide +kernel)) dX10_fits_11 ?_
    have hP9 := hP.sub (ws' := []) [] rfl
    have hD9 := hD.sub (ws' := []) [] (by decide) rfl
    refine W.widen (k := 0) (n := 0) (Nat.le_of_ble_eq_true rfl) (Nat.le_of_ble_eq_true rfl) ?_
    exact W.lret (v := (-1)) hx hb hr (fun tz htz hWz => ⟨⟨(-1), [], rfl, ⟨rfl, (by grind)⟩, by rw [htz]; exact hP9, va_K.moved hWz.alike hK, hD9⟩, hS.F htz⟩) hS.2.2 dX10_fits_14
  · refine lv_iload_n hx hb dX10_fits_5 rfl (lv_at hl 1 rfl) ?_
    refine lv_bipush (v := 12) hx hb dX10_fits_6 (by decide) ?_
    refine lv_icmp_le (tgt := 15) hx hb dX10_fits_8 (by decide) (fun c_2 => ?_) (fun c_2 => ?_)
    · rcases ib_12 c_1 (Int32.not_lt.mpr c_2) with ⟨N, hNn, rfl⟩
      · refine lv_aload_n hx hb dX10_fits_15 rfl (lv_at hl 0 rfl) ?_
        refine va_get (D := D) (ci := 10) (v := .ref wl) (C := RX10) (T := TX10) (N := 12) hx hb hts (by decide +kernel) hown hK hP 0 rfl rfl 9 (by decide) (hts (.fieldLink RX10 74 "LastLetter" "wall" "LLastLetter$Wall;") (by decide +kernel)) (fun _ h9 => h9) rfl dX10_fits_16 ?_
        refine lv_aload_n hx hb dX10_fits_19 rfl (lv_at hl 0 rfl) ?_
        refine va_get (D := D) (ci := 10) (v := .ref cu) (C := RX10) (T := TX10) (N := 12) hx hb hts (by decide +kernel) hown hK hP 0 rfl rfl 10 (by decide) (hts (.fieldLink RX10 81 "LastLetter" "current" "LLastLetter$Tongue;") (by decide +kernel)) (fun _ h9 => h9) rfl dX10_fits_20 ?_
        refine lv_iload_n hx hb dX10_fits_23 rfl (lv_at hl 1 rfl) ?_
        refine lv_iload_n hx hb dX10_fits_24 rfl (lv_at hl 2 rfl) ?_
        refine xCl (wr := [(o, .inr (10, [.ref tp, .ref rd, .ref pr, .ref bx, .ref rw, .ref lt, .ref od, .ref se, .ref gm, .ref wl, .ref cu, .ref sp]))]) (win := [(wl, .inr (9, [.ref wl_places, .ref wl_kinds, .ref wl_values, .ref wl_toldAt, .ref wl_untoldAt, .ref wl_standing, .ref wl_rows, .ref wl_longer, .int 0, .int 0])), (cu, .inr (8, [.ref cu_name, .ref cu_worth, .ref cu_times, .ref cu_first, .ref cu_second, .ref cu_beforeLast, .ref cu_last, .ref cu_errandOf, .ref cu_errandAfter, .ref cu_sound, .ref cu_followers, .ref cu_leaders, .int 0, .int 0, .int 0, .int (-1)])), (wl_standing, .inl (cI, 12, .inl fwl_standing))]) hP hD hS hA [1, 2, 3] [0] rfl rfl (by decide) (by decide) (va_runV (As := [.ref cu, .int (nI (N + 1)), .int y]) (rest := []) ⟨hx, hb, hml, hown, hts⟩ (c_X9_countRows l D cB cI cJ cS cZ cO s.heap.size wl cu _ y wl_places wl_kinds wl_values wl_toldAt wl_untoldAt wl_standing wl_rows wl_longer 0 cu_name cu_worth cu_times cu_first cu_second cu_beforeLast cu_last cu_errandOf cu_errandAfter cu_sound cu_followers cu_leaders 0 0 (-1) fwl_standing hNn) (cwV 3 hts gX10_fits_X9_countRows rfl rfl rfl (by decide +kernel) ⟨Nat.le_of_ble_eq_true rfl, Nat.le_of_ble_eq_true rfl⟩) (xPreV (win := [(wl, .inr (9, [.ref wl_places, .ref wl_kinds, .ref wl_values, .ref wl_toldAt, .ref wl_untoldAt, .ref wl_standing, .ref wl_rows, .ref wl_longer, .int 0, .int 0])), (cu, .inr (8, [.ref cu_name, .ref cu_worth, .ref cu_times, .ref cu_first, .ref cu_second, .ref cu_beforeLast, .ref cu_last, .ref cu_errandOf, .ref cu_errandAfter, .ref cu_sound, .ref cu_followers, .ref cu_leaders, .int 0, .int 0, .int 0, .int (-1)])), (wl_standing, .inl (cI, 12, .inl fwl_standing))]) hN hK hP hD [1, 2, 3] (by decide) rfl 1 9 rfl rfl rfl) rfl rfl hl.1 rfl (lv_room (Nat.le_of_ble_eq_true rfl)) dX10_fits_25 ⟨Nat.le_of_ble_eq_true rfl, Nat.le_of_ble_eq_true rfl⟩) (fun r0 w0 H locs hw hP hD hS => ?_)
        obtain ⟨rfl, rfl⟩ := hw
        have hP : va_P D vwCl [(o, .inr (10, [.ref tp, .ref rd, .ref pr, .ref bx, .ref rw, .ref lt, .ref od, .ref se, .ref gm, .ref wl, .ref cu, .ref sp]))] H := hP
        have hD : va_D A [(o, .inr (10, [.ref tp, .ref rd, .ref pr, .ref bx, .ref rw, .ref lt, .ref od, .ref se, .ref gm, .ref wl, .ref cu, .ref sp]))] := hD
        have hP9 := hP.sub (ws' := []) [] rfl
        have hD9 := hD.sub (ws' := []) [] (by decide) rfl
        refine W.widen (k := 0) (n := 0) (Nat.le_of_ble_eq_true rfl) (Nat.le_of_ble_eq_true rfl) ?_
        exact W.lret (v := 0) hx hb hr (fun tz htz hWz => ⟨⟨0, [], rfl, ⟨rfl, (by grind)⟩, by rw [htz]; exact hP9, va_K.moved hWz.alike hK, hD9⟩, hS.F htz⟩) hS.2.2 dX10_fits_28
    · refine lv_ldc2 (v := (-1)) hx hb hown (hts (.constantLong RX10 238 (-1)) (by decide +kernel)) dX10_fits_11 ?_
      have hP9 := hP.sub (ws' := []) [] rfl
      have hD9 := hD.sub (ws' := []) [] (by decide) rfl
      refine W.widen (k := 0) (n := 0) (Nat.le_of_ble_eq_true rfl) (Nat.le_of_ble_eq_true rfl) ?_
      exact W.lret (v := (-1)) hx hb hr (fun tz htz hWz => ⟨⟨(-1), [], rfl, ⟨rfl, (by grind)⟩, by rw [htz]; exact hP9, va_K.moved hWz.alike hK, hD9⟩, hS.F htz⟩) hS.2.2 dX10_fits_14

set_option maxHeartbeats 4000000 in
set_option maxRecDepth 100000 in
theorem p_X10_can (l : Launch) (D : va_G) (cB cI cJ cS cZ cO : ClassId) (sz : Nat) (o : Nat) (x : Int32) (y : Int32) (z : Int32) (tp : Nat) (rd : Nat) (pr : Nat) (bx : Nat) (rw : Nat) (lt : Nat) (od : Nat) (se : Nat) (gm : Nat) (wl : Nat) (cu : Nat) (sp : Nat) (wl_places : Nat) (wl_kinds : Nat) (wl_values : Nat) (wl_toldAt : Nat) (wl_untoldAt : Nat) (wl_standing : Nat) (wl_rows : Nat) (wl_longer : Nat) (cu_name : Nat) (cu_worth : Nat) (cu_times : Nat) (cu_first : Nat) (cu_second : Nat) (cu_beforeLast : Nat) (cu_last : Nat) (cu_errandOf : Nat) (cu_errandAfter : Nat) (cu_sound : Nat) (cu_followers : Nat) (cu_leaders : Nat) (fwl_standing : Nat → Int32) : Met l yX10_can wsX10_can ({ frames := 3, cells := 0, slots := 0, locals := 72 }) (xPre D (tyL cB cI cJ cS cZ cO) [(o, .inr (10, [.ref tp, .ref rd, .ref pr, .ref bx, .ref rw, .ref lt, .ref od, .ref se, .ref gm, .ref wl, .ref cu, .ref sp])), (wl, .inr (9, [.ref wl_places, .ref wl_kinds, .ref wl_values, .ref wl_toldAt, .ref wl_untoldAt, .ref wl_standing, .ref wl_rows, .ref wl_longer, .int 0, .int 0])), (cu, .inr (8, [.ref cu_name, .ref cu_worth, .ref cu_times, .ref cu_first, .ref cu_second, .ref cu_beforeLast, .ref cu_last, .ref cu_errandOf, .ref cu_errandAfter, .ref cu_sound, .ref cu_followers, .ref cu_leaders, .int 0, .int 0, .int 0, .int (-1)])), (wl_standing, .inl (cI, 12, .inl fwl_standing))] sz [.ref o, .int x, .int y, .int z]) (xQi D (tyL cB cI cJ cS cZ cO) (va_A [(o, .inr (10, [.ref tp, .ref rd, .ref pr, .ref bx, .ref rw, .ref lt, .ref od, .ref se, .ref gm, .ref wl, .ref cu, .ref sp])), (wl, .inr (9, [.ref wl_places, .ref wl_kinds, .ref wl_values, .ref wl_toldAt, .ref wl_untoldAt, .ref wl_standing, .ref wl_rows, .ref wl_longer, .int 0, .int 0])), (cu, .inr (8, [.ref cu_name, .ref cu_worth, .ref cu_times, .ref cu_first, .ref cu_second, .ref cu_beforeLast, .ref cu_last, .ref cu_errandOf, .ref cu_errandAfter, .ref cu_sound, .ref cu_followers, .ref cu_leaders, .int 0, .int 0, .int 0, .int (-1)])), (wl_standing, .inl (cI, 12, .inl fwl_standing))] sz) (fun (r : Int32) (u : va_W) => u = [] ∧ r = if (1 ≤ x ∧ x ≤ 12) ∧ (0 ≤ y ∧ y < x) then 0 else (-1))) 0 0 (va_A [(o, .inr (10, [.ref tp, .ref rd, .ref pr, .ref bx, .ref rw, .ref lt, .ref od, .ref se, .ref gm, .ref wl, .ref cu, .ref sp])), (wl, .inr (9, [.ref wl_places, .ref wl_kinds, .ref wl_values, .ref wl_toldAt, .ref wl_untoldAt, .ref wl_standing, .ref wl_rows, .ref wl_longer, .int 0, .int 0])), (cu, .inr (8, [.ref cu_name, .ref cu_worth, .ref cu_times, .ref cu_first, .ref cu_second, .ref cu_beforeLast, .ref cu_last, .ref cu_errandOf, .ref cu_errandAfter, .ref cu_sound, .ref cu_followers, .ref cu_leaders, .int 0, .int 0, .int 0, .int (-1)])), (wl_standing, .inl (cI, 12, .inl fwl_standing))] sz) := by
  refine Met.ofW (cc := cX10_can) (maxL := 4) (ret := (some .int)) (by decide) rfl ?_
  intro p e s m args below meth c s₁ B hml hv
  obtain ⟨rfl, hsz, hP, hK, hD0, hN⟩ := hv
  have hx := B.exec
  have hb := B.bytes
  have hr := B.returns
  have hts := atoms_spec (ws := wsX10_can) B.pre
  have hown : s.vm.findClass RX10 = some m.cls := findClass_of_methodNamed B.named
  have hlocks := B.notSynchronized
  subst hsz
  have hD := hD0.self (sz := s.heap.size)
  generalize hAe : va_A [(o, .inr (10, [.ref tp, .ref rd, .ref pr, .ref bx, .ref rw, .ref lt, .ref od, .ref se, .ref gm, .ref wl, .ref cu, .ref sp])), (wl, .inr (9, [.ref wl_places, .ref wl_kinds, .ref wl_values, .ref wl_toldAt, .ref wl_untoldAt, .ref wl_standing, .ref wl_rows, .ref wl_longer, .int 0, .int 0])), (cu, .inr (8, [.ref cu_name, .ref cu_worth, .ref cu_times, .ref cu_first, .ref cu_second, .ref cu_beforeLast, .ref cu_last, .ref cu_errandOf, .ref cu_errandAfter, .ref cu_sound, .ref cu_followers, .ref cu_leaders, .int 0, .int 0, .int 0, .int (-1)])), (wl_standing, .inl (cI, 12, .inl fwl_standing))] s.heap.size = A at hD ⊢
  have hA : ∀ q : Nat, s.heap.size ≤ q → A q := fun q h => by rw [← hAe]; exact Or.inr h
  have hS : va_S A s.heap s.heap [] := va_S.rf
  have hP : va_P D vwCl [(o, .inr (10, [.ref tp, .ref rd, .ref pr, .ref bx, .ref rw, .ref lt, .ref od, .ref se, .ref gm, .ref wl, .ref cu, .ref sp])), (wl, .inr (9, [.ref wl_places, .ref wl_kinds, .ref wl_values, .ref wl_toldAt, .ref wl_untoldAt, .ref wl_standing, .ref wl_rows, .ref wl_longer, .int 0, .int 0])), (cu, .inr (8, [.ref cu_name, .ref cu_worth, .ref cu_times, .ref cu_first, .ref cu_second, .ref cu_beforeLast, .ref cu_last, .ref cu_errandOf, .ref cu_errandAfter, .ref cu_sound, .ref cu_followers, .ref cu_leaders, .int 0, .int 0, .int 0, .int (-1)])), (wl_standing, .inl (cI, 12, .inl fwl_standing))] s.heap := hP
  have hl := lv_entry ([.ref o, .int x, .int y, .int z]) (n := 4) (Nat.le_of_ble_eq_true rfl)
  rw [lg_entry_eq]
  generalize (lg_sl ([.ref o, .int x, .int y, .int z]) ++ List.replicate (4 - (lg_sl ([.ref o, .int x, .int y, .int z])).length) Slot.unset).toArray = ls at hl ⊢
  have hl : lv_has ls 4 [(0, .ref o), (1, .int x), (2, .int y), (3, .int z)] := hl
  refine lv_iload_n hx hb dX10_can_0 rfl (lv_at hl 1 rfl) ?_
  refine lv_iconst (v := 1) hx hb dX10_can_1 (by decide) ?_
  refine lv_icmp_lt (tgt := 20) hx hb dX10_can_2 (by decide) (fun c_1 => ?_) (fun c_1 => ?_)
  · refine lv_iconst (v := (-1)) hx hb dX10_can_20 (by decide) ?_
    have hP9 := hP.sub (ws' := []) [] rfl
    have hD9 := hD.sub (ws' := []) [] (by decide) rfl
    refine W.widen (k := 0) (n := 0) (Nat.le_of_ble_eq_true rfl) (Nat.le_of_ble_eq_true rfl) ?_
    exact W.iret (v := (-1)) hx hb hr (fun tz htz hWz => ⟨⟨(-1), [], rfl, ⟨rfl, (by grind)⟩, by rw [htz]; exact hP9, va_K.moved hWz.alike hK, hD9⟩, hS.F htz⟩) hS.2.2 dX10_can_21
  · refine lv_iload_n hx hb dX10_can_5 rfl (lv_at hl 1 rfl) ?_
    refine lv_bipush (v := 12) hx hb dX10_can_6 (by decide) ?_
    refine lv_icmp_gt (tgt := 20) hx hb dX10_can_8 (by decide) (fun c_2 => ?_) (fun c_2 => ?_)
    · refine lv_iconst (v := (-1)) hx hb dX10_can_20 (by decide) ?_
      have hP9 := hP.sub (ws' := []) [] rfl
      have hD9 := hD.sub (ws' := []) [] (by decide) rfl
      refine W.widen (k := 0) (n := 0) (Nat.le_of_ble_eq_true rfl) (Nat.le_of_ble_eq_true rfl) ?_
      exact W.iret (v := (-1)) hx hb hr (fun tz htz hWz => ⟨⟨(-1), [], rfl, ⟨rfl, (by grind)⟩, by rw [htz]; exact hP9, va_K.moved hWz.alike hK, hD9⟩, hS.F htz⟩) hS.2.2 dX10_can_21
    · refine lv_iload_n hx hb dX10_can_11 rfl (lv_at hl 2 rfl) ?_
      refine lv_if_lt (tgt := 20) hx hb dX10_can_12 (by decide) (fun c_3 => ?_) (fun c_3 => ?_)
      · refine lv_iconst (v := (-1)) hx hb dX10_can_20 (by decide) ?_
        have hP9 := hP.sub (ws' := []) [] rfl
        have hD9 := hD.sub (ws' := []) [] (by decide) rfl
        refine W.widen (k := 0) (n := 0) (Nat.le_of_ble_eq_true rfl) (Nat.le_of_ble_eq_true rfl) ?_
        exact W.iret (v := (-1)) hx hb hr (fun tz htz hWz => ⟨⟨(-1), [], rfl, ⟨rfl, (by grind)⟩, by rw [htz]; exact hP9, va_K.moved hWz.alike hK, hD9⟩, hS.F htz⟩) hS.2.2 dX10_can_21
      · refine lv_iload_n hx hb dX10_can_15 rfl (lv_at hl 2 rfl) ?_
        refine lv_iload_n hx hb dX10_can_16 rfl (lv_at hl 1 rfl) ?_
        refine lv_icmp_lt (tgt := 22) hx hb dX10_can_17 (by decide) (fun c_4 => ?_) (fun c_4 => ?_)
        · rcases ib_can c_1 c_2 c_3 c_4 with ⟨N, Q, hNn, hQ, rfl, rfl⟩
          · refine lv_aload_n hx hb dX10_can_22 rfl (lv_at hl 0 rfl) ?_
            refine va_get (D := D) (ci := 10) (v := .ref wl) (C := RX10) (T := TX10) (N := 12) hx hb hts (by decide +kernel) hown hK hP 0 rfl rfl 9 (by decide) (hts (.fieldLink RX10 74 "LastLetter" "wall" "LLastLetter$Wall;") (by decide +kernel)) (fun _ h9 => h9) rfl dX10_can_23 ?_
            refine lv_aload_n hx hb dX10_can_26 rfl (lv_at hl 0 rfl) ?_
            refine va_get (D := D) (ci := 10) (v := .ref cu) (C := RX10) (T := TX10) (N := 12) hx hb hts (by decide +kernel) hown hK hP 0 rfl rfl 10 (by decide) (hts (.fieldLink RX10 81 "LastLetter" "current" "LLastLetter$Tongue;") (by decide +kernel)) (fun _ h9 => h9) rfl dX10_can_27 ?_
            refine lv_iload_n hx hb dX10_can_30 rfl (lv_at hl 1 rfl) ?_
            refine lv_iload_n hx hb dX10_can_31 rfl (lv_at hl 2 rfl) ?_
            refine lv_iload_n hx hb dX10_can_32 rfl (lv_at hl 3 rfl) ?_
            refine xCi (wr := [(o, .inr (10, [.ref tp, .ref rd, .ref pr, .ref bx, .ref rw, .ref lt, .ref od, .ref se, .ref gm, .ref wl, .ref cu, .ref sp]))]) (win := [(wl, .inr (9, [.ref wl_places, .ref wl_kinds, .ref wl_values, .ref wl_toldAt, .ref wl_untoldAt, .ref wl_standing, .ref wl_rows, .ref wl_longer, .int 0, .int 0])), (cu, .inr (8, [.ref cu_name, .ref cu_worth, .ref cu_times, .ref cu_first, .ref cu_second, .ref cu_beforeLast, .ref cu_last, .ref cu_errandOf, .ref cu_errandAfter, .ref cu_sound, .ref cu_followers, .ref cu_leaders, .int 0, .int 0, .int 0, .int (-1)])), (wl_standing, .inl (cI, 12, .inl fwl_standing))]) hP hD hS hA [1, 2, 3] [0] rfl rfl (by decide) (by decide) (va_runV (As := [.ref cu, .int (nI (N + 1)), .int (nI Q), .int z]) (rest := []) ⟨hx, hb, hml, hown, hts⟩ (c_X9_standAt l D cB cI cJ cS cZ cO s.heap.size wl cu _ _ z wl_places wl_kinds wl_values wl_toldAt wl_untoldAt wl_standing wl_rows wl_longer 0 cu_name cu_worth cu_times cu_first cu_second cu_beforeLast cu_last cu_errandOf cu_errandAfter cu_sound cu_followers cu_leaders 0 0 (-1) fwl_standing hNn hQ) (cwV 4 hts gX10_can_X9_standAt rfl rfl rfl (by decide +kernel) ⟨Nat.le_of_ble_eq_true rfl, Nat.le_of_ble_eq_true rfl⟩) (xPreV (win := [(wl, .inr (9, [.ref wl_places, .ref wl_kinds, .ref wl_values, .ref wl_toldAt, .ref wl_untoldAt, .ref wl_standing, .ref wl_rows, .ref wl_longer, .int 0, .int 0])), (cu, .inr (8, [.ref cu_name, .ref cu_worth, .ref cu_times, .ref cu_first, .ref cu_second, .ref cu_beforeLast, .ref cu_last, .ref cu_errandOf, .ref cu_errandAfter, .ref cu_sound, .ref cu_followers, .ref cu_leaders, .int 0, .int 0, .int 0, .int (-1)])), (wl_standing, .inl (cI, 12, .inl fwl_standing))]) hN hK hP hD [1, 2, 3] (by decide) rfl 1 9 rfl rfl rfl) rfl rfl hl.1 rfl (lv_room (Nat.le_of_ble_eq_true rfl)) dX10_can_33 ⟨Nat.le_of_ble_eq_true rfl, Nat.le_of_ble_eq_true rfl⟩) (fun r0 w0 H locs hw hP hD hS => ?_)
            obtain ⟨rfl, rfl⟩ := hw
            have hP : va_P D vwCl [(o, .inr (10, [.ref tp, .ref rd, .ref pr, .ref bx, .ref rw, .ref lt, .ref od, .ref se, .ref gm, .ref wl, .ref cu, .ref sp]))] H := hP
            have hD : va_D A [(o, .inr (10, [.ref tp, .ref rd, .ref pr, .ref bx, .ref rw, .ref lt, .ref od, .ref se, .ref gm, .ref wl, .ref cu, .ref sp]))] := hD
            have hP9 := hP.sub (ws' := []) [] rfl
            have hD9 := hD.sub (ws' := []) [] (by decide) rfl
            refine W.widen (k := 0) (n := 0) (Nat.le_of_ble_eq_true rfl) (Nat.le_of_ble_eq_true rfl) ?_
            exact W.iret (v := 0) hx hb hr (fun tz htz hWz => ⟨⟨0, [], rfl, ⟨rfl, (by grind)⟩, by rw [htz]; exact hP9, va_K.moved hWz.alike hK, hD9⟩, hS.F htz⟩) hS.2.2 dX10_can_36
        · refine lv_iconst (v := (-1)) hx hb dX10_can_20 (by decide) ?_
          have hP9 := hP.sub (ws' := []) [] rfl
          have hD9 := hD.sub (ws' := []) [] (by decide) rfl
          refine W.widen (k := 0) (n := 0) (Nat.le_of_ble_eq_true rfl) (Nat.le_of_ble_eq_true rfl) ?_
          exact W.iret (v := (-1)) hx hb hr (fun tz htz hWz => ⟨⟨(-1), [], rfl, ⟨rfl, (by grind)⟩, by rw [htz]; exact hP9, va_K.moved hWz.alike hK, hD9⟩, hS.F htz⟩) hS.2.2 dX10_can_21

set_option maxHeartbeats 4000000 in
set_option maxRecDepth 100000 in
theorem p_X10_seed (l : Launch) (D : va_G) (cB cI cJ cS cZ cO : ClassId) (sz : Nat) (o : Nat) (x : Int32) (tp : Nat) (rd : Nat) (pr : Nat) (bx : Nat) (rw : Nat) (lt : Nat) (od : Nat) (se : Nat) (gm : Nat) (wl : Nat) (cu : Nat) (sp : Nat) (ps : Nat) : Met l yX10_seed wsX10_seed ({ frames := 0, cells := 0, slots := 0, locals := 0 }) (xPre D (tyL cB cI cJ cS cZ cO) [(o, .inr (10, [.ref tp, .ref rd, .ref pr, .ref bx, .ref rw, .ref lt, .ref od, .ref se, .ref gm, .ref wl, .ref cu, .ref sp])), (pr, .inr (6, [.ref ps, .int (-1), .int 0, .int 0, .int 0, .int 1, .int 0]))] sz [.ref o, .int x]) (xQi D (tyL cB cI cJ cS cZ cO) (va_A [(o, .inr (10, [.ref tp, .ref rd, .ref pr, .ref bx, .ref rw, .ref lt, .ref od, .ref se, .ref gm, .ref wl, .ref cu, .ref sp])), (pr, .inr (6, [.ref ps, .int (-1), .int 0, .int 0, .int 0, .int 1, .int 0]))] sz) (fun (r : Int32) (u : va_W) => u = [] ∧ r = 1)) 0 0 (va_A [(o, .inr (10, [.ref tp, .ref rd, .ref pr, .ref bx, .ref rw, .ref lt, .ref od, .ref se, .ref gm, .ref wl, .ref cu, .ref sp])), (pr, .inr (6, [.ref ps, .int (-1), .int 0, .int 0, .int 0, .int 1, .int 0]))] sz) := by
  refine Met.ofW (cc := cX10_seed) (maxL := 3) (ret := (some .int)) (by decide) rfl ?_
  intro p e s m args below meth c s₁ B hml hv
  obtain ⟨rfl, hsz, hP, hK, hD0, hN⟩ := hv
  have hx := B.exec
  have hb := B.bytes
  have hr := B.returns
  have hts := atoms_spec (ws := wsX10_seed) B.pre
  have hown : s.vm.findClass RX10 = some m.cls := findClass_of_methodNamed B.named
  have hlocks := B.notSynchronized
  subst hsz
  have hD := hD0.self (sz := s.heap.size)
  generalize hAe : va_A [(o, .inr (10, [.ref tp, .ref rd, .ref pr, .ref bx, .ref rw, .ref lt, .ref od, .ref se, .ref gm, .ref wl, .ref cu, .ref sp])), (pr, .inr (6, [.ref ps, .int (-1), .int 0, .int 0, .int 0, .int 1, .int 0]))] s.heap.size = A at hD ⊢
  have hA : ∀ q : Nat, s.heap.size ≤ q → A q := fun q h => by rw [← hAe]; exact Or.inr h
  have hS : va_S A s.heap s.heap [] := va_S.rf
  have hP : va_P D vwCl [(o, .inr (10, [.ref tp, .ref rd, .ref pr, .ref bx, .ref rw, .ref lt, .ref od, .ref se, .ref gm, .ref wl, .ref cu, .ref sp])), (pr, .inr (6, [.ref ps, .int (-1), .int 0, .int 0, .int 0, .int 1, .int 0]))] s.heap := hP
  have hl := lv_entry ([.ref o, .int x]) (n := 3) (Nat.le_of_ble_eq_true rfl)
  rw [lg_entry_eq]
  generalize (lg_sl ([.ref o, .int x]) ++ List.replicate (3 - (lg_sl ([.ref o, .int x])).length) Slot.unset).toArray = ls at hl ⊢
  have hl : lv_has ls 3 [(0, .ref o), (1, .int x)] := hl
  refine lv_aload_n hx hb dX10_seed_0 rfl (lv_at hl 0 rfl) ?_
  refine va_get (D := D) (ci := 10) (v := .ref pr) (C := RX10) (T := TX10) (N := 12) hx hb hts (by decide +kernel) hown hK hP 0 rfl rfl 2 (by decide) (hts (.fieldLink RX10 28 "LastLetter" "present" "LLastLetter$Talk;") (by decide +kernel)) (fun _ h9 => h9) rfl dX10_seed_1 ?_
  refine va_getN (D := D) (ci := 6) (v := .int 1) (C := RX6) (T := TX6) (N := 7) hx hb hts (by decide +kernel) hown hK hP 1 rfl rfl 5 (by decide) (va_Nw.use rfl (hN.1 (RX10, 248, RX6, "w", "I", RX10) (by decide +kernel))) (fun _ h9 => h9) rfl dX10_seed_4 ?_
  refine lv_istore_n (lv' := [(2, .int 1), (0, .ref o), (1, .int x)]) hx hb dX10_seed_7 rfl hl (by decide) rfl (fun ls hl => ?_)
  refine lv_aload_n hx hb dX10_seed_8 rfl (lv_at hl 1 rfl) ?_
  refine va_get (D := D) (ci := 10) (v := .ref pr) (C := RX10) (T := TX10) (N := 12) hx hb hts (by decide +kernel) hown hK hP 0 rfl rfl 2 (by decide) (hts (.fieldLink RX10 28 "LastLetter" "present" "LLastLetter$Talk;") (by decide +kernel)) (fun _ h9 => h9) rfl dX10_seed_9 ?_
  refine lv_iload_n hx hb dX10_seed_12 rfl (lv_at hl 2 rfl) ?_
  refine va_putN (D := D) (ci := 6) (v := .int x) (ty := .int) (C := RX6) (T := TX6) (N := 7) hx hb hts (by decide +kernel) tyX6 tyX6_ok nmX6 hown hK hP hD hS 1 rfl rfl 5 (by decide) (va_Nw.use rfl (hN.1 (RX10, 248, RX6, "w", "I", RX10) (by decide +kernel))) (fun _ h9 => h9) rfl (by decide +kernel) rfl rfl (Nat.le_of_ble_eq_true rfl) dX10_seed_13 (fun H locs hP hD hS => ?_)
  have hP : va_P D vwCl [(o, .inr (10, [.ref tp, .ref rd, .ref pr, .ref bx, .ref rw, .ref lt, .ref od, .ref se, .ref gm, .ref wl, .ref cu, .ref sp])), (pr, .inr (6, [.ref ps, .int (-1), .int 0, .int 0, .int 0, .int x, .int 0]))] H := hP
  have hD : va_D A [(o, .inr (10, [.ref tp, .ref rd, .ref pr, .ref bx, .ref rw, .ref lt, .ref od, .ref se, .ref gm, .ref wl, .ref cu, .ref sp])), (pr, .inr (6, [.ref ps, .int (-1), .int 0, .int 0, .int 0, .int x, .int 0]))] := hD
  refine lv_iload_n hx hb dX10_seed_16 rfl (lv_at hl 0 rfl) ?_
  have hP9 := hP.sub (ws' := []) [] rfl
  have hD9 := hD.sub (ws' := []) [] (by decide) rfl
  refine W.widen (k := 0) (n := 0) (Nat.le_of_ble_eq_true rfl) (Nat.le_of_ble_eq_true rfl) ?_
  exact W.iret (v := 1) hx hb hr (fun tz htz hWz => ⟨⟨1, [], rfl, ⟨rfl, rfl⟩, by rw [htz]; exact hP9, va_K.moved hWz.alike hK, hD9⟩, hS.F htz⟩) hS.2.2 dX10_seed_17

set_option maxHeartbeats 4000000 in
set_option maxRecDepth 100000 in
theorem p_X10_image (l : Launch) (D : va_G) (cB cI cJ cS cZ cO : ClassId) (sz : Nat) (o : Nat) (x : Int32) (tp : Nat) (rd : Nat) (pr : Nat) (bx : Nat) (rw : Nat) (lt : Nat) (od : Nat) (se : Nat) (gm : Nat) (wl : Nat) (cu : Nat) (sp : Nat) (ps : Nat) (fps : Nat → Int32) (fbx : Nat → Option Nat) (b0 : Nat) (s0 : Nat) (fs0 : Nat → Int32) (b1 : Nat) (s1 : Nat) (fs1 : Nat → Int32) (b2 : Nat) (s2 : Nat) (fs2 : Nat → Int32) (hb0 : fbx 0 = some b0) (hb1 : fbx 1 = some b1) (hb2 : fbx 2 = some b2) : Met l yX10_image wsX10_image ({ frames := 2, cells := 0, slots := 0, locals := 61 }) (xPre D (tyL cB cI cJ cS cZ cO) [(o, .inr (10, [.ref tp, .ref rd, .ref pr, .ref bx, .ref rw, .ref lt, .ref od, .ref se, .ref gm, .ref wl, .ref cu, .ref sp])), (pr, .inr (6, [.ref ps, .int (-1), .int 0, .int 0, .int 0, .int 1, .int 0])), (ps, .inl (cI, 24, .inl fps)), (bx, .inl (cO, 3, .inr (.inr (.inr (.inr fbx))))), (b0, .inr (6, [.ref s0, .int (-1), .int 0, .int 0, .int 0, .int 1, .int 0])), (s0, .inl (cI, 24, .inl fs0)), (b1, .inr (6, [.ref s1, .int (-1), .int 0, .int 0, .int 0, .int 1, .int 0])), (s1, .inl (cI, 24, .inl fs1)), (b2, .inr (6, [.ref s2, .int (-1), .int 0, .int 0, .int 0, .int 1, .int 0])), (s2, .inl (cI, 24, .inl fs2))] sz [.ref o, .int x]) (xQi D (tyL cB cI cJ cS cZ cO) (va_A [(o, .inr (10, [.ref tp, .ref rd, .ref pr, .ref bx, .ref rw, .ref lt, .ref od, .ref se, .ref gm, .ref wl, .ref cu, .ref sp])), (pr, .inr (6, [.ref ps, .int (-1), .int 0, .int 0, .int 0, .int 1, .int 0])), (ps, .inl (cI, 24, .inl fps)), (bx, .inl (cO, 3, .inr (.inr (.inr (.inr fbx))))), (b0, .inr (6, [.ref s0, .int (-1), .int 0, .int 0, .int 0, .int 1, .int 0])), (s0, .inl (cI, 24, .inl fs0)), (b1, .inr (6, [.ref s1, .int (-1), .int 0, .int 0, .int 0, .int 1, .int 0])), (s1, .inl (cI, 24, .inl fs1)), (b2, .inr (6, [.ref s2, .int (-1), .int 0, .int 0, .int 0, .int 1, .int 0])), (s2, .inl (cI, 24, .inl fs2))] sz) (fun (r : Int32) (u : va_W) => u = [] ∧ r = if 0 ≤ x ∧ x ≤ 2 then 0 else (-1))) 0 0 (va_A [(o, .inr (10, [.ref tp, .ref rd, .ref pr, .ref bx, .ref rw, .ref lt, .ref od, .ref se, .ref gm, .ref wl, .ref cu, .ref sp])), (pr, .inr (6, [.ref ps, .int (-1), .int 0, .int 0, .int 0, .int 1, .int 0])), (ps, .inl (cI, 24, .inl fps)), (bx, .inl (cO, 3, .inr (.inr (.inr (.inr fbx))))), (b0, .inr (6, [.ref s0, .int (-1), .int 0, .int 0, .int 0, .int 1, .int 0])), (s0, .inl (cI, 24, .inl fs0)), (b1, .inr (6, [.ref s1, .int (-1), .int 0, .int 0, .int 0, .int 1, .int 0])), (s1, .inl (cI, 24, .inl fs1)), (b2, .inr (6, [.ref s2, .int (-1), .int 0, .int 0, .int 0, .int 1, .int 0])), (s2, .inl (cI, 24, .inl fs2))] sz) := by
  refine Met.ofW (cc := cX10_image) (maxL := 2) (ret := (some .int)) (by decide) rfl ?_
  intro p e s m args below meth c s₁ B hml hv
  obtain ⟨rfl, hsz, hP, hK, hD0, hN⟩ := hv
  have hx := B.exec
  have hb := B.bytes
  have hr := B.returns
  have hts := atoms_spec (ws := wsX10_image) B.pre
  have hown : s.vm.findClass RX10 = some m.cls := findClass_of_methodNamed B.named
  have hlocks := B.notSynchronized
  subst hsz
  have hD := hD0.self (sz := s.heap.size)
  generalize hAe : va_A [(o, .inr (10, [.ref tp, .ref rd, .ref pr, .ref bx, .ref rw, .ref lt, .ref od, .ref se, .ref gm, .ref wl, .ref cu, .ref sp])), (pr, .inr (6, [.ref ps, .int (-1), .int 0, .int 0, .int 0, .int 1, .int 0])), (ps, .inl (cI, 24, .inl fps)), (bx, .inl (cO, 3, .inr (.inr (.inr (.inr fbx))))), (b0, .inr (6, [.ref s0, .int (-1), .int 0, .int 0, .int 0, .int 1, .int 0])), (s0, .inl (cI, 24, .inl fs0)), (b1, .inr (6, [.ref s1, .int (-1), .int 0, .int 0, .int 0, .int 1, .int 0])), (s1, .inl (cI, 24, .inl fs1)), (b2, .inr (6, [.ref s2, .int (-1), .int 0, .int 0, .int 0, .int 1, .int 0])), (s2, .inl (cI, 24, .inl fs2))] s.heap.size = A at hD ⊢
  have hA : ∀ q : Nat, s.heap.size ≤ q → A q := fun q h => by rw [← hAe]; exact Or.inr h
  have hS : va_S A s.heap s.heap [] := va_S.rf
  have hP : va_P D vwCl [(o, .inr (10, [.ref tp, .ref rd, .ref pr, .ref bx, .ref rw, .ref lt, .ref od, .ref se, .ref gm, .ref wl, .ref cu, .ref sp])), (pr, .inr (6, [.ref ps, .int (-1), .int 0, .int 0, .int 0, .int 1, .int 0])), (ps, .inl (cI, 24, .inl fps)), (bx, .inl (cO, 3, .inr (.inr (.inr (.inr fbx))))), (b0, .inr (6, [.ref s0, .int (-1), .int 0, .int 0, .int 0, .int 1, .int 0])), (s0, .inl (cI, 24, .inl fs0)), (b1, .inr (6, [.ref s1, .int (-1), .int 0, .int 0, .int 0, .int 1, .int 0])), (s1, .inl (cI, 24, .inl fs1)), (b2, .inr (6, [.ref s2, .int (-1), .int 0, .int 0, .int 0, .int 1, .int 0])), (s2, .inl (cI, 24, .inl fs2))] s.heap := hP
  have hl := lv_entry ([.ref o, .int x]) (n := 2) (Nat.le_of_ble_eq_true rfl)
  rw [lg_entry_eq]
  generalize (lg_sl ([.ref o, .int x]) ++ List.replicate (2 - (lg_sl ([.ref o, .int x])).length) Slot.unset).toArray = ls at hl ⊢
  have hl : lv_has ls 2 [(0, .ref o), (1, .int x)] := hl
  refine lv_iload_n hx hb dX10_image_0 rfl (lv_at hl 1 rfl) ?_
  refine lv_if_lt (tgt := 9) hx hb dX10_image_1 (by decide) (fun c_1 => ?_) (fun c_1 => ?_)
  · refine lv_iconst (v := (-1)) hx hb dX10_image_9 (by decide) ?_
    have hP9 := hP.sub (ws' := []) [] rfl
    have hD9 := hD.sub (ws' := []) [] (by decide) rfl
    refine W.widen (k := 0) (n := 0) (Nat.le_of_ble_eq_true rfl) (Nat.le_of_ble_eq_true rfl) ?_
    exact W.iret (v := (-1)) hx hb hr (fun tz htz hWz => ⟨⟨(-1), [], rfl, ⟨rfl, (by grind)⟩, by rw [htz]; exact hP9, va_K.moved hWz.alike hK, hD9⟩, hS.F htz⟩) hS.2.2 dX10_image_10
  · refine lv_iload_n hx hb dX10_image_4 rfl (lv_at hl 1 rfl) ?_
    refine lv_iconst (v := 3) hx hb dX10_image_5 (by decide) ?_
    refine lv_icmp_lt (tgt := 11) hx hb dX10_image_6 (by decide) (fun c_2 => ?_) (fun c_2 => ?_)
    · rcases ib_3 c_1 c_2 with rfl | rfl | rfl
      · refine lv_aload_n hx hb dX10_image_11 rfl (lv_at hl 0 rfl) ?_
        refine va_get (D := D) (ci := 10) (v := .ref bx) (C := RX10) (T := TX10) (N := 12) hx hb hts (by decide +kernel) hown hK hP 0 rfl rfl 3 (by decide) (hts (.fieldLink RX10 32 "LastLetter" "boxes" "[LLastLetter$Talk;") (by decide +kernel)) (fun _ h9 => h9) rfl dX10_image_12 ?_
        refine lv_iload_n hx hb dX10_image_15 rfl (lv_at hl 1 rfl) ?_
        refine va_aldq hx hb hK hP 3 5 rfl rfl (by unfold vp_in; decide) dX10_image_16 ?_
        refine xb_topv (y := .ref b0) (congrArg va_rf hb0) ?_
        refine lv_aload_n hx hb dX10_image_17 rfl (lv_at hl 0 rfl) ?_
        refine va_get (D := D) (ci := 10) (v := .ref pr) (C := RX10) (T := TX10) (N := 12) hx hb hts (by decide +kernel) hown hK hP 0 rfl rfl 2 (by decide) (hts (.fieldLink RX10 28 "LastLetter" "present" "LLastLetter$Talk;") (by decide +kernel)) (fun _ h9 => h9) rfl dX10_image_18 ?_
        refine xCv (wr := [(o, .inr (10, [.ref tp, .ref rd, .ref pr, .ref bx, .ref rw, .ref lt, .ref od, .ref se, .ref gm, .ref wl, .ref cu, .ref sp])), (bx, .inl (cO, 3, .inr (.inr (.inr (.inr fbx))))), (b1, .inr (6, [.ref s1, .int (-1), .int 0, .int 0, .int 0, .int 1, .int 0])), (s1, .inl (cI, 24, .inl fs1)), (b2, .inr (6, [.ref s2, .int (-1), .int 0, .int 0, .int 0, .int 1, .int 0])), (s2, .inl (cI, 24, .inl fs2))]) (win := [(b0, .inr (6, [.ref s0, .int (-1), .int 0, .int 0, .int 0, .int 1, .int 0])), (pr, .inr (6, [.ref ps, .int (-1), .int 0, .int 0, .int 0, .int 1, .int 0])), (s0, .inl (cI, 24, .inl fs0)), (ps, .inl (cI, 24, .inl fps))]) hP hD hS hA [4, 1, 5, 2] [0, 3, 6, 7, 8, 9] rfl rfl (by decide) (by decide) (va_runV (As := [.ref pr]) (rest := []) ⟨hx, hb, hml, hown, hts⟩ (c_X6_copy l D cB cI cJ cS cZ cO s.heap.size b0 pr s0 (-1) 0 0 0 1 0 ps (-1) 0 0 0 1 0 fs0 fps ) (cwV 1 hts gX10_image_X6_copy rfl rfl rfl (by decide +kernel) ⟨Nat.le_of_ble_eq_true rfl, Nat.le_of_ble_eq_true rfl⟩) (xPreV (win := [(b0, .inr (6, [.ref s0, .int (-1), .int 0, .int 0, .int 0, .int 1, .int 0])), (pr, .inr (6, [.ref ps, .int (-1), .int 0, .int 0, .int 0, .int 1, .int 0])), (s0, .inl (cI, 24, .inl fs0)), (ps, .inl (cI, 24, .inl fps))]) hN hK hP hD [4, 1, 5, 2] (by decide) rfl 4 6 rfl rfl rfl) rfl rfl hl.1 rfl (lv_room (Nat.le_of_ble_eq_true rfl)) dX10_image_21 ⟨Nat.le_of_ble_eq_true rfl, Nat.le_of_ble_eq_true rfl⟩) (fun w0 H locs hw hP hD hS => ?_)
        obtain ⟨g_3, rfl⟩ := hw
        have hP : va_P D vwCl [(o, .inr (10, [.ref tp, .ref rd, .ref pr, .ref bx, .ref rw, .ref lt, .ref od, .ref se, .ref gm, .ref wl, .ref cu, .ref sp])), (bx, .inl (cO, 3, .inr (.inr (.inr (.inr fbx))))), (b1, .inr (6, [.ref s1, .int (-1), .int 0, .int 0, .int 0, .int 1, .int 0])), (s1, .inl (cI, 24, .inl fs1)), (b2, .inr (6, [.ref s2, .int (-1), .int 0, .int 0, .int 0, .int 1, .int 0])), (s2, .inl (cI, 24, .inl fs2)), (b0, .inr (6, [.ref s0, .int (-1), .int 0, .int 0, .int 0, .int 1, .int 0])), (pr, .inr (6, [.ref ps, .int (-1), .int 0, .int 0, .int 0, .int 1, .int 0])), (s0, .inl (cI, 24, .inl g_3)), (ps, .inl (cI, 24, .inl fps))] H := hP
        have hD : va_D A [(o, .inr (10, [.ref tp, .ref rd, .ref pr, .ref bx, .ref rw, .ref lt, .ref od, .ref se, .ref gm, .ref wl, .ref cu, .ref sp])), (bx, .inl (cO, 3, .inr (.inr (.inr (.inr fbx))))), (b1, .inr (6, [.ref s1, .int (-1), .int 0, .int 0, .int 0, .int 1, .int 0])), (s1, .inl (cI, 24, .inl fs1)), (b2, .inr (6, [.ref s2, .int (-1), .int 0, .int 0, .int 0, .int 1, .int 0])), (s2, .inl (cI, 24, .inl fs2)), (b0, .inr (6, [.ref s0, .int (-1), .int 0, .int 0, .int 0, .int 1, .int 0])), (pr, .inr (6, [.ref ps, .int (-1), .int 0, .int 0, .int 0, .int 1, .int 0])), (s0, .inl (cI, 24, .inl g_3)), (ps, .inl (cI, 24, .inl fps))] := hD
        refine lv_aload_n hx hb dX10_image_24 rfl (lv_at hl 0 rfl) ?_
        refine va_get (D := D) (ci := 10) (v := .ref bx) (C := RX10) (T := TX10) (N := 12) hx hb hts (by decide +kernel) hown hK hP 0 rfl rfl 3 (by decide) (hts (.fieldLink RX10 32 "LastLetter" "boxes" "[LLastLetter$Talk;") (by decide +kernel)) (fun _ h9 => h9) rfl dX10_image_25 ?_
        refine lv_iload_n hx hb dX10_image_28 rfl (lv_at hl 1 rfl) ?_
        refine va_aldq hx hb hK hP 1 5 rfl rfl (by unfold vp_in; decide) dX10_image_29 ?_
        refine xb_topv (y := .ref b0) (congrArg va_rf hb0) ?_
        refine lv_iconst (v := 1) hx hb dX10_image_30 (by decide) ?_
        refine va_putN (D := D) (ci := 6) (v := .int 1) (ty := .boolean) (C := RX6) (T := TX6) (N := 7) hx hb hts (by decide +kernel) tyX6 tyX6_ok nmX6 hown hK hP hD hS 6 rfl rfl 6 (by decide) (va_Nw.use rfl (hN.1 (RX10, 106, RX6, "kept", "Z", RX10) (by decide +kernel))) (fun _ h9 => h9) rfl (by decide +kernel) rfl rfl (Nat.le_of_ble_eq_true rfl) dX10_image_31 (fun H locs hP hD hS => ?_)
        have hP : va_P D vwCl [(o, .inr (10, [.ref tp, .ref rd, .ref pr, .ref bx, .ref rw, .ref lt, .ref od, .ref se, .ref gm, .ref wl, .ref cu, .ref sp])), (bx, .inl (cO, 3, .inr (.inr (.inr (.inr fbx))))), (b1, .inr (6, [.ref s1, .int (-1), .int 0, .int 0, .int 0, .int 1, .int 0])), (s1, .inl (cI, 24, .inl fs1)), (b2, .inr (6, [.ref s2, .int (-1), .int 0, .int 0, .int 0, .int 1, .int 0])), (s2, .inl (cI, 24, .inl fs2)), (b0, .inr (6, [.ref s0, .int (-1), .int 0, .int 0, .int 0, .int 1, .int 1])), (pr, .inr (6, [.ref ps, .int (-1), .int 0, .int 0, .int 0, .int 1, .int 0])), (s0, .inl (cI, 24, .inl g_3)), (ps, .inl (cI, 24, .inl fps))] H := hP
        have hD : va_D A [(o, .inr (10, [.ref tp, .ref rd, .ref pr, .ref bx, .ref rw, .ref lt, .ref od, .ref se, .ref gm, .ref wl, .ref cu, .ref sp])), (bx, .inl (cO, 3, .inr (.inr (.inr (.inr fbx))))), (b1, .inr (6, [.ref s1, .int (-1), .int 0, .int 0, .int 0, .int 1, .int 0])), (s1, .inl (cI, 24, .inl fs1)), (b2, .inr (6, [.ref s2, .int (-1), .int 0, .int 0, .int 0, .int 1, .int 0])), (s2, .inl (cI, 24, .inl fs2)), (b0, .inr (6, [.ref s0, .int (-1), .int 0, .int 0, .int 0, .int 1, .int 1])), (pr, .inr (6, [.ref ps, .int (-1), .int 0, .int 0, .int 0, .int 1, .int 0])), (s0, .inl (cI, 24, .inl g_3)), (ps, .inl (cI, 24, .inl fps))] := hD
        refine lv_aload_n hx hb dX10_image_34 rfl (lv_at hl 0 rfl) ?_
        refine va_get (D := D) (ci := 10) (v := .ref pr) (C := RX10) (T := TX10) (N := 12) hx hb hts (by decide +kernel) hown hK hP 0 rfl rfl 2 (by decide) (hts (.fieldLink RX10 28 "LastLetter" "present" "LLastLetter$Talk;") (by decide +kernel)) (fun _ h9 => h9) rfl dX10_image_35 ?_
        refine va_getN (D := D) (ci := 6) (v := .int 0) (C := RX6) (T := TX6) (N := 7) hx hb hts (by decide +kernel) hown hK hP 7 rfl rfl 2 (by decide) (va_Nw.use rfl (hN.1 (RX10, 148, RX6, "spoken", "I", RX10) (by decide +kernel))) (fun _ h9 => h9) rfl dX10_image_38 ?_
        have hP9 := hP.sub (ws' := []) [] rfl
        have hD9 := hD.sub (ws' := []) [] (by decide) rfl
        refine W.widen (k := 0) (n := 0) (Nat.le_of_ble_eq_true rfl) (Nat.le_of_ble_eq_true rfl) ?_
        exact W.iret (v := 0) hx hb hr (fun tz htz hWz => ⟨⟨0, [], rfl, ⟨rfl, (by grind)⟩, by rw [htz]; exact hP9, va_K.moved hWz.alike hK, hD9⟩, hS.F htz⟩) hS.2.2 dX10_image_41
      · refine lv_aload_n hx hb dX10_image_11 rfl (lv_at hl 0 rfl) ?_
        refine va_get (D := D) (ci := 10) (v := .ref bx) (C := RX10) (T := TX10) (N := 12) hx hb hts (by decide +kernel) hown hK hP 0 rfl rfl 3 (by decide) (hts (.fieldLink RX10 32 "LastLetter" "boxes" "[LLastLetter$Talk;") (by decide +kernel)) (fun _ h9 => h9) rfl dX10_image_12 ?_
        refine lv_iload_n hx hb dX10_image_15 rfl (lv_at hl 1 rfl) ?_
        refine va_aldq hx hb hK hP 3 5 rfl rfl (by unfold vp_in; decide) dX10_image_16 ?_
        refine xb_topv (y := .ref b1) (congrArg va_rf hb1) ?_
        refine lv_aload_n hx hb dX10_image_17 rfl (lv_at hl 0 rfl) ?_
        refine va_get (D := D) (ci := 10) (v := .ref pr) (C := RX10) (T := TX10) (N := 12) hx hb hts (by decide +kernel) hown hK hP 0 rfl rfl 2 (by decide) (hts (.fieldLink RX10 28 "LastLetter" "present" "LLastLetter$Talk;") (by decide +kernel)) (fun _ h9 => h9) rfl dX10_image_18 ?_
        refine xCv (wr := [(o, .inr (10, [.ref tp, .ref rd, .ref pr, .ref bx, .ref rw, .ref lt, .ref od, .ref se, .ref gm, .ref wl, .ref cu, .ref sp])), (bx, .inl (cO, 3, .inr (.inr (.inr (.inr fbx))))), (b0, .inr (6, [.ref s0, .int (-1), .int 0, .int 0, .int 0, .int 1, .int 0])), (s0, .inl (cI, 24, .inl fs0)), (b2, .inr (6, [.ref s2, .int (-1), .int 0, .int 0, .int 0, .int 1, .int 0])), (s2, .inl (cI, 24, .inl fs2))]) (win := [(b1, .inr (6, [.ref s1, .int (-1), .int 0, .int 0, .int 0, .int 1, .int 0])), (pr, .inr (6, [.ref ps, .int (-1), .int 0, .int 0, .int 0, .int 1, .int 0])), (s1, .inl (cI, 24, .inl fs1)), (ps, .inl (cI, 24, .inl fps))]) hP hD hS hA [6, 1, 7, 2] [0, 3, 4, 5, 8, 9] rfl rfl (by decide) (by decide) (va_runV (As := [.ref pr]) (rest := []) ⟨hx, hb, hml, hown, hts⟩ (c_X6_copy l D cB cI cJ cS cZ cO s.heap.size b1 pr s1 (-1) 0 0 0 1 0 ps (-1) 0 0 0 1 0 fs1 fps ) (cwV 1 hts gX10_image_X6_copy rfl rfl rfl (by decide +kernel) ⟨Nat.le_of_ble_eq_true rfl, Nat.le_of_ble_eq_true rfl⟩) (xPreV (win := [(b1, .inr (6, [.ref s1, .int (-1), .int 0, .int 0, .int 0, .int 1, .int 0])), (pr, .inr (6, [.ref ps, .int (-1), .int 0, .int 0, .int 0, .int 1, .int 0])), (s1, .inl (cI, 24, .inl fs1)), (ps, .inl (cI, 24, .inl fps))]) hN hK hP hD [6, 1, 7, 2] (by decide) rfl 6 6 rfl rfl rfl) rfl rfl hl.1 rfl (lv_room (Nat.le_of_ble_eq_true rfl)) dX10_image_21 ⟨Nat.le_of_ble_eq_true rfl, Nat.le_of_ble_eq_true rfl⟩) (fun w0 H locs hw hP hD hS => ?_)
        obtain ⟨g_4, rfl⟩ := hw
        have hP : va_P D vwCl [(o, .inr (10, [.ref tp, .ref rd, .ref pr, .ref bx, .ref rw, .ref lt, .ref od, .ref se, .ref gm, .ref wl, .ref cu, .ref sp])), (bx, .inl (cO, 3, .inr (.inr (.inr (.inr fbx))))), (b0, .inr (6, [.ref s0, .int (-1), .int 0, .int 0, .int 0, .int 1, .int 0])), (s0, .inl (cI, 24, .inl fs0)), (b2, .inr (6, [.ref s2, .int (-1), .int 0, .int 0, .int 0, .int 1, .int 0])), (s2, .inl (cI, 24, .inl fs2)), (b1, .inr (6, [.ref s1, .int (-1), .int 0, .int 0, .int 0, .int 1, .int 0])), (pr, .inr (6, [.ref ps, .int (-1), .int 0, .int 0, .int 0, .int 1, .int 0])), (s1, .inl (cI, 24, .inl g_4)), (ps, .inl (cI, 24, .inl fps))] H := hP
        have hD : va_D A [(o, .inr (10, [.ref tp, .ref rd, .ref pr, .ref bx, .ref rw, .ref lt, .ref od, .ref se, .ref gm, .ref wl, .ref cu, .ref sp])), (bx, .inl (cO, 3, .inr (.inr (.inr (.inr fbx))))), (b0, .inr (6, [.ref s0, .int (-1), .int 0, .int 0, .int 0, .int 1, .int 0])), (s0, .inl (cI, 24, .inl fs0)), (b2, .inr (6, [.ref s2, .int (-1), .int 0, .int 0, .int 0, .int 1, .int 0])), (s2, .inl (cI, 24, .inl fs2)), (b1, .inr (6, [.ref s1, .int (-1), .int 0, .int 0, .int 0, .int 1, .int 0])), (pr, .inr (6, [.ref ps, .int (-1), .int 0, .int 0, .int 0, .int 1, .int 0])), (s1, .inl (cI, 24, .inl g_4)), (ps, .inl (cI, 24, .inl fps))] := hD
        refine lv_aload_n hx hb dX10_image_24 rfl (lv_at hl 0 rfl) ?_
        refine va_get (D := D) (ci := 10) (v := .ref bx) (C := RX10) (T := TX10) (N := 12) hx hb hts (by decide +kernel) hown hK hP 0 rfl rfl 3 (by decide) (hts (.fieldLink RX10 32 "LastLetter" "boxes" "[LLastLetter$Talk;") (by decide +kernel)) (fun _ h9 => h9) rfl dX10_image_25 ?_
        refine lv_iload_n hx hb dX10_image_28 rfl (lv_at hl 1 rfl) ?_
        refine va_aldq hx hb hK hP 1 5 rfl rfl (by unfold vp_in; decide) dX10_image_29 ?_
        refine xb_topv (y := .ref b1) (congrArg va_rf hb1) ?_
        refine lv_iconst (v := 1) hx hb dX10_image_30 (by decide) ?_
        refine va_putN (D := D) (ci := 6) (v := .int 1) (ty := .boolean) (C := RX6) (T := TX6) (N := 7) hx hb hts (by decide +kernel) tyX6 tyX6_ok nmX6 hown hK hP hD hS 6 rfl rfl 6 (by decide) (va_Nw.use rfl (hN.1 (RX10, 106, RX6, "kept", "Z", RX10) (by decide +kernel))) (fun _ h9 => h9) rfl (by decide +kernel) rfl rfl (Nat.le_of_ble_eq_true rfl) dX10_image_31 (fun H locs hP hD hS => ?_)
        have hP : va_P D vwCl [(o, .inr (10, [.ref tp, .ref rd, .ref pr, .ref bx, .ref rw, .ref lt, .ref od, .ref se, .ref gm, .ref wl, .ref cu, .ref sp])), (bx, .inl (cO, 3, .inr (.inr (.inr (.inr fbx))))), (b0, .inr (6, [.ref s0, .int (-1), .int 0, .int 0, .int 0, .int 1, .int 0])), (s0, .inl (cI, 24, .inl fs0)), (b2, .inr (6, [.ref s2, .int (-1), .int 0, .int 0, .int 0, .int 1, .int 0])), (s2, .inl (cI, 24, .inl fs2)), (b1, .inr (6, [.ref s1, .int (-1), .int 0, .int 0, .int 0, .int 1, .int 1])), (pr, .inr (6, [.ref ps, .int (-1), .int 0, .int 0, .int 0, .int 1, .int 0])), (s1, .inl (cI, 24, .inl g_4)), (ps, .inl (cI, 24, .inl fps))] H := hP
        have hD : va_D A [(o, .inr (10, [.ref tp, .ref rd, .ref pr, .ref bx, .ref rw, .ref lt, .ref od, .ref se, .ref gm, .ref wl, .ref cu, .ref sp])), (bx, .inl (cO, 3, .inr (.inr (.inr (.inr fbx))))), (b0, .inr (6, [.ref s0, .int (-1), .int 0, .int 0, .int 0, .int 1, .int 0])), (s0, .inl (cI, 24, .inl fs0)), (b2, .inr (6, [.ref s2, .int (-1), .int 0, .int 0, .int 0, .int 1, .int 0])), (s2, .inl (cI, 24, .inl fs2)), (b1, .inr (6, [.ref s1, .int (-1), .int 0, .int 0, .int 0, .int 1, .int 1])), (pr, .inr (6, [.ref ps, .int (-1), .int 0, .int 0, .int 0, .int 1, .int 0])), (s1, .inl (cI, 24, .inl g_4)), (ps, .inl (cI, 24, .inl fps))] := hD
        refine lv_aload_n hx hb dX10_image_34 rfl (lv_at hl 0 rfl) ?_
        refine va_get (D := D) (ci := 10) (v := .ref pr) (C := RX10) (T := TX10) (N := 12) hx hb hts (by decide +kernel) hown hK hP 0 rfl rfl 2 (by decide) (hts (.fieldLink RX10 28 "LastLetter" "present" "LLastLetter$Talk;") (by decide +kernel)) (fun _ h9 => h9) rfl dX10_image_35 ?_
        refine va_getN (D := D) (ci := 6) (v := .int 0) (C := RX6) (T := TX6) (N := 7) hx hb hts (by decide +kernel) hown hK hP 7 rfl rfl 2 (by decide) (va_Nw.use rfl (hN.1 (RX10, 148, RX6, "spoken", "I", RX10) (by decide +kernel))) (fun _ h9 => h9) rfl dX10_image_38 ?_
        have hP9 := hP.sub (ws' := []) [] rfl
        have hD9 := hD.sub (ws' := []) [] (by decide) rfl
        refine W.widen (k := 0) (n := 0) (Nat.le_of_ble_eq_true rfl) (Nat.le_of_ble_eq_true rfl) ?_
        exact W.iret (v := 0) hx hb hr (fun tz htz hWz => ⟨⟨0, [], rfl, ⟨rfl, (by grind)⟩, by rw [htz]; exact hP9, va_K.moved hWz.alike hK, hD9⟩, hS.F htz⟩) hS.2.2 dX10_image_41
      · refine lv_aload_n hx hb dX10_image_11 rfl (lv_at hl 0 rfl) ?_
        refine va_get (D := D) (ci := 10) (v := .ref bx) (C := RX10) (T := TX10) (N := 12) hx hb hts (by decide +kernel) hown hK hP 0 rfl rfl 3 (by decide) (hts (.fieldLink RX10 32 "LastLetter" "boxes" "[LLastLetter$Talk;") (by decide +kernel)) (fun _ h9 => h9) rfl dX10_image_12 ?_
        refine lv_iload_n hx hb dX10_image_15 rfl (lv_at hl 1 rfl) ?_
        refine va_aldq hx hb hK hP 3 5 rfl rfl (by unfold vp_in; decide) dX10_image_16 ?_
        refine xb_topv (y := .ref b2) (congrArg va_rf hb2) ?_
        refine lv_aload_n hx hb dX10_image_17 rfl (lv_at hl 0 rfl) ?_
        refine va_get (D := D) (ci := 10) (v := .ref pr) (C := RX10) (T := TX10) (N := 12) hx hb hts (by decide +kernel) hown hK hP 0 rfl rfl 2 (by decide) (hts (.fieldLink RX10 28 "LastLetter" "present" "LLastLetter$Talk;") (by decide +kernel)) (fun _ h9 => h9) rfl dX10_image_18 ?_
        refine xCv (wr := [(o, .inr (10, [.ref tp, .ref rd, .ref pr, .ref bx, .ref rw, .ref lt, .ref od, .ref se, .ref gm, .ref wl, .ref cu, .ref sp])), (bx, .inl (cO, 3, .inr (.inr (.inr (.inr fbx))))), (b0, .inr (6, [.ref s0, .int (-1), .int 0, .int 0, .int 0, .int 1, .int 0])), (s0, .inl (cI, 24, .inl fs0)), (b1, .inr (6, [.ref s1, .int (-1), .int 0, .int 0, .int 0, .int 1, .int 0])), (s1, .inl (cI, 24, .inl fs1))]) (win := [(b2, .inr (6, [.ref s2, .int (-1), .int 0, .int 0, .int 0, .int 1, .int 0])), (pr, .inr (6, [.ref ps, .int (-1), .int 0, .int 0, .int 0, .int 1, .int 0])), (s2, .inl (cI, 24, .inl fs2)), (ps, .inl (cI, 24, .inl fps))]) hP hD hS hA [8, 1, 9, 2] [0, 3, 4, 5, 6, 7] rfl rfl (by decide) (by decide) (va_runV (As := [.ref pr]) (rest := []) ⟨hx, hb, hml, hown, hts⟩ (c_X6_copy l D cB cI cJ cS cZ cO s.heap.size b2 pr s2 (-1) 0 0 0 1 0 ps (-1) 0 0 0 1 0 fs2 fps ) (cwV 1 hts gX10_image_X6_copy rfl rfl rfl (by decide +kernel) ⟨Nat.le_of_ble_eq_true rfl, Nat.le_of_ble_eq_true rfl⟩) (xPreV (win := [(b2, .inr (6, [.ref s2, .int (-1), .int 0, .int 0, .int 0, .int 1, .int 0])), (pr, .inr (6, [.ref ps, .int (-1), .int 0, .int 0, .int 0, .int 1, .int 0])), (s2, .inl (cI, 24, .inl fs2)), (ps, .inl (cI, 24, .inl fps))]) hN hK hP hD [8, 1, 9, 2] (by decide) rfl 8 6 rfl rfl rfl) rfl rfl hl.1 rfl (lv_room (Nat.le_of_ble_eq_true rfl)) dX10_image_21 ⟨Nat.le_of_ble_eq_true rfl, Nat.le_of_ble_eq_true rfl⟩) (fun w0 H locs hw hP hD hS => ?_)
        obtain ⟨g_5, rfl⟩ := hw
        have hP : va_P D vwCl [(o, .inr (10, [.ref tp, .ref rd, .ref pr, .ref bx, .ref rw, .ref lt, .ref od, .ref se, .ref gm, .ref wl, .ref cu, .ref sp])), (bx, .inl (cO, 3, .inr (.inr (.inr (.inr fbx))))), (b0, .inr (6, [.ref s0, .int (-1), .int 0, .int 0, .int 0, .int 1, .int 0])), (s0, .inl (cI, 24, .inl fs0)), (b1, .inr (6, [.ref s1, .int (-1), .int 0, .int 0, .int 0, .int 1, .int 0])), (s1, .inl (cI, 24, .inl fs1)), (b2, .inr (6, [.ref s2, .int (-1), .int 0, .int 0, .int 0, .int 1, .int 0])), (pr, .inr (6, [.ref ps, .int (-1), .int 0, .int 0, .int 0, .int 1, .int 0])), (s2, .inl (cI, 24, .inl g_5)), (ps, .inl (cI, 24, .inl fps))] H := hP
        have hD : va_D A [(o, .inr (10, [.ref tp, .ref rd, .ref pr, .ref bx, .ref rw, .ref lt, .ref od, .ref se, .ref gm, .ref wl, .ref cu, .ref sp])), (bx, .inl (cO, 3, .inr (.inr (.inr (.inr fbx))))), (b0, .inr (6, [.ref s0, .int (-1), .int 0, .int 0, .int 0, .int 1, .int 0])), (s0, .inl (cI, 24, .inl fs0)), (b1, .inr (6, [.ref s1, .int (-1), .int 0, .int 0, .int 0, .int 1, .int 0])), (s1, .inl (cI, 24, .inl fs1)), (b2, .inr (6, [.ref s2, .int (-1), .int 0, .int 0, .int 0, .int 1, .int 0])), (pr, .inr (6, [.ref ps, .int (-1), .int 0, .int 0, .int 0, .int 1, .int 0])), (s2, .inl (cI, 24, .inl g_5)), (ps, .inl (cI, 24, .inl fps))] := hD
        refine lv_aload_n hx hb dX10_image_24 rfl (lv_at hl 0 rfl) ?_
        refine va_get (D := D) (ci := 10) (v := .ref bx) (C := RX10) (T := TX10) (N := 12) hx hb hts (by decide +kernel) hown hK hP 0 rfl rfl 3 (by decide) (hts (.fieldLink RX10 32 "LastLetter" "boxes" "[LLastLetter$Talk;") (by decide +kernel)) (fun _ h9 => h9) rfl dX10_image_25 ?_
        refine lv_iload_n hx hb dX10_image_28 rfl (lv_at hl 1 rfl) ?_
        refine va_aldq hx hb hK hP 1 5 rfl rfl (by unfold vp_in; decide) dX10_image_29 ?_
        refine xb_topv (y := .ref b2) (congrArg va_rf hb2) ?_
        refine lv_iconst (v := 1) hx hb dX10_image_30 (by decide) ?_
        refine va_putN (D := D) (ci := 6) (v := .int 1) (ty := .boolean) (C := RX6) (T := TX6) (N := 7) hx hb hts (by decide +kernel) tyX6 tyX6_ok nmX6 hown hK hP hD hS 6 rfl rfl 6 (by decide) (va_Nw.use rfl (hN.1 (RX10, 106, RX6, "kept", "Z", RX10) (by decide +kernel))) (fun _ h9 => h9) rfl (by decide +kernel) rfl rfl (Nat.le_of_ble_eq_true rfl) dX10_image_31 (fun H locs hP hD hS => ?_)
        have hP : va_P D vwCl [(o, .inr (10, [.ref tp, .ref rd, .ref pr, .ref bx, .ref rw, .ref lt, .ref od, .ref se, .ref gm, .ref wl, .ref cu, .ref sp])), (bx, .inl (cO, 3, .inr (.inr (.inr (.inr fbx))))), (b0, .inr (6, [.ref s0, .int (-1), .int 0, .int 0, .int 0, .int 1, .int 0])), (s0, .inl (cI, 24, .inl fs0)), (b1, .inr (6, [.ref s1, .int (-1), .int 0, .int 0, .int 0, .int 1, .int 0])), (s1, .inl (cI, 24, .inl fs1)), (b2, .inr (6, [.ref s2, .int (-1), .int 0, .int 0, .int 0, .int 1, .int 1])), (pr, .inr (6, [.ref ps, .int (-1), .int 0, .int 0, .int 0, .int 1, .int 0])), (s2, .inl (cI, 24, .inl g_5)), (ps, .inl (cI, 24, .inl fps))] H := hP
        have hD : va_D A [(o, .inr (10, [.ref tp, .ref rd, .ref pr, .ref bx, .ref rw, .ref lt, .ref od, .ref se, .ref gm, .ref wl, .ref cu, .ref sp])), (bx, .inl (cO, 3, .inr (.inr (.inr (.inr fbx))))), (b0, .inr (6, [.ref s0, .int (-1), .int 0, .int 0, .int 0, .int 1, .int 0])), (s0, .inl (cI, 24, .inl fs0)), (b1, .inr (6, [.ref s1, .int (-1), .int 0, .int 0, .int 0, .int 1, .int 0])), (s1, .inl (cI, 24, .inl fs1)), (b2, .inr (6, [.ref s2, .int (-1), .int 0, .int 0, .int 0, .int 1, .int 1])), (pr, .inr (6, [.ref ps, .int (-1), .int 0, .int 0, .int 0, .int 1, .int 0])), (s2, .inl (cI, 24, .inl g_5)), (ps, .inl (cI, 24, .inl fps))] := hD
        refine lv_aload_n hx hb dX10_image_34 rfl (lv_at hl 0 rfl) ?_
        refine va_get (D := D) (ci := 10) (v := .ref pr) (C := RX10) (T := TX10) (N := 12) hx hb hts (by decide +kernel) hown hK hP 0 rfl rfl 2 (by decide) (hts (.fieldLink RX10 28 "LastLetter" "present" "LLastLetter$Talk;") (by decide +kernel)) (fun _ h9 => h9) rfl dX10_image_35 ?_
        refine va_getN (D := D) (ci := 6) (v := .int 0) (C := RX6) (T := TX6) (N := 7) hx hb hts (by decide +kernel) hown hK hP 7 rfl rfl 2 (by decide) (va_Nw.use rfl (hN.1 (RX10, 148, RX6, "spoken", "I", RX10) (by decide +kernel))) (fun _ h9 => h9) rfl dX10_image_38 ?_
        have hP9 := hP.sub (ws' := []) [] rfl
        have hD9 := hD.sub (ws' := []) [] (by decide) rfl
        refine W.widen (k := 0) (n := 0) (Nat.le_of_ble_eq_true rfl) (Nat.le_of_ble_eq_true rfl) ?_
        exact W.iret (v := 0) hx hb hr (fun tz htz hWz => ⟨⟨0, [], rfl, ⟨rfl, (by grind)⟩, by rw [htz]; exact hP9, va_K.moved hWz.alike hK, hD9⟩, hS.F htz⟩) hS.2.2 dX10_image_41
    · refine lv_iconst (v := (-1)) hx hb dX10_image_9 (by decide) ?_
      have hP9 := hP.sub (ws' := []) [] rfl
      have hD9 := hD.sub (ws' := []) [] (by decide) rfl
      refine W.widen (k := 0) (n := 0) (Nat.le_of_ble_eq_true rfl) (Nat.le_of_ble_eq_true rfl) ?_
      exact W.iret (v := (-1)) hx hb hr (fun tz htz hWz => ⟨⟨(-1), [], rfl, ⟨rfl, (by grind)⟩, by rw [htz]; exact hP9, va_K.moved hWz.alike hK, hD9⟩, hS.F htz⟩) hS.2.2 dX10_image_10

set_option maxHeartbeats 4000000 in
set_option maxRecDepth 100000 in
theorem p_X10_back (l : Launch) (D : va_G) (cB cI cJ cS cZ cO : ClassId) (sz : Nat) (o : Nat) (x : Int32) (tp : Nat) (rd : Nat) (pr : Nat) (bx : Nat) (rw : Nat) (lt : Nat) (od : Nat) (se : Nat) (gm : Nat) (wl : Nat) (cu : Nat) (sp : Nat) (fbx : Nat → Option Nat) (b0 : Nat) (s0 : Nat) (fs0 : Nat → Int32) (b1 : Nat) (s1 : Nat) (fs1 : Nat → Int32) (b2 : Nat) (s2 : Nat) (fs2 : Nat → Int32) (hb0 : fbx 0 = some b0) (hb1 : fbx 1 = some b1) (hb2 : fbx 2 = some b2) : Met l yX10_back wsX10_back ({ frames := 0, cells := 0, slots := 0, locals := 0 }) (xPre D (tyL cB cI cJ cS cZ cO) [(o, .inr (10, [.ref tp, .ref rd, .ref pr, .ref bx, .ref rw, .ref lt, .ref od, .ref se, .ref gm, .ref wl, .ref cu, .ref sp])), (bx, .inl (cO, 3, .inr (.inr (.inr (.inr fbx))))), (b0, .inr (6, [.ref s0, .int (-1), .int 0, .int 0, .int 0, .int 1, .int 0])), (s0, .inl (cI, 24, .inl fs0)), (b1, .inr (6, [.ref s1, .int (-1), .int 0, .int 0, .int 0, .int 1, .int 0])), (s1, .inl (cI, 24, .inl fs1)), (b2, .inr (6, [.ref s2, .int (-1), .int 0, .int 0, .int 0, .int 1, .int 0])), (s2, .inl (cI, 24, .inl fs2))] sz [.ref o, .int x]) (xQi D (tyL cB cI cJ cS cZ cO) (va_A [(o, .inr (10, [.ref tp, .ref rd, .ref pr, .ref bx, .ref rw, .ref lt, .ref od, .ref se, .ref gm, .ref wl, .ref cu, .ref sp])), (bx, .inl (cO, 3, .inr (.inr (.inr (.inr fbx))))), (b0, .inr (6, [.ref s0, .int (-1), .int 0, .int 0, .int 0, .int 1, .int 0])), (s0, .inl (cI, 24, .inl fs0)), (b1, .inr (6, [.ref s1, .int (-1), .int 0, .int 0, .int 0, .int 1, .int 0])), (s1, .inl (cI, 24, .inl fs1)), (b2, .inr (6, [.ref s2, .int (-1), .int 0, .int 0, .int 0, .int 1, .int 0])), (s2, .inl (cI, 24, .inl fs2))] sz) (fun (r : Int32) (u : va_W) => u = [] ∧ r = (-1))) 0 0 (va_A [(o, .inr (10, [.ref tp, .ref rd, .ref pr, .ref bx, .ref rw, .ref lt, .ref od, .ref se, .ref gm, .ref wl, .ref cu, .ref sp])), (bx, .inl (cO, 3, .inr (.inr (.inr (.inr fbx))))), (b0, .inr (6, [.ref s0, .int (-1), .int 0, .int 0, .int 0, .int 1, .int 0])), (s0, .inl (cI, 24, .inl fs0)), (b1, .inr (6, [.ref s1, .int (-1), .int 0, .int 0, .int 0, .int 1, .int 0])), (s1, .inl (cI, 24, .inl fs1)), (b2, .inr (6, [.ref s2, .int (-1), .int 0, .int 0, .int 0, .int 1, .int 0])), (s2, .inl (cI, 24, .inl fs2))] sz) := by
  refine Met.ofW (cc := cX10_back) (maxL := 2) (ret := (some .int)) (by decide) rfl ?_
  intro p e s m args below meth c s₁ B hml hv
  obtain ⟨rfl, hsz, hP, hK, hD0, hN⟩ := hv
  have hx := B.exec
  have hb := B.bytes
  have hr := B.returns
  have hts := atoms_spec (ws := wsX10_back) B.pre
  have hown : s.vm.findClass RX10 = some m.cls := findClass_of_methodNamed B.named
  have hlocks := B.notSynchronized
  subst hsz
  have hD := hD0.self (sz := s.heap.size)
  generalize hAe : va_A [(o, .inr (10, [.ref tp, .ref rd, .ref pr, .ref bx, .ref rw, .ref lt, .ref od, .ref se, .ref gm, .ref wl, .ref cu, .ref sp])), (bx, .inl (cO, 3, .inr (.inr (.inr (.inr fbx))))), (b0, .inr (6, [.ref s0, .int (-1), .int 0, .int 0, .int 0, .int 1, .int 0])), (s0, .inl (cI, 24, .inl fs0)), (b1, .inr (6, [.ref s1, .int (-1), .int 0, .int 0, .int 0, .int 1, .int 0])), (s1, .inl (cI, 24, .inl fs1)), (b2, .inr (6, [.ref s2, .int (-1), .int 0, .int 0, .int 0, .int 1, .int 0])), (s2, .inl (cI, 24, .inl fs2))] s.heap.size = A at hD ⊢
  have hA : ∀ q : Nat, s.heap.size ≤ q → A q := fun q h => by rw [← hAe]; exact Or.inr h
  have hS : va_S A s.heap s.heap [] := va_S.rf
  have hP : va_P D vwCl [(o, .inr (10, [.ref tp, .ref rd, .ref pr, .ref bx, .ref rw, .ref lt, .ref od, .ref se, .ref gm, .ref wl, .ref cu, .ref sp])), (bx, .inl (cO, 3, .inr (.inr (.inr (.inr fbx))))), (b0, .inr (6, [.ref s0, .int (-1), .int 0, .int 0, .int 0, .int 1, .int 0])), (s0, .inl (cI, 24, .inl fs0)), (b1, .inr (6, [.ref s1, .int (-1), .int 0, .int 0, .int 0, .int 1, .int 0])), (s1, .inl (cI, 24, .inl fs1)), (b2, .inr (6, [.ref s2, .int (-1), .int 0, .int 0, .int 0, .int 1, .int 0])), (s2, .inl (cI, 24, .inl fs2))] s.heap := hP
  have hl := lv_entry ([.ref o, .int x]) (n := 2) (Nat.le_of_ble_eq_true rfl)
  rw [lg_entry_eq]
  generalize (lg_sl ([.ref o, .int x]) ++ List.replicate (2 - (lg_sl ([.ref o, .int x])).length) Slot.unset).toArray = ls at hl ⊢
  have hl : lv_has ls 2 [(0, .ref o), (1, .int x)] := hl
  refine lv_iload_n hx hb dX10_back_0 rfl (lv_at hl 1 rfl) ?_
  refine lv_if_lt (tgt := 21) hx hb dX10_back_1 (by decide) (fun c_1 => ?_) (fun c_1 => ?_)
  · refine lv_iconst (v := (-1)) hx hb dX10_back_21 (by decide) ?_
    have hP9 := hP.sub (ws' := []) [] rfl
    have hD9 := hD.sub (ws' := []) [] (by decide) rfl
    refine W.widen (k := 0) (n := 0) (Nat.le_of_ble_eq_true rfl) (Nat.le_of_ble_eq_true rfl) ?_
    exact W.iret (v := (-1)) hx hb hr (fun tz htz hWz => ⟨⟨(-1), [], rfl, ⟨rfl, rfl⟩, by rw [htz]; exact hP9, va_K.moved hWz.alike hK, hD9⟩, hS.F htz⟩) hS.2.2 dX10_back_22
  · refine lv_iload_n hx hb dX10_back_4 rfl (lv_at hl 1 rfl) ?_
    refine lv_iconst (v := 3) hx hb dX10_back_5 (by decide) ?_
    refine lv_icmp_ge (tgt := 21) hx hb dX10_back_6 (by decide) (fun c_2 => ?_) (fun c_2 => ?_)
    · refine lv_iconst (v := (-1)) hx hb dX10_back_21 (by decide) ?_
      have hP9 := hP.sub (ws' := []) [] rfl
      have hD9 := hD.sub (ws' := []) [] (by decide) rfl
      refine W.widen (k := 0) (n := 0) (Nat.le_of_ble_eq_true rfl) (Nat.le_of_ble_eq_true rfl) ?_
      exact W.iret (v := (-1)) hx hb hr (fun tz htz hWz => ⟨⟨(-1), [], rfl, ⟨rfl, rfl⟩, by rw [htz]; exact hP9, va_K.moved hWz.alike hK, hD9⟩, hS.F htz⟩) hS.2.2 dX10_back_22
    · rcases ib_3 c_1 (Int32.not_le.mp c_2) with rfl | rfl | rfl
      · refine lv_aload_n hx hb dX10_back_9 rfl (lv_at hl 0 rfl) ?_
        refine va_get (D := D) (ci := 10) (v := .ref bx) (C := RX10) (T := TX10) (N := 12) hx hb hts (by decide +kernel) hown hK hP 0 rfl rfl 3 (by decide) (hts (.fieldLink RX10 32 "LastLetter" "boxes" "[LLastLetter$Talk;") (by decide +kernel)) (fun _ h9 => h9) rfl dX10_back_10 ?_
        refine lv_iload_n hx hb dX10_back_13 rfl (lv_at hl 1 rfl) ?_
        refine va_aldq hx hb hK hP 1 5 rfl rfl (by unfold vp_in; decide) dX10_back_14 ?_
        refine xb_topv (y := .ref b0) (congrArg va_rf hb0) ?_
        refine va_getN (D := D) (ci := 6) (v := .int 0) (C := RX6) (T := TX6) (N := 7) hx hb hts (by decide +kernel) hown hK hP 2 rfl rfl 6 (by decide) (va_Nw.use rfl (hN.1 (RX10, 106, RX6, "kept", "Z", RX10) (by decide +kernel))) (fun _ h9 => h9) rfl dX10_back_15 ?_
        refine lv_if_ne (tgt := 23) hx hb dX10_back_18 (by decide) (fun c_3 => absurd c_3 (by decide)) (fun c_3 => ?_)
        refine lv_iconst (v := (-1)) hx hb dX10_back_21 (by decide) ?_
        have hP9 := hP.sub (ws' := []) [] rfl
        have hD9 := hD.sub (ws' := []) [] (by decide) rfl
        refine W.widen (k := 0) (n := 0) (Nat.le_of_ble_eq_true rfl) (Nat.le_of_ble_eq_true rfl) ?_
        exact W.iret (v := (-1)) hx hb hr (fun tz htz hWz => ⟨⟨(-1), [], rfl, ⟨rfl, rfl⟩, by rw [htz]; exact hP9, va_K.moved hWz.alike hK, hD9⟩, hS.F htz⟩) hS.2.2 dX10_back_22
      · refine lv_aload_n hx hb dX10_back_9 rfl (lv_at hl 0 rfl) ?_
        refine va_get (D := D) (ci := 10) (v := .ref bx) (C := RX10) (T := TX10) (N := 12) hx hb hts (by decide +kernel) hown hK hP 0 rfl rfl 3 (by decide) (hts (.fieldLink RX10 32 "LastLetter" "boxes" "[LLastLetter$Talk;") (by decide +kernel)) (fun _ h9 => h9) rfl dX10_back_10 ?_
        refine lv_iload_n hx hb dX10_back_13 rfl (lv_at hl 1 rfl) ?_
        refine va_aldq hx hb hK hP 1 5 rfl rfl (by unfold vp_in; decide) dX10_back_14 ?_
        refine xb_topv (y := .ref b1) (congrArg va_rf hb1) ?_
        refine va_getN (D := D) (ci := 6) (v := .int 0) (C := RX6) (T := TX6) (N := 7) hx hb hts (by decide +kernel) hown hK hP 4 rfl rfl 6 (by decide) (va_Nw.use rfl (hN.1 (RX10, 106, RX6, "kept", "Z", RX10) (by decide +kernel))) (fun _ h9 => h9) rfl dX10_back_15 ?_
        refine lv_if_ne (tgt := 23) hx hb dX10_back_18 (by decide) (fun c_4 => absurd c_4 (by decide)) (fun c_4 => ?_)
        refine lv_iconst (v := (-1)) hx hb dX10_back_21 (by decide) ?_
        have hP9 := hP.sub (ws' := []) [] rfl
        have hD9 := hD.sub (ws' := []) [] (by decide) rfl
        refine W.widen (k := 0) (n := 0) (Nat.le_of_ble_eq_true rfl) (Nat.le_of_ble_eq_true rfl) ?_
        exact W.iret (v := (-1)) hx hb hr (fun tz htz hWz => ⟨⟨(-1), [], rfl, ⟨rfl, rfl⟩, by rw [htz]; exact hP9, va_K.moved hWz.alike hK, hD9⟩, hS.F htz⟩) hS.2.2 dX10_back_22
      · refine lv_aload_n hx hb dX10_back_9 rfl (lv_at hl 0 rfl) ?_
        refine va_get (D := D) (ci := 10) (v := .ref bx) (C := RX10) (T := TX10) (N := 12) hx hb hts (by decide +kernel) hown hK hP 0 rfl rfl 3 (by decide) (hts (.fieldLink RX10 32 "LastLetter" "boxes" "[LLastLetter$Talk;") (by decide +kernel)) (fun _ h9 => h9) rfl dX10_back_10 ?_
        refine lv_iload_n hx hb dX10_back_13 rfl (lv_at hl 1 rfl) ?_
        refine va_aldq hx hb hK hP 1 5 rfl rfl (by unfold vp_in; decide) dX10_back_14 ?_
        refine xb_topv (y := .ref b2) (congrArg va_rf hb2) ?_
        refine va_getN (D := D) (ci := 6) (v := .int 0) (C := RX6) (T := TX6) (N := 7) hx hb hts (by decide +kernel) hown hK hP 6 rfl rfl 6 (by decide) (va_Nw.use rfl (hN.1 (RX10, 106, RX6, "kept", "Z", RX10) (by decide +kernel))) (fun _ h9 => h9) rfl dX10_back_15 ?_
        refine lv_if_ne (tgt := 23) hx hb dX10_back_18 (by decide) (fun c_5 => absurd c_5 (by decide)) (fun c_5 => ?_)
        refine lv_iconst (v := (-1)) hx hb dX10_back_21 (by decide) ?_
        have hP9 := hP.sub (ws' := []) [] rfl
        have hD9 := hD.sub (ws' := []) [] (by decide) rfl
        refine W.widen (k := 0) (n := 0) (Nat.le_of_ble_eq_true rfl) (Nat.le_of_ble_eq_true rfl) ?_
        exact W.iret (v := (-1)) hx hb hr (fun tz htz hWz => ⟨⟨(-1), [], rfl, ⟨rfl, rfl⟩, by rw [htz]; exact hP9, va_K.moved hWz.alike hK, hD9⟩, hS.F htz⟩) hS.2.2 dX10_back_22

set_option maxHeartbeats 4000000 in
set_option maxRecDepth 100000 in
theorem p_X10_about (l : Launch) (D : va_G) (cB cI cJ cS cZ cO : ClassId) (sz : Nat) (o : Nat) (x : Int32) (tp : Nat) (rd : Nat) (pr : Nat) (bx : Nat) (rw : Nat) (lt : Nat) (od : Nat) (se : Nat) (gm : Nat) (wl : Nat) (cu : Nat) (sp : Nat) (cu_name : Nat) (cu_worth : Nat) (cu_times : Nat) (cu_first : Nat) (cu_second : Nat) (cu_beforeLast : Nat) (cu_last : Nat) (cu_errandOf : Nat) (cu_errandAfter : Nat) (cu_sound : Nat) (cu_followers : Nat) (cu_leaders : Nat) (ps : Nat) (wl_places : Nat) (wl_kinds : Nat) (wl_values : Nat) (wl_toldAt : Nat) (wl_untoldAt : Nat) (wl_standing : Nat) (wl_rows : Nat) (wl_longer : Nat) (tb : Nat) (ri : Nat) : Met l yX10_about wsX10_about ({ frames := 0, cells := 0, slots := 0, locals := 0 }) (xPre D (tyL cB cI cJ cS cZ cO) [(o, .inr (10, [.ref tp, .ref rd, .ref pr, .ref bx, .ref rw, .ref lt, .ref od, .ref se, .ref gm, .ref wl, .ref cu, .ref sp])), (cu, .inr (8, [.ref cu_name, .ref cu_worth, .ref cu_times, .ref cu_first, .ref cu_second, .ref cu_beforeLast, .ref cu_last, .ref cu_errandOf, .ref cu_errandAfter, .ref cu_sound, .ref cu_followers, .ref cu_leaders, .int 0, .int 0, .int 0, .int (-1)])), (pr, .inr (6, [.ref ps, .int (-1), .int 0, .int 0, .int 0, .int 1, .int 0])), (wl, .inr (9, [.ref wl_places, .ref wl_kinds, .ref wl_values, .ref wl_toldAt, .ref wl_untoldAt, .ref wl_standing, .ref wl_rows, .ref wl_longer, .int 0, .int 0])), (tp, .inr (7, [.ref tb, .int 0])), (rw, .inr (4, [.ref ri, .int 0]))] sz [.ref o, .int x]) (xQi D (tyL cB cI cJ cS cZ cO) (va_A [(o, .inr (10, [.ref tp, .ref rd, .ref pr, .ref bx, .ref rw, .ref lt, .ref od, .ref se, .ref gm, .ref wl, .ref cu, .ref sp])), (cu, .inr (8, [.ref cu_name, .ref cu_worth, .ref cu_times, .ref cu_first, .ref cu_second, .ref cu_beforeLast, .ref cu_last, .ref cu_errandOf, .ref cu_errandAfter, .ref cu_sound, .ref cu_followers, .ref cu_leaders, .int 0, .int 0, .int 0, .int (-1)])), (pr, .inr (6, [.ref ps, .int (-1), .int 0, .int 0, .int 0, .int 1, .int 0])), (wl, .inr (9, [.ref wl_places, .ref wl_kinds, .ref wl_values, .ref wl_toldAt, .ref wl_untoldAt, .ref wl_standing, .ref wl_rows, .ref wl_longer, .int 0, .int 0])), (tp, .inr (7, [.ref tb, .int 0])), (rw, .inr (4, [.ref ri, .int 0]))] sz) (fun (r : Int32) (u : va_W) => u = [] ∧ r = if x = 3 then (-1) else if x = 7 then 1 else if 0 ≤ x ∧ x ≤ 9 then 0 else (-1))) 0 0 (va_A [(o, .inr (10, [.ref tp, .ref rd, .ref pr, .ref bx, .ref rw, .ref lt, .ref od, .ref se, .ref gm, .ref wl, .ref cu, .ref sp])), (cu, .inr (8, [.ref cu_name, .ref cu_worth, .ref cu_times, .ref cu_first, .ref cu_second, .ref cu_beforeLast, .ref cu_last, .ref cu_errandOf, .ref cu_errandAfter, .ref cu_sound, .ref cu_followers, .ref cu_leaders, .int 0, .int 0, .int 0, .int (-1)])), (pr, .inr (6, [.ref ps, .int (-1), .int 0, .int 0, .int 0, .int 1, .int 0])), (wl, .inr (9, [.ref wl_places, .ref wl_kinds, .ref wl_values, .ref wl_toldAt, .ref wl_untoldAt, .ref wl_standing, .ref wl_rows, .ref wl_longer, .int 0, .int 0])), (tp, .inr (7, [.ref tb, .int 0])), (rw, .inr (4, [.ref ri, .int 0]))] sz) := by
  refine Met.ofW (cc := cX10_about) (maxL := 2) (ret := (some .int)) (by decide) rfl ?_
  intro p e s m args below meth c s₁ B hml hv
  obtain ⟨rfl, hsz, hP, hK, hD0, hN⟩ := hv
  have hx := B.exec
  have hb := B.bytes
  have hr := B.returns
  have hts := atoms_spec (ws := wsX10_about) B.pre
  have hown : s.vm.findClass RX10 = some m.cls := findClass_of_methodNamed B.named
  have hlocks := B.notSynchronized
  subst hsz
  have hD := hD0.self (sz := s.heap.size)
  generalize hAe : va_A [(o, .inr (10, [.ref tp, .ref rd, .ref pr, .ref bx, .ref rw, .ref lt, .ref od, .ref se, .ref gm, .ref wl, .ref cu, .ref sp])), (cu, .inr (8, [.ref cu_name, .ref cu_worth, .ref cu_times, .ref cu_first, .ref cu_second, .ref cu_beforeLast, .ref cu_last, .ref cu_errandOf, .ref cu_errandAfter, .ref cu_sound, .ref cu_followers, .ref cu_leaders, .int 0, .int 0, .int 0, .int (-1)])), (pr, .inr (6, [.ref ps, .int (-1), .int 0, .int 0, .int 0, .int 1, .int 0])), (wl, .inr (9, [.ref wl_places, .ref wl_kinds, .ref wl_values, .ref wl_toldAt, .ref wl_untoldAt, .ref wl_standing, .ref wl_rows, .ref wl_longer, .int 0, .int 0])), (tp, .inr (7, [.ref tb, .int 0])), (rw, .inr (4, [.ref ri, .int 0]))] s.heap.size = A at hD ⊢
  have hA : ∀ q : Nat, s.heap.size ≤ q → A q := fun q h => by rw [← hAe]; exact Or.inr h
  have hS : va_S A s.heap s.heap [] := va_S.rf
  have hP : va_P D vwCl [(o, .inr (10, [.ref tp, .ref rd, .ref pr, .ref bx, .ref rw, .ref lt, .ref od, .ref se, .ref gm, .ref wl, .ref cu, .ref sp])), (cu, .inr (8, [.ref cu_name, .ref cu_worth, .ref cu_times, .ref cu_first, .ref cu_second, .ref cu_beforeLast, .ref cu_last, .ref cu_errandOf, .ref cu_errandAfter, .ref cu_sound, .ref cu_followers, .ref cu_leaders, .int 0, .int 0, .int 0, .int (-1)])), (pr, .inr (6, [.ref ps, .int (-1), .int 0, .int 0, .int 0, .int 1, .int 0])), (wl, .inr (9, [.ref wl_places, .ref wl_kinds, .ref wl_values, .ref wl_toldAt, .ref wl_untoldAt, .ref wl_standing, .ref wl_rows, .ref wl_longer, .int 0, .int 0])), (tp, .inr (7, [.ref tb, .int 0])), (rw, .inr (4, [.ref ri, .int 0]))] s.heap := hP
  have hl := lv_entry ([.ref o, .int x]) (n := 2) (Nat.le_of_ble_eq_true rfl)
  rw [lg_entry_eq]
  generalize (lg_sl ([.ref o, .int x]) ++ List.replicate (2 - (lg_sl ([.ref o, .int x])).length) Slot.unset).toArray = ls at hl ⊢
  have hl : lv_has ls 2 [(0, .ref o), (1, .int x)] := hl
  refine lv_iload_n hx hb dX10_about_0 rfl (lv_at hl 1 rfl) ?_
  rcases ib_10 x with hr0 | rfl | rfl | rfl | rfl | rfl | rfl | rfl | rfl | rfl | rfl
  · refine lv_tableOut (tgt := 136) hx hb dX10_about_1 (tb_out hr0) (by decide) ?_
    refine lv_iconst (v := (-1)) hx hb dX10_about_136 (by decide) ?_
    have hP9 := hP.sub (ws' := []) [] rfl
    have hD9 := hD.sub (ws' := []) [] (by decide) rfl
    refine W.widen (k := 0) (n := 0) (Nat.le_of_ble_eq_true rfl) (Nat.le_of_ble_eq_true rfl) ?_
    exact W.iret (v := (-1)) hx hb hr (fun tz htz hWz => ⟨⟨(-1), [], rfl, ⟨rfl, (by grind)⟩, by rw [htz]; exact hP9, va_K.moved hWz.alike hK, hD9⟩, hS.F htz⟩) hS.2.2 dX10_about_137
  · refine lv_tableIn (off := 55) (tgt := 56) hx hb dX10_about_1 (by decide) (by decide) (by decide) (by decide) ?_
    refine lv_aload_n hx hb dX10_about_56 rfl (lv_at hl 0 rfl) ?_
    refine va_get (D := D) (ci := 10) (v := .ref cu) (C := RX10) (T := TX10) (N := 12) hx hb hts (by decide +kernel) hown hK hP 0 rfl rfl 10 (by decide) (hts (.fieldLink RX10 81 "LastLetter" "current" "LLastLetter$Tongue;") (by decide +kernel)) (fun _ h9 => h9) rfl dX10_about_57 ?_
    refine va_getN (D := D) (ci := 8) (v := .int 0) (C := RX8) (T := TX8) (N := 16) hx hb hts (by decide +kernel) hown hK hP 1 rfl rfl 12 (by decide) (va_Nw.use rfl (hN.1 (RX10, 116, RX8, "words", "I", RX10) (by decide +kernel))) (fun _ h9 => h9) rfl dX10_about_60 ?_
    have hP9 := hP.sub (ws' := []) [] rfl
    have hD9 := hD.sub (ws' := []) [] (by decide) rfl
    refine W.widen (k := 0) (n := 0) (Nat.le_of_ble_eq_true rfl) (Nat.le_of_ble_eq_true rfl) ?_
    exact W.iret (v := 0) hx hb hr (fun tz htz hWz => ⟨⟨0, [], rfl, ⟨rfl, (by grind)⟩, by rw [htz]; exact hP9, va_K.moved hWz.alike hK, hD9⟩, hS.F htz⟩) hS.2.2 dX10_about_63
  · refine lv_tableIn (off := 63) (tgt := 64) hx hb dX10_about_1 (by decide) (by decide) (by decide) (by decide) ?_
    refine lv_aload_n hx hb dX10_about_64 rfl (lv_at hl 0 rfl) ?_
    refine va_get (D := D) (ci := 10) (v := .ref cu) (C := RX10) (T := TX10) (N := 12) hx hb hts (by decide +kernel) hown hK hP 0 rfl rfl 10 (by decide) (hts (.fieldLink RX10 81 "LastLetter" "current" "LLastLetter$Tongue;") (by decide +kernel)) (fun _ h9 => h9) rfl dX10_about_65 ?_
    refine va_getN (D := D) (ci := 8) (v := .int 0) (C := RX8) (T := TX8) (N := 16) hx hb hts (by decide +kernel) hown hK hP 1 rfl rfl 13 (by decide) (va_Nw.use rfl (hN.1 (RX10, 202, RX8, "errands", "I", RX10) (by decide +kernel))) (fun _ h9 => h9) rfl dX10_about_68 ?_
    have hP9 := hP.sub (ws' := []) [] rfl
    have hD9 := hD.sub (ws' := []) [] (by decide) rfl
    refine W.widen (k := 0) (n := 0) (Nat.le_of_ble_eq_true rfl) (Nat.le_of_ble_eq_true rfl) ?_
    exact W.iret (v := 0) hx hb hr (fun tz htz hWz => ⟨⟨0, [], rfl, ⟨rfl, (by grind)⟩, by rw [htz]; exact hP9, va_K.moved hWz.alike hK, hD9⟩, hS.F htz⟩) hS.2.2 dX10_about_71
  · refine lv_tableIn (off := 71) (tgt := 72) hx hb dX10_about_1 (by decide) (by decide) (by decide) (by decide) ?_
    refine lv_aload_n hx hb dX10_about_72 rfl (lv_at hl 0 rfl) ?_
    refine va_get (D := D) (ci := 10) (v := .ref pr) (C := RX10) (T := TX10) (N := 12) hx hb hts (by decide +kernel) hown hK hP 0 rfl rfl 2 (by decide) (hts (.fieldLink RX10 28 "LastLetter" "present" "LLastLetter$Talk;") (by decide +kernel)) (fun _ h9 => h9) rfl dX10_about_73 ?_
    refine va_getN (D := D) (ci := 6) (v := .int 0) (C := RX6) (T := TX6) (N := 7) hx hb hts (by decide +kernel) hown hK hP 2 rfl rfl 2 (by decide) (va_Nw.use rfl (hN.1 (RX10, 148, RX6, "spoken", "I", RX10) (by decide +kernel))) (fun _ h9 => h9) rfl dX10_about_76 ?_
    have hP9 := hP.sub (ws' := []) [] rfl
    have hD9 := hD.sub (ws' := []) [] (by decide) rfl
    refine W.widen (k := 0) (n := 0) (Nat.le_of_ble_eq_true rfl) (Nat.le_of_ble_eq_true rfl) ?_
    exact W.iret (v := 0) hx hb hr (fun tz htz hWz => ⟨⟨0, [], rfl, ⟨rfl, (by grind)⟩, by rw [htz]; exact hP9, va_K.moved hWz.alike hK, hD9⟩, hS.F htz⟩) hS.2.2 dX10_about_79
  · refine lv_tableIn (off := 79) (tgt := 80) hx hb dX10_about_1 (by decide) (by decide) (by decide) (by decide) ?_
    refine lv_aload_n hx hb dX10_about_80 rfl (lv_at hl 0 rfl) ?_
    refine va_get (D := D) (ci := 10) (v := .ref pr) (C := RX10) (T := TX10) (N := 12) hx hb hts (by decide +kernel) hown hK hP 0 rfl rfl 2 (by decide) (hts (.fieldLink RX10 28 "LastLetter" "present" "LLastLetter$Talk;") (by decide +kernel)) (fun _ h9 => h9) rfl dX10_about_81 ?_
    refine va_getN (D := D) (ci := 6) (v := .int (-1)) (C := RX6) (T := TX6) (N := 7) hx hb hts (by decide +kernel) hown hK hP 2 rfl rfl 1 (by decide) (va_Nw.use rfl (hN.1 (RX10, 255, RX6, "latest", "I", RX10) (by decide +kernel))) (fun _ h9 => h9) rfl dX10_about_84 ?_
    have hP9 := hP.sub (ws' := []) [] rfl
    have hD9 := hD.sub (ws' := []) [] (by decide) rfl
    refine W.widen (k := 0) (n := 0) (Nat.le_of_ble_eq_true rfl) (Nat.le_of_ble_eq_true rfl) ?_
    exact W.iret (v := (-1)) hx hb hr (fun tz htz hWz => ⟨⟨(-1), [], rfl, ⟨rfl, (by grind)⟩, by rw [htz]; exact hP9, va_K.moved hWz.alike hK, hD9⟩, hS.F htz⟩) hS.2.2 dX10_about_87
  · refine lv_tableIn (off := 87) (tgt := 88) hx hb dX10_about_1 (by decide) (by decide) (by decide) (by decide) ?_
    refine lv_aload_n hx hb dX10_about_88 rfl (lv_at hl 0 rfl) ?_
    refine va_get (D := D) (ci := 10) (v := .ref wl) (C := RX10) (T := TX10) (N := 12) hx hb hts (by decide +kernel) hown hK hP 0 rfl rfl 9 (by decide) (hts (.fieldLink RX10 74 "LastLetter" "wall" "LLastLetter$Wall;") (by decide +kernel)) (fun _ h9 => h9) rfl dX10_about_89 ?_
    refine va_getN (D := D) (ci := 9) (v := .int 0) (C := RX9) (T := TX9) (N := 10) hx hb hts (by decide +kernel) hown hK hP 3 rfl rfl 8 (by decide) (va_Nw.use rfl (hN.1 (RX10, 113, RX9, "sounds", "I", RX10) (by decide +kernel))) (fun _ h9 => h9) rfl dX10_about_92 ?_
    have hP9 := hP.sub (ws' := []) [] rfl
    have hD9 := hD.sub (ws' := []) [] (by decide) rfl
    refine W.widen (k := 0) (n := 0) (Nat.le_of_ble_eq_true rfl) (Nat.le_of_ble_eq_true rfl) ?_
    exact W.iret (v := 0) hx hb hr (fun tz htz hWz => ⟨⟨0, [], rfl, ⟨rfl, (by grind)⟩, by rw [htz]; exact hP9, va_K.moved hWz.alike hK, hD9⟩, hS.F htz⟩) hS.2.2 dX10_about_95
  · refine lv_tableIn (off := 95) (tgt := 96) hx hb dX10_about_1 (by decide) (by decide) (by decide) (by decide) ?_
    refine lv_aload_n hx hb dX10_about_96 rfl (lv_at hl 0 rfl) ?_
    refine va_get (D := D) (ci := 10) (v := .ref wl) (C := RX10) (T := TX10) (N := 12) hx hb hts (by decide +kernel) hown hK hP 0 rfl rfl 9 (by decide) (hts (.fieldLink RX10 74 "LastLetter" "wall" "LLastLetter$Wall;") (by decide +kernel)) (fun _ h9 => h9) rfl dX10_about_97 ?_
    refine va_getN (D := D) (ci := 9) (v := .int 0) (C := RX9) (T := TX9) (N := 10) hx hb hts (by decide +kernel) hown hK hP 3 rfl rfl 9 (by decide) (va_Nw.use rfl (hN.1 (RX10, 234, RX9, "time", "I", RX10) (by decide +kernel))) (fun _ h9 => h9) rfl dX10_about_100 ?_
    have hP9 := hP.sub (ws' := []) [] rfl
    have hD9 := hD.sub (ws' := []) [] (by decide) rfl
    refine W.widen (k := 0) (n := 0) (Nat.le_of_ble_eq_true rfl) (Nat.le_of_ble_eq_true rfl) ?_
    exact W.iret (v := 0) hx hb hr (fun tz htz hWz => ⟨⟨0, [], rfl, ⟨rfl, (by grind)⟩, by rw [htz]; exact hP9, va_K.moved hWz.alike hK, hD9⟩, hS.F htz⟩) hS.2.2 dX10_about_103
  · refine lv_tableIn (off := 103) (tgt := 104) hx hb dX10_about_1 (by decide) (by decide) (by decide) (by decide) ?_
    refine lv_aload_n hx hb dX10_about_104 rfl (lv_at hl 0 rfl) ?_
    refine va_get (D := D) (ci := 10) (v := .ref tp) (C := RX10) (T := TX10) (N := 12) hx hb hts (by decide +kernel) hown hK hP 0 rfl rfl 0 (by decide) (hts (.fieldLink RX10 12 "LastLetter" "tape" "LLastLetter$Tape;") (by decide +kernel)) (fun _ h9 => h9) rfl dX10_about_105 ?_
    refine va_getN (D := D) (ci := 7) (v := .int 0) (C := RX7) (T := TX7) (N := 2) hx hb hts (by decide +kernel) hown hK hP 4 rfl rfl 1 (by decide) (va_Nw.use rfl (hN.1 (RX10, 88, RX7, "size", "I", RX10) (by decide +kernel))) (fun _ h9 => h9) rfl dX10_about_108 ?_
    have hP9 := hP.sub (ws' := []) [] rfl
    have hD9 := hD.sub (ws' := []) [] (by decide) rfl
    refine W.widen (k := 0) (n := 0) (Nat.le_of_ble_eq_true rfl) (Nat.le_of_ble_eq_true rfl) ?_
    exact W.iret (v := 0) hx hb hr (fun tz htz hWz => ⟨⟨0, [], rfl, ⟨rfl, (by grind)⟩, by rw [htz]; exact hP9, va_K.moved hWz.alike hK, hD9⟩, hS.F htz⟩) hS.2.2 dX10_about_111
  · refine lv_tableIn (off := 111) (tgt := 112) hx hb dX10_about_1 (by decide) (by decide) (by decide) (by decide) ?_
    refine lv_aload_n hx hb dX10_about_112 rfl (lv_at hl 0 rfl) ?_
    refine va_get (D := D) (ci := 10) (v := .ref pr) (C := RX10) (T := TX10) (N := 12) hx hb hts (by decide +kernel) hown hK hP 0 rfl rfl 2 (by decide) (hts (.fieldLink RX10 28 "LastLetter" "present" "LLastLetter$Talk;") (by decide +kernel)) (fun _ h9 => h9) rfl dX10_about_113 ?_
    refine va_getN (D := D) (ci := 6) (v := .int 1) (C := RX6) (T := TX6) (N := 7) hx hb hts (by decide +kernel) hown hK hP 2 rfl rfl 5 (by decide) (va_Nw.use rfl (hN.1 (RX10, 248, RX6, "w", "I", RX10) (by decide +kernel))) (fun _ h9 => h9) rfl dX10_about_116 ?_
    have hP9 := hP.sub (ws' := []) [] rfl
    have hD9 := hD.sub (ws' := []) [] (by decide) rfl
    refine W.widen (k := 0) (n := 0) (Nat.le_of_ble_eq_true rfl) (Nat.le_of_ble_eq_true rfl) ?_
    exact W.iret (v := 1) hx hb hr (fun tz htz hWz => ⟨⟨1, [], rfl, ⟨rfl, (by grind)⟩, by rw [htz]; exact hP9, va_K.moved hWz.alike hK, hD9⟩, hS.F htz⟩) hS.2.2 dX10_about_119
  · refine lv_tableIn (off := 119) (tgt := 120) hx hb dX10_about_1 (by decide) (by decide) (by decide) (by decide) ?_
    refine lv_aload_n hx hb dX10_about_120 rfl (lv_at hl 0 rfl) ?_
    refine va_get (D := D) (ci := 10) (v := .ref rw) (C := RX10) (T := TX10) (N := 12) hx hb hts (by decide +kernel) hown hK hP 0 rfl rfl 4 (by decide) (hts (.fieldLink RX10 39 "LastLetter" "row" "LLastLetter$Row;") (by decide +kernel)) (fun _ h9 => h9) rfl dX10_about_121 ?_
    refine va_getN (D := D) (ci := 4) (v := .int 0) (C := RX4) (T := TX4) (N := 2) hx hb hts (by decide +kernel) hown hK hP 5 rfl rfl 1 (by decide) (va_Nw.use rfl (hN.1 (RX10, 110, RX4, "size", "I", RX10) (by decide +kernel))) (fun _ h9 => h9) rfl dX10_about_124 ?_
    have hP9 := hP.sub (ws' := []) [] rfl
    have hD9 := hD.sub (ws' := []) [] (by decide) rfl
    refine W.widen (k := 0) (n := 0) (Nat.le_of_ble_eq_true rfl) (Nat.le_of_ble_eq_true rfl) ?_
    exact W.iret (v := 0) hx hb hr (fun tz htz hWz => ⟨⟨0, [], rfl, ⟨rfl, (by grind)⟩, by rw [htz]; exact hP9, va_K.moved hWz.alike hK, hD9⟩, hS.F htz⟩) hS.2.2 dX10_about_127
  · refine lv_tableIn (off := 127) (tgt := 128) hx hb dX10_about_1 (by decide) (by decide) (by decide) (by decide) ?_
    refine lv_aload_n hx hb dX10_about_128 rfl (lv_at hl 0 rfl) ?_
    refine va_get (D := D) (ci := 10) (v := .ref pr) (C := RX10) (T := TX10) (N := 12) hx hb hts (by decide +kernel) hown hK hP 0 rfl rfl 2 (by decide) (hts (.fieldLink RX10 28 "LastLetter" "present" "LLastLetter$Talk;") (by decide +kernel)) (fun _ h9 => h9) rfl dX10_about_129 ?_
    refine va_getN (D := D) (ci := 6) (v := .int 0) (C := RX6) (T := TX6) (N := 7) hx hb hts (by decide +kernel) hown hK hP 2 rfl rfl 3 (by decide) (va_Nw.use rfl (hN.1 (RX10, 258, RX6, "earned", "I", RX10) (by decide +kernel))) (fun _ h9 => h9) rfl dX10_about_132 ?_
    have hP9 := hP.sub (ws' := []) [] rfl
    have hD9 := hD.sub (ws' := []) [] (by decide) rfl
    refine W.widen (k := 0) (n := 0) (Nat.le_of_ble_eq_true rfl) (Nat.le_of_ble_eq_true rfl) ?_
    exact W.iret (v := 0) hx hb hr (fun tz htz hWz => ⟨⟨0, [], rfl, ⟨rfl, (by grind)⟩, by rw [htz]; exact hP9, va_K.moved hWz.alike hK, hD9⟩, hS.F htz⟩) hS.2.2 dX10_about_135
