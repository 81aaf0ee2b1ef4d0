theorem dJ0_charAt_5068e_0 : decode cJ0_charAt_5068e 0 = .ok (.aload_n 0, 1) := by decide +kernel
theorem dJ0_charAt_5068e_1 : decode cJ0_charAt_5068e 1 = .ok (.invokevirtual 492, 3) := by decide +kernel
theorem dJ0_charAt_5068e_4 : decode cJ0_charAt_5068e 4 = .ok (.ifCond .eq 12, 3) := by decide +kernel
theorem dJ0_charAt_5068e_7 : decode cJ0_charAt_5068e 7 = .ok (.aload_n 0, 1) := by decide +kernel
theorem dJ0_charAt_5068e_8 : decode cJ0_charAt_5068e 8 = .ok (.getfield 9, 3) := by decide +kernel
theorem dJ0_charAt_5068e_11 : decode cJ0_charAt_5068e 11 = .ok (.iload_n 1, 1) := by decide +kernel
theorem dJ0_charAt_5068e_12 : decode cJ0_charAt_5068e 12 = .ok (.invokestatic 495, 3) := by decide +kernel
theorem dJ0_charAt_5068e_15 : decode cJ0_charAt_5068e 15 = .ok (.ireturn, 1) := by decide +kernel
theorem dJ0_checkIndex_df160_0 : decode cJ0_checkIndex_df160 0 = .ok (.iload_n 0, 1) := by decide +kernel
theorem dJ0_checkIndex_df160_1 : decode cJ0_checkIndex_df160 1 = .ok (.iload_n 1, 1) := by decide +kernel
theorem dJ0_checkIndex_df160_2 : decode cJ0_checkIndex_df160 2 = .ok (.getstatic 1053, 3) := by decide +kernel
theorem dJ0_checkIndex_df160_5 : decode cJ0_checkIndex_df160 5 = .ok (.invokestatic 1059, 3) := by decide +kernel
theorem dJ0_checkIndex_df160_8 : decode cJ0_checkIndex_df160 8 = .ok (.pop, 1) := by decide +kernel
theorem dJ0_checkIndex_df160_9 : decode cJ0_checkIndex_df160 9 = .ok (.return_, 1) := by decide +kernel
theorem dJ0_coder_7d493_0 : decode cJ0_coder_7d493 0 = .ok (.getstatic 38, 3) := by decide +kernel
theorem dJ0_coder_7d493_3 : decode cJ0_coder_7d493 3 = .ok (.ifCond .eq 10, 3) := by decide +kernel
theorem dJ0_coder_7d493_6 : decode cJ0_coder_7d493 6 = .ok (.aload_n 0, 1) := by decide +kernel
theorem dJ0_coder_7d493_7 : decode cJ0_coder_7d493 7 = .ok (.getfield 15, 3) := by decide +kernel
theorem dJ0_coder_7d493_10 : decode cJ0_coder_7d493 10 = .ok (.goto 4, 3) := by decide +kernel
theorem dJ0_coder_7d493_14 : decode cJ0_coder_7d493 14 = .ok (.ireturn, 1) := by decide +kernel
theorem dJ0_isLatin1_aae02_0 : decode cJ0_isLatin1_aae02 0 = .ok (.getstatic 38, 3) := by decide +kernel
theorem dJ0_isLatin1_aae02_3 : decode cJ0_isLatin1_aae02 3 = .ok (.ifCond .eq 14, 3) := by decide +kernel
theorem dJ0_isLatin1_aae02_6 : decode cJ0_isLatin1_aae02 6 = .ok (.aload_n 0, 1) := by decide +kernel
theorem dJ0_isLatin1_aae02_7 : decode cJ0_isLatin1_aae02 7 = .ok (.getfield 15, 3) := by decide +kernel
theorem dJ0_isLatin1_aae02_10 : decode cJ0_isLatin1_aae02 10 = .ok (.ifCond .ne 7, 3) := by decide +kernel
theorem dJ0_isLatin1_aae02_13 : decode cJ0_isLatin1_aae02 13 = .ok (.iconst 1, 1) := by decide +kernel
theorem dJ0_isLatin1_aae02_14 : decode cJ0_isLatin1_aae02 14 = .ok (.goto 4, 3) := by decide +kernel
theorem dJ0_isLatin1_aae02_18 : decode cJ0_isLatin1_aae02 18 = .ok (.ireturn, 1) := by decide +kernel
theorem dJ0_length_8abf5_0 : decode cJ0_length_8abf5 0 = .ok (.aload_n 0, 1) := by decide +kernel
theorem dJ0_length_8abf5_1 : decode cJ0_length_8abf5 1 = .ok (.getfield 9, 3) := by decide +kernel
theorem dJ0_length_8abf5_4 : decode cJ0_length_8abf5 4 = .ok (.arraylength, 1) := by decide +kernel
theorem dJ0_length_8abf5_5 : decode cJ0_length_8abf5 5 = .ok (.aload_n 0, 1) := by decide +kernel
theorem dJ0_length_8abf5_6 : decode cJ0_length_8abf5 6 = .ok (.invokevirtual 335, 3) := by decide +kernel
theorem dJ0_length_8abf5_9 : decode cJ0_length_8abf5 9 = .ok (.ishr, 1) := by decide +kernel
theorem dJ0_length_8abf5_10 : decode cJ0_length_8abf5 10 = .ok (.ireturn, 1) := by decide +kernel
theorem dJ1_charAt_3b067_0 : decode cJ1_charAt_3b067 0 = .ok (.iload_n 1, 1) := by decide +kernel
theorem dJ1_charAt_3b067_1 : decode cJ1_charAt_3b067 1 = .ok (.aload_n 0, 1) := by decide +kernel
theorem dJ1_charAt_3b067_2 : decode cJ1_charAt_3b067 2 = .ok (.arraylength, 1) := by decide +kernel
theorem dJ1_charAt_3b067_3 : decode cJ1_charAt_3b067 3 = .ok (.invokestatic 9, 3) := by decide +kernel
theorem dJ1_charAt_3b067_6 : decode cJ1_charAt_3b067 6 = .ok (.aload_n 0, 1) := by decide +kernel
theorem dJ1_charAt_3b067_7 : decode cJ1_charAt_3b067 7 = .ok (.iload_n 1, 1) := by decide +kernel
theorem dJ1_charAt_3b067_8 : decode cJ1_charAt_3b067 8 = .ok (.baload, 1) := by decide +kernel
theorem dJ1_charAt_3b067_9 : decode cJ1_charAt_3b067 9 = .ok (.sipush 255, 3) := by decide +kernel
theorem dJ1_charAt_3b067_12 : decode cJ1_charAt_3b067 12 = .ok (.iand, 1) := by decide +kernel
theorem dJ1_charAt_3b067_13 : decode cJ1_charAt_3b067 13 = .ok (.i2c, 1) := by decide +kernel
theorem dJ1_charAt_3b067_14 : decode cJ1_charAt_3b067 14 = .ok (.ireturn, 1) := by decide +kernel
theorem dJ3_checkIndex_8e157_0 : decode cJ3_checkIndex_8e157 0 = .ok (.iload_n 0, 1) := by decide +kernel
theorem dJ3_checkIndex_8e157_1 : decode cJ3_checkIndex_8e157 1 = .ok (.ifCond .lt 8, 3) := by decide +kernel
theorem dJ3_checkIndex_8e157_4 : decode cJ3_checkIndex_8e157 4 = .ok (.iload_n 0, 1) := by decide +kernel
theorem dJ3_checkIndex_8e157_5 : decode cJ3_checkIndex_8e157 5 = .ok (.iload_n 1, 1) := by decide +kernel
theorem dJ3_checkIndex_8e157_6 : decode cJ3_checkIndex_8e157 6 = .ok (.if_icmp .lt 10, 3) := by decide +kernel
theorem dJ3_checkIndex_8e157_16 : decode cJ3_checkIndex_8e157 16 = .ok (.iload_n 0, 1) := by decide +kernel
theorem dJ3_checkIndex_8e157_17 : decode cJ3_checkIndex_8e157 17 = .ok (.ireturn, 1) := by decide +kernel
theorem dX3_isBlank_0 : decode cX3_isBlank 0 = .ok (.iload_n 0, 1) := by decide +kernel
theorem dX3_isBlank_1 : decode cX3_isBlank 1 = .ok (.bipush 32, 2) := by decide +kernel
theorem dX3_isBlank_3 : decode cX3_isBlank 3 = .ok (.if_icmp .eq 9, 3) := by decide +kernel
theorem dX3_isBlank_6 : decode cX3_isBlank 6 = .ok (.iload_n 0, 1) := by decide +kernel
theorem dX3_isBlank_7 : decode cX3_isBlank 7 = .ok (.bipush 10, 2) := by decide +kernel
theorem dX3_isBlank_9 : decode cX3_isBlank 9 = .ok (.if_icmp .ne 7, 3) := by decide +kernel
theorem dX3_isBlank_12 : decode cX3_isBlank 12 = .ok (.iconst 1, 1) := by decide +kernel
theorem dX3_isBlank_13 : decode cX3_isBlank 13 = .ok (.goto 4, 3) := by decide +kernel
theorem dX3_isBlank_16 : decode cX3_isBlank 16 = .ok (.iconst 0, 1) := by decide +kernel
theorem dX3_isBlank_17 : decode cX3_isBlank 17 = .ok (.ireturn, 1) := by decide +kernel
theorem dX3_isDigit_0 : decode cX3_isDigit 0 = .ok (.iload_n 0, 1) := by decide +kernel
theorem dX3_isDigit_1 : decode cX3_isDigit 1 = .ok (.bipush 48, 2) := by decide +kernel
theorem dX3_isDigit_3 : decode cX3_isDigit 3 = .ok (.if_icmp .lt 13, 3) := by decide +kernel
theorem dX3_isDigit_6 : decode cX3_isDigit 6 = .ok (.iload_n 0, 1) := by decide +kernel
theorem dX3_isDigit_7 : decode cX3_isDigit 7 = .ok (.bipush 57, 2) := by decide +kernel
theorem dX3_isDigit_9 : decode cX3_isDigit 9 = .ok (.if_icmp .gt 7, 3) := by decide +kernel
theorem dX3_isDigit_12 : decode cX3_isDigit 12 = .ok (.iconst 1, 1) := by decide +kernel
theorem dX3_isDigit_13 : decode cX3_isDigit 13 = .ok (.goto 4, 3) := by decide +kernel
theorem dX3_isDigit_16 : decode cX3_isDigit 16 = .ok (.iconst 0, 1) := by decide +kernel
theorem dX3_isDigit_17 : decode cX3_isDigit 17 = .ok (.ireturn, 1) := by decide +kernel
theorem dX3_isLetter_0 : decode cX3_isLetter 0 = .ok (.iload_n 0, 1) := by decide +kernel
theorem dX3_isLetter_1 : decode cX3_isLetter 1 = .ok (.bipush 97, 2) := by decide +kernel
theorem dX3_isLetter_3 : decode cX3_isLetter 3 = .ok (.if_icmp .lt 13, 3) := by decide +kernel
theorem dX3_isLetter_6 : decode cX3_isLetter 6 = .ok (.iload_n 0, 1) := by decide +kernel
theorem dX3_isLetter_7 : decode cX3_isLetter 7 = .ok (.bipush 122, 2) := by decide +kernel
theorem dX3_isLetter_9 : decode cX3_isLetter 9 = .ok (.if_icmp .gt 7, 3) := by decide +kernel
theorem dX3_isLetter_12 : decode cX3_isLetter 12 = .ok (.iconst 1, 1) := by decide +kernel
theorem dX3_isLetter_13 : decode cX3_isLetter 13 = .ok (.goto 4, 3) := by decide +kernel
theorem dX3_isLetter_16 : decode cX3_isLetter 16 = .ok (.iconst 0, 1) := by decide +kernel
theorem dX3_isLetter_17 : decode cX3_isLetter 17 = .ok (.ireturn, 1) := by decide +kernel
theorem dX3_isWritten_0 : decode cX3_isWritten 0 = .ok (.aload_n 0, 1) := by decide +kernel
theorem dX3_isWritten_1 : decode cX3_isWritten 1 = .ok (.getfield 33, 3) := by decide +kernel
theorem dX3_isWritten_4 : decode cX3_isWritten 4 = .ok (.iconst 2, 1) := by decide +kernel
theorem dX3_isWritten_5 : decode cX3_isWritten 5 = .ok (.if_icmp .ne 19, 3) := by decide +kernel
theorem dX3_isWritten_8 : decode cX3_isWritten 8 = .ok (.aload_n 0, 1) := by decide +kernel
theorem dX3_isWritten_9 : decode cX3_isWritten 9 = .ok (.getfield 27, 3) := by decide +kernel
theorem dX3_isWritten_12 : decode cX3_isWritten 12 = .ok (.aload_n 0, 1) := by decide +kernel
theorem dX3_isWritten_13 : decode cX3_isWritten 13 = .ok (.getfield 87, 3) := by decide +kernel
theorem dX3_isWritten_16 : decode cX3_isWritten 16 = .ok (.isub, 1) := by decide +kernel
theorem dX3_isWritten_17 : decode cX3_isWritten 17 = .ok (.aload_n 1, 1) := by decide +kernel
theorem dX3_isWritten_18 : decode cX3_isWritten 18 = .ok (.invokevirtual 157, 3) := by decide +kernel
theorem dX3_isWritten_21 : decode cX3_isWritten 21 = .ok (.if_icmp .eq 5, 3) := by decide +kernel
theorem dX3_isWritten_24 : decode cX3_isWritten 24 = .ok (.iconst 0, 1) := by decide +kernel
theorem dX3_isWritten_25 : decode cX3_isWritten 25 = .ok (.ireturn, 1) := by decide +kernel
theorem dX3_isWritten_26 : decode cX3_isWritten 26 = .ok (.iconst 0, 1) := by decide +kernel
theorem dX3_isWritten_27 : decode cX3_isWritten 27 = .ok (.istore_n 2, 1) := by decide +kernel
theorem dX3_isWritten_28 : decode cX3_isWritten 28 = .ok (.iload_n 2, 1) := by decide +kernel
theorem dX3_isWritten_29 : decode cX3_isWritten 29 = .ok (.aload_n 1, 1) := by decide +kernel
theorem dX3_isWritten_30 : decode cX3_isWritten 30 = .ok (.invokevirtual 157, 3) := by decide +kernel
theorem dX3_isWritten_33 : decode cX3_isWritten 33 = .ok (.if_icmp .ge 32, 3) := by decide +kernel
theorem dX3_isWritten_36 : decode cX3_isWritten 36 = .ok (.aload_n 0, 1) := by decide +kernel
theorem dX3_isWritten_37 : decode cX3_isWritten 37 = .ok (.getfield 15, 3) := by decide +kernel
theorem dX3_isWritten_40 : decode cX3_isWritten 40 = .ok (.aload_n 0, 1) := by decide +kernel
theorem dX3_isWritten_41 : decode cX3_isWritten 41 = .ok (.getfield 87, 3) := by decide +kernel
theorem dX3_isWritten_44 : decode cX3_isWritten 44 = .ok (.iload_n 2, 1) := by decide +kernel
theorem dX3_isWritten_45 : decode cX3_isWritten 45 = .ok (.iadd, 1) := by decide +kernel
theorem dX3_isWritten_46 : decode cX3_isWritten 46 = .ok (.invokevirtual 137, 3) := by decide +kernel
theorem dX3_isWritten_49 : decode cX3_isWritten 49 = .ok (.aload_n 1, 1) := by decide +kernel
theorem dX3_isWritten_50 : decode cX3_isWritten 50 = .ok (.iload_n 2, 1) := by decide +kernel
theorem dX3_isWritten_51 : decode cX3_isWritten 51 = .ok (.invokevirtual 162, 3) := by decide +kernel
theorem dX3_isWritten_54 : decode cX3_isWritten 54 = .ok (.if_icmp .eq 5, 3) := by decide +kernel
theorem dX3_isWritten_57 : decode cX3_isWritten 57 = .ok (.iconst 0, 1) := by decide +kernel
theorem dX3_isWritten_58 : decode cX3_isWritten 58 = .ok (.ireturn, 1) := by decide +kernel
theorem dX3_isWritten_59 : decode cX3_isWritten 59 = .ok (.iinc 2 1, 3) := by decide +kernel
theorem dX3_isWritten_62 : decode cX3_isWritten 62 = .ok (.goto (-34), 3) := by decide +kernel
theorem dX3_isWritten_65 : decode cX3_isWritten 65 = .ok (.iconst 1, 1) := by decide +kernel
theorem dX3_isWritten_66 : decode cX3_isWritten 66 = .ok (.ireturn, 1) := by decide +kernel
theorem dX3_refuse_0 : decode cX3_refuse 0 = .ok (.aload_n 0, 1) := by decide +kernel
theorem dX3_refuse_1 : decode cX3_refuse 1 = .ok (.getfield 24, 3) := by decide +kernel
theorem dX3_refuse_4 : decode cX3_refuse 4 = .ok (.ifCond .ne 16, 3) := by decide +kernel
theorem dX3_refuse_7 : decode cX3_refuse 7 = .ok (.aload_n 0, 1) := by decide +kernel
theorem dX3_refuse_8 : decode cX3_refuse 8 = .ok (.iload_n 1, 1) := by decide +kernel
theorem dX3_refuse_9 : decode cX3_refuse 9 = .ok (.putfield 24, 3) := by decide +kernel
theorem dX3_refuse_12 : decode cX3_refuse 12 = .ok (.aload_n 0, 1) := by decide +kernel
theorem dX3_refuse_13 : decode cX3_refuse 13 = .ok (.aload_n 0, 1) := by decide +kernel
theorem dX3_refuse_14 : decode cX3_refuse 14 = .ok (.getfield 87, 3) := by decide +kernel
theorem dX3_refuse_17 : decode cX3_refuse 17 = .ok (.putfield 9, 3) := by decide +kernel
theorem dX3_refuse_20 : decode cX3_refuse 20 = .ok (.return_, 1) := by decide +kernel
theorem dX3_step_0 : decode cX3_step 0 = .ok (.aload_n 0, 1) := by decide +kernel
theorem dX3_step_1 : decode cX3_step 1 = .ok (.getfield 24, 3) := by decide +kernel
theorem dX3_step_4 : decode cX3_step 4 = .ok (.ifCond .eq 4, 3) := by decide +kernel
theorem dX3_step_7 : decode cX3_step 7 = .ok (.return_, 1) := by decide +kernel
theorem dX3_step_8 : decode cX3_step 8 = .ok (.aload_n 0, 1) := by decide +kernel
theorem dX3_step_9 : decode cX3_step 9 = .ok (.aload_n 0, 1) := by decide +kernel
theorem dX3_step_10 : decode cX3_step 10 = .ok (.getfield 27, 3) := by decide +kernel
theorem dX3_step_13 : decode cX3_step 13 = .ok (.putfield 87, 3) := by decide +kernel
theorem dX3_step_16 : decode cX3_step 16 = .ok (.aload_n 0, 1) := by decide +kernel
theorem dX3_step_17 : decode cX3_step 17 = .ok (.getfield 87, 3) := by decide +kernel
theorem dX3_step_20 : decode cX3_step 20 = .ok (.aload_n 0, 1) := by decide +kernel
theorem dX3_step_21 : decode cX3_step 21 = .ok (.getfield 15, 3) := by decide +kernel
theorem dX3_step_24 : decode cX3_step 24 = .ok (.getfield 132, 3) := by decide +kernel
theorem dX3_step_27 : decode cX3_step 27 = .ok (.if_icmp .ge 33, 3) := by decide +kernel
theorem dX3_step_30 : decode cX3_step 30 = .ok (.aload_n 0, 1) := by decide +kernel
theorem dX3_step_31 : decode cX3_step 31 = .ok (.getfield 15, 3) := by decide +kernel
theorem dX3_step_34 : decode cX3_step 34 = .ok (.aload_n 0, 1) := by decide +kernel
theorem dX3_step_35 : decode cX3_step 35 = .ok (.getfield 87, 3) := by decide +kernel
theorem dX3_step_38 : decode cX3_step 38 = .ok (.invokevirtual 137, 3) := by decide +kernel
theorem dX3_step_41 : decode cX3_step 41 = .ok (.invokestatic 141, 3) := by decide +kernel
theorem dX3_step_44 : decode cX3_step 44 = .ok (.ifCond .eq 16, 3) := by decide +kernel
theorem dX3_step_47 : decode cX3_step 47 = .ok (.aload_n 0, 1) := by decide +kernel
theorem dX3_step_48 : decode cX3_step 48 = .ok (.dup, 1) := by decide +kernel
theorem dX3_step_49 : decode cX3_step 49 = .ok (.getfield 87, 3) := by decide +kernel
theorem dX3_step_52 : decode cX3_step 52 = .ok (.iconst 1, 1) := by decide +kernel
theorem dX3_step_53 : decode cX3_step 53 = .ok (.iadd, 1) := by decide +kernel
theorem dX3_step_54 : decode cX3_step 54 = .ok (.putfield 87, 3) := by decide +kernel
theorem dX3_step_57 : decode cX3_step 57 = .ok (.goto (-41), 3) := by decide +kernel
theorem dX3_step_60 : decode cX3_step 60 = .ok (.aload_n 0, 1) := by decide +kernel
theorem dX3_step_61 : decode cX3_step 61 = .ok (.aload_n 0, 1) := by decide +kernel
theorem dX3_step_62 : decode cX3_step 62 = .ok (.getfield 87, 3) := by decide +kernel
theorem dX3_step_65 : decode cX3_step 65 = .ok (.putfield 27, 3) := by decide +kernel
theorem dX3_step_68 : decode cX3_step 68 = .ok (.aload_n 0, 1) := by decide +kernel
theorem dX3_step_69 : decode cX3_step 69 = .ok (.getfield 15, 3) := by decide +kernel
theorem dX3_step_72 : decode cX3_step 72 = .ok (.aload_n 0, 1) := by decide +kernel
theorem dX3_step_73 : decode cX3_step 73 = .ok (.getfield 87, 3) := by decide +kernel
theorem dX3_step_76 : decode cX3_step 76 = .ok (.invokevirtual 137, 3) := by decide +kernel
theorem dX3_step_79 : decode cX3_step 79 = .ok (.istore_n 1, 1) := by decide +kernel
theorem dX3_step_80 : decode cX3_step 80 = .ok (.iload_n 1, 1) := by decide +kernel
theorem dX3_step_81 : decode cX3_step 81 = .ok (.iconst (-1), 1) := by decide +kernel
theorem dX3_step_82 : decode cX3_step 82 = .ok (.if_icmp .ne 11, 3) := by decide +kernel
theorem dX3_step_85 : decode cX3_step 85 = .ok (.aload_n 0, 1) := by decide +kernel
theorem dX3_step_86 : decode cX3_step 86 = .ok (.iconst 1, 1) := by decide +kernel
theorem dX3_step_87 : decode cX3_step 87 = .ok (.putfield 33, 3) := by decide +kernel
theorem dX3_step_90 : decode cX3_step 90 = .ok (.goto 65, 3) := by decide +kernel
theorem dX3_step_93 : decode cX3_step 93 = .ok (.iload_n 1, 1) := by decide +kernel
theorem dX3_step_94 : decode cX3_step 94 = .ok (.invokestatic 145, 3) := by decide +kernel
theorem dX3_step_97 : decode cX3_step 97 = .ok (.ifCond .eq 10, 3) := by decide +kernel
theorem dX3_step_100 : decode cX3_step 100 = .ok (.aload_n 0, 1) := by decide +kernel
theorem dX3_step_101 : decode cX3_step 101 = .ok (.invokevirtual 148, 3) := by decide +kernel
theorem dX3_step_104 : decode cX3_step 104 = .ok (.goto 51, 3) := by decide +kernel
theorem dX3_step_107 : decode cX3_step 107 = .ok (.iload_n 1, 1) := by decide +kernel
theorem dX3_step_108 : decode cX3_step 108 = .ok (.invokestatic 151, 3) := by decide +kernel
theorem dX3_step_111 : decode cX3_step 111 = .ok (.ifCond .eq 10, 3) := by decide +kernel
theorem dX3_step_114 : decode cX3_step 114 = .ok (.aload_n 0, 1) := by decide +kernel
theorem dX3_step_115 : decode cX3_step 115 = .ok (.invokevirtual 154, 3) := by decide +kernel
theorem dX3_step_118 : decode cX3_step 118 = .ok (.goto 37, 3) := by decide +kernel
theorem dX3_step_121 : decode cX3_step 121 = .ok (.iload_n 1, 1) := by decide +kernel
theorem dX3_step_122 : decode cX3_step 122 = .ok (.bipush 59, 2) := by decide +kernel
theorem dX3_step_124 : decode cX3_step 124 = .ok (.if_icmp .ne 21, 3) := by decide +kernel
theorem dX3_step_127 : decode cX3_step 127 = .ok (.aload_n 0, 1) := by decide +kernel
theorem dX3_step_128 : decode cX3_step 128 = .ok (.iconst 4, 1) := by decide +kernel
theorem dX3_step_129 : decode cX3_step 129 = .ok (.putfield 33, 3) := by decide +kernel
theorem dX3_step_132 : decode cX3_step 132 = .ok (.aload_n 0, 1) := by decide +kernel
theorem dX3_step_133 : decode cX3_step 133 = .ok (.dup, 1) := by decide +kernel
theorem dX3_step_134 : decode cX3_step 134 = .ok (.getfield 27, 3) := by decide +kernel
theorem dX3_step_137 : decode cX3_step 137 = .ok (.iconst 1, 1) := by decide +kernel
theorem dX3_step_138 : decode cX3_step 138 = .ok (.iadd, 1) := by decide +kernel
theorem dX3_step_139 : decode cX3_step 139 = .ok (.putfield 27, 3) := by decide +kernel
theorem dX3_step_142 : decode cX3_step 142 = .ok (.goto 13, 3) := by decide +kernel
theorem dX3_step_145 : decode cX3_step 145 = .ok (.aload_n 0, 1) := by decide +kernel
theorem dX3_step_146 : decode cX3_step 146 = .ok (.iconst 0, 1) := by decide +kernel
theorem dX3_step_147 : decode cX3_step 147 = .ok (.putfield 33, 3) := by decide +kernel
theorem dX3_step_150 : decode cX3_step 150 = .ok (.aload_n 0, 1) := by decide +kernel
theorem dX3_step_151 : decode cX3_step 151 = .ok (.iconst 1, 1) := by decide +kernel
theorem dX3_step_152 : decode cX3_step 152 = .ok (.invokevirtual 75, 3) := by decide +kernel
theorem dX3_step_155 : decode cX3_step 155 = .ok (.return_, 1) := by decide +kernel
theorem dX3_stepDigits_0 : decode cX3_stepDigits 0 = .ok (.aload_n 0, 1) := by decide +kernel
theorem dX3_stepDigits_1 : decode cX3_stepDigits 1 = .ok (.getfield 27, 3) := by decide +kernel
theorem dX3_stepDigits_4 : decode cX3_stepDigits 4 = .ok (.aload_n 0, 1) := by decide +kernel
theorem dX3_stepDigits_5 : decode cX3_stepDigits 5 = .ok (.getfield 15, 3) := by decide +kernel
theorem dX3_stepDigits_8 : decode cX3_stepDigits 8 = .ok (.getfield 132, 3) := by decide +kernel
theorem dX3_stepDigits_11 : decode cX3_stepDigits 11 = .ok (.if_icmp .ge 33, 3) := by decide +kernel
theorem dX3_stepDigits_14 : decode cX3_stepDigits 14 = .ok (.aload_n 0, 1) := by decide +kernel
theorem dX3_stepDigits_15 : decode cX3_stepDigits 15 = .ok (.getfield 15, 3) := by decide +kernel
theorem dX3_stepDigits_18 : decode cX3_stepDigits 18 = .ok (.aload_n 0, 1) := by decide +kernel
theorem dX3_stepDigits_19 : decode cX3_stepDigits 19 = .ok (.getfield 27, 3) := by decide +kernel
theorem dX3_stepDigits_22 : decode cX3_stepDigits 22 = .ok (.invokevirtual 137, 3) := by decide +kernel
theorem dX3_stepDigits_25 : decode cX3_stepDigits 25 = .ok (.invokestatic 151, 3) := by decide +kernel
theorem dX3_stepDigits_28 : decode cX3_stepDigits 28 = .ok (.ifCond .eq 16, 3) := by decide +kernel
theorem dX3_stepDigits_31 : decode cX3_stepDigits 31 = .ok (.aload_n 0, 1) := by decide +kernel
theorem dX3_stepDigits_32 : decode cX3_stepDigits 32 = .ok (.dup, 1) := by decide +kernel
theorem dX3_stepDigits_33 : decode cX3_stepDigits 33 = .ok (.getfield 27, 3) := by decide +kernel
theorem dX3_stepDigits_36 : decode cX3_stepDigits 36 = .ok (.iconst 1, 1) := by decide +kernel
theorem dX3_stepDigits_37 : decode cX3_stepDigits 37 = .ok (.iadd, 1) := by decide +kernel
theorem dX3_stepDigits_38 : decode cX3_stepDigits 38 = .ok (.putfield 27, 3) := by decide +kernel
theorem dX3_stepDigits_41 : decode cX3_stepDigits 41 = .ok (.goto (-41), 3) := by decide +kernel
theorem dX3_stepDigits_44 : decode cX3_stepDigits 44 = .ok (.aload_n 0, 1) := by decide +kernel
theorem dX3_stepDigits_45 : decode cX3_stepDigits 45 = .ok (.iconst 3, 1) := by decide +kernel
theorem dX3_stepDigits_46 : decode cX3_stepDigits 46 = .ok (.putfield 33, 3) := by decide +kernel
theorem dX3_stepDigits_49 : decode cX3_stepDigits 49 = .ok (.aload_n 0, 1) := by decide +kernel
theorem dX3_stepDigits_50 : decode cX3_stepDigits 50 = .ok (.getfield 27, 3) := by decide +kernel
theorem dX3_stepDigits_53 : decode cX3_stepDigits 53 = .ok (.aload_n 0, 1) := by decide +kernel
theorem dX3_stepDigits_54 : decode cX3_stepDigits 54 = .ok (.getfield 87, 3) := by decide +kernel
theorem dX3_stepDigits_57 : decode cX3_stepDigits 57 = .ok (.isub, 1) := by decide +kernel
theorem dX3_stepDigits_58 : decode cX3_stepDigits 58 = .ok (.iconst 4, 1) := by decide +kernel
theorem dX3_stepDigits_59 : decode cX3_stepDigits 59 = .ok (.if_icmp .gt 20, 3) := by decide +kernel
theorem dX3_stepDigits_62 : decode cX3_stepDigits 62 = .ok (.aload_n 0, 1) := by decide +kernel
theorem dX3_stepDigits_63 : decode cX3_stepDigits 63 = .ok (.getfield 15, 3) := by decide +kernel
theorem dX3_stepDigits_66 : decode cX3_stepDigits 66 = .ok (.aload_n 0, 1) := by decide +kernel
theorem dX3_stepDigits_67 : decode cX3_stepDigits 67 = .ok (.getfield 27, 3) := by decide +kernel
theorem dX3_stepDigits_70 : decode cX3_stepDigits 70 = .ok (.invokevirtual 137, 3) := by decide +kernel
theorem dX3_stepDigits_73 : decode cX3_stepDigits 73 = .ok (.invokestatic 145, 3) := by decide +kernel
theorem dX3_stepDigits_76 : decode cX3_stepDigits 76 = .ok (.ifCond .eq 13, 3) := by decide +kernel
theorem dX3_stepDigits_79 : decode cX3_stepDigits 79 = .ok (.aload_n 0, 1) := by decide +kernel
theorem dX3_stepDigits_80 : decode cX3_stepDigits 80 = .ok (.iconst 0, 1) := by decide +kernel
theorem dX3_stepDigits_81 : decode cX3_stepDigits 81 = .ok (.putfield 33, 3) := by decide +kernel
theorem dX3_stepDigits_84 : decode cX3_stepDigits 84 = .ok (.aload_n 0, 1) := by decide +kernel
theorem dX3_stepDigits_85 : decode cX3_stepDigits 85 = .ok (.iconst 1, 1) := by decide +kernel
theorem dX3_stepDigits_86 : decode cX3_stepDigits 86 = .ok (.invokevirtual 75, 3) := by decide +kernel
theorem dX3_stepDigits_89 : decode cX3_stepDigits 89 = .ok (.return_, 1) := by decide +kernel
theorem dX3_stepLetters_0 : decode cX3_stepLetters 0 = .ok (.aload_n 0, 1) := by decide +kernel
theorem dX3_stepLetters_1 : decode cX3_stepLetters 1 = .ok (.getfield 27, 3) := by decide +kernel
theorem dX3_stepLetters_4 : decode cX3_stepLetters 4 = .ok (.aload_n 0, 1) := by decide +kernel
theorem dX3_stepLetters_5 : decode cX3_stepLetters 5 = .ok (.getfield 15, 3) := by decide +kernel
theorem dX3_stepLetters_8 : decode cX3_stepLetters 8 = .ok (.getfield 132, 3) := by decide +kernel
theorem dX3_stepLetters_11 : decode cX3_stepLetters 11 = .ok (.if_icmp .ge 33, 3) := by decide +kernel
theorem dX3_stepLetters_14 : decode cX3_stepLetters 14 = .ok (.aload_n 0, 1) := by decide +kernel
theorem dX3_stepLetters_15 : decode cX3_stepLetters 15 = .ok (.getfield 15, 3) := by decide +kernel
theorem dX3_stepLetters_18 : decode cX3_stepLetters 18 = .ok (.aload_n 0, 1) := by decide +kernel
theorem dX3_stepLetters_19 : decode cX3_stepLetters 19 = .ok (.getfield 27, 3) := by decide +kernel
theorem dX3_stepLetters_22 : decode cX3_stepLetters 22 = .ok (.invokevirtual 137, 3) := by decide +kernel
theorem dX3_stepLetters_25 : decode cX3_stepLetters 25 = .ok (.invokestatic 145, 3) := by decide +kernel
theorem dX3_stepLetters_28 : decode cX3_stepLetters 28 = .ok (.ifCond .eq 16, 3) := by decide +kernel
theorem dX3_stepLetters_31 : decode cX3_stepLetters 31 = .ok (.aload_n 0, 1) := by decide +kernel
theorem dX3_stepLetters_32 : decode cX3_stepLetters 32 = .ok (.dup, 1) := by decide +kernel
theorem dX3_stepLetters_33 : decode cX3_stepLetters 33 = .ok (.getfield 27, 3) := by decide +kernel
theorem dX3_stepLetters_36 : decode cX3_stepLetters 36 = .ok (.iconst 1, 1) := by decide +kernel
theorem dX3_stepLetters_37 : decode cX3_stepLetters 37 = .ok (.iadd, 1) := by decide +kernel
theorem dX3_stepLetters_38 : decode cX3_stepLetters 38 = .ok (.putfield 27, 3) := by decide +kernel
theorem dX3_stepLetters_41 : decode cX3_stepLetters 41 = .ok (.goto (-41), 3) := by decide +kernel
theorem dX3_stepLetters_44 : decode cX3_stepLetters 44 = .ok (.aload_n 0, 1) := by decide +kernel
theorem dX3_stepLetters_45 : decode cX3_stepLetters 45 = .ok (.iconst 2, 1) := by decide +kernel
theorem dX3_stepLetters_46 : decode cX3_stepLetters 46 = .ok (.putfield 33, 3) := by decide +kernel
theorem dX3_stepLetters_49 : decode cX3_stepLetters 49 = .ok (.aload_n 0, 1) := by decide +kernel
theorem dX3_stepLetters_50 : decode cX3_stepLetters 50 = .ok (.getfield 27, 3) := by decide +kernel
theorem dX3_stepLetters_53 : decode cX3_stepLetters 53 = .ok (.aload_n 0, 1) := by decide +kernel
theorem dX3_stepLetters_54 : decode cX3_stepLetters 54 = .ok (.getfield 87, 3) := by decide +kernel
theorem dX3_stepLetters_57 : decode cX3_stepLetters 57 = .ok (.isub, 1) := by decide +kernel
theorem dX3_stepLetters_58 : decode cX3_stepLetters 58 = .ok (.bipush 8, 2) := by decide +kernel
theorem dX3_stepLetters_60 : decode cX3_stepLetters 60 = .ok (.if_icmp .le 13, 3) := by decide +kernel
theorem dX3_stepLetters_63 : decode cX3_stepLetters 63 = .ok (.aload_n 0, 1) := by decide +kernel
theorem dX3_stepLetters_64 : decode cX3_stepLetters 64 = .ok (.iconst 0, 1) := by decide +kernel
theorem dX3_stepLetters_65 : decode cX3_stepLetters 65 = .ok (.putfield 33, 3) := by decide +kernel
theorem dX3_stepLetters_68 : decode cX3_stepLetters 68 = .ok (.aload_n 0, 1) := by decide +kernel
theorem dX3_stepLetters_69 : decode cX3_stepLetters 69 = .ok (.iconst 1, 1) := by decide +kernel
theorem dX3_stepLetters_70 : decode cX3_stepLetters 70 = .ok (.invokevirtual 75, 3) := by decide +kernel
theorem dX3_stepLetters_73 : decode cX3_stepLetters 73 = .ok (.return_, 1) := by decide +kernel
set_option maxRecDepth 20000 in
theorem ggJ0_charAt_5068e_J0_isLatin1_aae02 : GoodIn wsJ0_charAt_5068e wsJ0_isLatin1_aae02 := goodIn_r _ [6, 7, 8] (by decide +kernel) (by decide +kernel)
set_option maxRecDepth 20000 in
theorem gJ0_charAt_5068e_J0_isLatin1_aae02 : GoodIn wsJ0_charAt_5068e (wsV RJ0 492 RJ0 yJ0_isLatin1_aae02 wsJ0_isLatin1_aae02) := goodIn_app (goodIn_of _ (by decide +kernel)) ggJ0_charAt_5068e_J0_isLatin1_aae02
set_option maxRecDepth 20000 in
theorem ggJ0_charAt_5068e_J1_charAt_3b067 : GoodIn wsJ0_charAt_5068e wsJ1_charAt_3b067 := goodIn_r _ [12, 13, 14, 5, 15, 16, 17, 18, 19, 20] (by decide +kernel) (by decide +kernel)
set_option maxRecDepth 20000 in
theorem gJ0_charAt_5068e_J1_charAt_3b067 : GoodIn wsJ0_charAt_5068e (va_wsS RJ0 495 yJ1_charAt_3b067 wsJ1_charAt_3b067) := goodIn_app (goodIn_of _ (by decide +kernel)) ggJ0_charAt_5068e_J1_charAt_3b067
set_option maxRecDepth 20000 in
theorem ggJ0_checkIndex_df160_J3_checkIndex_8e157 : GoodIn wsJ0_checkIndex_df160 wsJ3_checkIndex_8e157 := goodIn_r _ [5] (by decide +kernel) (by decide +kernel)
set_option maxRecDepth 20000 in
theorem gJ0_checkIndex_df160_J3_checkIndex_8e157 : GoodIn wsJ0_checkIndex_df160 (va_wsS RJ0 1059 yJ3_checkIndex_8e157 wsJ3_checkIndex_8e157) := goodIn_app (goodIn_of _ (by decide +kernel)) ggJ0_checkIndex_df160_J3_checkIndex_8e157
set_option maxRecDepth 20000 in
theorem ggJ0_length_8abf5_J0_coder_7d493 : GoodIn wsJ0_length_8abf5 wsJ0_coder_7d493 := goodIn_r _ [6, 7, 8] (by decide +kernel) (by decide +kernel)
set_option maxRecDepth 20000 in
theorem gJ0_length_8abf5_J0_coder_7d493 : GoodIn wsJ0_length_8abf5 (wsV RJ0 335 RJ0 yJ0_coder_7d493 wsJ0_coder_7d493) := goodIn_app (goodIn_of _ (by decide +kernel)) ggJ0_length_8abf5_J0_coder_7d493
set_option maxRecDepth 20000 in
theorem ggJ1_charAt_3b067_J0_checkIndex_df160 : GoodIn wsJ1_charAt_3b067 wsJ0_checkIndex_df160 := goodIn_r _ [4, 5, 6, 7, 8, 9] (by decide +kernel) (by decide +kernel)
set_option maxRecDepth 20000 in
theorem gJ1_charAt_3b067_J0_checkIndex_df160 : GoodIn wsJ1_charAt_3b067 (va_wsS RJ1 9 yJ0_checkIndex_df160 wsJ0_checkIndex_df160) := goodIn_app (goodIn_of _ (by decide +kernel)) ggJ1_charAt_3b067_J0_checkIndex_df160
set_option maxRecDepth 20000 in
theorem ggX3_isWritten_J0_charAt_5068e : GoodIn wsX3_isWritten wsJ0_charAt_5068e := goodIn_r _ [27, 10, 28, 29, 30, 8, 31, 15, 16, 32, 33, 34, 35, 36, 37, 38, 39, 40, 41, 42, 43, 44, 45, 46, 47, 48, 49, 50, 51, 52, 53, 54, 55, 56, 57, 58, 59, 60] (by decide +kernel) (by decide +kernel)
set_option maxRecDepth 20000 in
theorem gX3_isWritten_J0_charAt_5068e : GoodIn wsX3_isWritten (wsV RX3 162 RJ0 yJ0_charAt_5068e wsJ0_charAt_5068e) := goodIn_app (goodIn_of _ (by decide +kernel)) ggX3_isWritten_J0_charAt_5068e
set_option maxRecDepth 20000 in
theorem ggX3_isWritten_J0_length_8abf5 : GoodIn wsX3_isWritten wsJ0_length_8abf5 := goodIn_r _ [9, 10, 11, 12, 13, 8, 14, 15, 16] (by decide +kernel) (by decide +kernel)
set_option maxRecDepth 20000 in
theorem gX3_isWritten_J0_length_8abf5 : GoodIn wsX3_isWritten (wsV RX3 157 RJ0 yJ0_length_8abf5 wsJ0_length_8abf5) := goodIn_app (goodIn_of _ (by decide +kernel)) ggX3_isWritten_J0_length_8abf5
set_option maxRecDepth 20000 in
theorem ggX3_isWritten_X7_at : GoodIn wsX3_isWritten wsX7_at := goodIn_r _ [21, 22, 23, 67, 68] (by decide +kernel) (by decide +kernel)
set_option maxRecDepth 20000 in
theorem gX3_isWritten_X7_at : GoodIn wsX3_isWritten (wsV RX3 137 RX7 yX7_at wsX7_at) := goodIn_app (goodIn_of _ (by decide +kernel)) ggX3_isWritten_X7_at
set_option maxRecDepth 20000 in
theorem ggX3_stepDigits_X3_isDigit : GoodIn wsX3_stepDigits wsX3_isDigit := goodIn_r _ [15] (by decide +kernel) (by decide +kernel)
set_option maxRecDepth 20000 in
theorem gX3_stepDigits_X3_isDigit : GoodIn wsX3_stepDigits (va_wsS RX3 151 yX3_isDigit wsX3_isDigit) := goodIn_app (goodIn_of _ (by decide +kernel)) ggX3_stepDigits_X3_isDigit
set_option maxRecDepth 20000 in
theorem ggX3_stepDigits_X3_isLetter : GoodIn wsX3_stepDigits wsX3_isLetter := goodIn_r _ [18] (by decide +kernel) (by decide +kernel)
set_option maxRecDepth 20000 in
theorem gX3_stepDigits_X3_isLetter : GoodIn wsX3_stepDigits (va_wsS RX3 145 yX3_isLetter wsX3_isLetter) := goodIn_app (goodIn_of _ (by decide +kernel)) ggX3_stepDigits_X3_isLetter
set_option maxRecDepth 20000 in
theorem ggX3_stepDigits_X3_refuse : GoodIn wsX3_stepDigits wsX3_refuse := goodIn_r _ [22, 23, 4, 24, 25, 26, 27, 28, 29, 30] (by decide +kernel) (by decide +kernel)
set_option maxRecDepth 20000 in
theorem gX3_stepDigits_X3_refuse : GoodIn wsX3_stepDigits (wsV RX3 75 RX3 yX3_refuse wsX3_refuse) := goodIn_app (goodIn_of _ (by decide +kernel)) ggX3_stepDigits_X3_refuse
set_option maxRecDepth 20000 in
theorem ggX3_stepDigits_X7_at : GoodIn wsX3_stepDigits wsX7_at := goodIn_r _ [9, 10, 11, 31, 32] (by decide +kernel) (by decide +kernel)
set_option maxRecDepth 20000 in
theorem gX3_stepDigits_X7_at : GoodIn wsX3_stepDigits (wsV RX3 137 RX7 yX7_at wsX7_at) := goodIn_app (goodIn_of _ (by decide +kernel)) ggX3_stepDigits_X7_at
set_option maxRecDepth 20000 in
theorem ggX3_stepLetters_X3_isLetter : GoodIn wsX3_stepLetters wsX3_isLetter := goodIn_r _ [15] (by decide +kernel) (by decide +kernel)
set_option maxRecDepth 20000 in
theorem gX3_stepLetters_X3_isLetter : GoodIn wsX3_stepLetters (va_wsS RX3 145 yX3_isLetter wsX3_isLetter) := goodIn_app (goodIn_of _ (by decide +kernel)) ggX3_stepLetters_X3_isLetter
set_option maxRecDepth 20000 in
theorem ggX3_stepLetters_X3_refuse : GoodIn wsX3_stepLetters wsX3_refuse := goodIn_r _ [19, 20, 4, 21, 22, 23, 24, 25, 26, 27] (by decide +kernel) (by decide +kernel)
set_option maxRecDepth 20000 in
theorem gX3_stepLetters_X3_refuse : GoodIn wsX3_stepLetters (wsV RX3 75 RX3 yX3_refuse wsX3_refuse) := goodIn_app (goodIn_of _ (by decide +kernel)) ggX3_stepLetters_X3_refuse
set_option maxRecDepth 20000 in
theorem ggX3_stepLetters_X7_at : GoodIn wsX3_stepLetters wsX7_at := goodIn_r _ [9, 10, 11, 28, 29] (by decide +kernel) (by decide +kernel)
set_option maxRecDepth 20000 in
theorem gX3_stepLetters_X7_at : GoodIn wsX3_stepLetters (wsV RX3 137 RX7 yX7_at wsX7_at) := goodIn_app (goodIn_of _ (by decide +kernel)) ggX3_stepLetters_X7_at
set_option maxRecDepth 20000 in
theorem ggX3_step_X3_isBlank : GoodIn wsX3_step wsX3_isBlank := goodIn_r _ [16] (by decide +kernel) (by decide +kernel)
set_option maxRecDepth 20000 in
theorem gX3_step_X3_isBlank : GoodIn wsX3_step (va_wsS RX3 141 yX3_isBlank wsX3_isBlank) := goodIn_app (goodIn_of _ (by decide +kernel)) ggX3_step_X3_isBlank
set_option maxRecDepth 20000 in
theorem ggX3_step_X3_isDigit : GoodIn wsX3_step wsX3_isDigit := goodIn_r _ [31] (by decide +kernel) (by decide +kernel)
set_option maxRecDepth 20000 in
theorem gX3_step_X3_isDigit : GoodIn wsX3_step (va_wsS RX3 151 yX3_isDigit wsX3_isDigit) := goodIn_app (goodIn_of _ (by decide +kernel)) ggX3_step_X3_isDigit
set_option maxRecDepth 20000 in
theorem ggX3_step_X3_isLetter : GoodIn wsX3_step wsX3_isLetter := goodIn_r _ [19] (by decide +kernel) (by decide +kernel)
set_option maxRecDepth 20000 in
theorem gX3_step_X3_isLetter : GoodIn wsX3_step (va_wsS RX3 145 yX3_isLetter wsX3_isLetter) := goodIn_app (goodIn_of _ (by decide +kernel)) ggX3_step_X3_isLetter
set_option maxRecDepth 20000 in
theorem ggX3_step_X3_refuse : GoodIn wsX3_step wsX3_refuse := goodIn_r _ [27, 1, 3, 28, 36, 37, 38, 39, 40, 41] (by decide +kernel) (by decide +kernel)
set_option maxRecDepth 20000 in
theorem gX3_step_X3_refuse : GoodIn wsX3_step (wsV RX3 75 RX3 yX3_refuse wsX3_refuse) := goodIn_app (goodIn_of _ (by decide +kernel)) ggX3_step_X3_refuse
set_option maxRecDepth 20000 in
theorem ggX3_step_X3_stepDigits : GoodIn wsX3_step wsX3_stepDigits := goodIn_r _ [35, 2, 4, 5, 3, 6, 7, 8, 9, 10, 11, 12, 29, 30, 15, 31, 17, 18, 19, 24, 25, 26, 27, 1, 28, 36, 37, 38, 39, 40, 41, 42, 43] (by decide +kernel) (by decide +kernel)
set_option maxRecDepth 20000 in
theorem gX3_step_X3_stepDigits : GoodIn wsX3_step (wsV RX3 154 RX3 yX3_stepDigits wsX3_stepDigits) := goodIn_app (goodIn_of _ (by decide +kernel)) ggX3_step_X3_stepDigits
set_option maxRecDepth 20000 in
theorem ggX3_step_X3_stepLetters : GoodIn wsX3_step wsX3_stepLetters := goodIn_r _ [23, 2, 4, 5, 3, 6, 7, 8, 9, 10, 11, 12, 17, 18, 15, 19, 24, 25, 26, 27, 1, 28, 36, 37, 38, 39, 40, 41, 42, 43] (by decide +kernel) (by decide +kernel)
set_option maxRecDepth 20000 in
theorem gX3_step_X3_stepLetters : GoodIn wsX3_step (wsV RX3 148 RX3 yX3_stepLetters wsX3_stepLetters) := goodIn_app (goodIn_of _ (by decide +kernel)) ggX3_step_X3_stepLetters
set_option maxRecDepth 20000 in
theorem ggX3_step_X7_at : GoodIn wsX3_step wsX7_at := goodIn_r _ [10, 11, 12, 42, 43] (by decide +kernel) (by decide +kernel)
set_option maxRecDepth 20000 in
theorem gX3_step_X7_at : GoodIn wsX3_step (wsV RX3 137 RX7 yX7_at wsX7_at) := goodIn_app (goodIn_of _ (by decide +kernel)) ggX3_step_X7_at
def sLen : List Nat := [4, 3, 5, 6, 5, 5, 3, 3, 5, 5]
def sByt : List (List Int32) := [[119, 111, 114, 100], [108, 97, 119], [97, 108, 105, 107, 101], [101, 114, 114, 97, 110, 100], [119, 111, 114, 116, 104], [116, 105, 109, 101, 115], [111, 110, 101], [116, 119, 111], [111, 116, 104, 101, 114], [97, 102, 116, 101, 114]]
def sRef : List (Nat × String × Nat) := [(40, "word", 0), (52, "law", 1), (59, "alike", 2), (67, "errand", 3), (90, "worth", 4), (96, "times", 5), (106, "one", 6), (108, "two", 7), (110, "other", 8), (124, "after", 9)]
theorem sLen_lt {i : Nat} (h : i < 10) : sLen.getD i 0 < 16 := by
  rcases (show i = 0 ∨ i = 1 ∨ i = 2 ∨ i = 3 ∨ i = 4 ∨ i = 5 ∨ i = 6 ∨ i = 7 ∨ i = 8 ∨ i = 9 by omega) with rfl | rfl | rfl | rfl | rfl | rfl | rfl | rfl | rfl | rfl <;> decide
def strE (adK adV : Nat → Nat) (A : Nat → Prop) (U : State) (H : Heap) : Prop := vk_S 10 sLen sByt adK adV A U H ∧ (va_Z "java/lang/String" "COMPACT_STRINGS" "Z" (.int 1) A U H ∧ va_Zq "jdk/internal/util/Preconditions" "SIOOBE_FORMATTER" "Ljava/util/function/BiFunction;" A U H)
theorem strE.moved {adK adV : Nat → Nat} {A : Nat → Prop} {u U : State} {H : Heap} (hvm : u.vm.Alike U.vm) (h : strE adK adV A u H) : strE adK adV A U H := ⟨vk_S.moved hvm h.1, va_Z.moved hvm h.2.1, va_Zq.moved hvm h.2.2⟩
theorem strE.kept {adK adV : Nat → Nat} {A : Nat → Prop} {U : State} {H H1 : Heap} (h : strE adK adV A U H) (hq : ∀ a : Nat, a < H.size → ¬ A a → H1[a]? = H[a]?) : strE adK adV A U H1 := ⟨h.1.kept hq, h.2.1.kept hq, h.2.2.kept hq⟩
theorem strE.narrow {adK adV : Nat → Nat} {A B : Nat → Prop} {U : State} {H : Heap} (h : strE adK adV A U H) (hAB : ∀ q, B q → A q) : strE adK adV B U H := ⟨h.1.narrow hAB, h.2.1.narrow hAB, h.2.2.narrow hAB⟩
def strR (adK : Nat → Nat) (U : State) : Prop := ∀ q ∈ sRef, vk_R RX3 q.1 q.2.1 (adK q.2.2) U
theorem strAB {Bw : Nat → Prop} {w : va_W} {sz q : Nat} (hD : va_D Bw w) (hB : ∀ q, sz ≤ q → Bw q) (h : va_A w sz q) : Bw q := by
  rcases h with ⟨k, e, h⟩ | h
  · exact hD.2 k _ h
  · exact hB q h
def xPreB (D : va_G) (ty : List (ClassId × FieldType)) (win : va_W) (sz : Nat) (av : List Value) (Bw : Nat → Prop) (adK adV : Nat → Nat) : Array Value → State → Prop := va_Pc av (fun U => U.heap.size = sz ∧ va_P D vwCl win U.heap ∧ va_K D vwCl ty U ∧ va_D Bw win ∧ nwA U ∧ (∀ q, sz ≤ q → Bw q) ∧ strE adK adV Bw U U.heap ∧ strR adK U)
theorem xPreB_blind {D : va_G} {ty : List (ClassId × FieldType)} {win : va_W} {sz : Nat} {av : List Value} {Bw : Nat → Prop} {adK adV : Nat → Nat} : FrameBlind (xPreB D ty win sz av Bw adK adV) := by
  intro a U g mk q
  obtain ⟨q0, q1, qP, qK, qD, qN, qB, qE, qR⟩ := q
  exact ⟨q0, q1, qP, va_K.moved (u := U) (U := U.calling g mk a) (Vm.Alike.refl U.vm) qK, qD, nwA_same (u := U) (U := U.calling g mk a) rfl (Vm.Alike.refl U.vm) qN, qB, strE.moved (u := U) (U := U.calling g mk a) (Vm.Alike.refl U.vm) qE, fun z hz => vk_R.same (u := U) (U := U.calling g mk a) rfl (qR z hz)⟩
theorem xPreSB {D : va_G} {ty : List (ClassId × FieldType)} {win w : va_W} {A Bw : Nat → Prop} {adK adV : Nat → Nat} {s : State} {H : Heap} {locs : List Loc} {av : List Value} (hN : nwA s) (hK : va_K D vwCl ty s) (hP : va_P D vwCl w H) (hD : va_D A w) (isC : List Nat) (hnd : va_nd isC = true) (hC : isC.map (fun i => w[i]?) = win.map some) (hAB : ∀ q, A q → Bw q) (hB : ∀ q, s.heap.size ≤ q → Bw q) (hS : va_S A s.heap H locs) (hE : strE adK adV Bw s s.heap) (hR : strR adK s) : PreS s H (xPreB D ty win H.size av Bw adK adV) av := by
  have hC' : isC.filterMap (fun i => w[i]?) = win := by
    have h1 : (isC.map (fun i => w[i]?)).filterMap id = (win.map some).filterMap id := by rw [hC]
    simpa [List.filterMap_map, Function.comp_def] using h1
  refine ⟨xPreB_blind, fun U hU hW => ⟨rfl, by rw [hU], by rw [hU]; exact hP.sub isC hC', va_K.moved hW.alike hK, (hD.sub isC hnd hC).weaken (fun _ _ _ h => hAB _ h), nwA_warm hW hN, fun q h => hB q (Nat.le_trans hS.1 h), ?_, fun z hz => vk_R.warm hW (hR z hz)⟩⟩
  rw [hU]
  exact strE.moved hW.alike (hE.kept (fun a h1 h2 => hS.2.1 a h1 (fun h3 => h2 (hAB a h3))))
theorem xPreVB {D : va_G} {ty : List (ClassId × FieldType)} {win w : va_W} {A Bw : Nat → Prop} {adK adV : Nat → Nat} {s : State} {H : Heap} {locs : List Loc} {C : String} {b : Nat} {As : List Value} (hN : nwA s) (hK : va_K D vwCl ty s) (hP : va_P D vwCl w H) (hD : va_D A w) (isC : List Nat) (hnd : va_nd isC = true) (hC : isC.map (fun i => w[i]?) = win.map some) (hAB : ∀ q, A q → Bw q) (hB : ∀ q, s.heap.size ≤ q → Bw q) (hS : va_S A s.heap H locs) (hE : strE adK adV Bw s s.heap) (hR : strR adK s) (q0 ci : Nat) {r : vw_C} {fs : List Value} (hc : vwCl[ci]? = some r) (he : w[q0]? = some (b, .inr (ci, fs))) (hr : r.1 = C) : PreV s H C b (xPreB D ty win H.size (.ref b :: As) Bw adK adV) As := by
  subst hr
  exact ⟨xPreB_blind, va_recv hK hP hc he, (xPreSB hN hK hP hD isC hnd hC hAB hB hS hE hR).2⟩
theorem xPreVS {D : va_G} {ty : List (ClassId × FieldType)} {win w : va_W} {A Bw : Nat → Prop} {adK adV : Nat → Nat} {s : State} {H : Heap} {locs : List Loc} {As : List Value} (hN : nwA s) (hK : va_K D vwCl ty s) (hP : va_P D vwCl w H) (hD : va_D A w) (isC : List Nat) (hnd : va_nd isC = true) (hC : isC.map (fun i => w[i]?) = win.map some) (hAB : ∀ q, A q → Bw q) (hB : ∀ q, s.heap.size ≤ q → Bw q) (hS : va_S A s.heap H locs) (hE : strE adK adV Bw s s.heap) (hR : strR adK s) (i : Nat) (hi : i < 10) : PreV s H "java/lang/String" (adK i) (xPreB D ty win H.size (.ref (adK i) :: As) Bw adK adV) As :=
  ⟨xPreB_blind, vk_recv (hE.narrow hAB).1 hi hS, (xPreSB hN hK hP hD isC hnd hC hAB hB hS hE hR).2⟩
def ltr (fb : Nat → Int32) (a b : Nat) : Prop := ∀ j, a ≤ j → j < b → ∃ q, q < 26 ∧ fb j &&& 255 = nI (97 + q)
theorem let_of {x : Int32} (h1 : ¬ x < 97) (h2 : ¬ 122 < x) : ∃ q, q < 26 ∧ x = nI (97 + q) := by
  rcases pk_ix x (n := 123) (by decide) with h | h | ⟨j, hj, rfl⟩
  · exact absurd h (by grind)
  · have h3 : (123 : Int32) ≤ x := h
    exact absurd h3 (by grind)
  · have h4 : ¬ j < 97 := fun h => h1 ((nI_ltI (a := j) (b := 97) (by omega) (by decide)).mpr h)
    exact ⟨j - 97, by omega, by rw [show 97 + (j - 97) = j by omega]⟩
theorem ltr_0 (fb : Nat → Int32) (a : Nat) : ltr fb a a := fun j h1 h2 => absurd h2 (by omega)
theorem ltr_1 {fb : Nat → Int32} {a b q : Nat} (h : ltr fb a b) (hq : q < 26) (e : fb b &&& 255 = nI (97 + q)) : ltr fb a (b + 1) := by
  intro j h1 h2
  by_cases hj : j = b
  · subst hj; exact ⟨q, hq, e⟩
  · exact h j h1 (by omega)
theorem let_sub (q : Nat) : nI (97 + q) - 97 = nI q := by
  have h := pk_sub (a := 97 + q) (b := 97) (by omega)
  rw [show 97 + q - 97 = q by omega] at h
  exact h
theorem rgN_at {f g : Nat → Int32} {n B k q : Nat} (h : rgN f n B) (hk : k < 2 ^ 31) (hq : q < B) (e : upd f (Int32.toNatClampNeg (nI k)) (nI q) = g) : rgN g n B := rgN_up h rfl hk rfl hq e

set_option maxHeartbeats 4000000 in
set_option maxRecDepth 100000 in
theorem c_J0_coder_7d493 (l : Launch) (D : va_G) (cB cI cJ cS cZ cO : ClassId) (sz : Nat) (si : Nat) (Bw : Nat → Prop) (adK : Nat → Nat) (adV : Nat → Nat) (hsi : si < 10) : Met l yJ0_coder_7d493 wsJ0_coder_7d493 ({ frames := 0, cells := 0, slots := 0, locals := 0 }) (xPreB D (tyL cB cI cJ cS cZ cO) [] sz [.ref (adK si)] Bw adK adV) (xQi D (tyL cB cI cJ cS cZ cO) (va_A [] sz) (fun (r : Int32) (u : va_W) => u = [] ∧ r = 0)) 0 0 (va_A [] sz) := by
  refine Met.ofW (cc := cJ0_coder_7d493) (maxL := 1) (ret := (some .byte)) (by decide) rfl ?_
  intro p e s m args below meth c s₁ B hml hv
  obtain ⟨rfl, hsz, hP, hK, hDB, hN, hBw, hE0, hR⟩ := hv
  have hx := B.exec
  have hb := B.bytes
  have hr := B.returns
  have hts := atoms_spec (ws := wsJ0_coder_7d493) B.pre
  have hown : s.vm.findClass RJ0 = some m.cls := findClass_of_methodNamed B.named
  have hlocks := B.notSynchronized
  subst hsz
  have hD0 : va_D (fun _ => True) [] := hDB.weaken (fun _ _ _ _ => trivial)
  have hD := hD0.self (sz := s.heap.size)
  generalize hAe : va_A [] s.heap.size = A at hD ⊢
  have hA : ∀ q : Nat, s.heap.size ≤ q → A q := fun q h => by rw [← hAe]; exact Or.inr h
  have hAB : ∀ q : Nat, A q → Bw q := fun q h => strAB hDB hBw (by rw [hAe]; exact h)
  have hE := strE.narrow hE0 hAB
  have hS : va_S A s.heap s.heap [] := va_S.rf
  have hP : va_P D vwCl [] s.heap := hP
  have hl := lv_entry ([.ref (adK si)]) (n := 1) (Nat.le_of_ble_eq_true rfl)
  rw [lg_entry_eq]
  generalize (lg_sl ([.ref (adK si)]) ++ List.replicate (1 - (lg_sl ([.ref (adK si)])).length) Slot.unset).toArray = ls at hl ⊢
  have hl : lv_has ls 1 [(0, .ref (adK si))] := hl
  refine va_gets hx hb hE.2.1 hS hown (hts (.fieldLink RJ0 38 "java/lang/String" "COMPACT_STRINGS" "Z") (by decide +kernel)) (fun _ h9 => h9) dJ0_coder_7d493_0 ?_
  refine lv_if_eq (tgt := 13) hx hb dJ0_coder_7d493_3 (by decide) (fun c_1 => absurd c_1 (by decide)) (fun c_1 => ?_)
  refine lv_aload_n hx hb dJ0_coder_7d493_6 rfl (lv_at hl 0 rfl) ?_
  refine vk_getf hx hb (hE.1.1 si (by first | assumption | decide)).2.1 hS hown (hts (.fieldLink RJ0 15 "java/lang/String" "coder" "B") (by decide +kernel)) (fun _ h9 => h9) dJ0_coder_7d493_7 ?_
  refine lv_goto (tgt := 14) hx hb dJ0_coder_7d493_10 (by decide) ?_
  have hP9 := hP.sub (ws' := []) [] rfl
  have hD9 := hD.sub (ws' := []) [] (by decide) rfl
  refine W.widen (k := 0) (n := 0) (Nat.le_of_ble_eq_true rfl) (Nat.le_of_ble_eq_true rfl) ?_
  exact W.zret (v := 0) hx hb hr (by decide) (fun tz htz hWz => ⟨⟨0, [], rfl, ⟨rfl, rfl⟩, by rw [htz]; exact hP9, va_K.moved hWz.alike hK, hD9⟩, hS.F htz⟩) hS.2.2 dJ0_coder_7d493_14

set_option maxHeartbeats 4000000 in
set_option maxRecDepth 100000 in
theorem c_J0_length_8abf5 (l : Launch) (D : va_G) (cB cI cJ cS cZ cO : ClassId) (sz : Nat) (si : Nat) (Bw : Nat → Prop) (adK : Nat → Nat) (adV : Nat → Nat) (hsi : si < 10) : Met l yJ0_length_8abf5 wsJ0_length_8abf5 ({ frames := 1, cells := 0, slots := 0, locals := 20 }) (xPreB D (tyL cB cI cJ cS cZ cO) [] sz [.ref (adK si)] Bw adK adV) (xQi D (tyL cB cI cJ cS cZ cO) (va_A [] sz) (fun (r : Int32) (u : va_W) => u = [] ∧ r = nI (sLen.getD si 0))) 0 0 (va_A [] sz) := by
  refine Met.ofW (cc := cJ0_length_8abf5) (maxL := 1) (ret := (some .int)) (by decide) rfl ?_
  intro p e s m args below meth c s₁ B hml hv
  obtain ⟨rfl, hsz, hP, hK, hDB, hN, hBw, hE0, hR⟩ := hv
  have hx := B.exec
  have hb := B.bytes
  have hr := B.returns
  have hts := atoms_spec (ws := wsJ0_length_8abf5) B.pre
  have hown : s.vm.findClass RJ0 = some m.cls := findClass_of_methodNamed B.named
  have hlocks := B.notSynchronized
  subst hsz
  have hD0 : va_D (fun _ => True) [] := hDB.weaken (fun _ _ _ _ => trivial)
  have hD := hD0.self (sz := s.heap.size)
  generalize hAe : va_A [] s.heap.size = A at hD ⊢
  have hA : ∀ q : Nat, s.heap.size ≤ q → A q := fun q h => by rw [← hAe]; exact Or.inr h
  have hAB : ∀ q : Nat, A q → Bw q := fun q h => strAB hDB hBw (by rw [hAe]; exact h)
  have hE := strE.narrow hE0 hAB
  have hS : va_S A s.heap s.heap [] := va_S.rf
  have hP : va_P D vwCl [] s.heap := hP
  have hl := lv_entry ([.ref (adK si)]) (n := 1) (Nat.le_of_ble_eq_true rfl)
  rw [lg_entry_eq]
  generalize (lg_sl ([.ref (adK si)]) ++ List.replicate (1 - (lg_sl ([.ref (adK si)])).length) Slot.unset).toArray = ls at hl ⊢
  have hl : lv_has ls 1 [(0, .ref (adK si))] := hl
  have hlen := sLen_lt hsi
  refine lv_aload_n hx hb dJ0_length_8abf5_0 rfl (lv_at hl 0 rfl) ?_
  refine vk_getf hx hb (hE.1.1 si (by first | assumption | decide)).2.2.1 hS hown (hts (.fieldLink RJ0 9 "java/lang/String" "value" "[B") (by decide +kernel)) (fun _ h9 => h9) dJ0_length_8abf5_1 ?_
  refine va_tlen (v := nI (sLen.getD si 0)) hx hb (hE.1.1 si (by first | assumption | decide)).2.2.2 hS rfl dJ0_length_8abf5_4 ?_
  refine lv_aload_n hx hb dJ0_length_8abf5_5 rfl (lv_at hl 0 rfl) ?_
  refine xCi (wr := []) (win := []) hP hD hS hA [] [] rfl rfl (by decide) (by decide) (va_runV (As := []) (rest := [.int (nI (sLen.getD si 0))]) ⟨hx, hb, hml, hown, hts⟩ (c_J0_coder_7d493 l D cB cI cJ cS cZ cO s.heap.size si Bw adK adV (by first | assumption | omega | decide)) (cwV 0 hts gJ0_length_8abf5_J0_coder_7d493 rfl rfl rfl (by decide +kernel) ⟨Nat.le_of_ble_eq_true rfl, Nat.le_of_ble_eq_true rfl⟩) (xPreVS (win := []) hN hK hP hD [] (by decide) rfl hAB hBw hS hE0 hR si (by first | assumption | decide)) rfl rfl hl.1 rfl (lv_room (Nat.le_of_ble_eq_true rfl)) dJ0_length_8abf5_6 ⟨Nat.le_of_ble_eq_true rfl, Nat.le_of_ble_eq_true rfl⟩) (fun r0 w0 H locs hw hP hD hS => ?_)
  obtain ⟨rfl, rfl⟩ := hw
  have hP : va_P D vwCl [] H := hP
  have hD : va_D A [] := hD
  refine lv_ishr hx hb dJ0_length_8abf5_9 ?_
  refine xb_top (y := nI (sLen.getD si 0)) ((nb_shr (a := sLen.getD si 0) (i := 0) (by omega) (by omega)).trans (by rw [Nat.pow_zero, Nat.div_one])) ?_
  have hP9 := hP.sub (ws' := []) [] rfl
  have hD9 := hD.sub (ws' := []) [] (by decide) rfl
  refine W.widen (k := 0) (n := 0) (Nat.le_of_ble_eq_true rfl) (Nat.le_of_ble_eq_true rfl) ?_
  exact W.iret (v := nI (sLen.getD si 0)) hx hb hr (fun tz htz hWz => ⟨⟨nI (sLen.getD si 0), [], rfl, ⟨rfl, rfl⟩, by rw [htz]; exact hP9, va_K.moved hWz.alike hK, hD9⟩, hS.F htz⟩) hS.2.2 dJ0_length_8abf5_10

set_option maxHeartbeats 4000000 in
set_option maxRecDepth 100000 in
theorem c_J0_isLatin1_aae02 (l : Launch) (D : va_G) (cB cI cJ cS cZ cO : ClassId) (sz : Nat) (si : Nat) (Bw : Nat → Prop) (adK : Nat → Nat) (adV : Nat → Nat) (hsi : si < 10) : Met l yJ0_isLatin1_aae02 wsJ0_isLatin1_aae02 ({ frames := 0, cells := 0, slots := 0, locals := 0 }) (xPreB D (tyL cB cI cJ cS cZ cO) [] sz [.ref (adK si)] Bw adK adV) (xQi D (tyL cB cI cJ cS cZ cO) (va_A [] sz) (fun (r : Int32) (u : va_W) => u = [] ∧ r = 1)) 0 0 (va_A [] sz) := by
  refine Met.ofW (cc := cJ0_isLatin1_aae02) (maxL := 1) (ret := (some .boolean)) (by decide) rfl ?_
  intro p e s m args below meth c s₁ B hml hv
  obtain ⟨rfl, hsz, hP, hK, hDB, hN, hBw, hE0, hR⟩ := hv
  have hx := B.exec
  have hb := B.bytes
  have hr := B.returns
  have hts := atoms_spec (ws := wsJ0_isLatin1_aae02) B.pre
  have hown : s.vm.findClass RJ0 = some m.cls := findClass_of_methodNamed B.named
  have hlocks := B.notSynchronized
  subst hsz
  have hD0 : va_D (fun _ => True) [] := hDB.weaken (fun _ _ _ _ => trivial)
  have hD := hD0.self (sz := s.heap.size)
  generalize hAe : va_A [] s.heap.size = A at hD ⊢
  have hA : ∀ q : Nat, s.heap.size ≤ q → A q := fun q h => by rw [← hAe]; exact Or.inr h
  have hAB : ∀ q : Nat, A q → Bw q := fun q h => strAB hDB hBw (by rw [hAe]; exact h)
  have hE := strE.narrow hE0 hAB
  have hS : va_S A s.heap s.heap [] := va_S.rf
  have hP : va_P D vwCl [] s.heap := hP
  have hl := lv_entry ([.ref (adK si)]) (n := 1) (Nat.le_of_ble_eq_true rfl)
  rw [lg_entry_eq]
  generalize (lg_sl ([.ref (adK si)]) ++ List.replicate (1 - (lg_sl ([.ref (adK si)])).length) Slot.unset).toArray = ls at hl ⊢
  have hl : lv_has ls 1 [(0, .ref (adK si))] := hl
  refine va_gets hx hb hE.2.1 hS hown (hts (.fieldLink RJ0 38 "java/lang/String" "COMPACT_STRINGS" "Z") (by decide +kernel)) (fun _ h9 => h9) dJ0_isLatin1_aae02_0 ?_
  refine lv_if_eq (tgt := 17) hx hb dJ0_isLatin1_aae02_3 (by decide) (fun c_1 => absurd c_1 (by decide)) (fun c_1 => ?_)
  refine lv_aload_n hx hb dJ0_isLatin1_aae02_6 rfl (lv_at hl 0 rfl) ?_
  refine vk_getf hx hb (hE.1.1 si (by first | assumption | decide)).2.1 hS hown (hts (.fieldLink RJ0 15 "java/lang/String" "coder" "B") (by decide +kernel)) (fun _ h9 => h9) dJ0_isLatin1_aae02_7 ?_
  refine lv_if_ne (tgt := 17) hx hb dJ0_isLatin1_aae02_10 (by decide) (fun c_2 => absurd c_2 (by decide)) (fun c_2 => ?_)
  refine lv_iconst (v := 1) hx hb dJ0_isLatin1_aae02_13 (by decide) ?_
  refine lv_goto (tgt := 18) hx hb dJ0_isLatin1_aae02_14 (by decide) ?_
  have hP9 := hP.sub (ws' := []) [] rfl
  have hD9 := hD.sub (ws' := []) [] (by decide) rfl
  refine W.widen (k := 0) (n := 0) (Nat.le_of_ble_eq_true rfl) (Nat.le_of_ble_eq_true rfl) ?_
  exact W.zret (v := 1) hx hb hr (by decide) (fun tz htz hWz => ⟨⟨1, [], rfl, ⟨rfl, rfl⟩, by rw [htz]; exact hP9, va_K.moved hWz.alike hK, hD9⟩, hS.F htz⟩) hS.2.2 dJ0_isLatin1_aae02_18

set_option maxHeartbeats 4000000 in
set_option maxRecDepth 100000 in
theorem c_J3_checkIndex_a (l : Launch) (D : va_G) (cB cI cJ cS cZ cO : ClassId) (sz : Nat) (k : Nat) (n : Nat) (hk : k < n) (hn : n < 2147483648) : Met l yJ3_checkIndex_8e157 wsJ3_checkIndex_8e157 ({ frames := 0, cells := 0, slots := 0, locals := 0 }) (xPre D (tyL cB cI cJ cS cZ cO) [] sz [.int (nI k), .int (nI n), .null]) (xQi D (tyL cB cI cJ cS cZ cO) (va_A [] sz) (fun (r : Int32) (u : va_W) => u = [] ∧ r = nI k)) 0 0 (va_A [] sz) := by
  refine Met.ofW (cc := cJ3_checkIndex_8e157) (maxL := 3) (ret := (some .int)) (by decide) rfl ?_
  intro p e s m args below meth c s₁ B hml hv
  obtain ⟨rfl, hsz, hP, hK, hD0, hN⟩ := hv
  have hx := B.exec
  have hb := B.bytes
  have hr := B.returns
  have hts := atoms_spec (ws := wsJ3_checkIndex_8e157) B.pre
  have hown : s.vm.findClass RJ3 = some m.cls := findClass_of_methodNamed B.named
  have hlocks := B.notSynchronized
  subst hsz
  have hD := hD0.self (sz := s.heap.size)
  generalize hAe : va_A [] s.heap.size = A at hD ⊢
  have hA : ∀ q : Nat, s.heap.size ≤ q → A q := fun q h => by rw [← hAe]; exact Or.inr h
  have hS : va_S A s.heap s.heap [] := va_S.rf
  have hP : va_P D vwCl [] s.heap := hP
  have hl := lv_entry ([.int (nI k), .int (nI n), .null]) (n := 3) (Nat.le_of_ble_eq_true rfl)
  rw [lg_entry_eq]
  generalize (lg_sl ([.int (nI k), .int (nI n), .null]) ++ List.replicate (3 - (lg_sl ([.int (nI k), .int (nI n), .null])).length) Slot.unset).toArray = ls at hl ⊢
  have hl : lv_has ls 3 [(0, .int (nI k)), (1, .int (nI n)), (2, .null)] := hl
  refine lv_iload_n hx hb dJ3_checkIndex_8e157_0 rfl (lv_at hl 0 rfl) ?_
  refine lv_if_lt (tgt := 9) hx hb dJ3_checkIndex_8e157_1 (by decide) (fun c_1 => absurd c_1 (nI_pos (by omega))) (fun c_1 => ?_)
  refine lv_iload_n hx hb dJ3_checkIndex_8e157_4 rfl (lv_at hl 0 rfl) ?_
  refine lv_iload_n hx hb dJ3_checkIndex_8e157_5 rfl (lv_at hl 1 rfl) ?_
  refine lv_icmp_lt (tgt := 16) hx hb dJ3_checkIndex_8e157_6 (by decide) (fun c_2 => ?_) (fun c_2 => absurd (nI_lt hk hn) c_2)
  refine lv_iload_n hx hb dJ3_checkIndex_8e157_16 rfl (lv_at hl 0 rfl) ?_
  have hP9 := hP.sub (ws' := []) [] rfl
  have hD9 := hD.sub (ws' := []) [] (by decide) rfl
  refine W.widen (k := 0) (n := 0) (Nat.le_of_ble_eq_true rfl) (Nat.le_of_ble_eq_true rfl) ?_
  exact W.iret (v := nI k) hx hb hr (fun tz htz hWz => ⟨⟨nI k, [], rfl, ⟨rfl, rfl⟩, by rw [htz]; exact hP9, va_K.moved hWz.alike hK, hD9⟩, hS.F htz⟩) hS.2.2 dJ3_checkIndex_8e157_17

set_option maxHeartbeats 4000000 in
set_option maxRecDepth 100000 in
theorem c_J3_checkIndex_b (l : Launch) (D : va_G) (cB cI cJ cS cZ cO : ClassId) (sz : Nat) (k : Nat) (n : Nat) (tf : Nat) (hk : k < n) (hn : n < 2147483648) : Met l yJ3_checkIndex_8e157 wsJ3_checkIndex_8e157 ({ frames := 0, cells := 0, slots := 0, locals := 0 }) (xPre D (tyL cB cI cJ cS cZ cO) [] sz [.int (nI k), .int (nI n), .ref tf]) (xQi D (tyL cB cI cJ cS cZ cO) (va_A [] sz) (fun (r : Int32) (u : va_W) => u = [] ∧ r = nI k)) 0 0 (va_A [] sz) := by
  refine Met.ofW (cc := cJ3_checkIndex_8e157) (maxL := 3) (ret := (some .int)) (by decide) rfl ?_
  intro p e s m args below meth c s₁ B hml hv
  obtain ⟨rfl, hsz, hP, hK, hD0, hN⟩ := hv
  have hx := B.exec
  have hb := B.bytes
  have hr := B.returns
  have hts := atoms_spec (ws := wsJ3_checkIndex_8e157) B.pre
  have hown : s.vm.findClass RJ3 = some m.cls := findClass_of_methodNamed B.named
  have hlocks := B.notSynchronized
  subst hsz
  have hD := hD0.self (sz := s.heap.size)
  generalize hAe : va_A [] s.heap.size = A at hD ⊢
  have hA : ∀ q : Nat, s.heap.size ≤ q → A q := fun q h => by rw [← hAe]; exact Or.inr h
  have hS : va_S A s.heap s.heap [] := va_S.rf
  have hP : va_P D vwCl [] s.heap := hP
  have hl := lv_entry ([.int (nI k), .int (nI n), .ref tf]) (n := 3) (Nat.le_of_ble_eq_true rfl)
  rw [lg_entry_eq]
  generalize (lg_sl ([.int (nI k), .int (nI n), .ref tf]) ++ List.replicate (3 - (lg_sl ([.int (nI k), .int (nI n), .ref tf])).length) Slot.unset).toArray = ls at hl ⊢
  have hl : lv_has ls 3 [(0, .int (nI k)), (1, .int (nI n)), (2, .ref tf)] := hl
  refine lv_iload_n hx hb dJ3_checkIndex_8e157_0 rfl (lv_at hl 0 rfl) ?_
  refine lv_if_lt (tgt := 9) hx hb dJ3_checkIndex_8e157_1 (by decide) (fun c_1 => absurd c_1 (nI_pos (by omega))) (fun c_1 => ?_)
  refine lv_iload_n hx hb dJ3_checkIndex_8e157_4 rfl (lv_at hl 0 rfl) ?_
  refine lv_iload_n hx hb dJ3_checkIndex_8e157_5 rfl (lv_at hl 1 rfl) ?_
  refine lv_icmp_lt (tgt := 16) hx hb dJ3_checkIndex_8e157_6 (by decide) (fun c_2 => ?_) (fun c_2 => absurd (nI_lt hk hn) c_2)
  refine lv_iload_n hx hb dJ3_checkIndex_8e157_16 rfl (lv_at hl 0 rfl) ?_
  have hP9 := hP.sub (ws' := []) [] rfl
  have hD9 := hD.sub (ws' := []) [] (by decide) rfl
  refine W.widen (k := 0) (n := 0) (Nat.le_of_ble_eq_true rfl) (Nat.le_of_ble_eq_true rfl) ?_
  exact W.iret (v := nI k) hx hb hr (fun tz htz hWz => ⟨⟨nI k, [], rfl, ⟨rfl, rfl⟩, by rw [htz]; exact hP9, va_K.moved hWz.alike hK, hD9⟩, hS.F htz⟩) hS.2.2 dJ3_checkIndex_8e157_17

set_option maxHeartbeats 4000000 in
set_option maxRecDepth 100000 in
theorem c_J0_checkIndex_df160 (l : Launch) (D : va_G) (cB cI cJ cS cZ cO : ClassId) (sz : Nat) (k : Nat) (n : Nat) (Bw : Nat → Prop) (adK : Nat → Nat) (adV : Nat → Nat) (hk : k < n) (hn : n < 2147483648) : Met l yJ0_checkIndex_df160 wsJ0_checkIndex_df160 ({ frames := 1, cells := 0, slots := 0, locals := 22 }) (xPreB D (tyL cB cI cJ cS cZ cO) [] sz [.int (nI k), .int (nI n)] Bw adK adV) (xQv D (tyL cB cI cJ cS cZ cO) (va_A [] sz) (fun u : va_W => u = [])) 0 0 (va_A [] sz) := by
  refine Met.ofW (cc := cJ0_checkIndex_df160) (maxL := 2) (ret := none) (by decide) rfl ?_
  intro p e s m args below meth c s₁ B hml hv
  obtain ⟨rfl, hsz, hP, hK, hDB, hN, hBw, hE0, hR⟩ := hv
  have hx := B.exec
  have hb := B.bytes
  have hr := B.returns
  have hts := atoms_spec (ws := wsJ0_checkIndex_df160) B.pre
  have hown : s.vm.findClass RJ0 = some m.cls := findClass_of_methodNamed B.named
  have hlocks := B.notSynchronized
  subst hsz
  have hD0 : va_D (fun _ => True) [] := hDB.weaken (fun _ _ _ _ => trivial)
  have hD := hD0.self (sz := s.heap.size)
  generalize hAe : va_A [] s.heap.size = A at hD ⊢
  have hA : ∀ q : Nat, s.heap.size ≤ q → A q := fun q h => by rw [← hAe]; exact Or.inr h
  have hAB : ∀ q : Nat, A q → Bw q := fun q h => strAB hDB hBw (by rw [hAe]; exact h)
  have hE := strE.narrow hE0 hAB
  have hS : va_S A s.heap s.heap [] := va_S.rf
  have hP : va_P D vwCl [] s.heap := hP
  have hl := lv_entry ([.int (nI k), .int (nI n)]) (n := 2) (Nat.le_of_ble_eq_true rfl)
  rw [lg_entry_eq]
  generalize (lg_sl ([.int (nI k), .int (nI n)]) ++ List.replicate (2 - (lg_sl ([.int (nI k), .int (nI n)])).length) Slot.unset).toArray = ls at hl ⊢
  have hl : lv_has ls 2 [(0, .int (nI k)), (1, .int (nI n))] := hl
  refine lv_iload_n hx hb dJ0_checkIndex_df160_0 rfl (lv_at hl 0 rfl) ?_
  refine lv_iload_n hx hb dJ0_checkIndex_df160_1 rfl (lv_at hl 1 rfl) ?_
  rcases hE.2.2 with hz9 | ⟨t9, hz9⟩
  · refine va_gets hx hb hz9 hS hown (hts (.fieldLink RJ0 1053 "jdk/internal/util/Preconditions" "SIOOBE_FORMATTER" "Ljava/util/function/BiFunction;") (by decide +kernel)) (fun _ h9 => h9) dJ0_checkIndex_df160_2 ?_
    refine xCi (wr := []) (win := []) hP hD hS hA [] [] rfl rfl (by decide) (by decide) (va_runS (As := [.int (nI k), .int (nI n), .null]) (rest := []) ⟨hx, hb, hml, hown, hts⟩ (c_J3_checkIndex_a l D cB cI cJ cS cZ cO s.heap.size k n (by first | assumption | omega | decide) (by first | assumption | omega | decide)) (va_cwS 3 hts gJ0_checkIndex_df160_J3_checkIndex_8e157 rfl rfl rfl (by decide +kernel) ⟨Nat.le_of_ble_eq_true rfl, Nat.le_of_ble_eq_true rfl⟩) (xPreS (win := []) hN hK hP hD [] (by decide) rfl) rfl rfl hl.1 rfl (lv_room (Nat.le_of_ble_eq_true rfl)) dJ0_checkIndex_df160_5 ⟨Nat.le_of_ble_eq_true rfl, Nat.le_of_ble_eq_true rfl⟩) (fun r0 w0 H locs hw hP hD hS => ?_)
    obtain ⟨rfl, rfl⟩ := hw
    have hP : va_P D vwCl [] H := hP
    have hD : va_D A [] := hD
    refine lv_pop hx hb dJ0_checkIndex_df160_8 rfl ?_
    have hP9 := hP.sub (ws' := []) [] rfl
    have hD9 := hD.sub (ws' := []) [] (by decide) rfl
    refine W.widen (k := 0) (n := 0) (Nat.le_of_ble_eq_true rfl) (Nat.le_of_ble_eq_true rfl) ?_
    exact W.vret hx hb hr (fun tz htz hWz => ⟨⟨[], rfl, rfl, by rw [htz]; exact hP9, va_K.moved hWz.alike hK, hD9⟩, hS.F htz⟩) hS.2.2 dJ0_checkIndex_df160_9
  · refine va_gets hx hb hz9 hS hown (hts (.fieldLink RJ0 1053 "jdk/internal/util/Preconditions" "SIOOBE_FORMATTER" "Ljava/util/function/BiFunction;") (by decide +kernel)) (fun _ h9 => h9) dJ0_checkIndex_df160_2 ?_
    refine xCi (wr := []) (win := []) hP hD hS hA [] [] rfl rfl (by decide) (by decide) (va_runS (As := [.int (nI k), .int (nI n), .ref t9]) (rest := []) ⟨hx, hb, hml, hown, hts⟩ (c_J3_checkIndex_b l D cB cI cJ cS cZ cO s.heap.size k n t9 (by first | assumption | omega | decide) (by first | assumption | omega | decide)) (va_cwS 3 hts gJ0_checkIndex_df160_J3_checkIndex_8e157 rfl rfl rfl (by decide +kernel) ⟨Nat.le_of_ble_eq_true rfl, Nat.le_of_ble_eq_true rfl⟩) (xPreS (win := []) hN hK hP hD [] (by decide) rfl) rfl rfl hl.1 rfl (lv_room (Nat.le_of_ble_eq_true rfl)) dJ0_checkIndex_df160_5 ⟨Nat.le_of_ble_eq_true rfl, Nat.le_of_ble_eq_true rfl⟩) (fun r0 w0 H locs hw hP hD hS => ?_)
    obtain ⟨rfl, rfl⟩ := hw
    have hP : va_P D vwCl [] H := hP
    have hD : va_D A [] := hD
    refine lv_pop hx hb dJ0_checkIndex_df160_8 rfl ?_
    have hP9 := hP.sub (ws' := []) [] rfl
    have hD9 := hD.sub (ws' := []) [] (by decide) rfl
    refine W.widen (k := 0) (n := 0) (Nat.le_of_ble_eq_true rfl) (Nat.le_of_ble_eq_true rfl) ?_
    exact W.vret hx hb hr (fun tz htz hWz => ⟨⟨[], rfl, rfl, by rw [htz]; exact hP9, va_K.moved hWz.alike hK, hD9⟩, hS.F htz⟩) hS.2.2 dJ0_checkIndex_df160_9

set_option maxHeartbeats 4000000 in
set_option maxRecDepth 100000 in
theorem c_J1_charAt_3b067 (l : Launch) (D : va_G) (cB cI cJ cS cZ cO : ClassId) (sz : Nat) (si : Nat) (k : Nat) (Bw : Nat → Prop) (adK : Nat → Nat) (adV : Nat → Nat) (hsi : si < 10) (hk : k < sLen.getD si 0) : Met l yJ1_charAt_3b067 wsJ1_charAt_3b067 ({ frames := 2, cells := 0, slots := 0, locals := 43 }) (xPreB D (tyL cB cI cJ cS cZ cO) [] sz [.ref (adV si), .int (nI k)] Bw adK adV) (xQi D (tyL cB cI cJ cS cZ cO) (va_A [] sz) (fun (r : Int32) (u : va_W) => u = [] ∧ narrow .char (.int r) = .int r)) 0 0 (va_A [] sz) := by
  refine Met.ofW (cc := cJ1_charAt_3b067) (maxL := 2) (ret := (some .char)) (by decide) rfl ?_
  intro p e s m args below meth c s₁ B hml hv
  obtain ⟨rfl, hsz, hP, hK, hDB, hN, hBw, hE0, hR⟩ := hv
  have hx := B.exec
  have hb := B.bytes
  have hr := B.returns
  have hts := atoms_spec (ws := wsJ1_charAt_3b067) B.pre
  have hown : s.vm.findClass RJ1 = some m.cls := findClass_of_methodNamed B.named
  have hlocks := B.notSynchronized
  subst hsz
  have hD0 : va_D (fun _ => True) [] := hDB.weaken (fun _ _ _ _ => trivial)
  have hD := hD0.self (sz := s.heap.size)
  generalize hAe : va_A [] s.heap.size = A at hD ⊢
  have hA : ∀ q : Nat, s.heap.size ≤ q → A q := fun q h => by rw [← hAe]; exact Or.inr h
  have hAB : ∀ q : Nat, A q → Bw q := fun q h => strAB hDB hBw (by rw [hAe]; exact h)
  have hE := strE.narrow hE0 hAB
  have hS : va_S A s.heap s.heap [] := va_S.rf
  have hP : va_P D vwCl [] s.heap := hP
  have hl := lv_entry ([.ref (adV si), .int (nI k)]) (n := 2) (Nat.le_of_ble_eq_true rfl)
  rw [lg_entry_eq]
  generalize (lg_sl ([.ref (adV si), .int (nI k)]) ++ List.replicate (2 - (lg_sl ([.ref (adV si), .int (nI k)])).length) Slot.unset).toArray = ls at hl ⊢
  have hl : lv_has ls 2 [(0, .ref (adV si)), (1, .int (nI k))] := hl
  have hlen := sLen_lt hsi
  refine lv_iload_n hx hb dJ1_charAt_3b067_0 rfl (lv_at hl 1 rfl) ?_
  refine lv_aload_n hx hb dJ1_charAt_3b067_1 rfl (lv_at hl 0 rfl) ?_
  refine va_tlen (v := nI (sLen.getD si 0)) hx hb (hE.1.1 si (by first | assumption | decide)).2.2.2 hS rfl dJ1_charAt_3b067_2 ?_
  refine xCv (wr := []) (win := []) hP hD hS hA [] [] rfl rfl (by decide) (by decide) (va_runS (As := [.int (nI k), .int (nI (sLen.getD si 0))]) (rest := []) ⟨hx, hb, hml, hown, hts⟩ (c_J0_checkIndex_df160 l D cB cI cJ cS cZ cO s.heap.size k (sLen.getD si 0) Bw adK adV (by first | assumption | omega | decide) (by first | assumption | omega | decide)) (va_cwS 2 hts gJ1_charAt_3b067_J0_checkIndex_df160 rfl rfl rfl (by decide +kernel) ⟨Nat.le_of_ble_eq_true rfl, Nat.le_of_ble_eq_true rfl⟩) (xPreSB (win := []) hN hK hP hD [] (by decide) rfl hAB hBw hS hE0 hR) rfl rfl hl.1 rfl (lv_room (Nat.le_of_ble_eq_true rfl)) dJ1_charAt_3b067_3 ⟨Nat.le_of_ble_eq_true rfl, Nat.le_of_ble_eq_true rfl⟩) (fun w0 H locs hw hP hD hS => ?_)
  subst hw
  have hP : va_P D vwCl [] H := hP
  have hD : va_D A [] := hD
  refine lv_aload_n hx hb dJ1_charAt_3b067_6 rfl (lv_at hl 0 rfl) ?_
  refine lv_iload_n hx hb dJ1_charAt_3b067_7 rfl (lv_at hl 1 rfl) ?_
  obtain ⟨v_1, ev_1⟩ : ∃ v9 : Int32, (sByt.getD si []).getD (Int32.toNatClampNeg (nI k)) 0 = v9 := ⟨_, rfl⟩
  refine va_tb (v := .int v_1) hx hb (hE.1.1 si (by first | assumption | decide)).2.2.2 hS (vp_in_nI (by omega) (by omega)) (congrArg Value.int ev_1) dJ1_charAt_3b067_8 ?_
  refine lv_sipush (v := 255) hx hb dJ1_charAt_3b067_9 (by decide) ?_
  refine lv_iand hx hb dJ1_charAt_3b067_12 ?_
  obtain ⟨v_2, ev_2⟩ : ∃ v9 : Int32, (Int32.toUInt32 (v_1 &&& 255) % 65536).toInt32 = v9 := ⟨_, rfl⟩
  have hc_v_2 : narrow .char (.int v_2) = .int v_2 := by rw [← ev_2]; exact pk_nc _
  refine lv_i2c (v := v_2) hx hb dJ1_charAt_3b067_13 ev_2 ?_
  have hP9 := hP.sub (ws' := []) [] rfl
  have hD9 := hD.sub (ws' := []) [] (by decide) rfl
  refine W.widen (k := 0) (n := 0) (Nat.le_of_ble_eq_true rfl) (Nat.le_of_ble_eq_true rfl) ?_
  exact W.zret (v := v_2) hx hb hr (by first | assumption | exact hc_v_2) (fun tz htz hWz => ⟨⟨v_2, [], rfl, ⟨rfl, hc_v_2⟩, by rw [htz]; exact hP9, va_K.moved hWz.alike hK, hD9⟩, hS.F htz⟩) hS.2.2 dJ1_charAt_3b067_14

set_option maxHeartbeats 4000000 in
set_option maxRecDepth 100000 in
theorem c_J0_charAt_5068e (l : Launch) (D : va_G) (cB cI cJ cS cZ cO : ClassId) (sz : Nat) (si : Nat) (k : Nat) (Bw : Nat → Prop) (adK : Nat → Nat) (adV : Nat → Nat) (hsi : si < 10) (hk : k < sLen.getD si 0) : Met l yJ0_charAt_5068e wsJ0_charAt_5068e ({ frames := 3, cells := 0, slots := 0, locals := 64 }) (xPreB D (tyL cB cI cJ cS cZ cO) [] sz [.ref (adK si), .int (nI k)] Bw adK adV) (xQi D (tyL cB cI cJ cS cZ cO) (va_A [] sz) (fun (r : Int32) (u : va_W) => u = [] ∧ narrow .char (.int r) = .int r)) 0 0 (va_A [] sz) := by
  refine Met.ofW (cc := cJ0_charAt_5068e) (maxL := 2) (ret := (some .char)) (by decide) rfl ?_
  intro p e s m args below meth c s₁ B hml hv
  obtain ⟨rfl, hsz, hP, hK, hDB, hN, hBw, hE0, hR⟩ := hv
  have hx := B.exec
  have hb := B.bytes
  have hr := B.returns
  have hts := atoms_spec (ws := wsJ0_charAt_5068e) B.pre
  have hown : s.vm.findClass RJ0 = some m.cls := findClass_of_methodNamed B.named
  have hlocks := B.notSynchronized
  subst hsz
  have hD0 : va_D (fun _ => True) [] := hDB.weaken (fun _ _ _ _ => trivial)
  have hD := hD0.self (sz := s.heap.size)
  generalize hAe : va_A [] s.heap.size = A at hD ⊢
  have hA : ∀ q : Nat, s.heap.size ≤ q → A q := fun q h => by rw [← hAe]; exact Or.inr h
  have hAB : ∀ q : Nat, A q → Bw q := fun q h => strAB hDB hBw (by rw [hAe]; exact h)
  have hE := strE.narrow hE0 hAB
  have hS : va_S A s.heap s.heap [] := va_S.rf
  have hP : va_P D vwCl [] s.heap := hP
  have hl := lv_entry ([.ref (adK si), .int (nI k)]) (n := 2) (Nat.le_of_ble_eq_true rfl)
  rw [lg_entry_eq]
  generalize (lg_sl ([.ref (adK si), .int (nI k)]) ++ List.replicate (2 - (lg_sl ([.ref (adK si), .int (nI k)])).length) Slot.unset).toArray = ls at hl ⊢
  have hl : lv_has ls 2 [(0, .ref (adK si)), (1, .int (nI k))] := hl
  refine lv_aload_n hx hb dJ0_charAt_5068e_0 rfl (lv_at hl 0 rfl) ?_
  refine xCi (wr := []) (win := []) hP hD hS hA [] [] rfl rfl (by decide) (by decide) (va_runV (As := []) (rest := []) ⟨hx, hb, hml, hown, hts⟩ (c_J0_isLatin1_aae02 l D cB cI cJ cS cZ cO s.heap.size si Bw adK adV (by first | assumption | omega | decide)) (cwV 0 hts gJ0_charAt_5068e_J0_isLatin1_aae02 rfl rfl rfl (by decide +kernel) ⟨Nat.le_of_ble_eq_true rfl, Nat.le_of_ble_eq_true rfl⟩) (xPreVS (win := []) hN hK hP hD [] (by decide) rfl hAB hBw hS hE0 hR si (by first | assumption | decide)) rfl rfl hl.1 rfl (lv_room (Nat.le_of_ble_eq_true rfl)) dJ0_charAt_5068e_1 ⟨Nat.le_of_ble_eq_true rfl, Nat.le_of_ble_eq_true rfl⟩) (fun r0 w0 H locs hw hP hD hS => ?_)
  obtain ⟨rfl, rfl⟩ := hw
  have hP : va_P D vwCl [] H := hP
  have hD : va_D A [] := hD
  refine lv_if_eq (tgt := 16) hx hb dJ0_charAt_5068e_4 (by decide) (fun c_1 => absurd c_1 (by decide)) (fun c_1 => ?_)
  refine lv_aload_n hx hb dJ0_charAt_5068e_7 rfl (lv_at hl 0 rfl) ?_
  refine vk_getf hx hb (hE.1.1 si (by first | assumption | decide)).2.2.1 hS hown (hts (.fieldLink RJ0 9 "java/lang/String" "value" "[B") (by decide +kernel)) (fun _ h9 => h9) dJ0_charAt_5068e_8 ?_
  refine lv_iload_n hx hb dJ0_charAt_5068e_11 rfl (lv_at hl 1 rfl) ?_
  refine xCi (wr := []) (win := []) hP hD hS hA [] [] rfl rfl (by decide) (by decide) (va_runS (As := [.ref (adV si), .int (nI k)]) (rest := []) ⟨hx, hb, hml, hown, hts⟩ (c_J1_charAt_3b067 l D cB cI cJ cS cZ cO H.size si k Bw adK adV (by first | assumption | omega | decide) (by first | assumption | omega | decide)) (va_cwS 2 hts gJ0_charAt_5068e_J1_charAt_3b067 rfl rfl rfl (by decide +kernel) ⟨Nat.le_of_ble_eq_true rfl, Nat.le_of_ble_eq_true rfl⟩) (xPreSB (win := []) hN hK hP hD [] (by decide) rfl hAB hBw hS hE0 hR) rfl rfl hl.1 rfl (lv_room (Nat.le_of_ble_eq_true rfl)) dJ0_charAt_5068e_12 ⟨Nat.le_of_ble_eq_true rfl, Nat.le_of_ble_eq_true rfl⟩) (fun r_2 w0 H locs hw hP hD hS => ?_)
  obtain ⟨rfl, hf_3⟩ := hw
  have hP : va_P D vwCl [] H := hP
  have hD : va_D A [] := hD
  have hP9 := hP.sub (ws' := []) [] rfl
  have hD9 := hD.sub (ws' := []) [] (by decide) rfl
  refine W.widen (k := 0) (n := 0) (Nat.le_of_ble_eq_true rfl) (Nat.le_of_ble_eq_true rfl) ?_
  exact W.zret (v := r_2) hx hb hr (by first | assumption | exact hf_3) (fun tz htz hWz => ⟨⟨r_2, [], rfl, ⟨rfl, hf_3⟩, by rw [htz]; exact hP9, va_K.moved hWz.alike hK, hD9⟩, hS.F htz⟩) hS.2.2 dJ0_charAt_5068e_15

set_option maxHeartbeats 4000000 in
set_option maxRecDepth 100000 in
theorem c_X3_isWritten (l : Launch) (D : va_G) (cB cI cJ cS cZ cO : ClassId) (sz : Nat) (o : Nat) (si : Nat) (tp : Nat) (bh : Int32) (kd : Int32) (sr : Int32) (fl : Int32) (pl : Int32) (tp_bytes : Nat) (sz0 : Nat) (fb : Nat → Int32) (Bw : Nat → Prop) (adK : Nat → Nat) (adV : Nat → Nat) (hsi : si < 10) (hsz : sz0 ≤ 1600) : Met l yX3_isWritten wsX3_isWritten ({ frames := 4, cells := 0, slots := 0, locals := 85 }) (xPreB D (tyL cB cI cJ cS cZ cO) [(o, .inr (3, [.ref tp, .int bh, .int kd, .int sr, .int fl, .int pl])), (tp, .inr (7, [.ref tp_bytes, .int (nI sz0)])), (tp_bytes, .inl (cB, 1600, .inl fb))] sz [.ref o, .ref (adK si)] Bw adK adV) (xQi D (tyL cB cI cJ cS cZ cO) (va_A [(o, .inr (3, [.ref tp, .int bh, .int kd, .int sr, .int fl, .int pl])), (tp, .inr (7, [.ref tp_bytes, .int (nI sz0)])), (tp_bytes, .inl (cB, 1600, .inl fb))] sz) (fun (r : Int32) (u : va_W) => u = [(o, .inr (3, [.ref tp, .int bh, .int kd, .int sr, .int fl, .int pl])), (tp, .inr (7, [.ref tp_bytes, .int (nI sz0)])), (tp_bytes, .inl (cB, 1600, .inl fb))] ∧ (r = 0 ∨ r = 1))) 0 0 (va_A [(o, .inr (3, [.ref tp, .int bh, .int kd, .int sr, .int fl, .int pl])), (tp, .inr (7, [.ref tp_bytes, .int (nI sz0)])), (tp_bytes, .inl (cB, 1600, .inl fb))] sz) := by
  refine Met.ofW (cc := cX3_isWritten) (maxL := 3) (ret := (some .boolean)) (by decide) rfl ?_
  intro p e s m args below meth c s₁ B hml hv
  obtain ⟨rfl, hsz, hP, hK, hDB, hN, hBw, hE0, hR⟩ := hv
  have hx := B.exec
  have hb := B.bytes
  have hr := B.returns
  have hts := atoms_spec (ws := wsX3_isWritten) B.pre
  have hown : s.vm.findClass RX3 = some m.cls := findClass_of_methodNamed B.named
  have hlocks := B.notSynchronized
  subst hsz
  have hD0 : va_D (fun _ => True) [(o, .inr (3, [.ref tp, .int bh, .int kd, .int sr, .int fl, .int pl])), (tp, .inr (7, [.ref tp_bytes, .int (nI sz0)])), (tp_bytes, .inl (cB, 1600, .inl fb))] := hDB.weaken (fun _ _ _ _ => trivial)
  have hD := hD0.self (sz := s.heap.size)
  generalize hAe : va_A [(o, .inr (3, [.ref tp, .int bh, .int kd, .int sr, .int fl, .int pl])), (tp, .inr (7, [.ref tp_bytes, .int (nI sz0)])), (tp_bytes, .inl (cB, 1600, .inl fb))] s.heap.size = A at hD ⊢
  have hA : ∀ q : Nat, s.heap.size ≤ q → A q := fun q h => by rw [← hAe]; exact Or.inr h
  have hAB : ∀ q : Nat, A q → Bw q := fun q h => strAB hDB hBw (by rw [hAe]; exact h)
  have hE := strE.narrow hE0 hAB
  have hS : va_S A s.heap s.heap [] := va_S.rf
  have hP : va_P D vwCl [(o, .inr (3, [.ref tp, .int bh, .int kd, .int sr, .int fl, .int pl])), (tp, .inr (7, [.ref tp_bytes, .int (nI sz0)])), (tp_bytes, .inl (cB, 1600, .inl fb))] s.heap := hP
  have hl := lv_entry ([.ref o, .ref (adK si)]) (n := 3) (Nat.le_of_ble_eq_true rfl)
  rw [lg_entry_eq]
  generalize (lg_sl ([.ref o, .ref (adK si)]) ++ List.replicate (3 - (lg_sl ([.ref o, .ref (adK si)])).length) Slot.unset).toArray = ls at hl ⊢
  have hl : lv_has ls 3 [(0, .ref o), (1, .ref (adK si))] := hl
  have hlen := sLen_lt hsi
  refine lv_aload_n hx hb dX3_isWritten_0 rfl (lv_at hl 0 rfl) ?_
  refine va_get (D := D) (ci := 3) (v := .int kd) (C := RX3) (T := TX3) (N := 6) hx hb hts (by decide +kernel) hown hK hP 0 rfl rfl 2 (by decide) (hts (.fieldLink RX3 33 "LastLetter$Reader" "kind" "I") (by decide +kernel)) (fun _ h9 => h9) rfl dX3_isWritten_1 ?_
  refine lv_iconst (v := 2) hx hb dX3_isWritten_4 (by decide) ?_
  refine lv_icmp_ne (tgt := 24) hx hb dX3_isWritten_5 (by decide) (fun c_1 => ?_) (fun c_1 => ?_)
  · refine lv_iconst (v := 0) hx hb dX3_isWritten_24 (by decide) ?_
    have hP9 := hP.sub (ws' := [(o, .inr (3, [.ref tp, .int bh, .int kd, .int sr, .int fl, .int pl])), (tp, .inr (7, [.ref tp_bytes, .int (nI sz0)])), (tp_bytes, .inl (cB, 1600, .inl fb))]) [0, 1, 2] rfl
    have hD9 := hD.sub (ws' := [(o, .inr (3, [.ref tp, .int bh, .int kd, .int sr, .int fl, .int pl])), (tp, .inr (7, [.ref tp_bytes, .int (nI sz0)])), (tp_bytes, .inl (cB, 1600, .inl fb))]) [0, 1, 2] (by decide) rfl
    refine W.widen (k := 0) (n := 0) (Nat.le_of_ble_eq_true rfl) (Nat.le_of_ble_eq_true rfl) ?_
    exact W.zret (v := 0) hx hb hr (by decide) (fun tz htz hWz => ⟨⟨0, [(o, .inr (3, [.ref tp, .int bh, .int kd, .int sr, .int fl, .int pl])), (tp, .inr (7, [.ref tp_bytes, .int (nI sz0)])), (tp_bytes, .inl (cB, 1600, .inl fb))], rfl, ⟨rfl, (Or.inl rfl)⟩, by rw [htz]; exact hP9, va_K.moved hWz.alike hK, hD9⟩, hS.F htz⟩) hS.2.2 dX3_isWritten_25
  · refine lv_aload_n hx hb dX3_isWritten_8 rfl (lv_at hl 0 rfl) ?_
    refine va_get (D := D) (ci := 3) (v := .int bh) (C := RX3) (T := TX3) (N := 6) hx hb hts (by decide +kernel) hown hK hP 0 rfl rfl 1 (by decide) (hts (.fieldLink RX3 27 "LastLetter$Reader" "behind" "I") (by decide +kernel)) (fun _ h9 => h9) rfl dX3_isWritten_9 ?_
    refine lv_aload_n hx hb dX3_isWritten_12 rfl (lv_at hl 0 rfl) ?_
    refine va_get (D := D) (ci := 3) (v := .int sr) (C := RX3) (T := TX3) (N := 6) hx hb hts (by decide +kernel) hown hK hP 0 rfl rfl 3 (by decide) (hts (.fieldLink RX3 87 "LastLetter$Reader" "start" "I") (by decide +kernel)) (fun _ h9 => h9) rfl dX3_isWritten_13 ?_
    refine lv_isub hx hb dX3_isWritten_16 ?_
    refine lv_aload_n hx hb dX3_isWritten_17 rfl (lv_at hl 1 rfl) ?_
    refine xCi (wr := [(o, .inr (3, [.ref tp, .int bh, .int kd, .int sr, .int fl, .int pl])), (tp, .inr (7, [.ref tp_bytes, .int (nI sz0)])), (tp_bytes, .inl (cB, 1600, .inl fb))]) (win := []) hP hD hS hA [] [0, 1, 2] rfl rfl (by decide) (by decide) (va_runV (As := []) (rest := [.int (bh - sr)]) ⟨hx, hb, hml, hown, hts⟩ (c_J0_length_8abf5 l D cB cI cJ cS cZ cO s.heap.size si Bw adK adV (by first | assumption | omega | decide)) (cwV 0 hts gX3_isWritten_J0_length_8abf5 rfl rfl rfl (by decide +kernel) ⟨Nat.le_of_ble_eq_true rfl, Nat.le_of_ble_eq_true rfl⟩) (xPreVS (win := []) hN hK hP hD [] (by decide) rfl hAB hBw hS hE0 hR si (by first | assumption | decide)) rfl rfl hl.1 rfl (lv_room (Nat.le_of_ble_eq_true rfl)) dX3_isWritten_18 ⟨Nat.le_of_ble_eq_true rfl, Nat.le_of_ble_eq_true rfl⟩) (fun r0 w0 H locs hw hP hD hS => ?_)
    obtain ⟨rfl, rfl⟩ := hw
    have hP : va_P D vwCl [(o, .inr (3, [.ref tp, .int bh, .int kd, .int sr, .int fl, .int pl])), (tp, .inr (7, [.ref tp_bytes, .int (nI sz0)])), (tp_bytes, .inl (cB, 1600, .inl fb))] H := hP
    have hD : va_D A [(o, .inr (3, [.ref tp, .int bh, .int kd, .int sr, .int fl, .int pl])), (tp, .inr (7, [.ref tp_bytes, .int (nI sz0)])), (tp_bytes, .inl (cB, 1600, .inl fb))] := hD
    refine lv_icmp_eq (tgt := 26) hx hb dX3_isWritten_21 (by decide) (fun c_2 => ?_) (fun c_2 => ?_)
    · refine lv_iconst (v := 0) hx hb dX3_isWritten_26 (by decide) ?_
      refine lv_istore_n (lv' := [(2, .int 0), (0, .ref o), (1, .ref (adK si))]) hx hb dX3_isWritten_27 rfl hl (by decide) rfl (fun ls hl => ?_)
      refine xb_wh (fun (n9 : Nat) H locs ls => ∃ i : Nat, (sLen.getD si 0 - i) = n9 ∧ va_P D vwCl [(o, .inr (3, [.ref tp, .int bh, .int kd, .int sr, .int fl, .int pl])), (tp, .inr (7, [.ref tp_bytes, .int (nI sz0)])), (tp_bytes, .inl (cB, 1600, .inl fb))] H ∧ va_D A [(o, .inr (3, [.ref tp, .int bh, .int kd, .int sr, .int fl, .int pl])), (tp, .inr (7, [.ref tp_bytes, .int (nI sz0)])), (tp_bytes, .inl (cB, 1600, .inl fb))] ∧ va_S A s.heap H locs ∧ lv_has ls 3 [(2, .int (nI i)), (0, .ref o), (1, .ref (adK si))] ∧ (i ≤ sLen.getD si 0)) ⟨0, rfl, hP, hD, hS, lv_sub hl [0, 1, 2] rfl, (by first | assumption | omega)⟩ (fun n9 H locs ls hI kk_28 => ?_)
      obtain ⟨i, hn_28, hP, hD, hS, hl, hF_h_3⟩ := hI
      refine lv_iload_n hx hb dX3_isWritten_28 rfl (lv_at hl 0 rfl) ?_
      refine lv_aload_n hx hb dX3_isWritten_29 rfl (lv_at hl 2 rfl) ?_
      refine xCi (wr := [(o, .inr (3, [.ref tp, .int bh, .int kd, .int sr, .int fl, .int pl])), (tp, .inr (7, [.ref tp_bytes, .int (nI sz0)])), (tp_bytes, .inl (cB, 1600, .inl fb))]) (win := []) hP hD hS hA [] [0, 1, 2] rfl rfl (by decide) (by decide) (va_runV (As := []) (rest := [.int (nI i)]) ⟨hx, hb, hml, hown, hts⟩ (c_J0_length_8abf5 l D cB cI cJ cS cZ cO H.size si Bw adK adV (by first | assumption | omega | decide)) (cwV 0 hts gX3_isWritten_J0_length_8abf5 rfl rfl rfl (by decide +kernel) ⟨Nat.le_of_ble_eq_true rfl, Nat.le_of_ble_eq_true rfl⟩) (xPreVS (win := []) hN hK hP hD [] (by decide) rfl hAB hBw hS hE0 hR si (by first | assumption | decide)) rfl rfl hl.1 rfl (lv_room (Nat.le_of_ble_eq_true rfl)) dX3_isWritten_30 ⟨Nat.le_of_ble_eq_true rfl, Nat.le_of_ble_eq_true rfl⟩) (fun r0 w0 H locs hw hP hD hS => ?_)
      obtain ⟨rfl, rfl⟩ := hw
      have hP : va_P D vwCl [(o, .inr (3, [.ref tp, .int bh, .int kd, .int sr, .int fl, .int pl])), (tp, .inr (7, [.ref tp_bytes, .int (nI sz0)])), (tp_bytes, .inl (cB, 1600, .inl fb))] H := hP
      have hD : va_D A [(o, .inr (3, [.ref tp, .int bh, .int kd, .int sr, .int fl, .int pl])), (tp, .inr (7, [.ref tp_bytes, .int (nI sz0)])), (tp_bytes, .inl (cB, 1600, .inl fb))] := hD
      refine lv_icmp_ge (tgt := 65) hx hb dX3_isWritten_33 (by decide) (fun c_4 => ?_) (fun c_4 => ?_)
      · have dc_4 : sLen.getD si 0 ≤ i := (nI_leI (a := sLen.getD si 0) (b := i) (by omega) (by omega)).mp c_4
        refine lv_iconst (v := 1) hx hb dX3_isWritten_65 (by decide) ?_
        have hP9 := hP.sub (ws' := [(o, .inr (3, [.ref tp, .int bh, .int kd, .int sr, .int fl, .int pl])), (tp, .inr (7, [.ref tp_bytes, .int (nI sz0)])), (tp_bytes, .inl (cB, 1600, .inl fb))]) [0, 1, 2] rfl
        have hD9 := hD.sub (ws' := [(o, .inr (3, [.ref tp, .int bh, .int kd, .int sr, .int fl, .int pl])), (tp, .inr (7, [.ref tp_bytes, .int (nI sz0)])), (tp_bytes, .inl (cB, 1600, .inl fb))]) [0, 1, 2] (by decide) rfl
        refine W.widen (k := 0) (n := 0) (Nat.le_of_ble_eq_true rfl) (Nat.le_of_ble_eq_true rfl) ?_
        exact W.zret (v := 1) hx hb hr (by decide) (fun tz htz hWz => ⟨⟨1, [(o, .inr (3, [.ref tp, .int bh, .int kd, .int sr, .int fl, .int pl])), (tp, .inr (7, [.ref tp_bytes, .int (nI sz0)])), (tp_bytes, .inl (cB, 1600, .inl fb))], rfl, ⟨rfl, (Or.inr rfl)⟩, by rw [htz]; exact hP9, va_K.moved hWz.alike hK, hD9⟩, hS.F htz⟩) hS.2.2 dX3_isWritten_66
      · have dc_4 : ¬ (sLen.getD si 0) ≤ i := fun h => c_4 ((nI_leI (a := sLen.getD si 0) (b := i) (by omega) (by omega)).mpr h)
        refine lv_aload_n hx hb dX3_isWritten_36 rfl (lv_at hl 1 rfl) ?_
        refine va_get (D := D) (ci := 3) (v := .ref tp) (C := RX3) (T := TX3) (N := 6) hx hb hts (by decide +kernel) hown hK hP 0 rfl rfl 0 (by decide) (hts (.fieldLink RX3 15 "LastLetter$Reader" "tape" "LLastLetter$Tape;") (by decide +kernel)) (fun _ h9 => h9) rfl dX3_isWritten_37 ?_
        refine lv_aload_n hx hb dX3_isWritten_40 rfl (lv_at hl 1 rfl) ?_
        refine va_get (D := D) (ci := 3) (v := .int sr) (C := RX3) (T := TX3) (N := 6) hx hb hts (by decide +kernel) hown hK hP 0 rfl rfl 3 (by decide) (hts (.fieldLink RX3 87 "LastLetter$Reader" "start" "I") (by decide +kernel)) (fun _ h9 => h9) rfl dX3_isWritten_41 ?_
        refine lv_iload_n hx hb dX3_isWritten_44 rfl (lv_at hl 0 rfl) ?_
        refine lv_iadd hx hb dX3_isWritten_45 ?_
        refine xCi (wr := [(o, .inr (3, [.ref tp, .int bh, .int kd, .int sr, .int fl, .int pl]))]) (win := [(tp, .inr (7, [.ref tp_bytes, .int (nI sz0)])), (tp_bytes, .inl (cB, 1600, .inl fb))]) hP hD hS hA [1, 2] [0] rfl rfl (by decide) (by decide) (va_runV (As := [.int (sr + (nI i))]) (rest := []) ⟨hx, hb, hml, hown, hts⟩ (c_X7_at l D cB cI cJ cS cZ cO H.size tp (sr + (nI i)) tp_bytes sz0 fb (by first | assumption | omega | decide)) (cwV 1 hts gX3_isWritten_X7_at rfl rfl rfl (by decide +kernel) ⟨Nat.le_of_ble_eq_true rfl, Nat.le_of_ble_eq_true rfl⟩) (xPreV (win := [(tp, .inr (7, [.ref tp_bytes, .int (nI sz0)])), (tp_bytes, .inl (cB, 1600, .inl fb))]) hN hK hP hD [1, 2] (by decide) rfl 1 7 rfl rfl rfl) rfl rfl hl.1 rfl (lv_room (Nat.le_of_ble_eq_true rfl)) dX3_isWritten_46 ⟨Nat.le_of_ble_eq_true rfl, Nat.le_of_ble_eq_true rfl⟩) (fun r_5 w0 H locs hw hP hD hS => ?_)
        obtain ⟨rfl, hf_6⟩ := hw
        have hP : va_P D vwCl [(o, .inr (3, [.ref tp, .int bh, .int kd, .int sr, .int fl, .int pl])), (tp, .inr (7, [.ref tp_bytes, .int (nI sz0)])), (tp_bytes, .inl (cB, 1600, .inl fb))] H := hP
        have hD : va_D A [(o, .inr (3, [.ref tp, .int bh, .int kd, .int sr, .int fl, .int pl])), (tp, .inr (7, [.ref tp_bytes, .int (nI sz0)])), (tp_bytes, .inl (cB, 1600, .inl fb))] := hD
        refine lv_aload_n hx hb dX3_isWritten_49 rfl (lv_at hl 2 rfl) ?_
        refine lv_iload_n hx hb dX3_isWritten_50 rfl (lv_at hl 0 rfl) ?_
        refine xCi (wr := [(o, .inr (3, [.ref tp, .int bh, .int kd, .int sr, .int fl, .int pl])), (tp, .inr (7, [.ref tp_bytes, .int (nI sz0)])), (tp_bytes, .inl (cB, 1600, .inl fb))]) (win := []) hP hD hS hA [] [0, 1, 2] rfl rfl (by decide) (by decide) (va_runV (As := [.int (nI i)]) (rest := [.int r_5]) ⟨hx, hb, hml, hown, hts⟩ (c_J0_charAt_5068e l D cB cI cJ cS cZ cO H.size si i Bw adK adV (by first | assumption | omega | decide) (by first | assumption | omega | decide)) (cwV 1 hts gX3_isWritten_J0_charAt_5068e rfl rfl rfl (by decide +kernel) ⟨Nat.le_of_ble_eq_true rfl, Nat.le_of_ble_eq_true rfl⟩) (xPreVS (win := []) hN hK hP hD [] (by decide) rfl hAB hBw hS hE0 hR si (by first | assumption | decide)) rfl rfl hl.1 rfl (lv_room (Nat.le_of_ble_eq_true rfl)) dX3_isWritten_51 ⟨Nat.le_of_ble_eq_true rfl, Nat.le_of_ble_eq_true rfl⟩) (fun r_7 w0 H locs hw hP hD hS => ?_)
        obtain ⟨rfl, hf_8⟩ := hw
        have hP : va_P D vwCl [(o, .inr (3, [.ref tp, .int bh, .int kd, .int sr, .int fl, .int pl])), (tp, .inr (7, [.ref tp_bytes, .int (nI sz0)])), (tp_bytes, .inl (cB, 1600, .inl fb))] H := hP
        have hD : va_D A [(o, .inr (3, [.ref tp, .int bh, .int kd, .int sr, .int fl, .int pl])), (tp, .inr (7, [.ref tp_bytes, .int (nI sz0)])), (tp_bytes, .inl (cB, 1600, .inl fb))] := hD
        refine lv_icmp_eq (tgt := 59) hx hb dX3_isWritten_54 (by decide) (fun c_9 => ?_) (fun c_9 => ?_)
        · refine lv_iinc (v := nI (i + 1)) (lv' := [(2, .int (nI (i + 1))), (0, .ref o), (1, .ref (adK si))]) hx hb dX3_isWritten_59 hl (k := 0) rfl (nI_1 i) (by decide) rfl (fun ls hl => ?_)
          refine lv_goto (tgt := 28) hx hb dX3_isWritten_62 (by decide) ?_
          exact kk_28 _ _ _ _ (by rw [← hn_28]; omega) ⟨(i + 1), rfl, hP, hD, hS, lv_sub hl [0, 1, 2] rfl, (by first | assumption | omega)⟩
        · refine lv_iconst (v := 0) hx hb dX3_isWritten_57 (by decide) ?_
          have hP9 := hP.sub (ws' := [(o, .inr (3, [.ref tp, .int bh, .int kd, .int sr, .int fl, .int pl])), (tp, .inr (7, [.ref tp_bytes, .int (nI sz0)])), (tp_bytes, .inl (cB, 1600, .inl fb))]) [0, 1, 2] rfl
          have hD9 := hD.sub (ws' := [(o, .inr (3, [.ref tp, .int bh, .int kd, .int sr, .int fl, .int pl])), (tp, .inr (7, [.ref tp_bytes, .int (nI sz0)])), (tp_bytes, .inl (cB, 1600, .inl fb))]) [0, 1, 2] (by decide) rfl
          refine W.widen (k := 0) (n := 0) (Nat.le_of_ble_eq_true rfl) (Nat.le_of_ble_eq_true rfl) ?_
          exact W.zret (v := 0) hx hb hr (by decide) (fun tz htz hWz => ⟨⟨0, [(o, .inr (3, [.ref tp, .int bh, .int kd, .int sr, .int fl, .int pl])), (tp, .inr (7, [.ref tp_bytes, .int (nI sz0)])), (tp_bytes, .inl (cB, 1600, .inl fb))], rfl, ⟨rfl, (Or.inl rfl)⟩, by rw [htz]; exact hP9, va_K.moved hWz.alike hK, hD9⟩, hS.F htz⟩) hS.2.2 dX3_isWritten_58
    · refine lv_iconst (v := 0) hx hb dX3_isWritten_24 (by decide) ?_
      have hP9 := hP.sub (ws' := [(o, .inr (3, [.ref tp, .int bh, .int kd, .int sr, .int fl, .int pl])), (tp, .inr (7, [.ref tp_bytes, .int (nI sz0)])), (tp_bytes, .inl (cB, 1600, .inl fb))]) [0, 1, 2] rfl
      have hD9 := hD.sub (ws' := [(o, .inr (3, [.ref tp, .int bh, .int kd, .int sr, .int fl, .int pl])), (tp, .inr (7, [.ref tp_bytes, .int (nI sz0)])), (tp_bytes, .inl (cB, 1600, .inl fb))]) [0, 1, 2] (by decide) rfl
      refine W.widen (k := 0) (n := 0) (Nat.le_of_ble_eq_true rfl) (Nat.le_of_ble_eq_true rfl) ?_
      exact W.zret (v := 0) hx hb hr (by decide) (fun tz htz hWz => ⟨⟨0, [(o, .inr (3, [.ref tp, .int bh, .int kd, .int sr, .int fl, .int pl])), (tp, .inr (7, [.ref tp_bytes, .int (nI sz0)])), (tp_bytes, .inl (cB, 1600, .inl fb))], rfl, ⟨rfl, (Or.inl rfl)⟩, by rw [htz]; exact hP9, va_K.moved hWz.alike hK, hD9⟩, hS.F htz⟩) hS.2.2 dX3_isWritten_25

set_option maxHeartbeats 4000000 in
set_option maxRecDepth 100000 in
theorem c_X3_isBlank (l : Launch) (D : va_G) (cB cI cJ cS cZ cO : ClassId) (sz : Nat) (x : Int32) : Met l yX3_isBlank wsX3_isBlank ({ frames := 0, cells := 0, slots := 0, locals := 0 }) (xPre D (tyL cB cI cJ cS cZ cO) [] sz [.int x]) (xQi D (tyL cB cI cJ cS cZ cO) (va_A [] sz) (fun (r : Int32) (u : va_W) => u = [] ∧ (r = 0 ∨ r = 1))) 0 0 (va_A [] sz) := by
  refine Met.ofW (cc := cX3_isBlank) (maxL := 1) (ret := (some .boolean)) (by decide) rfl ?_
  intro p e s m args below meth c s₁ B hml hv
  obtain ⟨rfl, hsz, hP, hK, hD0, hN⟩ := hv
  have hx := B.exec
  have hb := B.bytes
  have hr := B.returns
  have hts := atoms_spec (ws := wsX3_isBlank) B.pre
  have hown : s.vm.findClass RX3 = some m.cls := findClass_of_methodNamed B.named
  have hlocks := B.notSynchronized
  subst hsz
  have hD := hD0.self (sz := s.heap.size)
  generalize hAe : va_A [] s.heap.size = A at hD ⊢
  have hA : ∀ q : Nat, s.heap.size ≤ q → A q := fun q h => by rw [← hAe]; exact Or.inr h
  have hS : va_S A s.heap s.heap [] := va_S.rf
  have hP : va_P D vwCl [] s.heap := hP
  have hl := lv_entry ([.int x]) (n := 1) (Nat.le_of_ble_eq_true rfl)
  rw [lg_entry_eq]
  generalize (lg_sl ([.int x]) ++ List.replicate (1 - (lg_sl ([.int x])).length) Slot.unset).toArray = ls at hl ⊢
  have hl : lv_has ls 1 [(0, .int x)] := hl
  refine lv_iload_n hx hb dX3_isBlank_0 rfl (lv_at hl 0 rfl) ?_
  refine lv_bipush (v := 32) hx hb dX3_isBlank_1 (by decide) ?_
  refine lv_icmp_eq (tgt := 12) hx hb dX3_isBlank_3 (by decide) (fun c_1 => ?_) (fun c_1 => ?_)
  · refine lv_iconst (v := 1) hx hb dX3_isBlank_12 (by decide) ?_
    refine lv_goto (tgt := 17) hx hb dX3_isBlank_13 (by decide) ?_
    have hP9 := hP.sub (ws' := []) [] rfl
    have hD9 := hD.sub (ws' := []) [] (by decide) rfl
    refine W.widen (k := 0) (n := 0) (Nat.le_of_ble_eq_true rfl) (Nat.le_of_ble_eq_true rfl) ?_
    exact W.zret (v := 1) hx hb hr (by decide) (fun tz htz hWz => ⟨⟨1, [], rfl, ⟨rfl, (Or.inr rfl)⟩, by rw [htz]; exact hP9, va_K.moved hWz.alike hK, hD9⟩, hS.F htz⟩) hS.2.2 dX3_isBlank_17
  · refine lv_iload_n hx hb dX3_isBlank_6 rfl (lv_at hl 0 rfl) ?_
    refine lv_bipush (v := 10) hx hb dX3_isBlank_7 (by decide) ?_
    refine lv_icmp_ne (tgt := 16) hx hb dX3_isBlank_9 (by decide) (fun c_2 => ?_) (fun c_2 => ?_)
    · refine lv_iconst (v := 0) hx hb dX3_isBlank_16 (by decide) ?_
      have hP9 := hP.sub (ws' := []) [] rfl
      have hD9 := hD.sub (ws' := []) [] (by decide) rfl
      refine W.widen (k := 0) (n := 0) (Nat.le_of_ble_eq_true rfl) (Nat.le_of_ble_eq_true rfl) ?_
      exact W.zret (v := 0) hx hb hr (by decide) (fun tz htz hWz => ⟨⟨0, [], rfl, ⟨rfl, (Or.inl rfl)⟩, by rw [htz]; exact hP9, va_K.moved hWz.alike hK, hD9⟩, hS.F htz⟩) hS.2.2 dX3_isBlank_17
    · refine lv_iconst (v := 1) hx hb dX3_isBlank_12 (by decide) ?_
      refine lv_goto (tgt := 17) hx hb dX3_isBlank_13 (by decide) ?_
      have hP9 := hP.sub (ws' := []) [] rfl
      have hD9 := hD.sub (ws' := []) [] (by decide) rfl
      refine W.widen (k := 0) (n := 0) (Nat.le_of_ble_eq_true rfl) (Nat.le_of_ble_eq_true rfl) ?_
      exact W.zret (v := 1) hx hb hr (by decide) (fun tz htz hWz => ⟨⟨1, [], rfl, ⟨rfl, (Or.inr rfl)⟩, by rw [htz]; exact hP9, va_K.moved hWz.alike hK, hD9⟩, hS.F htz⟩) hS.2.2 dX3_isBlank_17

set_option maxHeartbeats 4000000 in
set_option maxRecDepth 100000 in
theorem c_X3_isDigit (l : Launch) (D : va_G) (cB cI cJ cS cZ cO : ClassId) (sz : Nat) (x : Int32) : Met l yX3_isDigit wsX3_isDigit ({ frames := 0, cells := 0, slots := 0, locals := 0 }) (xPre D (tyL cB cI cJ cS cZ cO) [] sz [.int x]) (xQi D (tyL cB cI cJ cS cZ cO) (va_A [] sz) (fun (r : Int32) (u : va_W) => u = [] ∧ (r = 0 ∨ r = 1))) 0 0 (va_A [] sz) := by
  refine Met.ofW (cc := cX3_isDigit) (maxL := 1) (ret := (some .boolean)) (by decide) rfl ?_
  intro p e s m args below meth c s₁ B hml hv
  obtain ⟨rfl, hsz, hP, hK, hD0, hN⟩ := hv
  have hx := B.exec
  have hb := B.bytes
  have hr := B.returns
  have hts := atoms_spec (ws := wsX3_isDigit) B.pre
  have hown : s.vm.findClass RX3 = some m.cls := findClass_of_methodNamed B.named
  have hlocks := B.notSynchronized
  subst hsz
  have hD := hD0.self (sz := s.heap.size)
  generalize hAe : va_A [] s.heap.size = A at hD ⊢
  have hA : ∀ q : Nat, s.heap.size ≤ q → A q := fun q h => by rw [← hAe]; exact Or.inr h
  have hS : va_S A s.heap s.heap [] := va_S.rf
  have hP : va_P D vwCl [] s.heap := hP
  have hl := lv_entry ([.int x]) (n := 1) (Nat.le_of_ble_eq_true rfl)
  rw [lg_entry_eq]
  generalize (lg_sl ([.int x]) ++ List.replicate (1 - (lg_sl ([.int x])).length) Slot.unset).toArray = ls at hl ⊢
  have hl : lv_has ls 1 [(0, .int x)] := hl
  refine lv_iload_n hx hb dX3_isDigit_0 rfl (lv_at hl 0 rfl) ?_
  refine lv_bipush (v := 48) hx hb dX3_isDigit_1 (by decide) ?_
  refine lv_icmp_lt (tgt := 16) hx hb dX3_isDigit_3 (by decide) (fun c_1 => ?_) (fun c_1 => ?_)
  · refine lv_iconst (v := 0) hx hb dX3_isDigit_16 (by decide) ?_
    have hP9 := hP.sub (ws' := []) [] rfl
    have hD9 := hD.sub (ws' := []) [] (by decide) rfl
    refine W.widen (k := 0) (n := 0) (Nat.le_of_ble_eq_true rfl) (Nat.le_of_ble_eq_true rfl) ?_
    exact W.zret (v := 0) hx hb hr (by decide) (fun tz htz hWz => ⟨⟨0, [], rfl, ⟨rfl, (Or.inl rfl)⟩, by rw [htz]; exact hP9, va_K.moved hWz.alike hK, hD9⟩, hS.F htz⟩) hS.2.2 dX3_isDigit_17
  · refine lv_iload_n hx hb dX3_isDigit_6 rfl (lv_at hl 0 rfl) ?_
    refine lv_bipush (v := 57) hx hb dX3_isDigit_7 (by decide) ?_
    refine lv_icmp_gt (tgt := 16) hx hb dX3_isDigit_9 (by decide) (fun c_2 => ?_) (fun c_2 => ?_)
    · refine lv_iconst (v := 0) hx hb dX3_isDigit_16 (by decide) ?_
      have hP9 := hP.sub (ws' := []) [] rfl
      have hD9 := hD.sub (ws' := []) [] (by decide) rfl
      refine W.widen (k := 0) (n := 0) (Nat.le_of_ble_eq_true rfl) (Nat.le_of_ble_eq_true rfl) ?_
      exact W.zret (v := 0) hx hb hr (by decide) (fun tz htz hWz => ⟨⟨0, [], rfl, ⟨rfl, (Or.inl rfl)⟩, by rw [htz]; exact hP9, va_K.moved hWz.alike hK, hD9⟩, hS.F htz⟩) hS.2.2 dX3_isDigit_17
    · refine lv_iconst (v := 1) hx hb dX3_isDigit_12 (by decide) ?_
      refine lv_goto (tgt := 17) hx hb dX3_isDigit_13 (by decide) ?_
      have hP9 := hP.sub (ws' := []) [] rfl
      have hD9 := hD.sub (ws' := []) [] (by decide) rfl
      refine W.widen (k := 0) (n := 0) (Nat.le_of_ble_eq_true rfl) (Nat.le_of_ble_eq_true rfl) ?_
      exact W.zret (v := 1) hx hb hr (by decide) (fun tz htz hWz => ⟨⟨1, [], rfl, ⟨rfl, (Or.inr rfl)⟩, by rw [htz]; exact hP9, va_K.moved hWz.alike hK, hD9⟩, hS.F htz⟩) hS.2.2 dX3_isDigit_17

set_option maxHeartbeats 4000000 in
set_option maxRecDepth 100000 in
theorem c_X3_isLetter (l : Launch) (D : va_G) (cB cI cJ cS cZ cO : ClassId) (sz : Nat) (x : Int32) : Met l yX3_isLetter wsX3_isLetter ({ frames := 0, cells := 0, slots := 0, locals := 0 }) (xPre D (tyL cB cI cJ cS cZ cO) [] sz [.int x]) (xQi D (tyL cB cI cJ cS cZ cO) (va_A [] sz) (fun (r : Int32) (u : va_W) => u = [] ∧ (r = 0 ∨ r = 1) ∧ (r = 1 → ∃ q, q < 26 ∧ x = nI (97 + q)))) 0 0 (va_A [] sz) := by
  refine Met.ofW (cc := cX3_isLetter) (maxL := 1) (ret := (some .boolean)) (by decide) rfl ?_
  intro p e s m args below meth c s₁ B hml hv
  obtain ⟨rfl, hsz, hP, hK, hD0, hN⟩ := hv
  have hx := B.exec
  have hb := B.bytes
  have hr := B.returns
  have hts := atoms_spec (ws := wsX3_isLetter) B.pre
  have hown : s.vm.findClass RX3 = some m.cls := findClass_of_methodNamed B.named
  have hlocks := B.notSynchronized
  subst hsz
  have hD := hD0.self (sz := s.heap.size)
  generalize hAe : va_A [] s.heap.size = A at hD ⊢
  have hA : ∀ q : Nat, s.heap.size ≤ q → A q := fun q h => by rw [← hAe]; exact Or.inr h
  have hS : va_S A s.heap s.heap [] := va_S.rf
  have hP : va_P D vwCl [] s.heap := hP
  have hl := lv_entry ([.int x]) (n := 1) (Nat.le_of_ble_eq_true rfl)
  rw [lg_entry_eq]
  generalize (lg_sl ([.int x]) ++ List.replicate (1 - (lg_sl ([.int x])).length) Slot.unset).toArray = ls at hl ⊢
  have hl : lv_has ls 1 [(0, .int x)] := hl
  refine lv_iload_n hx hb dX3_isLetter_0 rfl (lv_at hl 0 rfl) ?_
  refine lv_bipush (v := 97) hx hb dX3_isLetter_1 (by decide) ?_
  refine lv_icmp_lt (tgt := 16) hx hb dX3_isLetter_3 (by decide) (fun c_1 => ?_) (fun c_1 => ?_)
  · refine lv_iconst (v := 0) hx hb dX3_isLetter_16 (by decide) ?_
    have hP9 := hP.sub (ws' := []) [] rfl
    have hD9 := hD.sub (ws' := []) [] (by decide) rfl
    refine W.widen (k := 0) (n := 0) (Nat.le_of_ble_eq_true rfl) (Nat.le_of_ble_eq_true rfl) ?_
    exact W.zret (v := 0) hx hb hr (by decide) (fun tz htz hWz => ⟨⟨0, [], rfl, ⟨rfl, (Or.inl rfl), (fun h => absurd h (by decide))⟩, by rw [htz]; exact hP9, va_K.moved hWz.alike hK, hD9⟩, hS.F htz⟩) hS.2.2 dX3_isLetter_17
  · refine lv_iload_n hx hb dX3_isLetter_6 rfl (lv_at hl 0 rfl) ?_
    refine lv_bipush (v := 122) hx hb dX3_isLetter_7 (by decide) ?_
    refine lv_icmp_gt (tgt := 16) hx hb dX3_isLetter_9 (by decide) (fun c_2 => ?_) (fun c_2 => ?_)
    · refine lv_iconst (v := 0) hx hb dX3_isLetter_16 (by decide) ?_
      have hP9 := hP.sub (ws' := []) [] rfl
      have hD9 := hD.sub (ws' := []) [] (by decide) rfl
      refine W.widen (k := 0) (n := 0) (Nat.le_of_ble_eq_true rfl) (Nat.le_of_ble_eq_true rfl) ?_
      exact W.zret (v := 0) hx hb hr (by decide) (fun tz htz hWz => ⟨⟨0, [], rfl, ⟨rfl, (Or.inl rfl), (fun h => absurd h (by decide))⟩, by rw [htz]; exact hP9, va_K.moved hWz.alike hK, hD9⟩, hS.F htz⟩) hS.2.2 dX3_isLetter_17
    · refine lv_iconst (v := 1) hx hb dX3_isLetter_12 (by decide) ?_
      refine lv_goto (tgt := 17) hx hb dX3_isLetter_13 (by decide) ?_
      have hP9 := hP.sub (ws' := []) [] rfl
      have hD9 := hD.sub (ws' := []) [] (by decide) rfl
      refine W.widen (k := 0) (n := 0) (Nat.le_of_ble_eq_true rfl) (Nat.le_of_ble_eq_true rfl) ?_
      exact W.zret (v := 1) hx hb hr (by decide) (fun tz htz hWz => ⟨⟨1, [], rfl, ⟨rfl, (Or.inr rfl), (fun _ => let_of c_1 c_2)⟩, by rw [htz]; exact hP9, va_K.moved hWz.alike hK, hD9⟩, hS.F htz⟩) hS.2.2 dX3_isLetter_17

set_option maxHeartbeats 4000000 in
set_option maxRecDepth 100000 in
theorem c_X3_refuse (l : Launch) (D : va_G) (cB cI cJ cS cZ cO : ClassId) (sz : Nat) (o : Nat) (x : Int32) (tp : Nat) (bh : Int32) (kd : Int32) (sr : Int32) (fl : Int32) (pl : Int32) (hx0 : x ≠ 0) : Met l yX3_refuse wsX3_refuse ({ frames := 0, cells := 0, slots := 0, locals := 0 }) (xPre D (tyL cB cI cJ cS cZ cO) [(o, .inr (3, [.ref tp, .int bh, .int kd, .int sr, .int fl, .int pl]))] sz [.ref o, .int x]) (xQv D (tyL cB cI cJ cS cZ cO) (va_A [(o, .inr (3, [.ref tp, .int bh, .int kd, .int sr, .int fl, .int pl]))] sz) (fun u : va_W => ∃ fl2 : Int32, ∃ pl2 : Int32, u = [(o, .inr (3, [.ref tp, .int bh, .int kd, .int sr, .int fl2, .int pl2]))] ∧ fl2 ≠ 0)) 0 0 (va_A [(o, .inr (3, [.ref tp, .int bh, .int kd, .int sr, .int fl, .int pl]))] sz) := by
  refine Met.ofW (cc := cX3_refuse) (maxL := 2) (ret := none) (by decide) rfl ?_
  intro p e s m args below meth c s₁ B hml hv
  obtain ⟨rfl, hsz, hP, hK, hD0, hN⟩ := hv
  have hx := B.exec
  have hb := B.bytes
  have hr := B.returns
  have hts := atoms_spec (ws := wsX3_refuse) B.pre
  have hown : s.vm.findClass RX3 = some m.cls := findClass_of_methodNamed B.named
  have hlocks := B.notSynchronized
  subst hsz
  have hD := hD0.self (sz := s.heap.size)
  generalize hAe : va_A [(o, .inr (3, [.ref tp, .int bh, .int kd, .int sr, .int fl, .int pl]))] s.heap.size = A at hD ⊢
  have hA : ∀ q : Nat, s.heap.size ≤ q → A q := fun q h => by rw [← hAe]; exact Or.inr h
  have hS : va_S A s.heap s.heap [] := va_S.rf
  have hP : va_P D vwCl [(o, .inr (3, [.ref tp, .int bh, .int kd, .int sr, .int fl, .int pl]))] s.heap := hP
  have hl := lv_entry ([.ref o, .int x]) (n := 2) (Nat.le_of_ble_eq_true rfl)
  rw [lg_entry_eq]
  generalize (lg_sl ([.ref o, .int x]) ++ List.replicate (2 - (lg_sl ([.ref o, .int x])).length) Slot.unset).toArray = ls at hl ⊢
  have hl : lv_has ls 2 [(0, .ref o), (1, .int x)] := hl
  refine lv_aload_n hx hb dX3_refuse_0 rfl (lv_at hl 0 rfl) ?_
  refine va_get (D := D) (ci := 3) (v := .int fl) (C := RX3) (T := TX3) (N := 6) hx hb hts (by decide +kernel) hown hK hP 0 rfl rfl 4 (by decide) (hts (.fieldLink RX3 24 "LastLetter$Reader" "fault" "I") (by decide +kernel)) (fun _ h9 => h9) rfl dX3_refuse_1 ?_
  refine lv_if_ne (tgt := 20) hx hb dX3_refuse_4 (by decide) (fun c_1 => ?_) (fun c_1 => ?_)
  · have hP9 := hP.sub (ws' := [(o, .inr (3, [.ref tp, .int bh, .int kd, .int sr, .int fl, .int pl]))]) [0] rfl
    have hD9 := hD.sub (ws' := [(o, .inr (3, [.ref tp, .int bh, .int kd, .int sr, .int fl, .int pl]))]) [0] (by decide) rfl
    refine W.widen (k := 0) (n := 0) (Nat.le_of_ble_eq_true rfl) (Nat.le_of_ble_eq_true rfl) ?_
    exact W.vret hx hb hr (fun tz htz hWz => ⟨⟨[(o, .inr (3, [.ref tp, .int bh, .int kd, .int sr, .int fl, .int pl]))], rfl, ⟨fl, pl, rfl, c_1⟩, by rw [htz]; exact hP9, va_K.moved hWz.alike hK, hD9⟩, hS.F htz⟩) hS.2.2 dX3_refuse_20
  · refine lv_aload_n hx hb dX3_refuse_7 rfl (lv_at hl 0 rfl) ?_
    refine lv_iload_n hx hb dX3_refuse_8 rfl (lv_at hl 1 rfl) ?_
    refine va_put (D := D) (ci := 3) (v := .int x) (ty := .int) (C := RX3) (T := TX3) (N := 6) hx hb hts (by decide +kernel) tyX3 tyX3_ok nmX3 hown hK hP hD hS 0 rfl rfl 4 (by decide) (hts (.fieldLink RX3 24 "LastLetter$Reader" "fault" "I") (by decide +kernel)) (fun _ h9 => h9) rfl (by decide +kernel) rfl rfl (Nat.le_of_ble_eq_true rfl) dX3_refuse_9 (fun H locs hP hD hS => ?_)
    have hP : va_P D vwCl [(o, .inr (3, [.ref tp, .int bh, .int kd, .int sr, .int x, .int pl]))] H := hP
    have hD : va_D A [(o, .inr (3, [.ref tp, .int bh, .int kd, .int sr, .int x, .int pl]))] := hD
    refine lv_aload_n hx hb dX3_refuse_12 rfl (lv_at hl 0 rfl) ?_
    refine lv_aload_n hx hb dX3_refuse_13 rfl (lv_at hl 0 rfl) ?_
    refine va_get (D := D) (ci := 3) (v := .int sr) (C := RX3) (T := TX3) (N := 6) hx hb hts (by decide +kernel) hown hK hP 0 rfl rfl 3 (by decide) (hts (.fieldLink RX3 87 "LastLetter$Reader" "start" "I") (by decide +kernel)) (fun _ h9 => h9) rfl dX3_refuse_14 ?_
    refine va_put (D := D) (ci := 3) (v := .int sr) (ty := .int) (C := RX3) (T := TX3) (N := 6) hx hb hts (by decide +kernel) tyX3 tyX3_ok nmX3 hown hK hP hD hS 0 rfl rfl 5 (by decide) (hts (.fieldLink RX3 9 "LastLetter$Reader" "place" "I") (by decide +kernel)) (fun _ h9 => h9) rfl (by decide +kernel) rfl rfl (Nat.le_of_ble_eq_true rfl) dX3_refuse_17 (fun H locs hP hD hS => ?_)
    have hP : va_P D vwCl [(o, .inr (3, [.ref tp, .int bh, .int kd, .int sr, .int x, .int sr]))] H := hP
    have hD : va_D A [(o, .inr (3, [.ref tp, .int bh, .int kd, .int sr, .int x, .int sr]))] := hD
    have hP9 := hP.sub (ws' := [(o, .inr (3, [.ref tp, .int bh, .int kd, .int sr, .int x, .int sr]))]) [0] rfl
    have hD9 := hD.sub (ws' := [(o, .inr (3, [.ref tp, .int bh, .int kd, .int sr, .int x, .int sr]))]) [0] (by decide) rfl
    refine W.widen (k := 0) (n := 0) (Nat.le_of_ble_eq_true rfl) (Nat.le_of_ble_eq_true rfl) ?_
    exact W.vret hx hb hr (fun tz htz hWz => ⟨⟨[(o, .inr (3, [.ref tp, .int bh, .int kd, .int sr, .int x, .int sr]))], rfl, ⟨x, sr, rfl, hx0⟩, by rw [htz]; exact hP9, va_K.moved hWz.alike hK, hD9⟩, hS.F htz⟩) hS.2.2 dX3_refuse_20

set_option maxHeartbeats 4000000 in
set_option maxRecDepth 100000 in
theorem c_X3_stepLetters (l : Launch) (D : va_G) (cB cI cJ cS cZ cO : ClassId) (sz : Nat) (o : Nat) (tp : Nat) (bh : Nat) (kd : Int32) (sr : Nat) (fl : Int32) (pl : Int32) (tp_bytes : Nat) (sz0 : Nat) (fb : Nat → Int32) (hsz : sz0 ≤ 1600) (hbh : bh ≤ sz0) (hsr : sr ≤ bh) (hsb : sr = bh) : Met l yX3_stepLetters wsX3_stepLetters ({ frames := 1, cells := 0, slots := 0, locals := 21 }) (xPre D (tyL cB cI cJ cS cZ cO) [(o, .inr (3, [.ref tp, .int (nI bh), .int kd, .int (nI sr), .int fl, .int pl])), (tp, .inr (7, [.ref tp_bytes, .int (nI sz0)])), (tp_bytes, .inl (cB, 1600, .inl fb))] sz [.ref o]) (xQv D (tyL cB cI cJ cS cZ cO) (va_A [(o, .inr (3, [.ref tp, .int (nI bh), .int kd, .int (nI sr), .int fl, .int pl])), (tp, .inr (7, [.ref tp_bytes, .int (nI sz0)])), (tp_bytes, .inl (cB, 1600, .inl fb))] sz) (fun u : va_W => ∃ bh2 : Nat, ∃ kd2 : Int32, ∃ fl2 : Int32, ∃ pl2 : Int32, u = [(o, .inr (3, [.ref tp, .int (nI bh2), .int kd2, .int (nI sr), .int fl2, .int pl2])), (tp, .inr (7, [.ref tp_bytes, .int (nI sz0)])), (tp_bytes, .inl (cB, 1600, .inl fb))] ∧ bh2 ≤ sz0 ∧ sr ≤ bh2 ∧ (fl2 = 0 → fl = 0) ∧ (fl2 = 0 → kd2 = 2 → ltr fb sr bh2))) 0 0 (va_A [(o, .inr (3, [.ref tp, .int (nI bh), .int kd, .int (nI sr), .int fl, .int pl])), (tp, .inr (7, [.ref tp_bytes, .int (nI sz0)])), (tp_bytes, .inl (cB, 1600, .inl fb))] sz) := by
  refine Met.ofW (cc := cX3_stepLetters) (maxL := 1) (ret := none) (by decide) rfl ?_
  intro p e s m args below meth c s₁ B hml hv
  obtain ⟨rfl, hsz, hP, hK, hD0, hN⟩ := hv
  have hx := B.exec
  have hb := B.bytes
  have hr := B.returns
  have hts := atoms_spec (ws := wsX3_stepLetters) B.pre
  have hown : s.vm.findClass RX3 = some m.cls := findClass_of_methodNamed B.named
  have hlocks := B.notSynchronized
  subst hsz
  have hD := hD0.self (sz := s.heap.size)
  generalize hAe : va_A [(o, .inr (3, [.ref tp, .int (nI bh), .int kd, .int (nI sr), .int fl, .int pl])), (tp, .inr (7, [.ref tp_bytes, .int (nI sz0)])), (tp_bytes, .inl (cB, 1600, .inl fb))] s.heap.size = A at hD ⊢
  have hA : ∀ q : Nat, s.heap.size ≤ q → A q := fun q h => by rw [← hAe]; exact Or.inr h
  have hS : va_S A s.heap s.heap [] := va_S.rf
  have hP : va_P D vwCl [(o, .inr (3, [.ref tp, .int (nI bh), .int kd, .int (nI sr), .int fl, .int pl])), (tp, .inr (7, [.ref tp_bytes, .int (nI sz0)])), (tp_bytes, .inl (cB, 1600, .inl fb))] s.heap := hP
  have hl := lv_entry ([.ref o]) (n := 1) (Nat.le_of_ble_eq_true rfl)
  rw [lg_entry_eq]
  generalize (lg_sl ([.ref o]) ++ List.replicate (1 - (lg_sl ([.ref o])).length) Slot.unset).toArray = ls at hl ⊢
  have hl : lv_has ls 1 [(0, .ref o)] := hl
  refine xb_wh (fun (n9 : Nat) H locs ls => ∃ bh2 : Nat, (sz0 - bh2) = n9 ∧ va_P D vwCl [(o, .inr (3, [.ref tp, .int (nI bh2), .int kd, .int (nI sr), .int fl, .int pl])), (tp, .inr (7, [.ref tp_bytes, .int (nI sz0)])), (tp_bytes, .inl (cB, 1600, .inl fb))] H ∧ va_D A [(o, .inr (3, [.ref tp, .int (nI bh2), .int kd, .int (nI sr), .int fl, .int pl])), (tp, .inr (7, [.ref tp_bytes, .int (nI sz0)])), (tp_bytes, .inl (cB, 1600, .inl fb))] ∧ va_S A s.heap H locs ∧ lv_has ls 1 [(0, .ref o)] ∧ (bh2 ≤ sz0) ∧ (sr ≤ bh2) ∧ (ltr fb sr bh2)) ⟨bh, rfl, hP, hD, hS, lv_sub hl [0] rfl, hbh, hsr, (hsb ▸ ltr_0 fb _)⟩ (fun n9 H locs ls hI kk_0 => ?_)
  obtain ⟨bh2, hn_0, hP, hD, hS, hl, hF_h_1, hF_h_2, hF_h_3⟩ := hI
  refine lv_aload_n hx hb dX3_stepLetters_0 rfl (lv_at hl 0 rfl) ?_
  refine va_get (D := D) (ci := 3) (v := .int (nI bh2)) (C := RX3) (T := TX3) (N := 6) hx hb hts (by decide +kernel) hown hK hP 0 rfl rfl 1 (by decide) (hts (.fieldLink RX3 27 "LastLetter$Reader" "behind" "I") (by decide +kernel)) (fun _ h9 => h9) rfl dX3_stepLetters_1 ?_
  refine lv_aload_n hx hb dX3_stepLetters_4 rfl (lv_at hl 0 rfl) ?_
  refine va_get (D := D) (ci := 3) (v := .ref tp) (C := RX3) (T := TX3) (N := 6) hx hb hts (by decide +kernel) hown hK hP 0 rfl rfl 0 (by decide) (hts (.fieldLink RX3 15 "LastLetter$Reader" "tape" "LLastLetter$Tape;") (by decide +kernel)) (fun _ h9 => h9) rfl dX3_stepLetters_5 ?_
  refine va_getN (D := D) (ci := 7) (v := .int (nI sz0)) (C := RX7) (T := TX7) (N := 2) hx hb hts (by decide +kernel) hown hK hP 1 rfl rfl 1 (by decide) (va_Nw.use rfl (hN.1 (RX3, 132, RX7, "size", "I", RX10) (by decide +kernel))) (fun _ h9 => h9) rfl dX3_stepLetters_8 ?_
  refine lv_icmp_ge (tgt := 44) hx hb dX3_stepLetters_11 (by decide) (fun c_4 => ?_) (fun c_4 => ?_)
  · have dc_4 : sz0 ≤ bh2 := (nI_leI (a := sz0) (b := bh2) (by omega) (by omega)).mp c_4
    refine lv_aload_n hx hb dX3_stepLetters_44 rfl (lv_at hl 0 rfl) ?_
    refine lv_iconst (v := 2) hx hb dX3_stepLetters_45 (by decide) ?_
    refine va_put (D := D) (ci := 3) (v := .int 2) (ty := .int) (C := RX3) (T := TX3) (N := 6) hx hb hts (by decide +kernel) tyX3 tyX3_ok nmX3 hown hK hP hD hS 0 rfl rfl 2 (by decide) (hts (.fieldLink RX3 33 "LastLetter$Reader" "kind" "I") (by decide +kernel)) (fun _ h9 => h9) rfl (by decide +kernel) rfl rfl (Nat.le_of_ble_eq_true rfl) dX3_stepLetters_46 (fun H locs hP hD hS => ?_)
    have hP : va_P D vwCl [(o, .inr (3, [.ref tp, .int (nI bh2), .int 2, .int (nI sr), .int fl, .int pl])), (tp, .inr (7, [.ref tp_bytes, .int (nI sz0)])), (tp_bytes, .inl (cB, 1600, .inl fb))] H := hP
    have hD : va_D A [(o, .inr (3, [.ref tp, .int (nI bh2), .int 2, .int (nI sr), .int fl, .int pl])), (tp, .inr (7, [.ref tp_bytes, .int (nI sz0)])), (tp_bytes, .inl (cB, 1600, .inl fb))] := hD
    refine lv_aload_n hx hb dX3_stepLetters_49 rfl (lv_at hl 0 rfl) ?_
    refine va_get (D := D) (ci := 3) (v := .int (nI bh2)) (C := RX3) (T := TX3) (N := 6) hx hb hts (by decide +kernel) hown hK hP 0 rfl rfl 1 (by decide) (hts (.fieldLink RX3 27 "LastLetter$Reader" "behind" "I") (by decide +kernel)) (fun _ h9 => h9) rfl dX3_stepLetters_50 ?_
    refine lv_aload_n hx hb dX3_stepLetters_53 rfl (lv_at hl 0 rfl) ?_
    refine va_get (D := D) (ci := 3) (v := .int (nI sr)) (C := RX3) (T := TX3) (N := 6) hx hb hts (by decide +kernel) hown hK hP 0 rfl rfl 3 (by decide) (hts (.fieldLink RX3 87 "LastLetter$Reader" "start" "I") (by decide +kernel)) (fun _ h9 => h9) rfl dX3_stepLetters_54 ?_
    refine lv_isub hx hb dX3_stepLetters_57 ?_
    refine xb_top (y := nI (bh2 - sr)) (pk_sub (a := bh2) (b := sr) (by omega)) ?_
    refine lv_bipush (v := 8) hx hb dX3_stepLetters_58 (by decide) ?_
    refine lv_icmp_le (tgt := 73) hx hb dX3_stepLetters_60 (by decide) (fun c_5 => ?_) (fun c_5 => ?_)
    · have dc_5 : bh2 - sr ≤ 8 := (nI_leI (a := bh2 - sr) (b := 8) (by omega) (by omega)).mp c_5
      have hP9 := hP.sub (ws' := [(o, .inr (3, [.ref tp, .int (nI bh2), .int 2, .int (nI sr), .int fl, .int pl])), (tp, .inr (7, [.ref tp_bytes, .int (nI sz0)])), (tp_bytes, .inl (cB, 1600, .inl fb))]) [0, 1, 2] rfl
      have hD9 := hD.sub (ws' := [(o, .inr (3, [.ref tp, .int (nI bh2), .int 2, .int (nI sr), .int fl, .int pl])), (tp, .inr (7, [.ref tp_bytes, .int (nI sz0)])), (tp_bytes, .inl (cB, 1600, .inl fb))]) [0, 1, 2] (by decide) rfl
      refine W.widen (k := 0) (n := 0) (Nat.le_of_ble_eq_true rfl) (Nat.le_of_ble_eq_true rfl) ?_
      exact W.vret hx hb hr (fun tz htz hWz => ⟨⟨[(o, .inr (3, [.ref tp, .int (nI bh2), .int 2, .int (nI sr), .int fl, .int pl])), (tp, .inr (7, [.ref tp_bytes, .int (nI sz0)])), (tp_bytes, .inl (cB, 1600, .inl fb))], rfl, ⟨bh2, 2, fl, pl, rfl, (by omega), (by omega), (fun h => h), (fun _ _ => hF_h_3)⟩, by rw [htz]; exact hP9, va_K.moved hWz.alike hK, hD9⟩, hS.F htz⟩) hS.2.2 dX3_stepLetters_73
    · have dc_5 : ¬ (bh2 - sr) ≤ 8 := fun h => c_5 ((nI_leI (a := bh2 - sr) (b := 8) (by omega) (by omega)).mpr h)
      refine lv_aload_n hx hb dX3_stepLetters_63 rfl (lv_at hl 0 rfl) ?_
      refine lv_iconst (v := 0) hx hb dX3_stepLetters_64 (by decide) ?_
      refine va_put (D := D) (ci := 3) (v := .int 0) (ty := .int) (C := RX3) (T := TX3) (N := 6) hx hb hts (by decide +kernel) tyX3 tyX3_ok nmX3 hown hK hP hD hS 0 rfl rfl 2 (by decide) (hts (.fieldLink RX3 33 "LastLetter$Reader" "kind" "I") (by decide +kernel)) (fun _ h9 => h9) rfl (by decide +kernel) rfl rfl (Nat.le_of_ble_eq_true rfl) dX3_stepLetters_65 (fun H locs hP hD hS => ?_)
      have hP : va_P D vwCl [(o, .inr (3, [.ref tp, .int (nI bh2), .int 0, .int (nI sr), .int fl, .int pl])), (tp, .inr (7, [.ref tp_bytes, .int (nI sz0)])), (tp_bytes, .inl (cB, 1600, .inl fb))] H := hP
      have hD : va_D A [(o, .inr (3, [.ref tp, .int (nI bh2), .int 0, .int (nI sr), .int fl, .int pl])), (tp, .inr (7, [.ref tp_bytes, .int (nI sz0)])), (tp_bytes, .inl (cB, 1600, .inl fb))] := hD
      refine lv_aload_n hx hb dX3_stepLetters_68 rfl (lv_at hl 0 rfl) ?_
      refine lv_iconst (v := 1) hx hb dX3_stepLetters_69 (by decide) ?_
      refine xCv (wr := [(tp, .inr (7, [.ref tp_bytes, .int (nI sz0)])), (tp_bytes, .inl (cB, 1600, .inl fb))]) (win := [(o, .inr (3, [.ref tp, .int (nI bh2), .int 0, .int (nI sr), .int fl, .int pl]))]) hP hD hS hA [0] [1, 2] rfl rfl (by decide) (by decide) (va_runV (As := [.int 1]) (rest := []) ⟨hx, hb, hml, hown, hts⟩ (c_X3_refuse l D cB cI cJ cS cZ cO H.size o 1 tp (nI bh2) 0 (nI sr) fl pl (by first | assumption | omega | decide)) (cwV 1 hts gX3_stepLetters_X3_refuse rfl rfl rfl (by decide +kernel) ⟨Nat.le_of_ble_eq_true rfl, Nat.le_of_ble_eq_true rfl⟩) (xPreV (win := [(o, .inr (3, [.ref tp, .int (nI bh2), .int 0, .int (nI sr), .int fl, .int pl]))]) hN hK hP hD [0] (by decide) rfl 0 3 rfl rfl rfl) rfl rfl hl.1 rfl (lv_room (Nat.le_of_ble_eq_true rfl)) dX3_stepLetters_70 ⟨Nat.le_of_ble_eq_true rfl, Nat.le_of_ble_eq_true rfl⟩) (fun w0 H locs hw hP hD hS => ?_)
      obtain ⟨fl2_6, pl2_7, rfl, hf_8⟩ := hw
      have hP : va_P D vwCl [(tp, .inr (7, [.ref tp_bytes, .int (nI sz0)])), (tp_bytes, .inl (cB, 1600, .inl fb)), (o, .inr (3, [.ref tp, .int (nI bh2), .int 0, .int (nI sr), .int fl2_6, .int pl2_7]))] H := hP
      have hD : va_D A [(tp, .inr (7, [.ref tp_bytes, .int (nI sz0)])), (tp_bytes, .inl (cB, 1600, .inl fb)), (o, .inr (3, [.ref tp, .int (nI bh2), .int 0, .int (nI sr), .int fl2_6, .int pl2_7]))] := hD
      have hP9 := hP.sub (ws' := [(o, .inr (3, [.ref tp, .int (nI bh2), .int 0, .int (nI sr), .int fl2_6, .int pl2_7])), (tp, .inr (7, [.ref tp_bytes, .int (nI sz0)])), (tp_bytes, .inl (cB, 1600, .inl fb))]) [2, 0, 1] rfl
      have hD9 := hD.sub (ws' := [(o, .inr (3, [.ref tp, .int (nI bh2), .int 0, .int (nI sr), .int fl2_6, .int pl2_7])), (tp, .inr (7, [.ref tp_bytes, .int (nI sz0)])), (tp_bytes, .inl (cB, 1600, .inl fb))]) [2, 0, 1] (by decide) rfl
      refine W.widen (k := 0) (n := 0) (Nat.le_of_ble_eq_true rfl) (Nat.le_of_ble_eq_true rfl) ?_
      exact W.vret hx hb hr (fun tz htz hWz => ⟨⟨[(o, .inr (3, [.ref tp, .int (nI bh2), .int 0, .int (nI sr), .int fl2_6, .int pl2_7])), (tp, .inr (7, [.ref tp_bytes, .int (nI sz0)])), (tp_bytes, .inl (cB, 1600, .inl fb))], rfl, ⟨bh2, 0, fl2_6, pl2_7, rfl, (by omega), (by omega), (fun h => absurd h hf_8), (fun h => absurd h hf_8)⟩, by rw [htz]; exact hP9, va_K.moved hWz.alike hK, hD9⟩, hS.F htz⟩) hS.2.2 dX3_stepLetters_73
  · have dc_4 : ¬ sz0 ≤ bh2 := fun h => c_4 ((nI_leI (a := sz0) (b := bh2) (by omega) (by omega)).mpr h)
    refine lv_aload_n hx hb dX3_stepLetters_14 rfl (lv_at hl 0 rfl) ?_
    refine va_get (D := D) (ci := 3) (v := .ref tp) (C := RX3) (T := TX3) (N := 6) hx hb hts (by decide +kernel) hown hK hP 0 rfl rfl 0 (by decide) (hts (.fieldLink RX3 15 "LastLetter$Reader" "tape" "LLastLetter$Tape;") (by decide +kernel)) (fun _ h9 => h9) rfl dX3_stepLetters_15 ?_
    refine lv_aload_n hx hb dX3_stepLetters_18 rfl (lv_at hl 0 rfl) ?_
    refine va_get (D := D) (ci := 3) (v := .int (nI bh2)) (C := RX3) (T := TX3) (N := 6) hx hb hts (by decide +kernel) hown hK hP 0 rfl rfl 1 (by decide) (hts (.fieldLink RX3 27 "LastLetter$Reader" "behind" "I") (by decide +kernel)) (fun _ h9 => h9) rfl dX3_stepLetters_19 ?_
    refine xCi (wr := [(o, .inr (3, [.ref tp, .int (nI bh2), .int kd, .int (nI sr), .int fl, .int pl]))]) (win := [(tp, .inr (7, [.ref tp_bytes, .int (nI sz0)])), (tp_bytes, .inl (cB, 1600, .inl fb))]) hP hD hS hA [1, 2] [0] rfl rfl (by decide) (by decide) (va_runV (As := [.int (nI bh2)]) (rest := []) ⟨hx, hb, hml, hown, hts⟩ (c_X7_at_in l D cB cI cJ cS cZ cO H.size tp bh2 tp_bytes sz0 fb (by first | assumption | omega | decide) (by first | assumption | omega | decide)) (cwV 1 hts gX3_stepLetters_X7_at rfl rfl rfl (by decide +kernel) ⟨Nat.le_of_ble_eq_true rfl, Nat.le_of_ble_eq_true rfl⟩) (xPreV (win := [(tp, .inr (7, [.ref tp_bytes, .int (nI sz0)])), (tp_bytes, .inl (cB, 1600, .inl fb))]) hN hK hP hD [1, 2] (by decide) rfl 1 7 rfl rfl rfl) rfl rfl hl.1 rfl (lv_room (Nat.le_of_ble_eq_true rfl)) dX3_stepLetters_22 ⟨Nat.le_of_ble_eq_true rfl, Nat.le_of_ble_eq_true rfl⟩) (fun r0 w0 H locs hw hP hD hS => ?_)
    obtain ⟨rfl, rfl⟩ := hw
    have hP : va_P D vwCl [(o, .inr (3, [.ref tp, .int (nI bh2), .int kd, .int (nI sr), .int fl, .int pl])), (tp, .inr (7, [.ref tp_bytes, .int (nI sz0)])), (tp_bytes, .inl (cB, 1600, .inl fb))] H := hP
    have hD : va_D A [(o, .inr (3, [.ref tp, .int (nI bh2), .int kd, .int (nI sr), .int fl, .int pl])), (tp, .inr (7, [.ref tp_bytes, .int (nI sz0)])), (tp_bytes, .inl (cB, 1600, .inl fb))] := hD
    refine xCi (wr := [(o, .inr (3, [.ref tp, .int (nI bh2), .int kd, .int (nI sr), .int fl, .int pl])), (tp, .inr (7, [.ref tp_bytes, .int (nI sz0)])), (tp_bytes, .inl (cB, 1600, .inl fb))]) (win := []) hP hD hS hA [] [0, 1, 2] rfl rfl (by decide) (by decide) (va_runS (As := [.int (fb bh2 &&& 255)]) (rest := []) ⟨hx, hb, hml, hown, hts⟩ (c_X3_isLetter l D cB cI cJ cS cZ cO H.size (fb bh2 &&& 255) ) (va_cwS 1 hts gX3_stepLetters_X3_isLetter rfl rfl rfl (by decide +kernel) ⟨Nat.le_of_ble_eq_true rfl, Nat.le_of_ble_eq_true rfl⟩) (xPreS (win := []) hN hK hP hD [] (by decide) rfl) rfl rfl hl.1 rfl (lv_room (Nat.le_of_ble_eq_true rfl)) dX3_stepLetters_25 ⟨Nat.le_of_ble_eq_true rfl, Nat.le_of_ble_eq_true rfl⟩) (fun r_9 w0 H locs hw hP hD hS => ?_)
    obtain ⟨rfl, hf_10, hf_11⟩ := hw
    have hP : va_P D vwCl [(o, .inr (3, [.ref tp, .int (nI bh2), .int kd, .int (nI sr), .int fl, .int pl])), (tp, .inr (7, [.ref tp_bytes, .int (nI sz0)])), (tp_bytes, .inl (cB, 1600, .inl fb))] H := hP
    have hD : va_D A [(o, .inr (3, [.ref tp, .int (nI bh2), .int kd, .int (nI sr), .int fl, .int pl])), (tp, .inr (7, [.ref tp_bytes, .int (nI sz0)])), (tp_bytes, .inl (cB, 1600, .inl fb))] := hD
    refine lv_if_eq (tgt := 44) hx hb dX3_stepLetters_28 (by decide) (fun c_12 => ?_) (fun c_12 => ?_)
    · refine lv_aload_n hx hb dX3_stepLetters_44 rfl (lv_at hl 0 rfl) ?_
      refine lv_iconst (v := 2) hx hb dX3_stepLetters_45 (by decide) ?_
      refine va_put (D := D) (ci := 3) (v := .int 2) (ty := .int) (C := RX3) (T := TX3) (N := 6) hx hb hts (by decide +kernel) tyX3 tyX3_ok nmX3 hown hK hP hD hS 0 rfl rfl 2 (by decide) (hts (.fieldLink RX3 33 "LastLetter$Reader" "kind" "I") (by decide +kernel)) (fun _ h9 => h9) rfl (by decide +kernel) rfl rfl (Nat.le_of_ble_eq_true rfl) dX3_stepLetters_46 (fun H locs hP hD hS => ?_)
      have hP : va_P D vwCl [(o, .inr (3, [.ref tp, .int (nI bh2), .int 2, .int (nI sr), .int fl, .int pl])), (tp, .inr (7, [.ref tp_bytes, .int (nI sz0)])), (tp_bytes, .inl (cB, 1600, .inl fb))] H := hP
      have hD : va_D A [(o, .inr (3, [.ref tp, .int (nI bh2), .int 2, .int (nI sr), .int fl, .int pl])), (tp, .inr (7, [.ref tp_bytes, .int (nI sz0)])), (tp_bytes, .inl (cB, 1600, .inl fb))] := hD
      refine lv_aload_n hx hb dX3_stepLetters_49 rfl (lv_at hl 0 rfl) ?_
      refine va_get (D := D) (ci := 3) (v := .int (nI bh2)) (C := RX3) (T := TX3) (N := 6) hx hb hts (by decide +kernel) hown hK hP 0 rfl rfl 1 (by decide) (hts (.fieldLink RX3 27 "LastLetter$Reader" "behind" "I") (by decide +kernel)) (fun _ h9 => h9) rfl dX3_stepLetters_50 ?_
      refine lv_aload_n hx hb dX3_stepLetters_53 rfl (lv_at hl 0 rfl) ?_
      refine va_get (D := D) (ci := 3) (v := .int (nI sr)) (C := RX3) (T := TX3) (N := 6) hx hb hts (by decide +kernel) hown hK hP 0 rfl rfl 3 (by decide) (hts (.fieldLink RX3 87 "LastLetter$Reader" "start" "I") (by decide +kernel)) (fun _ h9 => h9) rfl dX3_stepLetters_54 ?_
      refine lv_isub hx hb dX3_stepLetters_57 ?_
      refine xb_top (y := nI (bh2 - sr)) (pk_sub (a := bh2) (b := sr) (by omega)) ?_
      refine lv_bipush (v := 8) hx hb dX3_stepLetters_58 (by decide) ?_
      refine lv_icmp_le (tgt := 73) hx hb dX3_stepLetters_60 (by decide) (fun c_13 => ?_) (fun c_13 => ?_)
      · have dc_13 : bh2 - sr ≤ 8 := (nI_leI (a := bh2 - sr) (b := 8) (by omega) (by omega)).mp c_13
        have hP9 := hP.sub (ws' := [(o, .inr (3, [.ref tp, .int (nI bh2), .int 2, .int (nI sr), .int fl, .int pl])), (tp, .inr (7, [.ref tp_bytes, .int (nI sz0)])), (tp_bytes, .inl (cB, 1600, .inl fb))]) [0, 1, 2] rfl
        have hD9 := hD.sub (ws' := [(o, .inr (3, [.ref tp, .int (nI bh2), .int 2, .int (nI sr), .int fl, .int pl])), (tp, .inr (7, [.ref tp_bytes, .int (nI sz0)])), (tp_bytes, .inl (cB, 1600, .inl fb))]) [0, 1, 2] (by decide) rfl
        refine W.widen (k := 0) (n := 0) (Nat.le_of_ble_eq_true rfl) (Nat.le_of_ble_eq_true rfl) ?_
        exact W.vret hx hb hr (fun tz htz hWz => ⟨⟨[(o, .inr (3, [.ref tp, .int (nI bh2), .int 2, .int (nI sr), .int fl, .int pl])), (tp, .inr (7, [.ref tp_bytes, .int (nI sz0)])), (tp_bytes, .inl (cB, 1600, .inl fb))], rfl, ⟨bh2, 2, fl, pl, rfl, (by omega), (by omega), (fun h => h), (fun _ _ => hF_h_3)⟩, by rw [htz]; exact hP9, va_K.moved hWz.alike hK, hD9⟩, hS.F htz⟩) hS.2.2 dX3_stepLetters_73
      · have dc_13 : ¬ (bh2 - sr) ≤ 8 := fun h => c_13 ((nI_leI (a := bh2 - sr) (b := 8) (by omega) (by omega)).mpr h)
        refine lv_aload_n hx hb dX3_stepLetters_63 rfl (lv_at hl 0 rfl) ?_
        refine lv_iconst (v := 0) hx hb dX3_stepLetters_64 (by decide) ?_
        refine va_put (D := D) (ci := 3) (v := .int 0) (ty := .int) (C := RX3) (T := TX3) (N := 6) hx hb hts (by decide +kernel) tyX3 tyX3_ok nmX3 hown hK hP hD hS 0 rfl rfl 2 (by decide) (hts (.fieldLink RX3 33 "LastLetter$Reader" "kind" "I") (by decide +kernel)) (fun _ h9 => h9) rfl (by decide +kernel) rfl rfl (Nat.le_of_ble_eq_true rfl) dX3_stepLetters_65 (fun H locs hP hD hS => ?_)
        have hP : va_P D vwCl [(o, .inr (3, [.ref tp, .int (nI bh2), .int 0, .int (nI sr), .int fl, .int pl])), (tp, .inr (7, [.ref tp_bytes, .int (nI sz0)])), (tp_bytes, .inl (cB, 1600, .inl fb))] H := hP
        have hD : va_D A [(o, .inr (3, [.ref tp, .int (nI bh2), .int 0, .int (nI sr), .int fl, .int pl])), (tp, .inr (7, [.ref tp_bytes, .int (nI sz0)])), (tp_bytes, .inl (cB, 1600, .inl fb))] := hD
        refine lv_aload_n hx hb dX3_stepLetters_68 rfl (lv_at hl 0 rfl) ?_
        refine lv_iconst (v := 1) hx hb dX3_stepLetters_69 (by decide) ?_
        refine xCv (wr := [(tp, .inr (7, [.ref tp_bytes, .int (nI sz0)])), (tp_bytes, .inl (cB, 1600, .inl fb))]) (win := [(o, .inr (3, [.ref tp, .int (nI bh2), .int 0, .int (nI sr), .int fl, .int pl]))]) hP hD hS hA [0] [1, 2] rfl rfl (by decide) (by decide) (va_runV (As := [.int 1]) (rest := []) ⟨hx, hb, hml, hown, hts⟩ (c_X3_refuse l D cB cI cJ cS cZ cO H.size o 1 tp (nI bh2) 0 (nI sr) fl pl (by first | assumption | omega | decide)) (cwV 1 hts gX3_stepLetters_X3_refuse rfl rfl rfl (by decide +kernel) ⟨Nat.le_of_ble_eq_true rfl, Nat.le_of_ble_eq_true rfl⟩) (xPreV (win := [(o, .inr (3, [.ref tp, .int (nI bh2), .int 0, .int (nI sr), .int fl, .int pl]))]) hN hK hP hD [0] (by decide) rfl 0 3 rfl rfl rfl) rfl rfl hl.1 rfl (lv_room (Nat.le_of_ble_eq_true rfl)) dX3_stepLetters_70 ⟨Nat.le_of_ble_eq_true rfl, Nat.le_of_ble_eq_true rfl⟩) (fun w0 H locs hw hP hD hS => ?_)
        obtain ⟨fl2_14, pl2_15, rfl, hf_16⟩ := hw
        have hP : va_P D vwCl [(tp, .inr (7, [.ref tp_bytes, .int (nI sz0)])), (tp_bytes, .inl (cB, 1600, .inl fb)), (o, .inr (3, [.ref tp, .int (nI bh2), .int 0, .int (nI sr), .int fl2_14, .int pl2_15]))] H := hP
        have hD : va_D A [(tp, .inr (7, [.ref tp_bytes, .int (nI sz0)])), (tp_bytes, .inl (cB, 1600, .inl fb)), (o, .inr (3, [.ref tp, .int (nI bh2), .int 0, .int (nI sr), .int fl2_14, .int pl2_15]))] := hD
        have hP9 := hP.sub (ws' := [(o, .inr (3, [.ref tp, .int (nI bh2), .int 0, .int (nI sr), .int fl2_14, .int pl2_15])), (tp, .inr (7, [.ref tp_bytes, .int (nI sz0)])), (tp_bytes, .inl (cB, 1600, .inl fb))]) [2, 0, 1] rfl
        have hD9 := hD.sub (ws' := [(o, .inr (3, [.ref tp, .int (nI bh2), .int 0, .int (nI sr), .int fl2_14, .int pl2_15])), (tp, .inr (7, [.ref tp_bytes, .int (nI sz0)])), (tp_bytes, .inl (cB, 1600, .inl fb))]) [2, 0, 1] (by decide) rfl
        refine W.widen (k := 0) (n := 0) (Nat.le_of_ble_eq_true rfl) (Nat.le_of_ble_eq_true rfl) ?_
        exact W.vret hx hb hr (fun tz htz hWz => ⟨⟨[(o, .inr (3, [.ref tp, .int (nI bh2), .int 0, .int (nI sr), .int fl2_14, .int pl2_15])), (tp, .inr (7, [.ref tp_bytes, .int (nI sz0)])), (tp_bytes, .inl (cB, 1600, .inl fb))], rfl, ⟨bh2, 0, fl2_14, pl2_15, rfl, (by omega), (by omega), (fun h => absurd h hf_16), (fun h => absurd h hf_16)⟩, by rw [htz]; exact hP9, va_K.moved hWz.alike hK, hD9⟩, hS.F htz⟩) hS.2.2 dX3_stepLetters_73
    · refine lv_aload_n hx hb dX3_stepLetters_31 rfl (lv_at hl 0 rfl) ?_
      refine lv_dup hx hb dX3_stepLetters_32 rfl ?_
      refine va_get (D := D) (ci := 3) (v := .int (nI bh2)) (C := RX3) (T := TX3) (N := 6) hx hb hts (by decide +kernel) hown hK hP 0 rfl rfl 1 (by decide) (hts (.fieldLink RX3 27 "LastLetter$Reader" "behind" "I") (by decide +kernel)) (fun _ h9 => h9) rfl dX3_stepLetters_33 ?_
      refine lv_iconst (v := 1) hx hb dX3_stepLetters_36 (by decide) ?_
      refine lv_iadd hx hb dX3_stepLetters_37 ?_
      refine xb_top (y := nI (bh2 + 1)) (nI_add bh2 1) ?_
      refine va_put (D := D) (ci := 3) (v := .int (nI (bh2 + 1))) (ty := .int) (C := RX3) (T := TX3) (N := 6) hx hb hts (by decide +kernel) tyX3 tyX3_ok nmX3 hown hK hP hD hS 0 rfl rfl 1 (by decide) (hts (.fieldLink RX3 27 "LastLetter$Reader" "behind" "I") (by decide +kernel)) (fun _ h9 => h9) rfl (by decide +kernel) rfl rfl (Nat.le_of_ble_eq_true rfl) dX3_stepLetters_38 (fun H locs hP hD hS => ?_)
      have hP : va_P D vwCl [(o, .inr (3, [.ref tp, .int (nI (bh2 + 1)), .int kd, .int (nI sr), .int fl, .int pl])), (tp, .inr (7, [.ref tp_bytes, .int (nI sz0)])), (tp_bytes, .inl (cB, 1600, .inl fb))] H := hP
      have hD : va_D A [(o, .inr (3, [.ref tp, .int (nI (bh2 + 1)), .int kd, .int (nI sr), .int fl, .int pl])), (tp, .inr (7, [.ref tp_bytes, .int (nI sz0)])), (tp_bytes, .inl (cB, 1600, .inl fb))] := hD
      refine lv_goto (tgt := 0) hx hb dX3_stepLetters_41 (by decide) ?_
      obtain ⟨q9, hq9, eq9⟩ := hf_11 ((hf_10).resolve_left c_12)
      exact kk_0 _ _ _ _ (by rw [← hn_0]; omega) ⟨(bh2 + 1), rfl, hP, hD, hS, lv_sub hl [0] rfl, (by omega), (by omega), (ltr_1 hF_h_3 hq9 eq9)⟩

set_option maxHeartbeats 4000000 in
set_option maxRecDepth 100000 in
theorem c_X3_stepDigits (l : Launch) (D : va_G) (cB cI cJ cS cZ cO : ClassId) (sz : Nat) (o : Nat) (tp : Nat) (bh : Nat) (kd : Int32) (sr : Nat) (fl : Int32) (pl : Int32) (tp_bytes : Nat) (sz0 : Nat) (fb : Nat → Int32) (hsz : sz0 ≤ 1600) (hbh : bh ≤ sz0) (hsr : sr ≤ bh) : Met l yX3_stepDigits wsX3_stepDigits ({ frames := 1, cells := 0, slots := 0, locals := 21 }) (xPre D (tyL cB cI cJ cS cZ cO) [(o, .inr (3, [.ref tp, .int (nI bh), .int kd, .int (nI sr), .int fl, .int pl])), (tp, .inr (7, [.ref tp_bytes, .int (nI sz0)])), (tp_bytes, .inl (cB, 1600, .inl fb))] sz [.ref o]) (xQv D (tyL cB cI cJ cS cZ cO) (va_A [(o, .inr (3, [.ref tp, .int (nI bh), .int kd, .int (nI sr), .int fl, .int pl])), (tp, .inr (7, [.ref tp_bytes, .int (nI sz0)])), (tp_bytes, .inl (cB, 1600, .inl fb))] sz) (fun u : va_W => ∃ bh2 : Nat, ∃ kd2 : Int32, ∃ fl2 : Int32, ∃ pl2 : Int32, u = [(o, .inr (3, [.ref tp, .int (nI bh2), .int kd2, .int (nI sr), .int fl2, .int pl2])), (tp, .inr (7, [.ref tp_bytes, .int (nI sz0)])), (tp_bytes, .inl (cB, 1600, .inl fb))] ∧ bh2 ≤ sz0 ∧ sr ≤ bh2 ∧ (fl2 = 0 → fl = 0) ∧ (fl2 = 0 → kd2 = 2 → ltr fb sr bh2))) 0 0 (va_A [(o, .inr (3, [.ref tp, .int (nI bh), .int kd, .int (nI sr), .int fl, .int pl])), (tp, .inr (7, [.ref tp_bytes, .int (nI sz0)])), (tp_bytes, .inl (cB, 1600, .inl fb))] sz) := by
  refine Met.ofW (cc := cX3_stepDigits) (maxL := 1) (ret := none) (by decide) rfl ?_
  intro p e s m args below meth c s₁ B hml hv
  obtain ⟨rfl, hsz, hP, hK, hD0, hN⟩ := hv
  have hx := B.exec
  have hb := B.bytes
  have hr := B.returns
  have hts := atoms_spec (ws := wsX3_stepDigits) B.pre
  have hown : s.vm.findClass RX3 = some m.cls := findClass_of_methodNamed B.named
  have hlocks := B.notSynchronized
  subst hsz
  have hD := hD0.self (sz := s.heap.size)
  generalize hAe : va_A [(o, .inr (3, [.ref tp, .int (nI bh), .int kd, .int (nI sr), .int fl, .int pl])), (tp, .inr (7, [.ref tp_bytes, .int (nI sz0)])), (tp_bytes, .inl (cB, 1600, .inl fb))] s.heap.size = A at hD ⊢
  have hA : ∀ q : Nat, s.heap.size ≤ q → A q := fun q h => by rw [← hAe]; exact Or.inr h
  have hS : va_S A s.heap s.heap [] := va_S.rf
  have hP : va_P D vwCl [(o, .inr (3, [.ref tp, .int (nI bh), .int kd, .int (nI sr), .int fl, .int pl])), (tp, .inr (7, [.ref tp_bytes, .int (nI sz0)])), (tp_bytes, .inl (cB, 1600, .inl fb))] s.heap := hP
  have hl := lv_entry ([.ref o]) (n := 1) (Nat.le_of_ble_eq_true rfl)
  rw [lg_entry_eq]
  generalize (lg_sl ([.ref o]) ++ List.replicate (1 - (lg_sl ([.ref o])).length) Slot.unset).toArray = ls at hl ⊢
  have hl : lv_has ls 1 [(0, .ref o)] := hl
  refine xb_wh (fun (n9 : Nat) H locs ls => ∃ bh2 : Nat, (sz0 - bh2) = n9 ∧ va_P D vwCl [(o, .inr (3, [.ref tp, .int (nI bh2), .int kd, .int (nI sr), .int fl, .int pl])), (tp, .inr (7, [.ref tp_bytes, .int (nI sz0)])), (tp_bytes, .inl (cB, 1600, .inl fb))] H ∧ va_D A [(o, .inr (3, [.ref tp, .int (nI bh2), .int kd, .int (nI sr), .int fl, .int pl])), (tp, .inr (7, [.ref tp_bytes, .int (nI sz0)])), (tp_bytes, .inl (cB, 1600, .inl fb))] ∧ va_S A s.heap H locs ∧ lv_has ls 1 [(0, .ref o)] ∧ (bh2 ≤ sz0) ∧ (sr ≤ bh2)) ⟨bh, rfl, hP, hD, hS, lv_sub hl [0] rfl, hbh, hsr⟩ (fun n9 H locs ls hI kk_0 => ?_)
  obtain ⟨bh2, hn_0, hP, hD, hS, hl, hF_h_1, hF_h_2⟩ := hI
  refine lv_aload_n hx hb dX3_stepDigits_0 rfl (lv_at hl 0 rfl) ?_
  refine va_get (D := D) (ci := 3) (v := .int (nI bh2)) (C := RX3) (T := TX3) (N := 6) hx hb hts (by decide +kernel) hown hK hP 0 rfl rfl 1 (by decide) (hts (.fieldLink RX3 27 "LastLetter$Reader" "behind" "I") (by decide +kernel)) (fun _ h9 => h9) rfl dX3_stepDigits_1 ?_
  refine lv_aload_n hx hb dX3_stepDigits_4 rfl (lv_at hl 0 rfl) ?_
  refine va_get (D := D) (ci := 3) (v := .ref tp) (C := RX3) (T := TX3) (N := 6) hx hb hts (by decide +kernel) hown hK hP 0 rfl rfl 0 (by decide) (hts (.fieldLink RX3 15 "LastLetter$Reader" "tape" "LLastLetter$Tape;") (by decide +kernel)) (fun _ h9 => h9) rfl dX3_stepDigits_5 ?_
  refine va_getN (D := D) (ci := 7) (v := .int (nI sz0)) (C := RX7) (T := TX7) (N := 2) hx hb hts (by decide +kernel) hown hK hP 1 rfl rfl 1 (by decide) (va_Nw.use rfl (hN.1 (RX3, 132, RX7, "size", "I", RX10) (by decide +kernel))) (fun _ h9 => h9) rfl dX3_stepDigits_8 ?_
  refine lv_icmp_ge (tgt := 44) hx hb dX3_stepDigits_11 (by decide) (fun c_3 => ?_) (fun c_3 => ?_)
  · have dc_3 : sz0 ≤ bh2 := (nI_leI (a := sz0) (b := bh2) (by omega) (by omega)).mp c_3
    refine lv_aload_n hx hb dX3_stepDigits_44 rfl (lv_at hl 0 rfl) ?_
    refine lv_iconst (v := 3) hx hb dX3_stepDigits_45 (by decide) ?_
    refine va_put (D := D) (ci := 3) (v := .int 3) (ty := .int) (C := RX3) (T := TX3) (N := 6) hx hb hts (by decide +kernel) tyX3 tyX3_ok nmX3 hown hK hP hD hS 0 rfl rfl 2 (by decide) (hts (.fieldLink RX3 33 "LastLetter$Reader" "kind" "I") (by decide +kernel)) (fun _ h9 => h9) rfl (by decide +kernel) rfl rfl (Nat.le_of_ble_eq_true rfl) dX3_stepDigits_46 (fun H locs hP hD hS => ?_)
    have hP : va_P D vwCl [(o, .inr (3, [.ref tp, .int (nI bh2), .int 3, .int (nI sr), .int fl, .int pl])), (tp, .inr (7, [.ref tp_bytes, .int (nI sz0)])), (tp_bytes, .inl (cB, 1600, .inl fb))] H := hP
    have hD : va_D A [(o, .inr (3, [.ref tp, .int (nI bh2), .int 3, .int (nI sr), .int fl, .int pl])), (tp, .inr (7, [.ref tp_bytes, .int (nI sz0)])), (tp_bytes, .inl (cB, 1600, .inl fb))] := hD
    refine lv_aload_n hx hb dX3_stepDigits_49 rfl (lv_at hl 0 rfl) ?_
    refine va_get (D := D) (ci := 3) (v := .int (nI bh2)) (C := RX3) (T := TX3) (N := 6) hx hb hts (by decide +kernel) hown hK hP 0 rfl rfl 1 (by decide) (hts (.fieldLink RX3 27 "LastLetter$Reader" "behind" "I") (by decide +kernel)) (fun _ h9 => h9) rfl dX3_stepDigits_50 ?_
    refine lv_aload_n hx hb dX3_stepDigits_53 rfl (lv_at hl 0 rfl) ?_
    refine va_get (D := D) (ci := 3) (v := .int (nI sr)) (C := RX3) (T := TX3) (N := 6) hx hb hts (by decide +kernel) hown hK hP 0 rfl rfl 3 (by decide) (hts (.fieldLink RX3 87 "LastLetter$Reader" "start" "I") (by decide +kernel)) (fun _ h9 => h9) rfl dX3_stepDigits_54 ?_
    refine lv_isub hx hb dX3_stepDigits_57 ?_
    refine xb_top (y := nI (bh2 - sr)) (pk_sub (a := bh2) (b := sr) (by omega)) ?_
    refine lv_iconst (v := 4) hx hb dX3_stepDigits_58 (by decide) ?_
    refine lv_icmp_gt (tgt := 79) hx hb dX3_stepDigits_59 (by decide) (fun c_4 => ?_) (fun c_4 => ?_)
    · have dc_4 : 4 < bh2 - sr := (nI_ltI (a := 4) (b := bh2 - sr) (by omega) (by omega)).mp c_4
      refine lv_aload_n hx hb dX3_stepDigits_79 rfl (lv_at hl 0 rfl) ?_
      refine lv_iconst (v := 0) hx hb dX3_stepDigits_80 (by decide) ?_
      refine va_put (D := D) (ci := 3) (v := .int 0) (ty := .int) (C := RX3) (T := TX3) (N := 6) hx hb hts (by decide +kernel) tyX3 tyX3_ok nmX3 hown hK hP hD hS 0 rfl rfl 2 (by decide) (hts (.fieldLink RX3 33 "LastLetter$Reader" "kind" "I") (by decide +kernel)) (fun _ h9 => h9) rfl (by decide +kernel) rfl rfl (Nat.le_of_ble_eq_true rfl) dX3_stepDigits_81 (fun H locs hP hD hS => ?_)
      have hP : va_P D vwCl [(o, .inr (3, [.ref tp, .int (nI bh2), .int 0, .int (nI sr), .int fl, .int pl])), (tp, .inr (7, [.ref tp_bytes, .int (nI sz0)])), (tp_bytes, .inl (cB, 1600, .inl fb))] H := hP
      have hD : va_D A [(o, .inr (3, [.ref tp, .int (nI bh2), .int 0, .int (nI sr), .int fl, .int pl])), (tp, .inr (7, [.ref tp_bytes, .int (nI sz0)])), (tp_bytes, .inl (cB, 1600, .inl fb))] := hD
      refine lv_aload_n hx hb dX3_stepDigits_84 rfl (lv_at hl 0 rfl) ?_
      refine lv_iconst (v := 1) hx hb dX3_stepDigits_85 (by decide) ?_
      refine xCv (wr := [(tp, .inr (7, [.ref tp_bytes, .int (nI sz0)])), (tp_bytes, .inl (cB, 1600, .inl fb))]) (win := [(o, .inr (3, [.ref tp, .int (nI bh2), .int 0, .int (nI sr), .int fl, .int pl]))]) hP hD hS hA [0] [1, 2] rfl rfl (by decide) (by decide) (va_runV (As := [.int 1]) (rest := []) ⟨hx, hb, hml, hown, hts⟩ (c_X3_refuse l D cB cI cJ cS cZ cO H.size o 1 tp (nI bh2) 0 (nI sr) fl pl (by first | assumption | omega | decide)) (cwV 1 hts gX3_stepDigits_X3_refuse rfl rfl rfl (by decide +kernel) ⟨Nat.le_of_ble_eq_true rfl, Nat.le_of_ble_eq_true rfl⟩) (xPreV (win := [(o, .inr (3, [.ref tp, .int (nI bh2), .int 0, .int (nI sr), .int fl, .int pl]))]) hN hK hP hD [0] (by decide) rfl 0 3 rfl rfl rfl) rfl rfl hl.1 rfl (lv_room (Nat.le_of_ble_eq_true rfl)) dX3_stepDigits_86 ⟨Nat.le_of_ble_eq_true rfl, Nat.le_of_ble_eq_true rfl⟩) (fun w0 H locs hw hP hD hS => ?_)
      obtain ⟨fl2_5, pl2_6, rfl, hf_7⟩ := hw
      have hP : va_P D vwCl [(tp, .inr (7, [.ref tp_bytes, .int (nI sz0)])), (tp_bytes, .inl (cB, 1600, .inl fb)), (o, .inr (3, [.ref tp, .int (nI bh2), .int 0, .int (nI sr), .int fl2_5, .int pl2_6]))] H := hP
      have hD : va_D A [(tp, .inr (7, [.ref tp_bytes, .int (nI sz0)])), (tp_bytes, .inl (cB, 1600, .inl fb)), (o, .inr (3, [.ref tp, .int (nI bh2), .int 0, .int (nI sr), .int fl2_5, .int pl2_6]))] := hD
      have hP9 := hP.sub (ws' := [(o, .inr (3, [.ref tp, .int (nI bh2), .int 0, .int (nI sr), .int fl2_5, .int pl2_6])), (tp, .inr (7, [.ref tp_bytes, .int (nI sz0)])), (tp_bytes, .inl (cB, 1600, .inl fb))]) [2, 0, 1] rfl
      have hD9 := hD.sub (ws' := [(o, .inr (3, [.ref tp, .int (nI bh2), .int 0, .int (nI sr), .int fl2_5, .int pl2_6])), (tp, .inr (7, [.ref tp_bytes, .int (nI sz0)])), (tp_bytes, .inl (cB, 1600, .inl fb))]) [2, 0, 1] (by decide) rfl
      refine W.widen (k := 0) (n := 0) (Nat.le_of_ble_eq_true rfl) (Nat.le_of_ble_eq_true rfl) ?_
      exact W.vret hx hb hr (fun tz htz hWz => ⟨⟨[(o, .inr (3, [.ref tp, .int (nI bh2), .int 0, .int (nI sr), .int fl2_5, .int pl2_6])), (tp, .inr (7, [.ref tp_bytes, .int (nI sz0)])), (tp_bytes, .inl (cB, 1600, .inl fb))], rfl, ⟨bh2, 0, fl2_5, pl2_6, rfl, (by omega), (by omega), (fun h => absurd h hf_7), (fun h => absurd h hf_7)⟩, by rw [htz]; exact hP9, va_K.moved hWz.alike hK, hD9⟩, hS.F htz⟩) hS.2.2 dX3_stepDigits_89
    · have dc_4 : ¬ 4 < (bh2 - sr) := fun h => c_4 ((nI_ltI (a := 4) (b := bh2 - sr) (by omega) (by omega)).mpr h)
      refine lv_aload_n hx hb dX3_stepDigits_62 rfl (lv_at hl 0 rfl) ?_
      refine va_get (D := D) (ci := 3) (v := .ref tp) (C := RX3) (T := TX3) (N := 6) hx hb hts (by decide +kernel) hown hK hP 0 rfl rfl 0 (by decide) (hts (.fieldLink RX3 15 "LastLetter$Reader" "tape" "LLastLetter$Tape;") (by decide +kernel)) (fun _ h9 => h9) rfl dX3_stepDigits_63 ?_
      refine lv_aload_n hx hb dX3_stepDigits_66 rfl (lv_at hl 0 rfl) ?_
      refine va_get (D := D) (ci := 3) (v := .int (nI bh2)) (C := RX3) (T := TX3) (N := 6) hx hb hts (by decide +kernel) hown hK hP 0 rfl rfl 1 (by decide) (hts (.fieldLink RX3 27 "LastLetter$Reader" "behind" "I") (by decide +kernel)) (fun _ h9 => h9) rfl dX3_stepDigits_67 ?_
      refine xCi (wr := [(o, .inr (3, [.ref tp, .int (nI bh2), .int 3, .int (nI sr), .int fl, .int pl]))]) (win := [(tp, .inr (7, [.ref tp_bytes, .int (nI sz0)])), (tp_bytes, .inl (cB, 1600, .inl fb))]) hP hD hS hA [1, 2] [0] rfl rfl (by decide) (by decide) (va_runV (As := [.int (nI bh2)]) (rest := []) ⟨hx, hb, hml, hown, hts⟩ (c_X7_at l D cB cI cJ cS cZ cO H.size tp (nI bh2) tp_bytes sz0 fb (by first | assumption | omega | decide)) (cwV 1 hts gX3_stepDigits_X7_at rfl rfl rfl (by decide +kernel) ⟨Nat.le_of_ble_eq_true rfl, Nat.le_of_ble_eq_true rfl⟩) (xPreV (win := [(tp, .inr (7, [.ref tp_bytes, .int (nI sz0)])), (tp_bytes, .inl (cB, 1600, .inl fb))]) hN hK hP hD [1, 2] (by decide) rfl 1 7 rfl rfl rfl) rfl rfl hl.1 rfl (lv_room (Nat.le_of_ble_eq_true rfl)) dX3_stepDigits_70 ⟨Nat.le_of_ble_eq_true rfl, Nat.le_of_ble_eq_true rfl⟩) (fun r_8 w0 H locs hw hP hD hS => ?_)
      obtain ⟨rfl, hf_9⟩ := hw
      have hP : va_P D vwCl [(o, .inr (3, [.ref tp, .int (nI bh2), .int 3, .int (nI sr), .int fl, .int pl])), (tp, .inr (7, [.ref tp_bytes, .int (nI sz0)])), (tp_bytes, .inl (cB, 1600, .inl fb))] H := hP
      have hD : va_D A [(o, .inr (3, [.ref tp, .int (nI bh2), .int 3, .int (nI sr), .int fl, .int pl])), (tp, .inr (7, [.ref tp_bytes, .int (nI sz0)])), (tp_bytes, .inl (cB, 1600, .inl fb))] := hD
      refine xCi (wr := [(o, .inr (3, [.ref tp, .int (nI bh2), .int 3, .int (nI sr), .int fl, .int pl])), (tp, .inr (7, [.ref tp_bytes, .int (nI sz0)])), (tp_bytes, .inl (cB, 1600, .inl fb))]) (win := []) hP hD hS hA [] [0, 1, 2] rfl rfl (by decide) (by decide) (va_runS (As := [.int r_8]) (rest := []) ⟨hx, hb, hml, hown, hts⟩ (c_X3_isLetter l D cB cI cJ cS cZ cO H.size r_8 ) (va_cwS 1 hts gX3_stepDigits_X3_isLetter rfl rfl rfl (by decide +kernel) ⟨Nat.le_of_ble_eq_true rfl, Nat.le_of_ble_eq_true rfl⟩) (xPreS (win := []) hN hK hP hD [] (by decide) rfl) rfl rfl hl.1 rfl (lv_room (Nat.le_of_ble_eq_true rfl)) dX3_stepDigits_73 ⟨Nat.le_of_ble_eq_true rfl, Nat.le_of_ble_eq_true rfl⟩) (fun r_10 w0 H locs hw hP hD hS => ?_)
      obtain ⟨rfl, hf_11, hf_12⟩ := hw
      have hP : va_P D vwCl [(o, .inr (3, [.ref tp, .int (nI bh2), .int 3, .int (nI sr), .int fl, .int pl])), (tp, .inr (7, [.ref tp_bytes, .int (nI sz0)])), (tp_bytes, .inl (cB, 1600, .inl fb))] H := hP
      have hD : va_D A [(o, .inr (3, [.ref tp, .int (nI bh2), .int 3, .int (nI sr), .int fl, .int pl])), (tp, .inr (7, [.ref tp_bytes, .int (nI sz0)])), (tp_bytes, .inl (cB, 1600, .inl fb))] := hD
      refine lv_if_eq (tgt := 89) hx hb dX3_stepDigits_76 (by decide) (fun c_13 => ?_) (fun c_13 => ?_)
      · have hP9 := hP.sub (ws' := [(o, .inr (3, [.ref tp, .int (nI bh2), .int 3, .int (nI sr), .int fl, .int pl])), (tp, .inr (7, [.ref tp_bytes, .int (nI sz0)])), (tp_bytes, .inl (cB, 1600, .inl fb))]) [0, 1, 2] rfl
        have hD9 := hD.sub (ws' := [(o, .inr (3, [.ref tp, .int (nI bh2), .int 3, .int (nI sr), .int fl, .int pl])), (tp, .inr (7, [.ref tp_bytes, .int (nI sz0)])), (tp_bytes, .inl (cB, 1600, .inl fb))]) [0, 1, 2] (by decide) rfl
        refine W.widen (k := 0) (n := 0) (Nat.le_of_ble_eq_true rfl) (Nat.le_of_ble_eq_true rfl) ?_
        exact W.vret hx hb hr (fun tz htz hWz => ⟨⟨[(o, .inr (3, [.ref tp, .int (nI bh2), .int 3, .int (nI sr), .int fl, .int pl])), (tp, .inr (7, [.ref tp_bytes, .int (nI sz0)])), (tp_bytes, .inl (cB, 1600, .inl fb))], rfl, ⟨bh2, 3, fl, pl, rfl, (by omega), (by omega), (fun h => h), (fun _ h => absurd h (by decide))⟩, by rw [htz]; exact hP9, va_K.moved hWz.alike hK, hD9⟩, hS.F htz⟩) hS.2.2 dX3_stepDigits_89
      · refine lv_aload_n hx hb dX3_stepDigits_79 rfl (lv_at hl 0 rfl) ?_
        refine lv_iconst (v := 0) hx hb dX3_stepDigits_80 (by decide) ?_
        refine va_put (D := D) (ci := 3) (v := .int 0) (ty := .int) (C := RX3) (T := TX3) (N := 6) hx hb hts (by decide +kernel) tyX3 tyX3_ok nmX3 hown hK hP hD hS 0 rfl rfl 2 (by decide) (hts (.fieldLink RX3 33 "LastLetter$Reader" "kind" "I") (by decide +kernel)) (fun _ h9 => h9) rfl (by decide +kernel) rfl rfl (Nat.le_of_ble_eq_true rfl) dX3_stepDigits_81 (fun H locs hP hD hS => ?_)
        have hP : va_P D vwCl [(o, .inr (3, [.ref tp, .int (nI bh2), .int 0, .int (nI sr), .int fl, .int pl])), (tp, .inr (7, [.ref tp_bytes, .int (nI sz0)])), (tp_bytes, .inl (cB, 1600, .inl fb))] H := hP
        have hD : va_D A [(o, .inr (3, [.ref tp, .int (nI bh2), .int 0, .int (nI sr), .int fl, .int pl])), (tp, .inr (7, [.ref tp_bytes, .int (nI sz0)])), (tp_bytes, .inl (cB, 1600, .inl fb))] := hD
        refine lv_aload_n hx hb dX3_stepDigits_84 rfl (lv_at hl 0 rfl) ?_
        refine lv_iconst (v := 1) hx hb dX3_stepDigits_85 (by decide) ?_
        refine xCv (wr := [(tp, .inr (7, [.ref tp_bytes, .int (nI sz0)])), (tp_bytes, .inl (cB, 1600, .inl fb))]) (win := [(o, .inr (3, [.ref tp, .int (nI bh2), .int 0, .int (nI sr), .int fl, .int pl]))]) hP hD hS hA [0] [1, 2] rfl rfl (by decide) (by decide) (va_runV (As := [.int 1]) (rest := []) ⟨hx, hb, hml, hown, hts⟩ (c_X3_refuse l D cB cI cJ cS cZ cO H.size o 1 tp (nI bh2) 0 (nI sr) fl pl (by first | assumption | omega | decide)) (cwV 1 hts gX3_stepDigits_X3_refuse rfl rfl rfl (by decide +kernel) ⟨Nat.le_of_ble_eq_true rfl, Nat.le_of_ble_eq_true rfl⟩) (xPreV (win := [(o, .inr (3, [.ref tp, .int (nI bh2), .int 0, .int (nI sr), .int fl, .int pl]))]) hN hK hP hD [0] (by decide) rfl 0 3 rfl rfl rfl) rfl rfl hl.1 rfl (lv_room (Nat.le_of_ble_eq_true rfl)) dX3_stepDigits_86 ⟨Nat.le_of_ble_eq_true rfl, Nat.le_of_ble_eq_true rfl⟩) (fun w0 H locs hw hP hD hS => ?_)
        obtain ⟨fl2_14, pl2_15, rfl, hf_16⟩ := hw
        have hP : va_P D vwCl [(tp, .inr (7, [.ref tp_bytes, .int (nI sz0)])), (tp_bytes, .inl (cB, 1600, .inl fb)), (o, .inr (3, [.ref tp, .int (nI bh2), .int 0, .int (nI sr), .int fl2_14, .int pl2_15]))] H := hP
        have hD : va_D A [(tp, .inr (7, [.ref tp_bytes, .int (nI sz0)])), (tp_bytes, .inl (cB, 1600, .inl fb)), (o, .inr (3, [.ref tp, .int (nI bh2), .int 0, .int (nI sr), .int fl2_14, .int pl2_15]))] := hD
        have hP9 := hP.sub (ws' := [(o, .inr (3, [.ref tp, .int (nI bh2), .int 0, .int (nI sr), .int fl2_14, .int pl2_15])), (tp, .inr (7, [.ref tp_bytes, .int (nI sz0)])), (tp_bytes, .inl (cB, 1600, .inl fb))]) [2, 0, 1] rfl
        have hD9 := hD.sub (ws' := [(o, .inr (3, [.ref tp, .int (nI bh2), .int 0, .int (nI sr), .int fl2_14, .int pl2_15])), (tp, .inr (7, [.ref tp_bytes, .int (nI sz0)])), (tp_bytes, .inl (cB, 1600, .inl fb))]) [2, 0, 1] (by decide) rfl
        refine W.widen (k := 0) (n := 0) (Nat.le_of_ble_eq_true rfl) (Nat.le_of_ble_eq_true rfl) ?_
        exact W.vret hx hb hr (fun tz htz hWz => ⟨⟨[(o, .inr (3, [.ref tp, .int (nI bh2), .int 0, .int (nI sr), .int fl2_14, .int pl2_15])), (tp, .inr (7, [.ref tp_bytes, .int (nI sz0)])), (tp_bytes, .inl (cB, 1600, .inl fb))], rfl, ⟨bh2, 0, fl2_14, pl2_15, rfl, (by omega), (by omega), (fun h => absurd h hf_16), (fun h => absurd h hf_16)⟩, by rw [htz]; exact hP9, va_K.moved hWz.alike hK, hD9⟩, hS.F htz⟩) hS.2.2 dX3_stepDigits_89
  · have dc_3 : ¬ sz0 ≤ bh2 := fun h => c_3 ((nI_leI (a := sz0) (b := bh2) (by omega) (by omega)).mpr h)
    refine lv_aload_n hx hb dX3_stepDigits_14 rfl (lv_at hl 0 rfl) ?_
    refine va_get (D := D) (ci := 3) (v := .ref tp) (C := RX3) (T := TX3) (N := 6) hx hb hts (by decide +kernel) hown hK hP 0 rfl rfl 0 (by decide) (hts (.fieldLink RX3 15 "LastLetter$Reader" "tape" "LLastLetter$Tape;") (by decide +kernel)) (fun _ h9 => h9) rfl dX3_stepDigits_15 ?_
    refine lv_aload_n hx hb dX3_stepDigits_18 rfl (lv_at hl 0 rfl) ?_
    refine va_get (D := D) (ci := 3) (v := .int (nI bh2)) (C := RX3) (T := TX3) (N := 6) hx hb hts (by decide +kernel) hown hK hP 0 rfl rfl 1 (by decide) (hts (.fieldLink RX3 27 "LastLetter$Reader" "behind" "I") (by decide +kernel)) (fun _ h9 => h9) rfl dX3_stepDigits_19 ?_
    refine xCi (wr := [(o, .inr (3, [.ref tp, .int (nI bh2), .int kd, .int (nI sr), .int fl, .int pl]))]) (win := [(tp, .inr (7, [.ref tp_bytes, .int (nI sz0)])), (tp_bytes, .inl (cB, 1600, .inl fb))]) hP hD hS hA [1, 2] [0] rfl rfl (by decide) (by decide) (va_runV (As := [.int (nI bh2)]) (rest := []) ⟨hx, hb, hml, hown, hts⟩ (c_X7_at_in l D cB cI cJ cS cZ cO H.size tp bh2 tp_bytes sz0 fb (by first | assumption | omega | decide) (by first | assumption | omega | decide)) (cwV 1 hts gX3_stepDigits_X7_at rfl rfl rfl (by decide +kernel) ⟨Nat.le_of_ble_eq_true rfl, Nat.le_of_ble_eq_true rfl⟩) (xPreV (win := [(tp, .inr (7, [.ref tp_bytes, .int (nI sz0)])), (tp_bytes, .inl (cB, 1600, .inl fb))]) hN hK hP hD [1, 2] (by decide) rfl 1 7 rfl rfl rfl) rfl rfl hl.1 rfl (lv_room (Nat.le_of_ble_eq_true rfl)) dX3_stepDigits_22 ⟨Nat.le_of_ble_eq_true rfl, Nat.le_of_ble_eq_true rfl⟩) (fun r0 w0 H locs hw hP hD hS => ?_)
    obtain ⟨rfl, rfl⟩ := hw
    have hP : va_P D vwCl [(o, .inr (3, [.ref tp, .int (nI bh2), .int kd, .int (nI sr), .int fl, .int pl])), (tp, .inr (7, [.ref tp_bytes, .int (nI sz0)])), (tp_bytes, .inl (cB, 1600, .inl fb))] H := hP
    have hD : va_D A [(o, .inr (3, [.ref tp, .int (nI bh2), .int kd, .int (nI sr), .int fl, .int pl])), (tp, .inr (7, [.ref tp_bytes, .int (nI sz0)])), (tp_bytes, .inl (cB, 1600, .inl fb))] := hD
    refine xCi (wr := [(o, .inr (3, [.ref tp, .int (nI bh2), .int kd, .int (nI sr), .int fl, .int pl])), (tp, .inr (7, [.ref tp_bytes, .int (nI sz0)])), (tp_bytes, .inl (cB, 1600, .inl fb))]) (win := []) hP hD hS hA [] [0, 1, 2] rfl rfl (by decide) (by decide) (va_runS (As := [.int (fb bh2 &&& 255)]) (rest := []) ⟨hx, hb, hml, hown, hts⟩ (c_X3_isDigit l D cB cI cJ cS cZ cO H.size (fb bh2 &&& 255) ) (va_cwS 1 hts gX3_stepDigits_X3_isDigit rfl rfl rfl (by decide +kernel) ⟨Nat.le_of_ble_eq_true rfl, Nat.le_of_ble_eq_true rfl⟩) (xPreS (win := []) hN hK hP hD [] (by decide) rfl) rfl rfl hl.1 rfl (lv_room (Nat.le_of_ble_eq_true rfl)) dX3_stepDigits_25 ⟨Nat.le_of_ble_eq_true rfl, Nat.le_of_ble_eq_true rfl⟩) (fun r_17 w0 H locs hw hP hD hS => ?_)
    obtain ⟨rfl, hf_18⟩ := hw
    have hP : va_P D vwCl [(o, .inr (3, [.ref tp, .int (nI bh2), .int kd, .int (nI sr), .int fl, .int pl])), (tp, .inr (7, [.ref tp_bytes, .int (nI sz0)])), (tp_bytes, .inl (cB, 1600, .inl fb))] H := hP
    have hD : va_D A [(o, .inr (3, [.ref tp, .int (nI bh2), .int kd, .int (nI sr), .int fl, .int pl])), (tp, .inr (7, [.ref tp_bytes, .int (nI sz0)])), (tp_bytes, .inl (cB, 1600, .inl fb))] := hD
    refine lv_if_eq (tgt := 44) hx hb dX3_stepDigits_28 (by decide) (fun c_19 => ?_) (fun c_19 => ?_)
    · refine lv_aload_n hx hb dX3_stepDigits_44 rfl (lv_at hl 0 rfl) ?_
      refine lv_iconst (v := 3) hx hb dX3_stepDigits_45 (by decide) ?_
      refine va_put (D := D) (ci := 3) (v := .int 3) (ty := .int) (C := RX3) (T := TX3) (N := 6) hx hb hts (by decide +kernel) tyX3 tyX3_ok nmX3 hown hK hP hD hS 0 rfl rfl 2 (by decide) (hts (.fieldLink RX3 33 "LastLetter$Reader" "kind" "I") (by decide +kernel)) (fun _ h9 => h9) rfl (by decide +kernel) rfl rfl (Nat.le_of_ble_eq_true rfl) dX3_stepDigits_46 (fun H locs hP hD hS => ?_)
      have hP : va_P D vwCl [(o, .inr (3, [.ref tp, .int (nI bh2), .int 3, .int (nI sr), .int fl, .int pl])), (tp, .inr (7, [.ref tp_bytes, .int (nI sz0)])), (tp_bytes, .inl (cB, 1600, .inl fb))] H := hP
      have hD : va_D A [(o, .inr (3, [.ref tp, .int (nI bh2), .int 3, .int (nI sr), .int fl, .int pl])), (tp, .inr (7, [.ref tp_bytes, .int (nI sz0)])), (tp_bytes, .inl (cB, 1600, .inl fb))] := hD
      refine lv_aload_n hx hb dX3_stepDigits_49 rfl (lv_at hl 0 rfl) ?_
      refine va_get (D := D) (ci := 3) (v := .int (nI bh2)) (C := RX3) (T := TX3) (N := 6) hx hb hts (by decide +kernel) hown hK hP 0 rfl rfl 1 (by decide) (hts (.fieldLink RX3 27 "LastLetter$Reader" "behind" "I") (by decide +kernel)) (fun _ h9 => h9) rfl dX3_stepDigits_50 ?_
      refine lv_aload_n hx hb dX3_stepDigits_53 rfl (lv_at hl 0 rfl) ?_
      refine va_get (D := D) (ci := 3) (v := .int (nI sr)) (C := RX3) (T := TX3) (N := 6) hx hb hts (by decide +kernel) hown hK hP 0 rfl rfl 3 (by decide) (hts (.fieldLink RX3 87 "LastLetter$Reader" "start" "I") (by decide +kernel)) (fun _ h9 => h9) rfl dX3_stepDigits_54 ?_
      refine lv_isub hx hb dX3_stepDigits_57 ?_
      refine xb_top (y := nI (bh2 - sr)) (pk_sub (a := bh2) (b := sr) (by omega)) ?_
      refine lv_iconst (v := 4) hx hb dX3_stepDigits_58 (by decide) ?_
      refine lv_icmp_gt (tgt := 79) hx hb dX3_stepDigits_59 (by decide) (fun c_20 => ?_) (fun c_20 => ?_)
      · have dc_20 : 4 < bh2 - sr := (nI_ltI (a := 4) (b := bh2 - sr) (by omega) (by omega)).mp c_20
        refine lv_aload_n hx hb dX3_stepDigits_79 rfl (lv_at hl 0 rfl) ?_
        refine lv_iconst (v := 0) hx hb dX3_stepDigits_80 (by decide) ?_
        refine va_put (D := D) (ci := 3) (v := .int 0) (ty := .int) (C := RX3) (T := TX3) (N := 6) hx hb hts (by decide +kernel) tyX3 tyX3_ok nmX3 hown hK hP hD hS 0 rfl rfl 2 (by decide) (hts (.fieldLink RX3 33 "LastLetter$Reader" "kind" "I") (by decide +kernel)) (fun _ h9 => h9) rfl (by decide +kernel) rfl rfl (Nat.le_of_ble_eq_true rfl) dX3_stepDigits_81 (fun H locs hP hD hS => ?_)
        have hP : va_P D vwCl [(o, .inr (3, [.ref tp, .int (nI bh2), .int 0, .int (nI sr), .int fl, .int pl])), (tp, .inr (7, [.ref tp_bytes, .int (nI sz0)])), (tp_bytes, .inl (cB, 1600, .inl fb))] H := hP
        have hD : va_D A [(o, .inr (3, [.ref tp, .int (nI bh2), .int 0, .int (nI sr), .int fl, .int pl])), (tp, .inr (7, [.ref tp_bytes, .int (nI sz0)])), (tp_bytes, .inl (cB, 1600, .inl fb))] := hD
        refine lv_aload_n hx hb dX3_stepDigits_84 rfl (lv_at hl 0 rfl) ?_
        refine lv_iconst (v := 1) hx hb dX3_stepDigits_85 (by decide) ?_
        refine xCv (wr := [(tp, .inr (7, [.ref tp_bytes, .int (nI sz0)])), (tp_bytes, .inl (cB, 1600, .inl fb))]) (win := [(o, .inr (3, [.ref tp, .int (nI bh2), .int 0, .int (nI sr), .int fl, .int pl]))]) hP hD hS hA [0] [1, 2] rfl rfl (by decide) (by decide) (va_runV (As := [.int 1]) (rest := []) ⟨hx, hb, hml, hown, hts⟩ (c_X3_refuse l D cB cI cJ cS cZ cO H.size o 1 tp (nI bh2) 0 (nI sr) fl pl (by first | assumption | omega | decide)) (cwV 1 hts gX3_stepDigits_X3_refuse rfl rfl rfl (by decide +kernel) ⟨Nat.le_of_ble_eq_true rfl, Nat.le_of_ble_eq_true rfl⟩) (xPreV (win := [(o, .inr (3, [.ref tp, .int (nI bh2), .int 0, .int (nI sr), .int fl, .int pl]))]) hN hK hP hD [0] (by decide) rfl 0 3 rfl rfl rfl) rfl rfl hl.1 rfl (lv_room (Nat.le_of_ble_eq_true rfl)) dX3_stepDigits_86 ⟨Nat.le_of_ble_eq_true rfl, Nat.le_of_ble_eq_true rfl⟩) (fun w0 H locs hw hP hD hS => ?_)
        obtain ⟨fl2_21, pl2_22, rfl, hf_23⟩ := hw
        have hP : va_P D vwCl [(tp, .inr (7, [.ref tp_bytes, .int (nI sz0)])), (tp_bytes, .inl (cB, 1600, .inl fb)), (o, .inr (3, [.ref tp, .int (nI bh2), .int 0, .int (nI sr), .int fl2_21, .int pl2_22]))] H := hP
        have hD : va_D A [(tp, .inr (7, [.ref tp_bytes, .int (nI sz0)])), (tp_bytes, .inl (cB, 1600, .inl fb)), (o, .inr (3, [.ref tp, .int (nI bh2), .int 0, .int (nI sr), .int fl2_21, .int pl2_22]))] := hD
        have hP9 := hP.sub (ws' := [(o, .inr (3, [.ref tp, .int (nI bh2), .int 0, .int (nI sr), .int fl2_21, .int pl2_22])), (tp, .inr (7, [.ref tp_bytes, .int (nI sz0)])), (tp_bytes, .inl (cB, 1600, .inl fb))]) [2, 0, 1] rfl
        have hD9 := hD.sub (ws' := [(o, .inr (3, [.ref tp, .int (nI bh2), .int 0, .int (nI sr), .int fl2_21, .int pl2_22])), (tp, .inr (7, [.ref tp_bytes, .int (nI sz0)])), (tp_bytes, .inl (cB, 1600, .inl fb))]) [2, 0, 1] (by decide) rfl
        refine W.widen (k := 0) (n := 0) (Nat.le_of_ble_eq_true rfl) (Nat.le_of_ble_eq_true rfl) ?_
        exact W.vret hx hb hr (fun tz htz hWz => ⟨⟨[(o, .inr (3, [.ref tp, .int (nI bh2), .int 0, .int (nI sr), .int fl2_21, .int pl2_22])), (tp, .inr (7, [.ref tp_bytes, .int (nI sz0)])), (tp_bytes, .inl (cB, 1600, .inl fb))], rfl, ⟨bh2, 0, fl2_21, pl2_22, rfl, (by omega), (by omega), (fun h => absurd h hf_23), (fun h => absurd h hf_23)⟩, by rw [htz]; exact hP9, va_K.moved hWz.alike hK, hD9⟩, hS.F htz⟩) hS.2.2 dX3_stepDigits_89
      · have dc_20 : ¬ 4 < (bh2 - sr) := fun h => c_20 ((nI_ltI (a := 4) (b := bh2 - sr) (by omega) (by omega)).mpr h)
        refine lv_aload_n hx hb dX3_stepDigits_62 rfl (lv_at hl 0 rfl) ?_
        refine va_get (D := D) (ci := 3) (v := .ref tp) (C := RX3) (T := TX3) (N := 6) hx hb hts (by decide +kernel) hown hK hP 0 rfl rfl 0 (by decide) (hts (.fieldLink RX3 15 "LastLetter$Reader" "tape" "LLastLetter$Tape;") (by decide +kernel)) (fun _ h9 => h9) rfl dX3_stepDigits_63 ?_
        refine lv_aload_n hx hb dX3_stepDigits_66 rfl (lv_at hl 0 rfl) ?_
        refine va_get (D := D) (ci := 3) (v := .int (nI bh2)) (C := RX3) (T := TX3) (N := 6) hx hb hts (by decide +kernel) hown hK hP 0 rfl rfl 1 (by decide) (hts (.fieldLink RX3 27 "LastLetter$Reader" "behind" "I") (by decide +kernel)) (fun _ h9 => h9) rfl dX3_stepDigits_67 ?_
        refine xCi (wr := [(o, .inr (3, [.ref tp, .int (nI bh2), .int 3, .int (nI sr), .int fl, .int pl]))]) (win := [(tp, .inr (7, [.ref tp_bytes, .int (nI sz0)])), (tp_bytes, .inl (cB, 1600, .inl fb))]) hP hD hS hA [1, 2] [0] rfl rfl (by decide) (by decide) (va_runV (As := [.int (nI bh2)]) (rest := []) ⟨hx, hb, hml, hown, hts⟩ (c_X7_at l D cB cI cJ cS cZ cO H.size tp (nI bh2) tp_bytes sz0 fb (by first | assumption | omega | decide)) (cwV 1 hts gX3_stepDigits_X7_at rfl rfl rfl (by decide +kernel) ⟨Nat.le_of_ble_eq_true rfl, Nat.le_of_ble_eq_true rfl⟩) (xPreV (win := [(tp, .inr (7, [.ref tp_bytes, .int (nI sz0)])), (tp_bytes, .inl (cB, 1600, .inl fb))]) hN hK hP hD [1, 2] (by decide) rfl 1 7 rfl rfl rfl) rfl rfl hl.1 rfl (lv_room (Nat.le_of_ble_eq_true rfl)) dX3_stepDigits_70 ⟨Nat.le_of_ble_eq_true rfl, Nat.le_of_ble_eq_true rfl⟩) (fun r_24 w0 H locs hw hP hD hS => ?_)
        obtain ⟨rfl, hf_25⟩ := hw
        have hP : va_P D vwCl [(o, .inr (3, [.ref tp, .int (nI bh2), .int 3, .int (nI sr), .int fl, .int pl])), (tp, .inr (7, [.ref tp_bytes, .int (nI sz0)])), (tp_bytes, .inl (cB, 1600, .inl fb))] H := hP
        have hD : va_D A [(o, .inr (3, [.ref tp, .int (nI bh2), .int 3, .int (nI sr), .int fl, .int pl])), (tp, .inr (7, [.ref tp_bytes, .int (nI sz0)])), (tp_bytes, .inl (cB, 1600, .inl fb))] := hD
        refine xCi (wr := [(o, .inr (3, [.ref tp, .int (nI bh2), .int 3, .int (nI sr), .int fl, .int pl])), (tp, .inr (7, [.ref tp_bytes, .int (nI sz0)])), (tp_bytes, .inl (cB, 1600, .inl fb))]) (win := []) hP hD hS hA [] [0, 1, 2] rfl rfl (by decide) (by decide) (va_runS (As := [.int r_24]) (rest := []) ⟨hx, hb, hml, hown, hts⟩ (c_X3_isLetter l D cB cI cJ cS cZ cO H.size r_24 ) (va_cwS 1 hts gX3_stepDigits_X3_isLetter rfl rfl rfl (by decide +kernel) ⟨Nat.le_of_ble_eq_true rfl, Nat.le_of_ble_eq_true rfl⟩) (xPreS (win := []) hN hK hP hD [] (by decide) rfl) rfl rfl hl.1 rfl (lv_room (Nat.le_of_ble_eq_true rfl)) dX3_stepDigits_73 ⟨Nat.le_of_ble_eq_true rfl, Nat.le_of_ble_eq_true rfl⟩) (fun r_26 w0 H locs hw hP hD hS => ?_)
        obtain ⟨rfl, hf_27, hf_28⟩ := hw
        have hP : va_P D vwCl [(o, .inr (3, [.ref tp, .int (nI bh2), .int 3, .int (nI sr), .int fl, .int pl])), (tp, .inr (7, [.ref tp_bytes, .int (nI sz0)])), (tp_bytes, .inl (cB, 1600, .inl fb))] H := hP
        have hD : va_D A [(o, .inr (3, [.ref tp, .int (nI bh2), .int 3, .int (nI sr), .int fl, .int pl])), (tp, .inr (7, [.ref tp_bytes, .int (nI sz0)])), (tp_bytes, .inl (cB, 1600, .inl fb))] := hD
        refine lv_if_eq (tgt := 89) hx hb dX3_stepDigits_76 (by decide) (fun c_29 => ?_) (fun c_29 => ?_)
        · have hP9 := hP.sub (ws' := [(o, .inr (3, [.ref tp, .int (nI bh2), .int 3, .int (nI sr), .int fl, .int pl])), (tp, .inr (7, [.ref tp_bytes, .int (nI sz0)])), (tp_bytes, .inl (cB, 1600, .inl fb))]) [0, 1, 2] rfl
          have hD9 := hD.sub (ws' := [(o, .inr (3, [.ref tp, .int (nI bh2), .int 3, .int (nI sr), .int fl, .int pl])), (tp, .inr (7, [.ref tp_bytes, .int (nI sz0)])), (tp_bytes, .inl (cB, 1600, .inl fb))]) [0, 1, 2] (by decide) rfl
          refine W.widen (k := 0) (n := 0) (Nat.le_of_ble_eq_true rfl) (Nat.le_of_ble_eq_true rfl) ?_
          exact W.vret hx hb hr (fun tz htz hWz => ⟨⟨[(o, .inr (3, [.ref tp, .int (nI bh2), .int 3, .int (nI sr), .int fl, .int pl])), (tp, .inr (7, [.ref tp_bytes, .int (nI sz0)])), (tp_bytes, .inl (cB, 1600, .inl fb))], rfl, ⟨bh2, 3, fl, pl, rfl, (by omega), (by omega), (fun h => h), (fun _ h => absurd h (by decide))⟩, by rw [htz]; exact hP9, va_K.moved hWz.alike hK, hD9⟩, hS.F htz⟩) hS.2.2 dX3_stepDigits_89
        · refine lv_aload_n hx hb dX3_stepDigits_79 rfl (lv_at hl 0 rfl) ?_
          refine lv_iconst (v := 0) hx hb dX3_stepDigits_80 (by decide) ?_
          refine va_put (D := D) (ci := 3) (v := .int 0) (ty := .int) (C := RX3) (T := TX3) (N := 6) hx hb hts (by decide +kernel) tyX3 tyX3_ok nmX3 hown hK hP hD hS 0 rfl rfl 2 (by decide) (hts (.fieldLink RX3 33 "LastLetter$Reader" "kind" "I") (by decide +kernel)) (fun _ h9 => h9) rfl (by decide +kernel) rfl rfl (Nat.le_of_ble_eq_true rfl) dX3_stepDigits_81 (fun H locs hP hD hS => ?_)
          have hP : va_P D vwCl [(o, .inr (3, [.ref tp, .int (nI bh2), .int 0, .int (nI sr), .int fl, .int pl])), (tp, .inr (7, [.ref tp_bytes, .int (nI sz0)])), (tp_bytes, .inl (cB, 1600, .inl fb))] H := hP
          have hD : va_D A [(o, .inr (3, [.ref tp, .int (nI bh2), .int 0, .int (nI sr), .int fl, .int pl])), (tp, .inr (7, [.ref tp_bytes, .int (nI sz0)])), (tp_bytes, .inl (cB, 1600, .inl fb))] := hD
          refine lv_aload_n hx hb dX3_stepDigits_84 rfl (lv_at hl 0 rfl) ?_
          refine lv_iconst (v := 1) hx hb dX3_stepDigits_85 (by decide) ?_
          refine xCv (wr := [(tp, .inr (7, [.ref tp_bytes, .int (nI sz0)])), (tp_bytes, .inl (cB, 1600, .inl fb))]) (win := [(o, .inr (3, [.ref tp, .int (nI bh2), .int 0, .int (nI sr), .int fl, .int pl]))]) hP hD hS hA [0] [1, 2] rfl rfl (by decide) (by decide) (va_runV (As := [.int 1]) (rest := []) ⟨hx, hb, hml, hown, hts⟩ (c_X3_refuse l D cB cI cJ cS cZ cO H.size o 1 tp (nI bh2) 0 (nI sr) fl pl (by first | assumption | omega | decide)) (cwV 1 hts gX3_stepDigits_X3_refuse rfl rfl rfl (by decide +kernel) ⟨Nat.le_of_ble_eq_true rfl, Nat.le_of_ble_eq_true rfl⟩) (xPreV (win := [(o, .inr (3, [.ref tp, .int (nI bh2), .int 0, .int (nI sr), .int fl, .int pl]))]) hN hK hP hD [0] (by decide) rfl 0 3 rfl rfl rfl) rfl rfl hl.1 rfl (lv_room (Nat.le_of_ble_eq_true rfl)) dX3_stepDigits_86 ⟨Nat.le_of_ble_eq_true rfl, Nat.le_of_ble_eq_true rfl⟩) (fun w0 H locs hw hP hD hS => ?_)
          obtain ⟨fl2_30, pl2_31, rfl, hf_32⟩ := hw
          have hP : va_P D vwCl [(tp, .inr (7, [.ref tp_bytes, .int (nI sz0)])), (tp_bytes, .inl (cB, 1600, .inl fb)), (o, .inr (3, [.ref tp, .int (nI bh2), .int 0, .int (nI sr), .int fl2_30, .int pl2_31]))] H := hP
          have hD : va_D A [(tp, .inr (7, [.ref tp_bytes, .int (nI sz0)])), (tp_bytes, .inl (cB, 1600, .inl fb)), (o, .inr (3, [.ref tp, .int (nI bh2), .int 0, .int (nI sr), .int fl2_30, .int pl2_31]))] := hD
          have hP9 := hP.sub (ws' := [(o, .inr (3, [.ref tp, .int (nI bh2), .int 0, .int (nI sr), .int fl2_30, .int pl2_31])), (tp, .inr (7, [.ref tp_bytes, .int (nI sz0)])), (tp_bytes, .inl (cB, 1600, .inl fb))]) [2, 0, 1] rfl
          have hD9 := hD.sub (ws' := [(o, .inr (3, [.ref tp, .int (nI bh2), .int 0, .int (nI sr), .int fl2_30, .int pl2_31])), (tp, .inr (7, [.ref tp_bytes, .int (nI sz0)])), (tp_bytes, .inl (cB, 1600, .inl fb))]) [2, 0, 1] (by decide) rfl
          refine W.widen (k := 0) (n := 0) (Nat.le_of_ble_eq_true rfl) (Nat.le_of_ble_eq_true rfl) ?_
          exact W.vret hx hb hr (fun tz htz hWz => ⟨⟨[(o, .inr (3, [.ref tp, .int (nI bh2), .int 0, .int (nI sr), .int fl2_30, .int pl2_31])), (tp, .inr (7, [.ref tp_bytes, .int (nI sz0)])), (tp_bytes, .inl (cB, 1600, .inl fb))], rfl, ⟨bh2, 0, fl2_30, pl2_31, rfl, (by omega), (by omega), (fun h => absurd h hf_32), (fun h => absurd h hf_32)⟩, by rw [htz]; exact hP9, va_K.moved hWz.alike hK, hD9⟩, hS.F htz⟩) hS.2.2 dX3_stepDigits_89
    · refine lv_aload_n hx hb dX3_stepDigits_31 rfl (lv_at hl 0 rfl) ?_
      refine lv_dup hx hb dX3_stepDigits_32 rfl ?_
      refine va_get (D := D) (ci := 3) (v := .int (nI bh2)) (C := RX3) (T := TX3) (N := 6) hx hb hts (by decide +kernel) hown hK hP 0 rfl rfl 1 (by decide) (hts (.fieldLink RX3 27 "LastLetter$Reader" "behind" "I") (by decide +kernel)) (fun _ h9 => h9) rfl dX3_stepDigits_33 ?_
      refine lv_iconst (v := 1) hx hb dX3_stepDigits_36 (by decide) ?_
      refine lv_iadd hx hb dX3_stepDigits_37 ?_
      refine xb_top (y := nI (bh2 + 1)) (nI_add bh2 1) ?_
      refine va_put (D := D) (ci := 3) (v := .int (nI (bh2 + 1))) (ty := .int) (C := RX3) (T := TX3) (N := 6) hx hb hts (by decide +kernel) tyX3 tyX3_ok nmX3 hown hK hP hD hS 0 rfl rfl 1 (by decide) (hts (.fieldLink RX3 27 "LastLetter$Reader" "behind" "I") (by decide +kernel)) (fun _ h9 => h9) rfl (by decide +kernel) rfl rfl (Nat.le_of_ble_eq_true rfl) dX3_stepDigits_38 (fun H locs hP hD hS => ?_)
      have hP : va_P D vwCl [(o, .inr (3, [.ref tp, .int (nI (bh2 + 1)), .int kd, .int (nI sr), .int fl, .int pl])), (tp, .inr (7, [.ref tp_bytes, .int (nI sz0)])), (tp_bytes, .inl (cB, 1600, .inl fb))] H := hP
      have hD : va_D A [(o, .inr (3, [.ref tp, .int (nI (bh2 + 1)), .int kd, .int (nI sr), .int fl, .int pl])), (tp, .inr (7, [.ref tp_bytes, .int (nI sz0)])), (tp_bytes, .inl (cB, 1600, .inl fb))] := hD
      refine lv_goto (tgt := 0) hx hb dX3_stepDigits_41 (by decide) ?_
      exact kk_0 _ _ _ _ (by rw [← hn_0]; omega) ⟨(bh2 + 1), rfl, hP, hD, hS, lv_sub hl [0] rfl, (by first | assumption | omega), (by first | assumption | omega)⟩

set_option maxHeartbeats 4000000 in
set_option maxRecDepth 100000 in
theorem c_X3_step (l : Launch) (D : va_G) (cB cI cJ cS cZ cO : ClassId) (sz : Nat) (o : Nat) (tp : Nat) (bh : Nat) (kd : Int32) (sr : Nat) (fl : Int32) (pl : Int32) (tp_bytes : Nat) (sz0 : Nat) (fb : Nat → Int32) (hsz : sz0 ≤ 1600) (hbh : bh ≤ sz0) (hsr : sr ≤ 1600) : Met l yX3_step wsX3_step ({ frames := 2, cells := 0, slots := 0, locals := 41 }) (xPre D (tyL cB cI cJ cS cZ cO) [(o, .inr (3, [.ref tp, .int (nI bh), .int kd, .int (nI sr), .int fl, .int pl])), (tp, .inr (7, [.ref tp_bytes, .int (nI sz0)])), (tp_bytes, .inl (cB, 1600, .inl fb))] sz [.ref o]) (xQv D (tyL cB cI cJ cS cZ cO) (va_A [(o, .inr (3, [.ref tp, .int (nI bh), .int kd, .int (nI sr), .int fl, .int pl])), (tp, .inr (7, [.ref tp_bytes, .int (nI sz0)])), (tp_bytes, .inl (cB, 1600, .inl fb))] sz) (fun u : va_W => ∃ bh2 : Nat, ∃ kd2 : Int32, ∃ sr2 : Nat, ∃ fl2 : Int32, ∃ pl2 : Int32, u = [(o, .inr (3, [.ref tp, .int (nI bh2), .int kd2, .int (nI sr2), .int fl2, .int pl2])), (tp, .inr (7, [.ref tp_bytes, .int (nI sz0)])), (tp_bytes, .inl (cB, 1600, .inl fb))] ∧ bh2 ≤ sz0 ∧ sr2 ≤ 1600 ∧ (fl2 = 0 → fl = 0) ∧ (fl2 = 0 → kd2 = 2 → ltr fb sr2 bh2))) 0 0 (va_A [(o, .inr (3, [.ref tp, .int (nI bh), .int kd, .int (nI sr), .int fl, .int pl])), (tp, .inr (7, [.ref tp_bytes, .int (nI sz0)])), (tp_bytes, .inl (cB, 1600, .inl fb))] sz) := by
  refine Met.ofW (cc := cX3_step) (maxL := 2) (ret := none) (by decide) rfl ?_
  intro p e s m args below meth c s₁ B hml hv
  obtain ⟨rfl, hsz, hP, hK, hD0, hN⟩ := hv
  have hx := B.exec
  have hb := B.bytes
  have hr := B.returns
  have hts := atoms_spec (ws := wsX3_step) B.pre
  have hown : s.vm.findClass RX3 = some m.cls := findClass_of_methodNamed B.named
  have hlocks := B.notSynchronized
  subst hsz
  have hD := hD0.self (sz := s.heap.size)
  generalize hAe : va_A [(o, .inr (3, [.ref tp, .int (nI bh), .int kd, .int (nI sr), .int fl, .int pl])), (tp, .inr (7, [.ref tp_bytes, .int (nI sz0)])), (tp_bytes, .inl (cB, 1600, .inl fb))] s.heap.size = A at hD ⊢
  have hA : ∀ q : Nat, s.heap.size ≤ q → A q := fun q h => by rw [← hAe]; exact Or.inr h
  have hS : va_S A s.heap s.heap [] := va_S.rf
  have hP : va_P D vwCl [(o, .inr (3, [.ref tp, .int (nI bh), .int kd, .int (nI sr), .int fl, .int pl])), (tp, .inr (7, [.ref tp_bytes, .int (nI sz0)])), (tp_bytes, .inl (cB, 1600, .inl fb))] s.heap := hP
  have hl := lv_entry ([.ref o]) (n := 2) (Nat.le_of_ble_eq_true rfl)
  rw [lg_entry_eq]
  generalize (lg_sl ([.ref o]) ++ List.replicate (2 - (lg_sl ([.ref o])).length) Slot.unset).toArray = ls at hl ⊢
  have hl : lv_has ls 2 [(0, .ref o)] := hl
  refine lv_aload_n hx hb dX3_step_0 rfl (lv_at hl 0 rfl) ?_
  refine va_get (D := D) (ci := 3) (v := .int fl) (C := RX3) (T := TX3) (N := 6) hx hb hts (by decide +kernel) hown hK hP 0 rfl rfl 4 (by decide) (hts (.fieldLink RX3 24 "LastLetter$Reader" "fault" "I") (by decide +kernel)) (fun _ h9 => h9) rfl dX3_step_1 ?_
  refine lv_if_eq (tgt := 8) hx hb dX3_step_4 (by decide) (fun c_1 => ?_) (fun c_1 => ?_)
  · refine lv_aload_n hx hb dX3_step_8 rfl (lv_at hl 0 rfl) ?_
    refine lv_aload_n hx hb dX3_step_9 rfl (lv_at hl 0 rfl) ?_
    refine va_get (D := D) (ci := 3) (v := .int (nI bh)) (C := RX3) (T := TX3) (N := 6) hx hb hts (by decide +kernel) hown hK hP 0 rfl rfl 1 (by decide) (hts (.fieldLink RX3 27 "LastLetter$Reader" "behind" "I") (by decide +kernel)) (fun _ h9 => h9) rfl dX3_step_10 ?_
    refine va_put (D := D) (ci := 3) (v := .int (nI bh)) (ty := .int) (C := RX3) (T := TX3) (N := 6) hx hb hts (by decide +kernel) tyX3 tyX3_ok nmX3 hown hK hP hD hS 0 rfl rfl 3 (by decide) (hts (.fieldLink RX3 87 "LastLetter$Reader" "start" "I") (by decide +kernel)) (fun _ h9 => h9) rfl (by decide +kernel) rfl rfl (Nat.le_of_ble_eq_true rfl) dX3_step_13 (fun H locs hP hD hS => ?_)
    have hP : va_P D vwCl [(o, .inr (3, [.ref tp, .int (nI bh), .int kd, .int (nI bh), .int fl, .int pl])), (tp, .inr (7, [.ref tp_bytes, .int (nI sz0)])), (tp_bytes, .inl (cB, 1600, .inl fb))] H := hP
    have hD : va_D A [(o, .inr (3, [.ref tp, .int (nI bh), .int kd, .int (nI bh), .int fl, .int pl])), (tp, .inr (7, [.ref tp_bytes, .int (nI sz0)])), (tp_bytes, .inl (cB, 1600, .inl fb))] := hD
    refine xb_wh (fun (n9 : Nat) H locs ls => ∃ sr2 : Nat, (sz0 - sr2) = n9 ∧ va_P D vwCl [(o, .inr (3, [.ref tp, .int (nI bh), .int kd, .int (nI sr2), .int fl, .int pl])), (tp, .inr (7, [.ref tp_bytes, .int (nI sz0)])), (tp_bytes, .inl (cB, 1600, .inl fb))] H ∧ va_D A [(o, .inr (3, [.ref tp, .int (nI bh), .int kd, .int (nI sr2), .int fl, .int pl])), (tp, .inr (7, [.ref tp_bytes, .int (nI sz0)])), (tp_bytes, .inl (cB, 1600, .inl fb))] ∧ va_S A s.heap H locs ∧ lv_has ls 2 [(0, .ref o)] ∧ (sr2 ≤ sz0)) ⟨bh, rfl, hP, hD, hS, lv_sub hl [0] rfl, hbh⟩ (fun n9 H locs ls hI kk_16 => ?_)
    obtain ⟨sr2, hn_16, hP, hD, hS, hl, hF_h_2⟩ := hI
    refine lv_aload_n hx hb dX3_step_16 rfl (lv_at hl 0 rfl) ?_
    refine va_get (D := D) (ci := 3) (v := .int (nI sr2)) (C := RX3) (T := TX3) (N := 6) hx hb hts (by decide +kernel) hown hK hP 0 rfl rfl 3 (by decide) (hts (.fieldLink RX3 87 "LastLetter$Reader" "start" "I") (by decide +kernel)) (fun _ h9 => h9) rfl dX3_step_17 ?_
    refine lv_aload_n hx hb dX3_step_20 rfl (lv_at hl 0 rfl) ?_
    refine va_get (D := D) (ci := 3) (v := .ref tp) (C := RX3) (T := TX3) (N := 6) hx hb hts (by decide +kernel) hown hK hP 0 rfl rfl 0 (by decide) (hts (.fieldLink RX3 15 "LastLetter$Reader" "tape" "LLastLetter$Tape;") (by decide +kernel)) (fun _ h9 => h9) rfl dX3_step_21 ?_
    refine va_getN (D := D) (ci := 7) (v := .int (nI sz0)) (C := RX7) (T := TX7) (N := 2) hx hb hts (by decide +kernel) hown hK hP 1 rfl rfl 1 (by decide) (va_Nw.use rfl (hN.1 (RX3, 132, RX7, "size", "I", RX10) (by decide +kernel))) (fun _ h9 => h9) rfl dX3_step_24 ?_
    refine lv_icmp_ge (tgt := 60) hx hb dX3_step_27 (by decide) (fun c_3 => ?_) (fun c_3 => ?_)
    · have dc_3 : sz0 ≤ sr2 := (nI_leI (a := sz0) (b := sr2) (by omega) (by omega)).mp c_3
      refine lv_aload_n hx hb dX3_step_60 rfl (lv_at hl 0 rfl) ?_
      refine lv_aload_n hx hb dX3_step_61 rfl (lv_at hl 0 rfl) ?_
      refine va_get (D := D) (ci := 3) (v := .int (nI sr2)) (C := RX3) (T := TX3) (N := 6) hx hb hts (by decide +kernel) hown hK hP 0 rfl rfl 3 (by decide) (hts (.fieldLink RX3 87 "LastLetter$Reader" "start" "I") (by decide +kernel)) (fun _ h9 => h9) rfl dX3_step_62 ?_
      refine va_put (D := D) (ci := 3) (v := .int (nI sr2)) (ty := .int) (C := RX3) (T := TX3) (N := 6) hx hb hts (by decide +kernel) tyX3 tyX3_ok nmX3 hown hK hP hD hS 0 rfl rfl 1 (by decide) (hts (.fieldLink RX3 27 "LastLetter$Reader" "behind" "I") (by decide +kernel)) (fun _ h9 => h9) rfl (by decide +kernel) rfl rfl (Nat.le_of_ble_eq_true rfl) dX3_step_65 (fun H locs hP hD hS => ?_)
      have hP : va_P D vwCl [(o, .inr (3, [.ref tp, .int (nI sr2), .int kd, .int (nI sr2), .int fl, .int pl])), (tp, .inr (7, [.ref tp_bytes, .int (nI sz0)])), (tp_bytes, .inl (cB, 1600, .inl fb))] H := hP
      have hD : va_D A [(o, .inr (3, [.ref tp, .int (nI sr2), .int kd, .int (nI sr2), .int fl, .int pl])), (tp, .inr (7, [.ref tp_bytes, .int (nI sz0)])), (tp_bytes, .inl (cB, 1600, .inl fb))] := hD
      refine lv_aload_n hx hb dX3_step_68 rfl (lv_at hl 0 rfl) ?_
      refine va_get (D := D) (ci := 3) (v := .ref tp) (C := RX3) (T := TX3) (N := 6) hx hb hts (by decide +kernel) hown hK hP 0 rfl rfl 0 (by decide) (hts (.fieldLink RX3 15 "LastLetter$Reader" "tape" "LLastLetter$Tape;") (by decide +kernel)) (fun _ h9 => h9) rfl dX3_step_69 ?_
      refine lv_aload_n hx hb dX3_step_72 rfl (lv_at hl 0 rfl) ?_
      refine va_get (D := D) (ci := 3) (v := .int (nI sr2)) (C := RX3) (T := TX3) (N := 6) hx hb hts (by decide +kernel) hown hK hP 0 rfl rfl 3 (by decide) (hts (.fieldLink RX3 87 "LastLetter$Reader" "start" "I") (by decide +kernel)) (fun _ h9 => h9) rfl dX3_step_73 ?_
      refine xCi (wr := [(o, .inr (3, [.ref tp, .int (nI sr2), .int kd, .int (nI sr2), .int fl, .int pl]))]) (win := [(tp, .inr (7, [.ref tp_bytes, .int (nI sz0)])), (tp_bytes, .inl (cB, 1600, .inl fb))]) hP hD hS hA [1, 2] [0] rfl rfl (by decide) (by decide) (va_runV (As := [.int (nI sr2)]) (rest := []) ⟨hx, hb, hml, hown, hts⟩ (c_X7_at l D cB cI cJ cS cZ cO H.size tp (nI sr2) tp_bytes sz0 fb (by first | assumption | omega | decide)) (cwV 1 hts gX3_step_X7_at rfl rfl rfl (by decide +kernel) ⟨Nat.le_of_ble_eq_true rfl, Nat.le_of_ble_eq_true rfl⟩) (xPreV (win := [(tp, .inr (7, [.ref tp_bytes, .int (nI sz0)])), (tp_bytes, .inl (cB, 1600, .inl fb))]) hN hK hP hD [1, 2] (by decide) rfl 1 7 rfl rfl rfl) rfl rfl hl.1 rfl (lv_room (Nat.le_of_ble_eq_true rfl)) dX3_step_76 ⟨Nat.le_of_ble_eq_true rfl, Nat.le_of_ble_eq_true rfl⟩) (fun r_4 w0 H locs hw hP hD hS => ?_)
      obtain ⟨rfl, hf_5⟩ := hw
      have hP : va_P D vwCl [(o, .inr (3, [.ref tp, .int (nI sr2), .int kd, .int (nI sr2), .int fl, .int pl])), (tp, .inr (7, [.ref tp_bytes, .int (nI sz0)])), (tp_bytes, .inl (cB, 1600, .inl fb))] H := hP
      have hD : va_D A [(o, .inr (3, [.ref tp, .int (nI sr2), .int kd, .int (nI sr2), .int fl, .int pl])), (tp, .inr (7, [.ref tp_bytes, .int (nI sz0)])), (tp_bytes, .inl (cB, 1600, .inl fb))] := hD
      refine lv_istore_n (lv' := [(1, .int r_4), (0, .ref o)]) hx hb dX3_step_79 rfl hl (by decide) rfl (fun ls hl => ?_)
      refine lv_iload_n hx hb dX3_step_80 rfl (lv_at hl 0 rfl) ?_
      refine lv_iconst (v := (-1)) hx hb dX3_step_81 (by decide) ?_
      refine lv_icmp_ne (tgt := 93) hx hb dX3_step_82 (by decide) (fun c_6 => ?_) (fun c_6 => ?_)
      · have hin9 : sr2 < sz0 := by
          rcases hf_5 with ⟨h9, -⟩ | ⟨k9, hk9, ek9, -⟩
          · exact absurd h9 c_6
          · have h9 := (nI_eq (a := sr2) (b := k9) (by omega) (by omega)).mp ek9; omega
        refine lv_iload_n hx hb dX3_step_93 rfl (lv_at hl 0 rfl) ?_
        refine xCi (wr := [(o, .inr (3, [.ref tp, .int (nI sr2), .int kd, .int (nI sr2), .int fl, .int pl])), (tp, .inr (7, [.ref tp_bytes, .int (nI sz0)])), (tp_bytes, .inl (cB, 1600, .inl fb))]) (win := []) hP hD hS hA [] [0, 1, 2] rfl rfl (by decide) (by decide) (va_runS (As := [.int r_4]) (rest := []) ⟨hx, hb, hml, hown, hts⟩ (c_X3_isLetter l D cB cI cJ cS cZ cO H.size r_4 ) (va_cwS 1 hts gX3_step_X3_isLetter rfl rfl rfl (by decide +kernel) ⟨Nat.le_of_ble_eq_true rfl, Nat.le_of_ble_eq_true rfl⟩) (xPreS (win := []) hN hK hP hD [] (by decide) rfl) rfl rfl hl.1 rfl (lv_room (Nat.le_of_ble_eq_true rfl)) dX3_step_94 ⟨Nat.le_of_ble_eq_true rfl, Nat.le_of_ble_eq_true rfl⟩) (fun r_7 w0 H locs hw hP hD hS => ?_)
        obtain ⟨rfl, hf_8, hf_9⟩ := hw
        have hP : va_P D vwCl [(o, .inr (3, [.ref tp, .int (nI sr2), .int kd, .int (nI sr2), .int fl, .int pl])), (tp, .inr (7, [.ref tp_bytes, .int (nI sz0)])), (tp_bytes, .inl (cB, 1600, .inl fb))] H := hP
        have hD : va_D A [(o, .inr (3, [.ref tp, .int (nI sr2), .int kd, .int (nI sr2), .int fl, .int pl])), (tp, .inr (7, [.ref tp_bytes, .int (nI sz0)])), (tp_bytes, .inl (cB, 1600, .inl fb))] := hD
        refine lv_if_eq (tgt := 107) hx hb dX3_step_97 (by decide) (fun c_10 => ?_) (fun c_10 => ?_)
        · refine lv_iload_n hx hb dX3_step_107 rfl (lv_at hl 0 rfl) ?_
          refine xCi (wr := [(o, .inr (3, [.ref tp, .int (nI sr2), .int kd, .int (nI sr2), .int fl, .int pl])), (tp, .inr (7, [.ref tp_bytes, .int (nI sz0)])), (tp_bytes, .inl (cB, 1600, .inl fb))]) (win := []) hP hD hS hA [] [0, 1, 2] rfl rfl (by decide) (by decide) (va_runS (As := [.int r_4]) (rest := []) ⟨hx, hb, hml, hown, hts⟩ (c_X3_isDigit l D cB cI cJ cS cZ cO H.size r_4 ) (va_cwS 1 hts gX3_step_X3_isDigit rfl rfl rfl (by decide +kernel) ⟨Nat.le_of_ble_eq_true rfl, Nat.le_of_ble_eq_true rfl⟩) (xPreS (win := []) hN hK hP hD [] (by decide) rfl) rfl rfl hl.1 rfl (lv_room (Nat.le_of_ble_eq_true rfl)) dX3_step_108 ⟨Nat.le_of_ble_eq_true rfl, Nat.le_of_ble_eq_true rfl⟩) (fun r_11 w0 H locs hw hP hD hS => ?_)
          obtain ⟨rfl, hf_12⟩ := hw
          have hP : va_P D vwCl [(o, .inr (3, [.ref tp, .int (nI sr2), .int kd, .int (nI sr2), .int fl, .int pl])), (tp, .inr (7, [.ref tp_bytes, .int (nI sz0)])), (tp_bytes, .inl (cB, 1600, .inl fb))] H := hP
          have hD : va_D A [(o, .inr (3, [.ref tp, .int (nI sr2), .int kd, .int (nI sr2), .int fl, .int pl])), (tp, .inr (7, [.ref tp_bytes, .int (nI sz0)])), (tp_bytes, .inl (cB, 1600, .inl fb))] := hD
          refine lv_if_eq (tgt := 121) hx hb dX3_step_111 (by decide) (fun c_13 => ?_) (fun c_13 => ?_)
          · refine lv_iload_n hx hb dX3_step_121 rfl (lv_at hl 0 rfl) ?_
            refine lv_bipush (v := 59) hx hb dX3_step_122 (by decide) ?_
            refine lv_icmp_ne (tgt := 145) hx hb dX3_step_124 (by decide) (fun c_14 => ?_) (fun c_14 => ?_)
            · refine lv_aload_n hx hb dX3_step_145 rfl (lv_at hl 1 rfl) ?_
              refine lv_iconst (v := 0) hx hb dX3_step_146 (by decide) ?_
              refine va_put (D := D) (ci := 3) (v := .int 0) (ty := .int) (C := RX3) (T := TX3) (N := 6) hx hb hts (by decide +kernel) tyX3 tyX3_ok nmX3 hown hK hP hD hS 0 rfl rfl 2 (by decide) (hts (.fieldLink RX3 33 "LastLetter$Reader" "kind" "I") (by decide +kernel)) (fun _ h9 => h9) rfl (by decide +kernel) rfl rfl (Nat.le_of_ble_eq_true rfl) dX3_step_147 (fun H locs hP hD hS => ?_)
              have hP : va_P D vwCl [(o, .inr (3, [.ref tp, .int (nI sr2), .int 0, .int (nI sr2), .int fl, .int pl])), (tp, .inr (7, [.ref tp_bytes, .int (nI sz0)])), (tp_bytes, .inl (cB, 1600, .inl fb))] H := hP
              have hD : va_D A [(o, .inr (3, [.ref tp, .int (nI sr2), .int 0, .int (nI sr2), .int fl, .int pl])), (tp, .inr (7, [.ref tp_bytes, .int (nI sz0)])), (tp_bytes, .inl (cB, 1600, .inl fb))] := hD
              refine lv_aload_n hx hb dX3_step_150 rfl (lv_at hl 1 rfl) ?_
              refine lv_iconst (v := 1) hx hb dX3_step_151 (by decide) ?_
              refine xCv (wr := [(tp, .inr (7, [.ref tp_bytes, .int (nI sz0)])), (tp_bytes, .inl (cB, 1600, .inl fb))]) (win := [(o, .inr (3, [.ref tp, .int (nI sr2), .int 0, .int (nI sr2), .int fl, .int pl]))]) hP hD hS hA [0] [1, 2] rfl rfl (by decide) (by decide) (va_runV (As := [.int 1]) (rest := []) ⟨hx, hb, hml, hown, hts⟩ (c_X3_refuse l D cB cI cJ cS cZ cO H.size o 1 tp (nI sr2) 0 (nI sr2) fl pl (by first | assumption | omega | decide)) (cwV 1 hts gX3_step_X3_refuse rfl rfl rfl (by decide +kernel) ⟨Nat.le_of_ble_eq_true rfl, Nat.le_of_ble_eq_true rfl⟩) (xPreV (win := [(o, .inr (3, [.ref tp, .int (nI sr2), .int 0, .int (nI sr2), .int fl, .int pl]))]) hN hK hP hD [0] (by decide) rfl 0 3 rfl rfl rfl) rfl rfl hl.1 rfl (lv_room (Nat.le_of_ble_eq_true rfl)) dX3_step_152 ⟨Nat.le_of_ble_eq_true rfl, Nat.le_of_ble_eq_true rfl⟩) (fun w0 H locs hw hP hD hS => ?_)
              obtain ⟨fl2_15, pl2_16, rfl, hf_17⟩ := hw
              have hP : va_P D vwCl [(tp, .inr (7, [.ref tp_bytes, .int (nI sz0)])), (tp_bytes, .inl (cB, 1600, .inl fb)), (o, .inr (3, [.ref tp, .int (nI sr2), .int 0, .int (nI sr2), .int fl2_15, .int pl2_16]))] H := hP
              have hD : va_D A [(tp, .inr (7, [.ref tp_bytes, .int (nI sz0)])), (tp_bytes, .inl (cB, 1600, .inl fb)), (o, .inr (3, [.ref tp, .int (nI sr2), .int 0, .int (nI sr2), .int fl2_15, .int pl2_16]))] := hD
              have hP9 := hP.sub (ws' := [(o, .inr (3, [.ref tp, .int (nI sr2), .int 0, .int (nI sr2), .int fl2_15, .int pl2_16])), (tp, .inr (7, [.ref tp_bytes, .int (nI sz0)])), (tp_bytes, .inl (cB, 1600, .inl fb))]) [2, 0, 1] rfl
              have hD9 := hD.sub (ws' := [(o, .inr (3, [.ref tp, .int (nI sr2), .int 0, .int (nI sr2), .int fl2_15, .int pl2_16])), (tp, .inr (7, [.ref tp_bytes, .int (nI sz0)])), (tp_bytes, .inl (cB, 1600, .inl fb))]) [2, 0, 1] (by decide) rfl
              refine W.widen (k := 0) (n := 0) (Nat.le_of_ble_eq_true rfl) (Nat.le_of_ble_eq_true rfl) ?_
              exact W.vret hx hb hr (fun tz htz hWz => ⟨⟨[(o, .inr (3, [.ref tp, .int (nI sr2), .int 0, .int (nI sr2), .int fl2_15, .int pl2_16])), (tp, .inr (7, [.ref tp_bytes, .int (nI sz0)])), (tp_bytes, .inl (cB, 1600, .inl fb))], rfl, ⟨sr2, 0, sr2, fl2_15, pl2_16, rfl, (by omega), (by omega), (fun h => absurd h hf_17), (fun h => absurd h hf_17)⟩, by rw [htz]; exact hP9, va_K.moved hWz.alike hK, hD9⟩, hS.F htz⟩) hS.2.2 dX3_step_155
            · refine lv_aload_n hx hb dX3_step_127 rfl (lv_at hl 1 rfl) ?_
              refine lv_iconst (v := 4) hx hb dX3_step_128 (by decide) ?_
              refine va_put (D := D) (ci := 3) (v := .int 4) (ty := .int) (C := RX3) (T := TX3) (N := 6) hx hb hts (by decide +kernel) tyX3 tyX3_ok nmX3 hown hK hP hD hS 0 rfl rfl 2 (by decide) (hts (.fieldLink RX3 33 "LastLetter$Reader" "kind" "I") (by decide +kernel)) (fun _ h9 => h9) rfl (by decide +kernel) rfl rfl (Nat.le_of_ble_eq_true rfl) dX3_step_129 (fun H locs hP hD hS => ?_)
              have hP : va_P D vwCl [(o, .inr (3, [.ref tp, .int (nI sr2), .int 4, .int (nI sr2), .int fl, .int pl])), (tp, .inr (7, [.ref tp_bytes, .int (nI sz0)])), (tp_bytes, .inl (cB, 1600, .inl fb))] H := hP
              have hD : va_D A [(o, .inr (3, [.ref tp, .int (nI sr2), .int 4, .int (nI sr2), .int fl, .int pl])), (tp, .inr (7, [.ref tp_bytes, .int (nI sz0)])), (tp_bytes, .inl (cB, 1600, .inl fb))] := hD
              refine lv_aload_n hx hb dX3_step_132 rfl (lv_at hl 1 rfl) ?_
              refine lv_dup hx hb dX3_step_133 rfl ?_
              refine va_get (D := D) (ci := 3) (v := .int (nI sr2)) (C := RX3) (T := TX3) (N := 6) hx hb hts (by decide +kernel) hown hK hP 0 rfl rfl 1 (by decide) (hts (.fieldLink RX3 27 "LastLetter$Reader" "behind" "I") (by decide +kernel)) (fun _ h9 => h9) rfl dX3_step_134 ?_
              refine lv_iconst (v := 1) hx hb dX3_step_137 (by decide) ?_
              refine lv_iadd hx hb dX3_step_138 ?_
              refine xb_top (y := nI (sr2 + 1)) (nI_add sr2 1) ?_
              refine va_put (D := D) (ci := 3) (v := .int (nI (sr2 + 1))) (ty := .int) (C := RX3) (T := TX3) (N := 6) hx hb hts (by decide +kernel) tyX3 tyX3_ok nmX3 hown hK hP hD hS 0 rfl rfl 1 (by decide) (hts (.fieldLink RX3 27 "LastLetter$Reader" "behind" "I") (by decide +kernel)) (fun _ h9 => h9) rfl (by decide +kernel) rfl rfl (Nat.le_of_ble_eq_true rfl) dX3_step_139 (fun H locs hP hD hS => ?_)
              have hP : va_P D vwCl [(o, .inr (3, [.ref tp, .int (nI (sr2 + 1)), .int 4, .int (nI sr2), .int fl, .int pl])), (tp, .inr (7, [.ref tp_bytes, .int (nI sz0)])), (tp_bytes, .inl (cB, 1600, .inl fb))] H := hP
              have hD : va_D A [(o, .inr (3, [.ref tp, .int (nI (sr2 + 1)), .int 4, .int (nI sr2), .int fl, .int pl])), (tp, .inr (7, [.ref tp_bytes, .int (nI sz0)])), (tp_bytes, .inl (cB, 1600, .inl fb))] := hD
              refine lv_goto (tgt := 155) hx hb dX3_step_142 (by decide) ?_
              have hP9 := hP.sub (ws' := [(o, .inr (3, [.ref tp, .int (nI (sr2 + 1)), .int 4, .int (nI sr2), .int fl, .int pl])), (tp, .inr (7, [.ref tp_bytes, .int (nI sz0)])), (tp_bytes, .inl (cB, 1600, .inl fb))]) [0, 1, 2] rfl
              have hD9 := hD.sub (ws' := [(o, .inr (3, [.ref tp, .int (nI (sr2 + 1)), .int 4, .int (nI sr2), .int fl, .int pl])), (tp, .inr (7, [.ref tp_bytes, .int (nI sz0)])), (tp_bytes, .inl (cB, 1600, .inl fb))]) [0, 1, 2] (by decide) rfl
              refine W.widen (k := 0) (n := 0) (Nat.le_of_ble_eq_true rfl) (Nat.le_of_ble_eq_true rfl) ?_
              exact W.vret hx hb hr (fun tz htz hWz => ⟨⟨[(o, .inr (3, [.ref tp, .int (nI (sr2 + 1)), .int 4, .int (nI sr2), .int fl, .int pl])), (tp, .inr (7, [.ref tp_bytes, .int (nI sz0)])), (tp_bytes, .inl (cB, 1600, .inl fb))], rfl, ⟨(sr2 + 1), 4, sr2, fl, pl, rfl, (by omega), (by omega), (fun h => h), (fun _ h => absurd h (by decide))⟩, by rw [htz]; exact hP9, va_K.moved hWz.alike hK, hD9⟩, hS.F htz⟩) hS.2.2 dX3_step_155
          · refine lv_aload_n hx hb dX3_step_114 rfl (lv_at hl 1 rfl) ?_
            refine xCv (wr := []) (win := [(o, .inr (3, [.ref tp, .int (nI sr2), .int kd, .int (nI sr2), .int fl, .int pl])), (tp, .inr (7, [.ref tp_bytes, .int (nI sz0)])), (tp_bytes, .inl (cB, 1600, .inl fb))]) hP hD hS hA [0, 1, 2] [] rfl rfl (by decide) (by decide) (va_runV (As := []) (rest := []) ⟨hx, hb, hml, hown, hts⟩ (c_X3_stepDigits l D cB cI cJ cS cZ cO H.size o tp sr2 kd sr2 fl pl tp_bytes sz0 fb (by first | assumption | omega | decide) (by first | assumption | omega | decide) (by first | assumption | omega | decide)) (cwV 0 hts gX3_step_X3_stepDigits rfl rfl rfl (by decide +kernel) ⟨Nat.le_of_ble_eq_true rfl, Nat.le_of_ble_eq_true rfl⟩) (xPreV (win := [(o, .inr (3, [.ref tp, .int (nI sr2), .int kd, .int (nI sr2), .int fl, .int pl])), (tp, .inr (7, [.ref tp_bytes, .int (nI sz0)])), (tp_bytes, .inl (cB, 1600, .inl fb))]) hN hK hP hD [0, 1, 2] (by decide) rfl 0 3 rfl rfl rfl) rfl rfl hl.1 rfl (lv_room (Nat.le_of_ble_eq_true rfl)) dX3_step_115 ⟨Nat.le_of_ble_eq_true rfl, Nat.le_of_ble_eq_true rfl⟩) (fun w0 H locs hw hP hD hS => ?_)
            obtain ⟨bh2_18, kd2_19, fl2_20, pl2_21, rfl, hf_22, hf_23, hf_24, hf_25⟩ := hw
            have hP : va_P D vwCl [(o, .inr (3, [.ref tp, .int (nI bh2_18), .int kd2_19, .int (nI sr2), .int fl2_20, .int pl2_21])), (tp, .inr (7, [.ref tp_bytes, .int (nI sz0)])), (tp_bytes, .inl (cB, 1600, .inl fb))] H := hP
            have hD : va_D A [(o, .inr (3, [.ref tp, .int (nI bh2_18), .int kd2_19, .int (nI sr2), .int fl2_20, .int pl2_21])), (tp, .inr (7, [.ref tp_bytes, .int (nI sz0)])), (tp_bytes, .inl (cB, 1600, .inl fb))] := hD
            refine lv_goto (tgt := 155) hx hb dX3_step_118 (by decide) ?_
            have hP9 := hP.sub (ws' := [(o, .inr (3, [.ref tp, .int (nI bh2_18), .int kd2_19, .int (nI sr2), .int fl2_20, .int pl2_21])), (tp, .inr (7, [.ref tp_bytes, .int (nI sz0)])), (tp_bytes, .inl (cB, 1600, .inl fb))]) [0, 1, 2] rfl
            have hD9 := hD.sub (ws' := [(o, .inr (3, [.ref tp, .int (nI bh2_18), .int kd2_19, .int (nI sr2), .int fl2_20, .int pl2_21])), (tp, .inr (7, [.ref tp_bytes, .int (nI sz0)])), (tp_bytes, .inl (cB, 1600, .inl fb))]) [0, 1, 2] (by decide) rfl
            refine W.widen (k := 0) (n := 0) (Nat.le_of_ble_eq_true rfl) (Nat.le_of_ble_eq_true rfl) ?_
            exact W.vret hx hb hr (fun tz htz hWz => ⟨⟨[(o, .inr (3, [.ref tp, .int (nI bh2_18), .int kd2_19, .int (nI sr2), .int fl2_20, .int pl2_21])), (tp, .inr (7, [.ref tp_bytes, .int (nI sz0)])), (tp_bytes, .inl (cB, 1600, .inl fb))], rfl, ⟨bh2_18, kd2_19, sr2, fl2_20, pl2_21, rfl, (by omega), (by omega), hf_24, hf_25⟩, by rw [htz]; exact hP9, va_K.moved hWz.alike hK, hD9⟩, hS.F htz⟩) hS.2.2 dX3_step_155
        · refine lv_aload_n hx hb dX3_step_100 rfl (lv_at hl 1 rfl) ?_
          refine xCv (wr := []) (win := [(o, .inr (3, [.ref tp, .int (nI sr2), .int kd, .int (nI sr2), .int fl, .int pl])), (tp, .inr (7, [.ref tp_bytes, .int (nI sz0)])), (tp_bytes, .inl (cB, 1600, .inl fb))]) hP hD hS hA [0, 1, 2] [] rfl rfl (by decide) (by decide) (va_runV (As := []) (rest := []) ⟨hx, hb, hml, hown, hts⟩ (c_X3_stepLetters l D cB cI cJ cS cZ cO H.size o tp sr2 kd sr2 fl pl tp_bytes sz0 fb (by first | assumption | omega | decide) (by first | assumption | omega | decide) (by first | assumption | omega | decide) (by first | assumption | omega | decide)) (cwV 0 hts gX3_step_X3_stepLetters rfl rfl rfl (by decide +kernel) ⟨Nat.le_of_ble_eq_true rfl, Nat.le_of_ble_eq_true rfl⟩) (xPreV (win := [(o, .inr (3, [.ref tp, .int (nI sr2), .int kd, .int (nI sr2), .int fl, .int pl])), (tp, .inr (7, [.ref tp_bytes, .int (nI sz0)])), (tp_bytes, .inl (cB, 1600, .inl fb))]) hN hK hP hD [0, 1, 2] (by decide) rfl 0 3 rfl rfl rfl) rfl rfl hl.1 rfl (lv_room (Nat.le_of_ble_eq_true rfl)) dX3_step_101 ⟨Nat.le_of_ble_eq_true rfl, Nat.le_of_ble_eq_true rfl⟩) (fun w0 H locs hw hP hD hS => ?_)
          obtain ⟨bh2_26, kd2_27, fl2_28, pl2_29, rfl, hf_30, hf_31, hf_32, hf_33⟩ := hw
          have hP : va_P D vwCl [(o, .inr (3, [.ref tp, .int (nI bh2_26), .int kd2_27, .int (nI sr2), .int fl2_28, .int pl2_29])), (tp, .inr (7, [.ref tp_bytes, .int (nI sz0)])), (tp_bytes, .inl (cB, 1600, .inl fb))] H := hP
          have hD : va_D A [(o, .inr (3, [.ref tp, .int (nI bh2_26), .int kd2_27, .int (nI sr2), .int fl2_28, .int pl2_29])), (tp, .inr (7, [.ref tp_bytes, .int (nI sz0)])), (tp_bytes, .inl (cB, 1600, .inl fb))] := hD
          refine lv_goto (tgt := 155) hx hb dX3_step_104 (by decide) ?_
          have hP9 := hP.sub (ws' := [(o, .inr (3, [.ref tp, .int (nI bh2_26), .int kd2_27, .int (nI sr2), .int fl2_28, .int pl2_29])), (tp, .inr (7, [.ref tp_bytes, .int (nI sz0)])), (tp_bytes, .inl (cB, 1600, .inl fb))]) [0, 1, 2] rfl
          have hD9 := hD.sub (ws' := [(o, .inr (3, [.ref tp, .int (nI bh2_26), .int kd2_27, .int (nI sr2), .int fl2_28, .int pl2_29])), (tp, .inr (7, [.ref tp_bytes, .int (nI sz0)])), (tp_bytes, .inl (cB, 1600, .inl fb))]) [0, 1, 2] (by decide) rfl
          refine W.widen (k := 0) (n := 0) (Nat.le_of_ble_eq_true rfl) (Nat.le_of_ble_eq_true rfl) ?_
          exact W.vret hx hb hr (fun tz htz hWz => ⟨⟨[(o, .inr (3, [.ref tp, .int (nI bh2_26), .int kd2_27, .int (nI sr2), .int fl2_28, .int pl2_29])), (tp, .inr (7, [.ref tp_bytes, .int (nI sz0)])), (tp_bytes, .inl (cB, 1600, .inl fb))], rfl, ⟨bh2_26, kd2_27, sr2, fl2_28, pl2_29, rfl, (by omega), (by omega), hf_32, hf_33⟩, by rw [htz]; exact hP9, va_K.moved hWz.alike hK, hD9⟩, hS.F htz⟩) hS.2.2 dX3_step_155
      · refine lv_aload_n hx hb dX3_step_85 rfl (lv_at hl 1 rfl) ?_
        refine lv_iconst (v := 1) hx hb dX3_step_86 (by decide) ?_
        refine va_put (D := D) (ci := 3) (v := .int 1) (ty := .int) (C := RX3) (T := TX3) (N := 6) hx hb hts (by decide +kernel) tyX3 tyX3_ok nmX3 hown hK hP hD hS 0 rfl rfl 2 (by decide) (hts (.fieldLink RX3 33 "LastLetter$Reader" "kind" "I") (by decide +kernel)) (fun _ h9 => h9) rfl (by decide +kernel) rfl rfl (Nat.le_of_ble_eq_true rfl) dX3_step_87 (fun H locs hP hD hS => ?_)
        have hP : va_P D vwCl [(o, .inr (3, [.ref tp, .int (nI sr2), .int 1, .int (nI sr2), .int fl, .int pl])), (tp, .inr (7, [.ref tp_bytes, .int (nI sz0)])), (tp_bytes, .inl (cB, 1600, .inl fb))] H := hP
        have hD : va_D A [(o, .inr (3, [.ref tp, .int (nI sr2), .int 1, .int (nI sr2), .int fl, .int pl])), (tp, .inr (7, [.ref tp_bytes, .int (nI sz0)])), (tp_bytes, .inl (cB, 1600, .inl fb))] := hD
        refine lv_goto (tgt := 155) hx hb dX3_step_90 (by decide) ?_
        have hP9 := hP.sub (ws' := [(o, .inr (3, [.ref tp, .int (nI sr2), .int 1, .int (nI sr2), .int fl, .int pl])), (tp, .inr (7, [.ref tp_bytes, .int (nI sz0)])), (tp_bytes, .inl (cB, 1600, .inl fb))]) [0, 1, 2] rfl
        have hD9 := hD.sub (ws' := [(o, .inr (3, [.ref tp, .int (nI sr2), .int 1, .int (nI sr2), .int fl, .int pl])), (tp, .inr (7, [.ref tp_bytes, .int (nI sz0)])), (tp_bytes, .inl (cB, 1600, .inl fb))]) [0, 1, 2] (by decide) rfl
        refine W.widen (k := 0) (n := 0) (Nat.le_of_ble_eq_true rfl) (Nat.le_of_ble_eq_true rfl) ?_
        exact W.vret hx hb hr (fun tz htz hWz => ⟨⟨[(o, .inr (3, [.ref tp, .int (nI sr2), .int 1, .int (nI sr2), .int fl, .int pl])), (tp, .inr (7, [.ref tp_bytes, .int (nI sz0)])), (tp_bytes, .inl (cB, 1600, .inl fb))], rfl, ⟨sr2, 1, sr2, fl, pl, rfl, (by omega), (by omega), (fun h => h), (fun _ h => absurd h (by decide))⟩, by rw [htz]; exact hP9, va_K.moved hWz.alike hK, hD9⟩, hS.F htz⟩) hS.2.2 dX3_step_155
    · have dc_3 : ¬ sz0 ≤ sr2 := fun h => c_3 ((nI_leI (a := sz0) (b := sr2) (by omega) (by omega)).mpr h)
      refine lv_aload_n hx hb dX3_step_30 rfl (lv_at hl 0 rfl) ?_
      refine va_get (D := D) (ci := 3) (v := .ref tp) (C := RX3) (T := TX3) (N := 6) hx hb hts (by decide +kernel) hown hK hP 0 rfl rfl 0 (by decide) (hts (.fieldLink RX3 15 "LastLetter$Reader" "tape" "LLastLetter$Tape;") (by decide +kernel)) (fun _ h9 => h9) rfl dX3_step_31 ?_
      refine lv_aload_n hx hb dX3_step_34 rfl (lv_at hl 0 rfl) ?_
      refine va_get (D := D) (ci := 3) (v := .int (nI sr2)) (C := RX3) (T := TX3) (N := 6) hx hb hts (by decide +kernel) hown hK hP 0 rfl rfl 3 (by decide) (hts (.fieldLink RX3 87 "LastLetter$Reader" "start" "I") (by decide +kernel)) (fun _ h9 => h9) rfl dX3_step_35 ?_
      refine xCi (wr := [(o, .inr (3, [.ref tp, .int (nI bh), .int kd, .int (nI sr2), .int fl, .int pl]))]) (win := [(tp, .inr (7, [.ref tp_bytes, .int (nI sz0)])), (tp_bytes, .inl (cB, 1600, .inl fb))]) hP hD hS hA [1, 2] [0] rfl rfl (by decide) (by decide) (va_runV (As := [.int (nI sr2)]) (rest := []) ⟨hx, hb, hml, hown, hts⟩ (c_X7_at_in l D cB cI cJ cS cZ cO H.size tp sr2 tp_bytes sz0 fb (by first | assumption | omega | decide) (by first | assumption | omega | decide)) (cwV 1 hts gX3_step_X7_at rfl rfl rfl (by decide +kernel) ⟨Nat.le_of_ble_eq_true rfl, Nat.le_of_ble_eq_true rfl⟩) (xPreV (win := [(tp, .inr (7, [.ref tp_bytes, .int (nI sz0)])), (tp_bytes, .inl (cB, 1600, .inl fb))]) hN hK hP hD [1, 2] (by decide) rfl 1 7 rfl rfl rfl) rfl rfl hl.1 rfl (lv_room (Nat.le_of_ble_eq_true rfl)) dX3_step_38 ⟨Nat.le_of_ble_eq_true rfl, Nat.le_of_ble_eq_true rfl⟩) (fun r0 w0 H locs hw hP hD hS => ?_)
      obtain ⟨rfl, rfl⟩ := hw
      have hP : va_P D vwCl [(o, .inr (3, [.ref tp, .int (nI bh), .int kd, .int (nI sr2), .int fl, .int pl])), (tp, .inr (7, [.ref tp_bytes, .int (nI sz0)])), (tp_bytes, .inl (cB, 1600, .inl fb))] H := hP
      have hD : va_D A [(o, .inr (3, [.ref tp, .int (nI bh), .int kd, .int (nI sr2), .int fl, .int pl])), (tp, .inr (7, [.ref tp_bytes, .int (nI sz0)])), (tp_bytes, .inl (cB, 1600, .inl fb))] := hD
      refine xCi (wr := [(o, .inr (3, [.ref tp, .int (nI bh), .int kd, .int (nI sr2), .int fl, .int pl])), (tp, .inr (7, [.ref tp_bytes, .int (nI sz0)])), (tp_bytes, .inl (cB, 1600, .inl fb))]) (win := []) hP hD hS hA [] [0, 1, 2] rfl rfl (by decide) (by decide) (va_runS (As := [.int (fb sr2 &&& 255)]) (rest := []) ⟨hx, hb, hml, hown, hts⟩ (c_X3_isBlank l D cB cI cJ cS cZ cO H.size (fb sr2 &&& 255) ) (va_cwS 1 hts gX3_step_X3_isBlank rfl rfl rfl (by decide +kernel) ⟨Nat.le_of_ble_eq_true rfl, Nat.le_of_ble_eq_true rfl⟩) (xPreS (win := []) hN hK hP hD [] (by decide) rfl) rfl rfl hl.1 rfl (lv_room (Nat.le_of_ble_eq_true rfl)) dX3_step_41 ⟨Nat.le_of_ble_eq_true rfl, Nat.le_of_ble_eq_true rfl⟩) (fun r_34 w0 H locs hw hP hD hS => ?_)
      obtain ⟨rfl, hf_35⟩ := hw
      have hP : va_P D vwCl [(o, .inr (3, [.ref tp, .int (nI bh), .int kd, .int (nI sr2), .int fl, .int pl])), (tp, .inr (7, [.ref tp_bytes, .int (nI sz0)])), (tp_bytes, .inl (cB, 1600, .inl fb))] H := hP
      have hD : va_D A [(o, .inr (3, [.ref tp, .int (nI bh), .int kd, .int (nI sr2), .int fl, .int pl])), (tp, .inr (7, [.ref tp_bytes, .int (nI sz0)])), (tp_bytes, .inl (cB, 1600, .inl fb))] := hD
      refine lv_if_eq (tgt := 60) hx hb dX3_step_44 (by decide) (fun c_36 => ?_) (fun c_36 => ?_)
      · refine lv_aload_n hx hb dX3_step_60 rfl (lv_at hl 0 rfl) ?_
        refine lv_aload_n hx hb dX3_step_61 rfl (lv_at hl 0 rfl) ?_
        refine va_get (D := D) (ci := 3) (v := .int (nI sr2)) (C := RX3) (T := TX3) (N := 6) hx hb hts (by decide +kernel) hown hK hP 0 rfl rfl 3 (by decide) (hts (.fieldLink RX3 87 "LastLetter$Reader" "start" "I") (by decide +kernel)) (fun _ h9 => h9) rfl dX3_step_62 ?_
        refine va_put (D := D) (ci := 3) (v := .int (nI sr2)) (ty := .int) (C := RX3) (T := TX3) (N := 6) hx hb hts (by decide +kernel) tyX3 tyX3_ok nmX3 hown hK hP hD hS 0 rfl rfl 1 (by decide) (hts (.fieldLink RX3 27 "LastLetter$Reader" "behind" "I") (by decide +kernel)) (fun _ h9 => h9) rfl (by decide +kernel) rfl rfl (Nat.le_of_ble_eq_true rfl) dX3_step_65 (fun H locs hP hD hS => ?_)
        have hP : va_P D vwCl [(o, .inr (3, [.ref tp, .int (nI sr2), .int kd, .int (nI sr2), .int fl, .int pl])), (tp, .inr (7, [.ref tp_bytes, .int (nI sz0)])), (tp_bytes, .inl (cB, 1600, .inl fb))] H := hP
        have hD : va_D A [(o, .inr (3, [.ref tp, .int (nI sr2), .int kd, .int (nI sr2), .int fl, .int pl])), (tp, .inr (7, [.ref tp_bytes, .int (nI sz0)])), (tp_bytes, .inl (cB, 1600, .inl fb))] := hD
        refine lv_aload_n hx hb dX3_step_68 rfl (lv_at hl 0 rfl) ?_
        refine va_get (D := D) (ci := 3) (v := .ref tp) (C := RX3) (T := TX3) (N := 6) hx hb hts (by decide +kernel) hown hK hP 0 rfl rfl 0 (by decide) (hts (.fieldLink RX3 15 "LastLetter$Reader" "tape" "LLastLetter$Tape;") (by decide +kernel)) (fun _ h9 => h9) rfl dX3_step_69 ?_
        refine lv_aload_n hx hb dX3_step_72 rfl (lv_at hl 0 rfl) ?_
        refine va_get (D := D) (ci := 3) (v := .int (nI sr2)) (C := RX3) (T := TX3) (N := 6) hx hb hts (by decide +kernel) hown hK hP 0 rfl rfl 3 (by decide) (hts (.fieldLink RX3 87 "LastLetter$Reader" "start" "I") (by decide +kernel)) (fun _ h9 => h9) rfl dX3_step_73 ?_
        refine xCi (wr := [(o, .inr (3, [.ref tp, .int (nI sr2), .int kd, .int (nI sr2), .int fl, .int pl]))]) (win := [(tp, .inr (7, [.ref tp_bytes, .int (nI sz0)])), (tp_bytes, .inl (cB, 1600, .inl fb))]) hP hD hS hA [1, 2] [0] rfl rfl (by decide) (by decide) (va_runV (As := [.int (nI sr2)]) (rest := []) ⟨hx, hb, hml, hown, hts⟩ (c_X7_at l D cB cI cJ cS cZ cO H.size tp (nI sr2) tp_bytes sz0 fb (by first | assumption | omega | decide)) (cwV 1 hts gX3_step_X7_at rfl rfl rfl (by decide +kernel) ⟨Nat.le_of_ble_eq_true rfl, Nat.le_of_ble_eq_true rfl⟩) (xPreV (win := [(tp, .inr (7, [.ref tp_bytes, .int (nI sz0)])), (tp_bytes, .inl (cB, 1600, .inl fb))]) hN hK hP hD [1, 2] (by decide) rfl 1 7 rfl rfl rfl) rfl rfl hl.1 rfl (lv_room (Nat.le_of_ble_eq_true rfl)) dX3_step_76 ⟨Nat.le_of_ble_eq_true rfl, Nat.le_of_ble_eq_true rfl⟩) (fun r_37 w0 H locs hw hP hD hS => ?_)
        obtain ⟨rfl, hf_38⟩ := hw
        have hP : va_P D vwCl [(o, .inr (3, [.ref tp, .int (nI sr2), .int kd, .int (nI sr2), .int fl, .int pl])), (tp, .inr (7, [.ref tp_bytes, .int (nI sz0)])), (tp_bytes, .inl (cB, 1600, .inl fb))] H := hP
        have hD : va_D A [(o, .inr (3, [.ref tp, .int (nI sr2), .int kd, .int (nI sr2), .int fl, .int pl])), (tp, .inr (7, [.ref tp_bytes, .int (nI sz0)])), (tp_bytes, .inl (cB, 1600, .inl fb))] := hD
        refine lv_istore_n (lv' := [(1, .int r_37), (0, .ref o)]) hx hb dX3_step_79 rfl hl (by decide) rfl (fun ls hl => ?_)
        refine lv_iload_n hx hb dX3_step_80 rfl (lv_at hl 0 rfl) ?_
        refine lv_iconst (v := (-1)) hx hb dX3_step_81 (by decide) ?_
        refine lv_icmp_ne (tgt := 93) hx hb dX3_step_82 (by decide) (fun c_39 => ?_) (fun c_39 => ?_)
        · have hin9 : sr2 < sz0 := by
            rcases hf_38 with ⟨h9, -⟩ | ⟨k9, hk9, ek9, -⟩
            · exact absurd h9 c_39
            · have h9 := (nI_eq (a := sr2) (b := k9) (by omega) (by omega)).mp ek9; omega
          refine lv_iload_n hx hb dX3_step_93 rfl (lv_at hl 0 rfl) ?_
          refine xCi (wr := [(o, .inr (3, [.ref tp, .int (nI sr2), .int kd, .int (nI sr2), .int fl, .int pl])), (tp, .inr (7, [.ref tp_bytes, .int (nI sz0)])), (tp_bytes, .inl (cB, 1600, .inl fb))]) (win := []) hP hD hS hA [] [0, 1, 2] rfl rfl (by decide) (by decide) (va_runS (As := [.int r_37]) (rest := []) ⟨hx, hb, hml, hown, hts⟩ (c_X3_isLetter l D cB cI cJ cS cZ cO H.size r_37 ) (va_cwS 1 hts gX3_step_X3_isLetter rfl rfl rfl (by decide +kernel) ⟨Nat.le_of_ble_eq_true rfl, Nat.le_of_ble_eq_true rfl⟩) (xPreS (win := []) hN hK hP hD [] (by decide) rfl) rfl rfl hl.1 rfl (lv_room (Nat.le_of_ble_eq_true rfl)) dX3_step_94 ⟨Nat.le_of_ble_eq_true rfl, Nat.le_of_ble_eq_true rfl⟩) (fun r_40 w0 H locs hw hP hD hS => ?_)
          obtain ⟨rfl, hf_41, hf_42⟩ := hw
          have hP : va_P D vwCl [(o, .inr (3, [.ref tp, .int (nI sr2), .int kd, .int (nI sr2), .int fl, .int pl])), (tp, .inr (7, [.ref tp_bytes, .int (nI sz0)])), (tp_bytes, .inl (cB, 1600, .inl fb))] H := hP
          have hD : va_D A [(o, .inr (3, [.ref tp, .int (nI sr2), .int kd, .int (nI sr2), .int fl, .int pl])), (tp, .inr (7, [.ref tp_bytes, .int (nI sz0)])), (tp_bytes, .inl (cB, 1600, .inl fb))] := hD
          refine lv_if_eq (tgt := 107) hx hb dX3_step_97 (by decide) (fun c_43 => ?_) (fun c_43 => ?_)
          · refine lv_iload_n hx hb dX3_step_107 rfl (lv_at hl 0 rfl) ?_
            refine xCi (wr := [(o, .inr (3, [.ref tp, .int (nI sr2), .int kd, .int (nI sr2), .int fl, .int pl])), (tp, .inr (7, [.ref tp_bytes, .int (nI sz0)])), (tp_bytes, .inl (cB, 1600, .inl fb))]) (win := []) hP hD hS hA [] [0, 1, 2] rfl rfl (by decide) (by decide) (va_runS (As := [.int r_37]) (rest := []) ⟨hx, hb, hml, hown, hts⟩ (c_X3_isDigit l D cB cI cJ cS cZ cO H.size r_37 ) (va_cwS 1 hts gX3_step_X3_isDigit rfl rfl rfl (by decide +kernel) ⟨Nat.le_of_ble_eq_true rfl, Nat.le_of_ble_eq_true rfl⟩) (xPreS (win := []) hN hK hP hD [] (by decide) rfl) rfl rfl hl.1 rfl (lv_room (Nat.le_of_ble_eq_true rfl)) dX3_step_108 ⟨Nat.le_of_ble_eq_true rfl, Nat.le_of_ble_eq_true rfl⟩) (fun r_44 w0 H locs hw hP hD hS => ?_)
            obtain ⟨rfl, hf_45⟩ := hw
            have hP : va_P D vwCl [(o, .inr (3, [.ref tp, .int (nI sr2), .int kd, .int (nI sr2), .int fl, .int pl])), (tp, .inr (7, [.ref tp_bytes, .int (nI sz0)])), (tp_bytes, .inl (cB, 1600, .inl fb))] H := hP
            have hD : va_D A [(o, .inr (3, [.ref tp, .int (nI sr2), .int kd, .int (nI sr2), .int fl, .int pl])), (tp, .inr (7, [.ref tp_bytes, .int (nI sz0)])), (tp_bytes, .inl (cB, 1600, .inl fb))] := hD
            refine lv_if_eq (tgt := 121) hx hb dX3_step_111 (by decide) (fun c_46 => ?_) (fun c_46 => ?_)
            · refine lv_iload_n hx hb dX3_step_121 rfl (lv_at hl 0 rfl) ?_
              refine lv_bipush (v := 59) hx hb dX3_step_122 (by decide) ?_
              refine lv_icmp_ne (tgt := 145) hx hb dX3_step_124 (by decide) (fun c_47 => ?_) (fun c_47 => ?_)
              · refine lv_aload_n hx hb dX3_step_145 rfl (lv_at hl 1 rfl) ?_
                refine lv_iconst (v := 0) hx hb dX3_step_146 (by decide) ?_
                refine va_put (D := D) (ci := 3) (v := .int 0) (ty := .int) (C := RX3) (T := TX3) (N := 6) hx hb hts (by decide +kernel) tyX3 tyX3_ok nmX3 hown hK hP hD hS 0 rfl rfl 2 (by decide) (hts (.fieldLink RX3 33 "LastLetter$Reader" "kind" "I") (by decide +kernel)) (fun _ h9 => h9) rfl (by decide +kernel) rfl rfl (Nat.le_of_ble_eq_true rfl) dX3_step_147 (fun H locs hP hD hS => ?_)
                have hP : va_P D vwCl [(o, .inr (3, [.ref tp, .int (nI sr2), .int 0, .int (nI sr2), .int fl, .int pl])), (tp, .inr (7, [.ref tp_bytes, .int (nI sz0)])), (tp_bytes, .inl (cB, 1600, .inl fb))] H := hP
                have hD : va_D A [(o, .inr (3, [.ref tp, .int (nI sr2), .int 0, .int (nI sr2), .int fl, .int pl])), (tp, .inr (7, [.ref tp_bytes, .int (nI sz0)])), (tp_bytes, .inl (cB, 1600, .inl fb))] := hD
                refine lv_aload_n hx hb dX3_step_150 rfl (lv_at hl 1 rfl) ?_
                refine lv_iconst (v := 1) hx hb dX3_step_151 (by decide) ?_
                refine xCv (wr := [(tp, .inr (7, [.ref tp_bytes, .int (nI sz0)])), (tp_bytes, .inl (cB, 1600, .inl fb))]) (win := [(o, .inr (3, [.ref tp, .int (nI sr2), .int 0, .int (nI sr2), .int fl, .int pl]))]) hP hD hS hA [0] [1, 2] rfl rfl (by decide) (by decide) (va_runV (As := [.int 1]) (rest := []) ⟨hx, hb, hml, hown, hts⟩ (c_X3_refuse l D cB cI cJ cS cZ cO H.size o 1 tp (nI sr2) 0 (nI sr2) fl pl (by first | assumption | omega | decide)) (cwV 1 hts gX3_step_X3_refuse rfl rfl rfl (by decide +kernel) ⟨Nat.le_of_ble_eq_true rfl, Nat.le_of_ble_eq_true rfl⟩) (xPreV (win := [(o, .inr (3, [.ref tp, .int (nI sr2), .int 0, .int (nI sr2), .int fl, .int pl]))]) hN hK hP hD [0] (by decide) rfl 0 3 rfl rfl rfl) rfl rfl hl.1 rfl (lv_room (Nat.le_of_ble_eq_true rfl)) dX3_step_152 ⟨Nat.le_of_ble_eq_true rfl, Nat.le_of_ble_eq_true rfl⟩) (fun w0 H locs hw hP hD hS => ?_)
                obtain ⟨fl2_48, pl2_49, rfl, hf_50⟩ := hw
                have hP : va_P D vwCl [(tp, .inr (7, [.ref tp_bytes, .int (nI sz0)])), (tp_bytes, .inl (cB, 1600, .inl fb)), (o, .inr (3, [.ref tp, .int (nI sr2), .int 0, .int (nI sr2), .int fl2_48, .int pl2_49]))] H := hP
                have hD : va_D A [(tp, .inr (7, [.ref tp_bytes, .int (nI sz0)])), (tp_bytes, .inl (cB, 1600, .inl fb)), (o, .inr (3, [.ref tp, .int (nI sr2), .int 0, .int (nI sr2), .int fl2_48, .int pl2_49]))] := hD
                have hP9 := hP.sub (ws' := [(o, .inr (3, [.ref tp, .int (nI sr2), .int 0, .int (nI sr2), .int fl2_48, .int pl2_49])), (tp, .inr (7, [.ref tp_bytes, .int (nI sz0)])), (tp_bytes, .inl (cB, 1600, .inl fb))]) [2, 0, 1] rfl
                have hD9 := hD.sub (ws' := [(o, .inr (3, [.ref tp, .int (nI sr2), .int 0, .int (nI sr2), .int fl2_48, .int pl2_49])), (tp, .inr (7, [.ref tp_bytes, .int (nI sz0)])), (tp_bytes, .inl (cB, 1600, .inl fb))]) [2, 0, 1] (by decide) rfl
                refine W.widen (k := 0) (n := 0) (Nat.le_of_ble_eq_true rfl) (Nat.le_of_ble_eq_true rfl) ?_
                exact W.vret hx hb hr (fun tz htz hWz => ⟨⟨[(o, .inr (3, [.ref tp, .int (nI sr2), .int 0, .int (nI sr2), .int fl2_48, .int pl2_49])), (tp, .inr (7, [.ref tp_bytes, .int (nI sz0)])), (tp_bytes, .inl (cB, 1600, .inl fb))], rfl, ⟨sr2, 0, sr2, fl2_48, pl2_49, rfl, (by omega), (by omega), (fun h => absurd h hf_50), (fun h => absurd h hf_50)⟩, by rw [htz]; exact hP9, va_K.moved hWz.alike hK, hD9⟩, hS.F htz⟩) hS.2.2 dX3_step_155
              · refine lv_aload_n hx hb dX3_step_127 rfl (lv_at hl 1 rfl) ?_
                refine lv_iconst (v := 4) hx hb dX3_step_128 (by decide) ?_
                refine va_put (D := D) (ci := 3) (v := .int 4) (ty := .int) (C := RX3) (T := TX3) (N := 6) hx hb hts (by decide +kernel) tyX3 tyX3_ok nmX3 hown hK hP hD hS 0 rfl rfl 2 (by decide) (hts (.fieldLink RX3 33 "LastLetter$Reader" "kind" "I") (by decide +kernel)) (fun _ h9 => h9) rfl (by decide +kernel) rfl rfl (Nat.le_of_ble_eq_true rfl) dX3_step_129 (fun H locs hP hD hS => ?_)
                have hP : va_P D vwCl [(o, .inr (3, [.ref tp, .int (nI sr2), .int 4, .int (nI sr2), .int fl, .int pl])), (tp, .inr (7, [.ref tp_bytes, .int (nI sz0)])), (tp_bytes, .inl (cB, 1600, .inl fb))] H := hP
                have hD : va_D A [(o, .inr (3, [.ref tp, .int (nI sr2), .int 4, .int (nI sr2), .int fl, .int pl])), (tp, .inr (7, [.ref tp_bytes, .int (nI sz0)])), (tp_bytes, .inl (cB, 1600, .inl fb))] := hD
                refine lv_aload_n hx hb dX3_step_132 rfl (lv_at hl 1 rfl) ?_
                refine lv_dup hx hb dX3_step_133 rfl ?_
                refine va_get (D := D) (ci := 3) (v := .int (nI sr2)) (C := RX3) (T := TX3) (N := 6) hx hb hts (by decide +kernel) hown hK hP 0 rfl rfl 1 (by decide) (hts (.fieldLink RX3 27 "LastLetter$Reader" "behind" "I") (by decide +kernel)) (fun _ h9 => h9) rfl dX3_step_134 ?_
                refine lv_iconst (v := 1) hx hb dX3_step_137 (by decide) ?_
                refine lv_iadd hx hb dX3_step_138 ?_
                refine xb_top (y := nI (sr2 + 1)) (nI_add sr2 1) ?_
                refine va_put (D := D) (ci := 3) (v := .int (nI (sr2 + 1))) (ty := .int) (C := RX3) (T := TX3) (N := 6) hx hb hts (by decide +kernel) tyX3 tyX3_ok nmX3 hown hK hP hD hS 0 rfl rfl 1 (by decide) (hts (.fieldLink RX3 27 "LastLetter$Reader" "behind" "I") (by decide +kernel)) (fun _ h9 => h9) rfl (by decide +kernel) rfl rfl (Nat.le_of_ble_eq_true rfl) dX3_step_139 (fun H locs hP hD hS => ?_)
                have hP : va_P D vwCl [(o, .inr (3, [.ref tp, .int (nI (sr2 + 1)), .int 4, .int (nI sr2), .int fl, .int pl])), (tp, .inr (7, [.ref tp_bytes, .int (nI sz0)])), (tp_bytes, .inl (cB, 1600, .inl fb))] H := hP
                have hD : va_D A [(o, .inr (3, [.ref tp, .int (nI (sr2 + 1)), .int 4, .int (nI sr2), .int fl, .int pl])), (tp, .inr (7, [.ref tp_bytes, .int (nI sz0)])), (tp_bytes, .inl (cB, 1600, .inl fb))] := hD
                refine lv_goto (tgt := 155) hx hb dX3_step_142 (by decide) ?_
                have hP9 := hP.sub (ws' := [(o, .inr (3, [.ref tp, .int (nI (sr2 + 1)), .int 4, .int (nI sr2), .int fl, .int pl])), (tp, .inr (7, [.ref tp_bytes, .int (nI sz0)])), (tp_bytes, .inl (cB, 1600, .inl fb))]) [0, 1, 2] rfl
                have hD9 := hD.sub (ws' := [(o, .inr (3, [.ref tp, .int (nI (sr2 + 1)), .int 4, .int (nI sr2), .int fl, .int pl])), (tp, .inr (7, [.ref tp_bytes, .int (nI sz0)])), (tp_bytes, .inl (cB, 1600, .inl fb))]) [0, 1, 2] (by decide) rfl
                refine W.widen (k := 0) (n := 0) (Nat.le_of_ble_eq_true rfl) (Nat.le_of_ble_eq_true rfl) ?_
                exact W.vret hx hb hr (fun tz htz hWz => ⟨⟨[(o, .inr (3, [.ref tp, .int (nI (sr2 + 1)), .int 4, .int (nI sr2), .int fl, .int pl])), (tp, .inr (7, [.ref tp_bytes, .int (nI sz0)])), (tp_bytes, .inl (cB, 1600, .inl fb))], rfl, ⟨(sr2 + 1), 4, sr2, fl, pl, rfl, (by omega), (by omega), (fun h => h), (fun _ h => absurd h (by decide))⟩, by rw [htz]; exact hP9, va_K.moved hWz.alike hK, hD9⟩, hS.F htz⟩) hS.2.2 dX3_step_155
            · refine lv_aload_n hx hb dX3_step_114 rfl (lv_at hl 1 rfl) ?_
              refine xCv (wr := []) (win := [(o, .inr (3, [.ref tp, .int (nI sr2), .int kd, .int (nI sr2), .int fl, .int pl])), (tp, .inr (7, [.ref tp_bytes, .int (nI sz0)])), (tp_bytes, .inl (cB, 1600, .inl fb))]) hP hD hS hA [0, 1, 2] [] rfl rfl (by decide) (by decide) (va_runV (As := []) (rest := []) ⟨hx, hb, hml, hown, hts⟩ (c_X3_stepDigits l D cB cI cJ cS cZ cO H.size o tp sr2 kd sr2 fl pl tp_bytes sz0 fb (by first | assumption | omega | decide) (by first | assumption | omega | decide) (by first | assumption | omega | decide)) (cwV 0 hts gX3_step_X3_stepDigits rfl rfl rfl (by decide +kernel) ⟨Nat.le_of_ble_eq_true rfl, Nat.le_of_ble_eq_true rfl⟩) (xPreV (win := [(o, .inr (3, [.ref tp, .int (nI sr2), .int kd, .int (nI sr2), .int fl, .int pl])), (tp, .inr (7, [.ref tp_bytes, .int (nI sz0)])), (tp_bytes, .inl (cB, 1600, .inl fb))]) hN hK hP hD [0, 1, 2] (by decide) rfl 0 3 rfl rfl rfl) rfl rfl hl.1 rfl (lv_room (Nat.le_of_ble_eq_true rfl)) dX3_step_115 ⟨Nat.le_of_ble_eq_true rfl, Nat.le_of_ble_eq_true rfl⟩) (fun w0 H locs hw hP hD hS => ?_)
              obtain ⟨bh2_51, kd2_52, fl2_53, pl2_54, rfl, hf_55, hf_56, hf_57, hf_58⟩ := hw
              have hP : va_P D vwCl [(o, .inr (3, [.ref tp, .int (nI bh2_51), .int kd2_52, .int (nI sr2), .int fl2_53, .int pl2_54])), (tp, .inr (7, [.ref tp_bytes, .int (nI sz0)])), (tp_bytes, .inl (cB, 1600, .inl fb))] H := hP
              have hD : va_D A [(o, .inr (3, [.ref tp, .int (nI bh2_51), .int kd2_52, .int (nI sr2), .int fl2_53, .int pl2_54])), (tp, .inr (7, [.ref tp_bytes, .int (nI sz0)])), (tp_bytes, .inl (cB, 1600, .inl fb))] := hD
              refine lv_goto (tgt := 155) hx hb dX3_step_118 (by decide) ?_
              have hP9 := hP.sub (ws' := [(o, .inr (3, [.ref tp, .int (nI bh2_51), .int kd2_52, .int (nI sr2), .int fl2_53, .int pl2_54])), (tp, .inr (7, [.ref tp_bytes, .int (nI sz0)])), (tp_bytes, .inl (cB, 1600, .inl fb))]) [0, 1, 2] rfl
              have hD9 := hD.sub (ws' := [(o, .inr (3, [.ref tp, .int (nI bh2_51), .int kd2_52, .int (nI sr2), .int fl2_53, .int pl2_54])), (tp, .inr (7, [.ref tp_bytes, .int (nI sz0)])), (tp_bytes, .inl (cB, 1600, .inl fb))]) [0, 1, 2] (by decide) rfl
              refine W.widen (k := 0) (n := 0) (Nat.le_of_ble_eq_true rfl) (Nat.le_of_ble_eq_true rfl) ?_
              exact W.vret hx hb hr (fun tz htz hWz => ⟨⟨[(o, .inr (3, [.ref tp, .int (nI bh2_51), .int kd2_52, .int (nI sr2), .int fl2_53, .int pl2_54])), (tp, .inr (7, [.ref tp_bytes, .int (nI sz0)])), (tp_bytes, .inl (cB, 1600, .inl fb))], rfl, ⟨bh2_51, kd2_52, sr2, fl2_53, pl2_54, rfl, (by omega), (by omega), hf_57, hf_58⟩, by rw [htz]; exact hP9, va_K.moved hWz.alike hK, hD9⟩, hS.F htz⟩) hS.2.2 dX3_step_155
          · refine lv_aload_n hx hb dX3_step_100 rfl (lv_at hl 1 rfl) ?_
            refine xCv (wr := []) (win := [(o, .inr (3, [.ref tp, .int (nI sr2), .int kd, .int (nI sr2), .int fl, .int pl])), (tp, .inr (7, [.ref tp_bytes, .int (nI sz0)])), (tp_bytes, .inl (cB, 1600, .inl fb))]) hP hD hS hA [0, 1, 2] [] rfl rfl (by decide) (by decide) (va_runV (As := []) (rest := []) ⟨hx, hb, hml, hown, hts⟩ (c_X3_stepLetters l D cB cI cJ cS cZ cO H.size o tp sr2 kd sr2 fl pl tp_bytes sz0 fb (by first | assumption | omega | decide) (by first | assumption | omega | decide) (by first | assumption | omega | decide) (by first | assumption | omega | decide)) (cwV 0 hts gX3_step_X3_stepLetters rfl rfl rfl (by decide +kernel) ⟨Nat.le_of_ble_eq_true rfl, Nat.le_of_ble_eq_true rfl⟩) (xPreV (win := [(o, .inr (3, [.ref tp, .int (nI sr2), .int kd, .int (nI sr2), .int fl, .int pl])), (tp, .inr (7, [.ref tp_bytes, .int (nI sz0)])), (tp_bytes, .inl (cB, 1600, .inl fb))]) hN hK hP hD [0, 1, 2] (by decide) rfl 0 3 rfl rfl rfl) rfl rfl hl.1 rfl (lv_room (Nat.le_of_ble_eq_true rfl)) dX3_step_101 ⟨Nat.le_of_ble_eq_true rfl, Nat.le_of_ble_eq_true rfl⟩) (fun w0 H locs hw hP hD hS => ?_)
            obtain ⟨bh2_59, kd2_60, fl2_61, pl2_62, rfl, hf_63, hf_64, hf_65, hf_66⟩ := hw
            have hP : va_P D vwCl [(o, .inr (3, [.ref tp, .int (nI bh2_59), .int kd2_60, .int (nI sr2), .int fl2_61, .int pl2_62])), (tp, .inr (7, [.ref tp_bytes, .int (nI sz0)])), (tp_bytes, .inl (cB, 1600, .inl fb))] H := hP
            have hD : va_D A [(o, .inr (3, [.ref tp, .int (nI bh2_59), .int kd2_60, .int (nI sr2), .int fl2_61, .int pl2_62])), (tp, .inr (7, [.ref tp_bytes, .int (nI sz0)])), (tp_bytes, .inl (cB, 1600, .inl fb))] := hD
            refine lv_goto (tgt := 155) hx hb dX3_step_104 (by decide) ?_
            have hP9 := hP.sub (ws' := [(o, .inr (3, [.ref tp, .int (nI bh2_59), .int kd2_60, .int (nI sr2), .int fl2_61, .int pl2_62])), (tp, .inr (7, [.ref tp_bytes, .int (nI sz0)])), (tp_bytes, .inl (cB, 1600, .inl fb))]) [0, 1, 2] rfl
            have hD9 := hD.sub (ws' := [(o, .inr (3, [.ref tp, .int (nI bh2_59), .int kd2_60, .int (nI sr2), .int fl2_61, .int pl2_62])), (tp, .inr (7, [.ref tp_bytes, .int (nI sz0)])), (tp_bytes, .inl (cB, 1600, .inl fb))]) [0, 1, 2] (by decide) rfl
            refine W.widen (k := 0) (n := 0) (Nat.le_of_ble_eq_true rfl) (Nat.le_of_ble_eq_true rfl) ?_
            exact W.vret hx hb hr (fun tz htz hWz => ⟨⟨[(o, .inr (3, [.ref tp, .int (nI bh2_59), .int kd2_60, .int (nI sr2), .int fl2_61, .int pl2_62])), (tp, .inr (7, [.ref tp_bytes, .int (nI sz0)])), (tp_bytes, .inl (cB, 1600, .inl fb))], rfl, ⟨bh2_59, kd2_60, sr2, fl2_61, pl2_62, rfl, (by omega), (by omega), hf_65, hf_66⟩, by rw [htz]; exact hP9, va_K.moved hWz.alike hK, hD9⟩, hS.F htz⟩) hS.2.2 dX3_step_155
        · refine lv_aload_n hx hb dX3_step_85 rfl (lv_at hl 1 rfl) ?_
          refine lv_iconst (v := 1) hx hb dX3_step_86 (by decide) ?_
          refine va_put (D := D) (ci := 3) (v := .int 1) (ty := .int) (C := RX3) (T := TX3) (N := 6) hx hb hts (by decide +kernel) tyX3 tyX3_ok nmX3 hown hK hP hD hS 0 rfl rfl 2 (by decide) (hts (.fieldLink RX3 33 "LastLetter$Reader" "kind" "I") (by decide +kernel)) (fun _ h9 => h9) rfl (by decide +kernel) rfl rfl (Nat.le_of_ble_eq_true rfl) dX3_step_87 (fun H locs hP hD hS => ?_)
          have hP : va_P D vwCl [(o, .inr (3, [.ref tp, .int (nI sr2), .int 1, .int (nI sr2), .int fl, .int pl])), (tp, .inr (7, [.ref tp_bytes, .int (nI sz0)])), (tp_bytes, .inl (cB, 1600, .inl fb))] H := hP
          have hD : va_D A [(o, .inr (3, [.ref tp, .int (nI sr2), .int 1, .int (nI sr2), .int fl, .int pl])), (tp, .inr (7, [.ref tp_bytes, .int (nI sz0)])), (tp_bytes, .inl (cB, 1600, .inl fb))] := hD
          refine lv_goto (tgt := 155) hx hb dX3_step_90 (by decide) ?_
          have hP9 := hP.sub (ws' := [(o, .inr (3, [.ref tp, .int (nI sr2), .int 1, .int (nI sr2), .int fl, .int pl])), (tp, .inr (7, [.ref tp_bytes, .int (nI sz0)])), (tp_bytes, .inl (cB, 1600, .inl fb))]) [0, 1, 2] rfl
          have hD9 := hD.sub (ws' := [(o, .inr (3, [.ref tp, .int (nI sr2), .int 1, .int (nI sr2), .int fl, .int pl])), (tp, .inr (7, [.ref tp_bytes, .int (nI sz0)])), (tp_bytes, .inl (cB, 1600, .inl fb))]) [0, 1, 2] (by decide) rfl
          refine W.widen (k := 0) (n := 0) (Nat.le_of_ble_eq_true rfl) (Nat.le_of_ble_eq_true rfl) ?_
          exact W.vret hx hb hr (fun tz htz hWz => ⟨⟨[(o, .inr (3, [.ref tp, .int (nI sr2), .int 1, .int (nI sr2), .int fl, .int pl])), (tp, .inr (7, [.ref tp_bytes, .int (nI sz0)])), (tp_bytes, .inl (cB, 1600, .inl fb))], rfl, ⟨sr2, 1, sr2, fl, pl, rfl, (by omega), (by omega), (fun h => h), (fun _ h => absurd h (by decide))⟩, by rw [htz]; exact hP9, va_K.moved hWz.alike hK, hD9⟩, hS.F htz⟩) hS.2.2 dX3_step_155
      · refine lv_aload_n hx hb dX3_step_47 rfl (lv_at hl 0 rfl) ?_
        refine lv_dup hx hb dX3_step_48 rfl ?_
        refine va_get (D := D) (ci := 3) (v := .int (nI sr2)) (C := RX3) (T := TX3) (N := 6) hx hb hts (by decide +kernel) hown hK hP 0 rfl rfl 3 (by decide) (hts (.fieldLink RX3 87 "LastLetter$Reader" "start" "I") (by decide +kernel)) (fun _ h9 => h9) rfl dX3_step_49 ?_
        refine lv_iconst (v := 1) hx hb dX3_step_52 (by decide) ?_
        refine lv_iadd hx hb dX3_step_53 ?_
        refine xb_top (y := nI (sr2 + 1)) (nI_add sr2 1) ?_
        refine va_put (D := D) (ci := 3) (v := .int (nI (sr2 + 1))) (ty := .int) (C := RX3) (T := TX3) (N := 6) hx hb hts (by decide +kernel) tyX3 tyX3_ok nmX3 hown hK hP hD hS 0 rfl rfl 3 (by decide) (hts (.fieldLink RX3 87 "LastLetter$Reader" "start" "I") (by decide +kernel)) (fun _ h9 => h9) rfl (by decide +kernel) rfl rfl (Nat.le_of_ble_eq_true rfl) dX3_step_54 (fun H locs hP hD hS => ?_)
        have hP : va_P D vwCl [(o, .inr (3, [.ref tp, .int (nI bh), .int kd, .int (nI (sr2 + 1)), .int fl, .int pl])), (tp, .inr (7, [.ref tp_bytes, .int (nI sz0)])), (tp_bytes, .inl (cB, 1600, .inl fb))] H := hP
        have hD : va_D A [(o, .inr (3, [.ref tp, .int (nI bh), .int kd, .int (nI (sr2 + 1)), .int fl, .int pl])), (tp, .inr (7, [.ref tp_bytes, .int (nI sz0)])), (tp_bytes, .inl (cB, 1600, .inl fb))] := hD
        refine lv_goto (tgt := 16) hx hb dX3_step_57 (by decide) ?_
        exact kk_16 _ _ _ _ (by rw [← hn_16]; omega) ⟨(sr2 + 1), rfl, hP, hD, hS, lv_sub hl [0] rfl, (by first | assumption | omega)⟩
  · have hP9 := hP.sub (ws' := [(o, .inr (3, [.ref tp, .int (nI bh), .int kd, .int (nI sr), .int fl, .int pl])), (tp, .inr (7, [.ref tp_bytes, .int (nI sz0)])), (tp_bytes, .inl (cB, 1600, .inl fb))]) [0, 1, 2] rfl
    have hD9 := hD.sub (ws' := [(o, .inr (3, [.ref tp, .int (nI bh), .int kd, .int (nI sr), .int fl, .int pl])), (tp, .inr (7, [.ref tp_bytes, .int (nI sz0)])), (tp_bytes, .inl (cB, 1600, .inl fb))]) [0, 1, 2] (by decide) rfl
    refine W.widen (k := 0) (n := 0) (Nat.le_of_ble_eq_true rfl) (Nat.le_of_ble_eq_true rfl) ?_
    exact W.vret hx hb hr (fun tz htz hWz => ⟨⟨[(o, .inr (3, [.ref tp, .int (nI bh), .int kd, .int (nI sr), .int fl, .int pl])), (tp, .inr (7, [.ref tp_bytes, .int (nI sz0)])), (tp_bytes, .inl (cB, 1600, .inl fb))], rfl, ⟨bh, kd, sr, fl, pl, rfl, hbh, hsr, (fun h => h), (fun h => absurd h c_1)⟩, by rw [htz]; exact hP9, va_K.moved hWz.alike hK, hD9⟩, hS.F htz⟩) hS.2.2 dX3_step_7
