theorem dX10_again_0 : decode cX10_again 0 = .ok (.aload_n 0, 1) := by decide +kernel
theorem dX10_again_1 : decode cX10_again 1 = .ok (.getfield 81, 3) := by decide +kernel
theorem dX10_again_4 : decode cX10_again 4 = .ok (.iload_n 1, 1) := by decide +kernel
theorem dX10_again_5 : decode cX10_again 5 = .ok (.invokevirtual 125, 3) := by decide +kernel
theorem dX10_again_8 : decode cX10_again 8 = .ok (.ifCond .eq 18, 3) := by decide +kernel
theorem dX10_again_26 : decode cX10_again 26 = .ok (.iconst (-1), 1) := by decide +kernel
theorem dX10_again_27 : decode cX10_again 27 = .ok (.ireturn, 1) := by decide +kernel
theorem dX10_all_0 : decode cX10_all 0 = .ok (.aload_n 0, 1) := by decide +kernel
theorem dX10_all_1 : decode cX10_all 1 = .ok (.getfield 39, 3) := by decide +kernel
theorem dX10_all_4 : decode cX10_all 4 = .ok (.iconst 0, 1) := by decide +kernel
theorem dX10_all_5 : decode cX10_all 5 = .ok (.putfield 110, 3) := by decide +kernel
theorem dX10_all_8 : decode cX10_all 8 = .ok (.aload_n 0, 1) := by decide +kernel
theorem dX10_all_9 : decode cX10_all 9 = .ok (.getfield 81, 3) := by decide +kernel
theorem dX10_all_12 : decode cX10_all 12 = .ok (.invokevirtual 164, 3) := by decide +kernel
theorem dX10_all_15 : decode cX10_all 15 = .ok (.ifCond .eq 6, 3) := by decide +kernel
theorem dX10_all_21 : decode cX10_all 21 = .ok (.iload_n 1, 1) := by decide +kernel
theorem dX10_all_22 : decode cX10_all 22 = .ok (.ifCond .eq 21, 3) := by decide +kernel
theorem dX10_all_25 : decode cX10_all 25 = .ok (.aload_n 0, 1) := by decide +kernel
theorem dX10_all_26 : decode cX10_all 26 = .ok (.getfield 53, 3) := by decide +kernel
theorem dX10_all_29 : decode cX10_all 29 = .ok (.aload_n 0, 1) := by decide +kernel
theorem dX10_all_30 : decode cX10_all 30 = .ok (.getfield 81, 3) := by decide +kernel
theorem dX10_all_33 : decode cX10_all 33 = .ok (.aload_n 0, 1) := by decide +kernel
theorem dX10_all_34 : decode cX10_all 34 = .ok (.getfield 39, 3) := by decide +kernel
theorem dX10_all_37 : decode cX10_all 37 = .ok (.invokevirtual 168, 3) := by decide +kernel
theorem dX10_all_40 : decode cX10_all 40 = .ok (.goto 18, 3) := by decide +kernel
theorem dX10_all_43 : decode cX10_all 43 = .ok (.aload_n 0, 1) := by decide +kernel
theorem dX10_all_44 : decode cX10_all 44 = .ok (.getfield 53, 3) := by decide +kernel
theorem dX10_all_47 : decode cX10_all 47 = .ok (.aload_n 0, 1) := by decide +kernel
theorem dX10_all_48 : decode cX10_all 48 = .ok (.getfield 81, 3) := by decide +kernel
theorem dX10_all_51 : decode cX10_all 51 = .ok (.aload_n 0, 1) := by decide +kernel
theorem dX10_all_52 : decode cX10_all 52 = .ok (.getfield 39, 3) := by decide +kernel
theorem dX10_all_55 : decode cX10_all 55 = .ok (.invokevirtual 172, 3) := by decide +kernel
theorem dX10_all_58 : decode cX10_all 58 = .ok (.istore_n 2, 1) := by decide +kernel
theorem dX10_all_59 : decode cX10_all 59 = .ok (.iload_n 2, 1) := by decide +kernel
theorem dX10_all_60 : decode cX10_all 60 = .ok (.ifCond .eq 7, 3) := by decide +kernel
theorem dX10_all_63 : decode cX10_all 63 = .ok (.iconst 1, 1) := by decide +kernel
theorem dX10_all_64 : decode cX10_all 64 = .ok (.goto 4, 3) := by decide +kernel
theorem dX10_all_68 : decode cX10_all 68 = .ok (.ireturn, 1) := by decide +kernel
theorem dX10_dead_0 : decode cX10_dead 0 = .ok (.iconst 0, 1) := by decide +kernel
theorem dX10_dead_1 : decode cX10_dead 1 = .ok (.istore_n 1, 1) := by decide +kernel
theorem dX10_dead_2 : decode cX10_dead 2 = .ok (.iconst 0, 1) := by decide +kernel
theorem dX10_dead_3 : decode cX10_dead 3 = .ok (.istore_n 2, 1) := by decide +kernel
theorem dX10_dead_4 : decode cX10_dead 4 = .ok (.iload_n 2, 1) := by decide +kernel
theorem dX10_dead_5 : decode cX10_dead 5 = .ok (.aload_n 0, 1) := by decide +kernel
theorem dX10_dead_6 : decode cX10_dead 6 = .ok (.getfield 81, 3) := by decide +kernel
theorem dX10_dead_9 : decode cX10_dead 9 = .ok (.getfield 116, 3) := by decide +kernel
theorem dX10_dead_12 : decode cX10_dead 12 = .ok (.if_icmp .ge 27, 3) := by decide +kernel
theorem dX10_dead_39 : decode cX10_dead 39 = .ok (.iload_n 1, 1) := by decide +kernel
theorem dX10_dead_40 : decode cX10_dead 40 = .ok (.ireturn, 1) := by decide +kernel
theorem dX10_deep_0 : decode cX10_deep 0 = .ok (.aload_n 0, 1) := by decide +kernel
theorem dX10_deep_1 : decode cX10_deep 1 = .ok (.getfield 81, 3) := by decide +kernel
theorem dX10_deep_4 : decode cX10_deep 4 = .ok (.iload_n 1, 1) := by decide +kernel
theorem dX10_deep_5 : decode cX10_deep 5 = .ok (.invokevirtual 125, 3) := by decide +kernel
theorem dX10_deep_8 : decode cX10_deep 8 = .ok (.ifCond .ne 5, 3) := by decide +kernel
theorem dX10_deep_11 : decode cX10_deep 11 = .ok (.iconst (-1), 1) := by decide +kernel
theorem dX10_deep_12 : decode cX10_deep 12 = .ok (.ireturn, 1) := by decide +kernel
theorem dX10_done_0 : decode cX10_done 0 = .ok (.aload_n 0, 1) := by decide +kernel
theorem dX10_done_1 : decode cX10_done 1 = .ok (.getfield 28, 3) := by decide +kernel
theorem dX10_done_4 : decode cX10_done 4 = .ok (.getfield 221, 3) := by decide +kernel
theorem dX10_done_7 : decode cX10_done 7 = .ok (.ireturn, 1) := by decide +kernel
theorem dX10_end_0 : decode cX10_end 0 = .ok (.iload_n 1, 1) := by decide +kernel
theorem dX10_end_1 : decode cX10_end 1 = .ok (.ifCond .lt 14, 3) := by decide +kernel
theorem dX10_end_4 : decode cX10_end 4 = .ok (.iload_n 1, 1) := by decide +kernel
theorem dX10_end_5 : decode cX10_end 5 = .ok (.aload_n 0, 1) := by decide +kernel
theorem dX10_end_6 : decode cX10_end 6 = .ok (.getfield 12, 3) := by decide +kernel
theorem dX10_end_9 : decode cX10_end 9 = .ok (.getfield 88, 3) := by decide +kernel
theorem dX10_end_12 : decode cX10_end 12 = .ok (.if_icmp .le 5, 3) := by decide +kernel
theorem dX10_end_15 : decode cX10_end 15 = .ok (.iconst (-1), 1) := by decide +kernel
theorem dX10_end_16 : decode cX10_end 16 = .ok (.ireturn, 1) := by decide +kernel
theorem dX10_end_17 : decode cX10_end 17 = .ok (.aload_n 0, 1) := by decide +kernel
theorem dX10_end_18 : decode cX10_end 18 = .ok (.getfield 12, 3) := by decide +kernel
theorem dX10_end_21 : decode cX10_end 21 = .ok (.iload_n 1, 1) := by decide +kernel
theorem dX10_end_22 : decode cX10_end 22 = .ok (.putfield 88, 3) := by decide +kernel
theorem dX10_end_25 : decode cX10_end 25 = .ok (.iload_n 1, 1) := by decide +kernel
theorem dX10_end_26 : decode cX10_end 26 = .ok (.ireturn, 1) := by decide +kernel
theorem dX10_fault_0 : decode cX10_fault 0 = .ok (.iload_n 1, 1) := by decide +kernel
theorem dX10_fault_1 : decode cX10_fault 1 = .ok (.lookupswitch 43 #[(0, 27), (1, 35)], 27) := by decide +kernel
theorem dX10_fault_28 : decode cX10_fault 28 = .ok (.aload_n 0, 1) := by decide +kernel
theorem dX10_fault_29 : decode cX10_fault 29 = .ok (.getfield 21, 3) := by decide +kernel
theorem dX10_fault_32 : decode cX10_fault 32 = .ok (.getfield 119, 3) := by decide +kernel
theorem dX10_fault_35 : decode cX10_fault 35 = .ok (.ireturn, 1) := by decide +kernel
theorem dX10_fault_36 : decode cX10_fault 36 = .ok (.aload_n 0, 1) := by decide +kernel
theorem dX10_fault_37 : decode cX10_fault 37 = .ok (.getfield 21, 3) := by decide +kernel
theorem dX10_fault_40 : decode cX10_fault 40 = .ok (.getfield 122, 3) := by decide +kernel
theorem dX10_fault_43 : decode cX10_fault 43 = .ok (.ireturn, 1) := by decide +kernel
theorem dX10_fault_44 : decode cX10_fault 44 = .ok (.iconst (-1), 1) := by decide +kernel
theorem dX10_fault_45 : decode cX10_fault 45 = .ok (.ireturn, 1) := by decide +kernel
theorem dX10_feed_0 : decode cX10_feed 0 = .ok (.aload_n 0, 1) := by decide +kernel
theorem dX10_feed_1 : decode cX10_feed 1 = .ok (.getfield 12, 3) := by decide +kernel
theorem dX10_feed_4 : decode cX10_feed 4 = .ok (.getfield 88, 3) := by decide +kernel
theorem dX10_feed_7 : decode cX10_feed 7 = .ok (.bipush 20, 2) := by decide +kernel
theorem dX10_feed_9 : decode cX10_feed 9 = .ok (.iadd, 1) := by decide +kernel
theorem dX10_feed_10 : decode cX10_feed 10 = .ok (.sipush 1600, 3) := by decide +kernel
theorem dX10_feed_13 : decode cX10_feed 13 = .ok (.if_icmp .le 5, 3) := by decide +kernel
theorem dX10_feed_18 : decode cX10_feed 18 = .ok (.aload_n 0, 1) := by decide +kernel
theorem dX10_feed_19 : decode cX10_feed 19 = .ok (.getfield 12, 3) := by decide +kernel
theorem dX10_feed_22 : decode cX10_feed 22 = .ok (.iload_n 1, 1) := by decide +kernel
theorem dX10_feed_23 : decode cX10_feed 23 = .ok (.invokevirtual 92, 3) := by decide +kernel
theorem dX10_feed_26 : decode cX10_feed 26 = .ok (.aload_n 0, 1) := by decide +kernel
theorem dX10_feed_27 : decode cX10_feed 27 = .ok (.getfield 12, 3) := by decide +kernel
theorem dX10_feed_30 : decode cX10_feed 30 = .ok (.iload_n 2, 1) := by decide +kernel
theorem dX10_feed_31 : decode cX10_feed 31 = .ok (.invokevirtual 92, 3) := by decide +kernel
theorem dX10_feed_34 : decode cX10_feed 34 = .ok (.aload_n 0, 1) := by decide +kernel
theorem dX10_feed_35 : decode cX10_feed 35 = .ok (.getfield 12, 3) := by decide +kernel
theorem dX10_feed_38 : decode cX10_feed 38 = .ok (.iload_n 3, 1) := by decide +kernel
theorem dX10_feed_39 : decode cX10_feed 39 = .ok (.invokevirtual 92, 3) := by decide +kernel
theorem dX10_feed_42 : decode cX10_feed 42 = .ok (.aload_n 0, 1) := by decide +kernel
theorem dX10_feed_43 : decode cX10_feed 43 = .ok (.getfield 12, 3) := by decide +kernel
theorem dX10_feed_46 : decode cX10_feed 46 = .ok (.iload 4, 2) := by decide +kernel
theorem dX10_feed_48 : decode cX10_feed 48 = .ok (.invokevirtual 92, 3) := by decide +kernel
theorem dX10_feed_51 : decode cX10_feed 51 = .ok (.aload_n 0, 1) := by decide +kernel
theorem dX10_feed_52 : decode cX10_feed 52 = .ok (.getfield 12, 3) := by decide +kernel
theorem dX10_feed_55 : decode cX10_feed 55 = .ok (.iload 5, 2) := by decide +kernel
theorem dX10_feed_57 : decode cX10_feed 57 = .ok (.invokevirtual 92, 3) := by decide +kernel
theorem dX10_feed_60 : decode cX10_feed 60 = .ok (.aload_n 0, 1) := by decide +kernel
theorem dX10_feed_61 : decode cX10_feed 61 = .ok (.getfield 12, 3) := by decide +kernel
theorem dX10_feed_64 : decode cX10_feed 64 = .ok (.getfield 88, 3) := by decide +kernel
theorem dX10_feed_67 : decode cX10_feed 67 = .ok (.ireturn, 1) := by decide +kernel
theorem dX10_follow_0 : decode cX10_follow 0 = .ok (.aload_n 0, 1) := by decide +kernel
theorem dX10_follow_1 : decode cX10_follow 1 = .ok (.getfield 81, 3) := by decide +kernel
theorem dX10_follow_4 : decode cX10_follow 4 = .ok (.iload_n 1, 1) := by decide +kernel
theorem dX10_follow_5 : decode cX10_follow 5 = .ok (.invokevirtual 125, 3) := by decide +kernel
theorem dX10_follow_8 : decode cX10_follow 8 = .ok (.ifCond .eq 15, 3) := by decide +kernel
theorem dX10_follow_23 : decode cX10_follow 23 = .ok (.iconst (-1), 1) := by decide +kernel
theorem dX10_follow_24 : decode cX10_follow 24 = .ok (.ireturn, 1) := by decide +kernel
theorem dX10_game_0 : decode cX10_game 0 = .ok (.aload_n 0, 1) := by decide +kernel
theorem dX10_game_1 : decode cX10_game 1 = .ok (.getfield 81, 3) := by decide +kernel
theorem dX10_game_4 : decode cX10_game 4 = .ok (.iload_n 1, 1) := by decide +kernel
theorem dX10_game_5 : decode cX10_game 5 = .ok (.invokevirtual 125, 3) := by decide +kernel
theorem dX10_game_8 : decode cX10_game 8 = .ok (.ifCond .ne 5, 3) := by decide +kernel
theorem dX10_game_11 : decode cX10_game 11 = .ok (.iconst (-1), 1) := by decide +kernel
theorem dX10_game_12 : decode cX10_game 12 = .ok (.ireturn, 1) := by decide +kernel
theorem dX10_join_0 : decode cX10_join 0 = .ok (.aload_n 0, 1) := by decide +kernel
theorem dX10_join_1 : decode cX10_join 1 = .ok (.getfield 39, 3) := by decide +kernel
theorem dX10_join_4 : decode cX10_join 4 = .ok (.iconst 0, 1) := by decide +kernel
theorem dX10_join_5 : decode cX10_join 5 = .ok (.putfield 110, 3) := by decide +kernel
theorem dX10_join_8 : decode cX10_join 8 = .ok (.aload_n 0, 1) := by decide +kernel
theorem dX10_join_9 : decode cX10_join 9 = .ok (.getfield 81, 3) := by decide +kernel
theorem dX10_join_12 : decode cX10_join 12 = .ok (.iload_n 1, 1) := by decide +kernel
theorem dX10_join_13 : decode cX10_join 13 = .ok (.invokevirtual 125, 3) := by decide +kernel
theorem dX10_join_16 : decode cX10_join 16 = .ok (.ifCond .eq 14, 3) := by decide +kernel
theorem dX10_join_30 : decode cX10_join 30 = .ok (.iconst (-1), 1) := by decide +kernel
theorem dX10_join_31 : decode cX10_join 31 = .ok (.ireturn, 1) := by decide +kernel
theorem dX10_lies_0 : decode cX10_lies 0 = .ok (.iload_n 1, 1) := by decide +kernel
theorem dX10_lies_1 : decode cX10_lies 1 = .ok (.ifCond .lt 26, 3) := by decide +kernel
theorem dX10_lies_4 : decode cX10_lies 4 = .ok (.iload_n 1, 1) := by decide +kernel
theorem dX10_lies_5 : decode cX10_lies 5 = .ok (.aload_n 0, 1) := by decide +kernel
theorem dX10_lies_6 : decode cX10_lies 6 = .ok (.getfield 39, 3) := by decide +kernel
theorem dX10_lies_9 : decode cX10_lies 9 = .ok (.getfield 110, 3) := by decide +kernel
theorem dX10_lies_12 : decode cX10_lies 12 = .ok (.if_icmp .ge 15, 3) := by decide +kernel
theorem dX10_lies_27 : decode cX10_lies 27 = .ok (.iconst (-1), 1) := by decide +kernel
theorem dX10_lies_28 : decode cX10_lies 28 = .ok (.ireturn, 1) := by decide +kernel
theorem dX10_longest_0 : decode cX10_longest 0 = .ok (.aload_n 0, 1) := by decide +kernel
theorem dX10_longest_1 : decode cX10_longest 1 = .ok (.getfield 39, 3) := by decide +kernel
theorem dX10_longest_4 : decode cX10_longest 4 = .ok (.iconst 0, 1) := by decide +kernel
theorem dX10_longest_5 : decode cX10_longest 5 = .ok (.putfield 110, 3) := by decide +kernel
theorem dX10_longest_8 : decode cX10_longest 8 = .ok (.aload_n 0, 1) := by decide +kernel
theorem dX10_longest_9 : decode cX10_longest 9 = .ok (.getfield 81, 3) := by decide +kernel
theorem dX10_longest_12 : decode cX10_longest 12 = .ok (.invokevirtual 164, 3) := by decide +kernel
theorem dX10_longest_15 : decode cX10_longest 15 = .ok (.ifCond .eq 6, 3) := by decide +kernel
theorem dX10_longest_21 : decode cX10_longest 21 = .ok (.aload_n 0, 1) := by decide +kernel
theorem dX10_longest_22 : decode cX10_longest 22 = .ok (.getfield 53, 3) := by decide +kernel
theorem dX10_longest_25 : decode cX10_longest 25 = .ok (.aload_n 0, 1) := by decide +kernel
theorem dX10_longest_26 : decode cX10_longest 26 = .ok (.getfield 81, 3) := by decide +kernel
theorem dX10_longest_29 : decode cX10_longest 29 = .ok (.aload_n 0, 1) := by decide +kernel
theorem dX10_longest_30 : decode cX10_longest 30 = .ok (.getfield 39, 3) := by decide +kernel
theorem dX10_longest_33 : decode cX10_longest 33 = .ok (.iconst 0, 1) := by decide +kernel
theorem dX10_longest_34 : decode cX10_longest 34 = .ok (.invokevirtual 175, 3) := by decide +kernel
theorem dX10_longest_37 : decode cX10_longest 37 = .ok (.ireturn, 1) := by decide +kernel
theorem dX10_may_0 : decode cX10_may 0 = .ok (.aload_n 0, 1) := by decide +kernel
theorem dX10_may_1 : decode cX10_may 1 = .ok (.getfield 28, 3) := by decide +kernel
theorem dX10_may_4 : decode cX10_may 4 = .ok (.aload_n 0, 1) := by decide +kernel
theorem dX10_may_5 : decode cX10_may 5 = .ok (.getfield 81, 3) := by decide +kernel
theorem dX10_may_8 : decode cX10_may 8 = .ok (.invokevirtual 133, 3) := by decide +kernel
theorem dX10_may_11 : decode cX10_may 11 = .ok (.ireturn, 1) := by decide +kernel
theorem dX10_mended_0 : decode cX10_mended 0 = .ok (.aload_n 0, 1) := by decide +kernel
theorem dX10_mended_1 : decode cX10_mended 1 = .ok (.getfield 46, 3) := by decide +kernel
theorem dX10_mended_4 : decode cX10_mended 4 = .ok (.aload_n 0, 1) := by decide +kernel
theorem dX10_mended_5 : decode cX10_mended 5 = .ok (.getfield 81, 3) := by decide +kernel
theorem dX10_mended_8 : decode cX10_mended 8 = .ok (.invokevirtual 195, 3) := by decide +kernel
theorem dX10_mended_11 : decode cX10_mended 11 = .ok (.ireturn, 1) := by decide +kernel
theorem dX10_missed_0 : decode cX10_missed 0 = .ok (.aload_n 0, 1) := by decide +kernel
theorem dX10_missed_1 : decode cX10_missed 1 = .ok (.getfield 39, 3) := by decide +kernel
theorem dX10_missed_4 : decode cX10_missed 4 = .ok (.iconst 0, 1) := by decide +kernel
theorem dX10_missed_5 : decode cX10_missed 5 = .ok (.putfield 110, 3) := by decide +kernel
theorem dX10_missed_8 : decode cX10_missed 8 = .ok (.aload_n 0, 1) := by decide +kernel
theorem dX10_missed_9 : decode cX10_missed 9 = .ok (.getfield 81, 3) := by decide +kernel
theorem dX10_missed_12 : decode cX10_missed 12 = .ok (.iload_n 1, 1) := by decide +kernel
theorem dX10_missed_13 : decode cX10_missed 13 = .ok (.invokevirtual 125, 3) := by decide +kernel
theorem dX10_missed_16 : decode cX10_missed 16 = .ok (.ifCond .ne 5, 3) := by decide +kernel
theorem dX10_missed_19 : decode cX10_missed 19 = .ok (.iconst (-1), 1) := by decide +kernel
theorem dX10_missed_20 : decode cX10_missed 20 = .ok (.ireturn, 1) := by decide +kernel
theorem dX10_parted_0 : decode cX10_parted 0 = .ok (.aload_n 0, 1) := by decide +kernel
theorem dX10_parted_1 : decode cX10_parted 1 = .ok (.getfield 39, 3) := by decide +kernel
theorem dX10_parted_4 : decode cX10_parted 4 = .ok (.iconst 0, 1) := by decide +kernel
theorem dX10_parted_5 : decode cX10_parted 5 = .ok (.putfield 110, 3) := by decide +kernel
theorem dX10_parted_8 : decode cX10_parted 8 = .ok (.aload_n 0, 1) := by decide +kernel
theorem dX10_parted_9 : decode cX10_parted 9 = .ok (.getfield 81, 3) := by decide +kernel
theorem dX10_parted_12 : decode cX10_parted 12 = .ok (.invokevirtual 164, 3) := by decide +kernel
theorem dX10_parted_15 : decode cX10_parted 15 = .ok (.ifCond .eq 6, 3) := by decide +kernel
theorem dX10_parted_21 : decode cX10_parted 21 = .ok (.aload_n 0, 1) := by decide +kernel
theorem dX10_parted_22 : decode cX10_parted 22 = .ok (.getfield 53, 3) := by decide +kernel
theorem dX10_parted_25 : decode cX10_parted 25 = .ok (.aload_n 0, 1) := by decide +kernel
theorem dX10_parted_26 : decode cX10_parted 26 = .ok (.getfield 81, 3) := by decide +kernel
theorem dX10_parted_29 : decode cX10_parted 29 = .ok (.aload_n 0, 1) := by decide +kernel
theorem dX10_parted_30 : decode cX10_parted 30 = .ok (.getfield 39, 3) := by decide +kernel
theorem dX10_parted_33 : decode cX10_parted 33 = .ok (.invokevirtual 179, 3) := by decide +kernel
theorem dX10_parted_36 : decode cX10_parted 36 = .ok (.ireturn, 1) := by decide +kernel
theorem dX10_say_0 : decode cX10_say 0 = .ok (.aload_n 0, 1) := by decide +kernel
theorem dX10_say_1 : decode cX10_say 1 = .ok (.getfield 81, 3) := by decide +kernel
theorem dX10_say_4 : decode cX10_say 4 = .ok (.iload_n 1, 1) := by decide +kernel
theorem dX10_say_5 : decode cX10_say 5 = .ok (.invokevirtual 125, 3) := by decide +kernel
theorem dX10_say_8 : decode cX10_say 8 = .ok (.ifCond .eq 21, 3) := by decide +kernel
theorem dX10_say_29 : decode cX10_say 29 = .ok (.iconst (-1), 1) := by decide +kernel
theorem dX10_say_30 : decode cX10_say 30 = .ok (.ireturn, 1) := by decide +kernel
theorem dX10_score_0 : decode cX10_score 0 = .ok (.aload_n 0, 1) := by decide +kernel
theorem dX10_score_1 : decode cX10_score 1 = .ok (.getfield 81, 3) := by decide +kernel
theorem dX10_score_4 : decode cX10_score 4 = .ok (.iload_n 1, 1) := by decide +kernel
theorem dX10_score_5 : decode cX10_score 5 = .ok (.invokevirtual 125, 3) := by decide +kernel
theorem dX10_score_8 : decode cX10_score 8 = .ok (.ifCond .ne 7, 3) := by decide +kernel
theorem dX10_score_11 : decode cX10_score 11 = .ok (.sipush (-10000), 3) := by decide +kernel
theorem dX10_score_14 : decode cX10_score 14 = .ok (.ireturn, 1) := by decide +kernel
theorem dX10_silence_0 : decode cX10_silence 0 = .ok (.aload_n 0, 1) := by decide +kernel
theorem dX10_silence_1 : decode cX10_silence 1 = .ok (.getfield 28, 3) := by decide +kernel
theorem dX10_silence_4 : decode cX10_silence 4 = .ok (.getfield 148, 3) := by decide +kernel
theorem dX10_silence_7 : decode cX10_silence 7 = .ok (.istore_n 1, 1) := by decide +kernel
theorem dX10_silence_8 : decode cX10_silence 8 = .ok (.aload_n 0, 1) := by decide +kernel
theorem dX10_silence_9 : decode cX10_silence 9 = .ok (.getfield 28, 3) := by decide +kernel
theorem dX10_silence_12 : decode cX10_silence 12 = .ok (.invokevirtual 151, 3) := by decide +kernel
theorem dX10_silence_15 : decode cX10_silence 15 = .ok (.iload_n 1, 1) := by decide +kernel
theorem dX10_silence_16 : decode cX10_silence 16 = .ok (.ireturn, 1) := by decide +kernel
theorem dX10_surplus_0 : decode cX10_surplus 0 = .ok (.iload_n 1, 1) := by decide +kernel
theorem dX10_surplus_1 : decode cX10_surplus 1 = .ok (.ifCond .lt 9, 3) := by decide +kernel
theorem dX10_surplus_4 : decode cX10_surplus 4 = .ok (.iload_n 1, 1) := by decide +kernel
theorem dX10_surplus_5 : decode cX10_surplus 5 = .ok (.bipush 26, 2) := by decide +kernel
theorem dX10_surplus_7 : decode cX10_surplus 7 = .ok (.if_icmp .lt 7, 3) := by decide +kernel
theorem dX10_surplus_10 : decode cX10_surplus 10 = .ok (.sipush (-1000), 3) := by decide +kernel
theorem dX10_surplus_13 : decode cX10_surplus 13 = .ok (.ireturn, 1) := by decide +kernel
theorem dX10_surplus_14 : decode cX10_surplus 14 = .ok (.aload_n 0, 1) := by decide +kernel
theorem dX10_surplus_15 : decode cX10_surplus 15 = .ok (.getfield 46, 3) := by decide +kernel
theorem dX10_surplus_18 : decode cX10_surplus 18 = .ok (.aload_n 0, 1) := by decide +kernel
theorem dX10_surplus_19 : decode cX10_surplus 19 = .ok (.getfield 81, 3) := by decide +kernel
theorem dX10_surplus_22 : decode cX10_surplus 22 = .ok (.aload_n 0, 1) := by decide +kernel
theorem dX10_surplus_23 : decode cX10_surplus 23 = .ok (.getfield 81, 3) := by decide +kernel
theorem dX10_surplus_26 : decode cX10_surplus 26 = .ok (.getfield 189, 3) := by decide +kernel
theorem dX10_surplus_29 : decode cX10_surplus 29 = .ok (.iload_n 1, 1) := by decide +kernel
theorem dX10_surplus_30 : decode cX10_surplus 30 = .ok (.iaload, 1) := by decide +kernel
theorem dX10_surplus_31 : decode cX10_surplus 31 = .ok (.invokevirtual 192, 3) := by decide +kernel
theorem dX10_surplus_34 : decode cX10_surplus 34 = .ok (.ireturn, 1) := by decide +kernel
theorem dX10_talk_0 : decode cX10_talk 0 = .ok (.iload_n 1, 1) := by decide +kernel
theorem dX10_talk_1 : decode cX10_talk 1 = .ok (.ifCond .lt 18, 3) := by decide +kernel
theorem dX10_talk_4 : decode cX10_talk 4 = .ok (.iload_n 1, 1) := by decide +kernel
theorem dX10_talk_5 : decode cX10_talk 5 = .ok (.bipush 100, 2) := by decide +kernel
theorem dX10_talk_7 : decode cX10_talk 7 = .ok (.if_icmp .gt 12, 3) := by decide +kernel
theorem dX10_talk_10 : decode cX10_talk 10 = .ok (.iload_n 2, 1) := by decide +kernel
theorem dX10_talk_11 : decode cX10_talk 11 = .ok (.ifCond .lt 8, 3) := by decide +kernel
theorem dX10_talk_14 : decode cX10_talk 14 = .ok (.iload_n 2, 1) := by decide +kernel
theorem dX10_talk_15 : decode cX10_talk 15 = .ok (.iconst 4, 1) := by decide +kernel
theorem dX10_talk_16 : decode cX10_talk 16 = .ok (.if_icmp .le 5, 3) := by decide +kernel
theorem dX10_talk_19 : decode cX10_talk 19 = .ok (.iconst (-1), 1) := by decide +kernel
theorem dX10_talk_20 : decode cX10_talk 20 = .ok (.ireturn, 1) := by decide +kernel
theorem dX10_talk_21 : decode cX10_talk 21 = .ok (.iconst 0, 1) := by decide +kernel
theorem dX10_talk_22 : decode cX10_talk 22 = .ok (.istore_n 3, 1) := by decide +kernel
theorem dX10_talk_23 : decode cX10_talk 23 = .ok (.iconst 0, 1) := by decide +kernel
theorem dX10_talk_24 : decode cX10_talk 24 = .ok (.istore 4, 2) := by decide +kernel
theorem dX10_talk_26 : decode cX10_talk 26 = .ok (.iload 4, 2) := by decide +kernel
theorem dX10_talk_28 : decode cX10_talk 28 = .ok (.iload_n 1, 1) := by decide +kernel
theorem dX10_talk_29 : decode cX10_talk 29 = .ok (.if_icmp .ge 54, 3) := by decide +kernel
theorem dX10_talk_32 : decode cX10_talk 32 = .ok (.aload_n 0, 1) := by decide +kernel
theorem dX10_talk_33 : decode cX10_talk 33 = .ok (.getfield 28, 3) := by decide +kernel
theorem dX10_talk_36 : decode cX10_talk 36 = .ok (.aload_n 0, 1) := by decide +kernel
theorem dX10_talk_37 : decode cX10_talk 37 = .ok (.getfield 81, 3) := by decide +kernel
theorem dX10_talk_40 : decode cX10_talk 40 = .ok (.iload_n 2, 1) := by decide +kernel
theorem dX10_talk_41 : decode cX10_talk 41 = .ok (.invokevirtual 154, 3) := by decide +kernel
theorem dX10_talk_44 : decode cX10_talk 44 = .ok (.istore 5, 2) := by decide +kernel
theorem dX10_talk_46 : decode cX10_talk 46 = .ok (.aload_n 0, 1) := by decide +kernel
theorem dX10_talk_47 : decode cX10_talk 47 = .ok (.getfield 81, 3) := by decide +kernel
theorem dX10_talk_50 : decode cX10_talk 50 = .ok (.iload 5, 2) := by decide +kernel
theorem dX10_talk_52 : decode cX10_talk 52 = .ok (.invokevirtual 125, 3) := by decide +kernel
theorem dX10_talk_55 : decode cX10_talk 55 = .ok (.ifCond .ne 6, 3) := by decide +kernel
theorem dX10_talk_58 : decode cX10_talk 58 = .ok (.goto 25, 3) := by decide +kernel
theorem dX10_talk_83 : decode cX10_talk 83 = .ok (.iload_n 3, 1) := by decide +kernel
theorem dX10_talk_84 : decode cX10_talk 84 = .ok (.ireturn, 1) := by decide +kernel
theorem dX10_telling_0 : decode cX10_telling 0 = .ok (.aload_n 0, 1) := by decide +kernel
theorem dX10_telling_1 : decode cX10_telling 1 = .ok (.getfield 39, 3) := by decide +kernel
theorem dX10_telling_4 : decode cX10_telling 4 = .ok (.iconst 0, 1) := by decide +kernel
theorem dX10_telling_5 : decode cX10_telling 5 = .ok (.putfield 110, 3) := by decide +kernel
theorem dX10_telling_8 : decode cX10_telling 8 = .ok (.aload_n 0, 1) := by decide +kernel
theorem dX10_telling_9 : decode cX10_telling 9 = .ok (.getfield 81, 3) := by decide +kernel
theorem dX10_telling_12 : decode cX10_telling 12 = .ok (.getfield 202, 3) := by decide +kernel
theorem dX10_telling_15 : decode cX10_telling 15 = .ok (.ifCond .ne 7, 3) := by decide +kernel
theorem dX10_telling_18 : decode cX10_telling 18 = .ok (.iconst 0, 1) := by decide +kernel
theorem dX10_telling_19 : decode cX10_telling 19 = .ok (.goto 18, 3) := by decide +kernel
theorem dX10_telling_37 : decode cX10_telling 37 = .ok (.ireturn, 1) := by decide +kernel
theorem dX10_wins_0 : decode cX10_wins 0 = .ok (.aload_n 0, 1) := by decide +kernel
theorem dX10_wins_1 : decode cX10_wins 1 = .ok (.getfield 81, 3) := by decide +kernel
theorem dX10_wins_4 : decode cX10_wins 4 = .ok (.iload_n 1, 1) := by decide +kernel
theorem dX10_wins_5 : decode cX10_wins 5 = .ok (.invokevirtual 125, 3) := by decide +kernel
theorem dX10_wins_8 : decode cX10_wins 8 = .ok (.ifCond .ne 5, 3) := by decide +kernel
theorem dX10_wins_11 : decode cX10_wins 11 = .ok (.iconst (-1), 1) := by decide +kernel
theorem dX10_wins_12 : decode cX10_wins 12 = .ok (.ireturn, 1) := by decide +kernel
theorem dX10_word_0 : decode cX10_word 0 = .ok (.aload_n 0, 1) := by decide +kernel
theorem dX10_word_1 : decode cX10_word 1 = .ok (.getfield 81, 3) := by decide +kernel
theorem dX10_word_4 : decode cX10_word 4 = .ok (.iload_n 1, 1) := by decide +kernel
theorem dX10_word_5 : decode cX10_word 5 = .ok (.invokevirtual 125, 3) := by decide +kernel
theorem dX10_word_8 : decode cX10_word 8 = .ok (.ifCond .ne 5, 3) := by decide +kernel
theorem dX10_word_11 : decode cX10_word 11 = .ok (.iconst (-1), 1) := by decide +kernel
theorem dX10_word_12 : decode cX10_word 12 = .ok (.ireturn, 1) := by decide +kernel
theorem dX10_worthy_0 : decode cX10_worthy 0 = .ok (.aload_n 0, 1) := by decide +kernel
theorem dX10_worthy_1 : decode cX10_worthy 1 = .ok (.getfield 39, 3) := by decide +kernel
theorem dX10_worthy_4 : decode cX10_worthy 4 = .ok (.iconst 0, 1) := by decide +kernel
theorem dX10_worthy_5 : decode cX10_worthy 5 = .ok (.putfield 110, 3) := by decide +kernel
theorem dX10_worthy_8 : decode cX10_worthy 8 = .ok (.aload_n 0, 1) := by decide +kernel
theorem dX10_worthy_9 : decode cX10_worthy 9 = .ok (.getfield 81, 3) := by decide +kernel
theorem dX10_worthy_12 : decode cX10_worthy 12 = .ok (.invokevirtual 164, 3) := by decide +kernel
theorem dX10_worthy_15 : decode cX10_worthy 15 = .ok (.ifCond .eq 6, 3) := by decide +kernel
theorem dX10_worthy_21 : decode cX10_worthy 21 = .ok (.aload_n 0, 1) := by decide +kernel
theorem dX10_worthy_22 : decode cX10_worthy 22 = .ok (.getfield 53, 3) := by decide +kernel
theorem dX10_worthy_25 : decode cX10_worthy 25 = .ok (.aload_n 0, 1) := by decide +kernel
theorem dX10_worthy_26 : decode cX10_worthy 26 = .ok (.getfield 81, 3) := by decide +kernel
theorem dX10_worthy_29 : decode cX10_worthy 29 = .ok (.aload_n 0, 1) := by decide +kernel
theorem dX10_worthy_30 : decode cX10_worthy 30 = .ok (.getfield 39, 3) := by decide +kernel
theorem dX10_worthy_33 : decode cX10_worthy 33 = .ok (.iconst 1, 1) := by decide +kernel
theorem dX10_worthy_34 : decode cX10_worthy 34 = .ok (.invokevirtual 175, 3) := by decide +kernel
theorem dX10_worthy_37 : decode cX10_worthy 37 = .ok (.ireturn, 1) := by decide +kernel
set_option maxRecDepth 20000 in
theorem ggX10_again_X8_has : GoodIn wsX10_again wsX8_has := goodIn_r _ [7, 8, 29, 30, 31, 32, 33, 34, 35, 36, 37, 38, 39, 40, 41, 42, 43, 44] (by decide +kernel) (by decide +kernel)
set_option maxRecDepth 20000 in
theorem gX10_again_X8_has : GoodIn wsX10_again (wsV RX10 125 RX8 yX8_has wsX8_has) := goodIn_app (goodIn_of _ (by decide +kernel)) ggX10_again_X8_has
set_option maxRecDepth 20000 in
theorem ggX10_all_X2_layRound : GoodIn wsX10_all wsX2_layRound := goodIn_r _ [14, 15, 16, 17, 13, 18, 19, 20, 21, 22, 23, 24, 25, 26, 27, 28, 29, 30, 31, 7, 32, 9, 33, 34, 35, 36, 37, 38, 39, 40, 41, 42, 43, 44, 45, 46, 90, 91, 92, 93, 94, 95, 96, 97, 98, 99, 100, 101, 102, 103, 104, 105, 106, 107, 108, 109, 110, 111, 88, 89] (by decide +kernel) (by decide +kernel)
set_option maxRecDepth 20000 in
theorem gX10_all_X2_layRound : GoodIn wsX10_all (wsV RX10 168 RX2 yX2_layRound wsX2_layRound) := goodIn_app (goodIn_of _ (by decide +kernel)) ggX10_all_X2_layRound
set_option maxRecDepth 20000 in
theorem ggX10_all_X2_layWhole : GoodIn wsX10_all wsX2_layWhole := goodIn_r _ [50, 51, 52, 53, 54, 13, 55, 56, 57, 21, 58, 59, 60, 61, 62, 63, 22, 23, 24, 64, 65, 66, 67, 40, 41, 42, 43, 44, 45, 46, 29, 30, 31, 7, 32, 9, 68, 69, 70, 71, 72, 73, 74, 75, 33, 34, 35, 36, 37, 38, 39, 106, 107, 108, 109, 110, 111, 90, 91, 92, 93, 94, 95, 96, 97, 98, 99, 100, 101, 102, 103, 104, 105, 88, 89] (by decide +kernel) (by decide +kernel)
set_option maxRecDepth 20000 in
theorem gX10_all_X2_layWhole : GoodIn wsX10_all (wsV RX10 172 RX2 yX2_layWhole wsX2_layWhole) := goodIn_app (goodIn_of _ (by decide +kernel)) ggX10_all_X2_layWhole
set_option maxRecDepth 20000 in
theorem ggX10_all_X8_isTooBig : GoodIn wsX10_all wsX8_isTooBig := goodIn_r _ [8, 9, 90, 91, 92, 93, 94, 95, 96, 97, 98, 99, 100, 101, 102, 103, 104, 105] (by decide +kernel) (by decide +kernel)
set_option maxRecDepth 20000 in
theorem gX10_all_X8_isTooBig : GoodIn wsX10_all (wsV RX10 164 RX8 yX8_isTooBig wsX8_isTooBig) := goodIn_app (goodIn_of _ (by decide +kernel)) ggX10_all_X8_isTooBig
set_option maxRecDepth 20000 in
theorem ggX10_deep_X8_has : GoodIn wsX10_deep wsX8_has := goodIn_r _ [7, 8, 63, 64, 65, 66, 67, 68, 69, 70, 71, 72, 73, 74, 75, 76, 77, 78] (by decide +kernel) (by decide +kernel)
set_option maxRecDepth 20000 in
theorem gX10_deep_X8_has : GoodIn wsX10_deep (wsV RX10 125 RX8 yX8_has wsX8_has) := goodIn_app (goodIn_of _ (by decide +kernel)) ggX10_deep_X8_has
set_option maxRecDepth 20000 in
theorem ggX10_feed_X7_put : GoodIn wsX10_feed wsX7_put := goodIn_r _ [6, 7, 8, 21, 22] (by decide +kernel) (by decide +kernel)
set_option maxRecDepth 20000 in
theorem gX10_feed_X7_put : GoodIn wsX10_feed (wsV RX10 92 RX7 yX7_put wsX7_put) := goodIn_app (goodIn_of _ (by decide +kernel)) ggX10_feed_X7_put
set_option maxRecDepth 20000 in
theorem ggX10_follow_X8_has : GoodIn wsX10_follow wsX8_has := goodIn_r _ [6, 7, 20, 21, 22, 23, 24, 25, 26, 27, 28, 29, 30, 31, 32, 33, 34, 35] (by decide +kernel) (by decide +kernel)
set_option maxRecDepth 20000 in
theorem gX10_follow_X8_has : GoodIn wsX10_follow (wsV RX10 125 RX8 yX8_has wsX8_has) := goodIn_app (goodIn_of _ (by decide +kernel)) ggX10_follow_X8_has
set_option maxRecDepth 20000 in
theorem ggX10_game_X8_has : GoodIn wsX10_game wsX8_has := goodIn_r _ [7, 8, 48, 49, 50, 51, 52, 53, 54, 55, 56, 57, 58, 59, 60, 61, 62, 63] (by decide +kernel) (by decide +kernel)
set_option maxRecDepth 20000 in
theorem gX10_game_X8_has : GoodIn wsX10_game (wsV RX10 125 RX8 yX8_has wsX8_has) := goodIn_app (goodIn_of _ (by decide +kernel)) ggX10_game_X8_has
set_option maxRecDepth 20000 in
theorem ggX10_join_X8_has : GoodIn wsX10_join wsX8_has := goodIn_r _ [8, 9, 68, 69, 70, 71, 72, 73, 74, 75, 76, 77, 78, 79, 80, 81, 82, 83] (by decide +kernel) (by decide +kernel)
set_option maxRecDepth 20000 in
theorem gX10_join_X8_has : GoodIn wsX10_join (wsV RX10 125 RX8 yX8_has wsX8_has) := goodIn_app (goodIn_of _ (by decide +kernel)) ggX10_join_X8_has
set_option maxRecDepth 20000 in
theorem ggX10_longest_X2_layMost : GoodIn wsX10_longest wsX2_layMost := goodIn_r _ [14, 15, 16, 17, 13, 18, 19, 20, 21, 22, 23, 24, 25, 26, 27, 28, 29, 30, 31, 32, 33, 34, 35, 36, 37, 38, 39, 40, 41, 42, 43, 44, 45, 7, 46, 9, 47, 48, 49, 50, 51, 52, 53, 54, 55, 56, 57, 58, 59, 60, 61, 62, 63, 64, 65, 66, 67, 68, 69, 70, 71, 72, 73, 74, 75, 90, 91, 92, 93, 94, 95, 96, 97, 98, 99, 100, 101, 102, 103, 104, 105, 106, 107, 108, 109, 110, 111, 88, 89] (by decide +kernel) (by decide +kernel)
set_option maxRecDepth 20000 in
theorem gX10_longest_X2_layMost : GoodIn wsX10_longest (wsV RX10 175 RX2 yX2_layMost wsX2_layMost) := goodIn_app (goodIn_of _ (by decide +kernel)) ggX10_longest_X2_layMost
set_option maxRecDepth 20000 in
theorem ggX10_longest_X8_isTooBig : GoodIn wsX10_longest wsX8_isTooBig := goodIn_r _ [8, 9, 90, 91, 92, 93, 94, 95, 96, 97, 98, 99, 100, 101, 102, 103, 104, 105] (by decide +kernel) (by decide +kernel)
set_option maxRecDepth 20000 in
theorem gX10_longest_X8_isTooBig : GoodIn wsX10_longest (wsV RX10 164 RX8 yX8_isTooBig wsX8_isTooBig) := goodIn_app (goodIn_of _ (by decide +kernel)) ggX10_longest_X8_isTooBig
set_option maxRecDepth 20000 in
theorem ggX10_may_X6_open : GoodIn wsX10_may wsX6_open := goodIn_r _ [7, 8, 9, 10, 11, 12, 13, 14, 15, 16, 17, 18, 19, 20, 21, 22, 23, 24, 6, 25, 26, 39, 40, 41, 42, 43, 44, 45, 46, 47, 48, 49, 50, 51, 52, 53, 54, 55, 56, 57, 58, 59, 60, 61] (by decide +kernel) (by decide +kernel)
set_option maxRecDepth 20000 in
theorem gX10_may_X6_open : GoodIn wsX10_may (wsV RX10 133 RX6 yX6_open wsX6_open) := goodIn_app (goodIn_of _ (by decide +kernel)) ggX10_may_X6_open
set_option maxRecDepth 20000 in
theorem ggX10_mended_X1_lacking : GoodIn wsX10_mended wsX1_lacking := goodIn_r _ [7, 8, 9, 10, 11, 12, 13, 14, 6, 15, 16, 17, 18, 19, 20, 21, 22, 23, 24, 25, 26, 27, 28, 29, 30, 31, 32, 45, 46, 47, 48, 49, 50, 51, 52, 53, 54, 55, 56, 57, 58, 59, 60, 61] (by decide +kernel) (by decide +kernel)
set_option maxRecDepth 20000 in
theorem gX10_mended_X1_lacking : GoodIn wsX10_mended (wsV RX10 195 RX1 yX1_lacking wsX1_lacking) := goodIn_app (goodIn_of _ (by decide +kernel)) ggX10_mended_X1_lacking
set_option maxRecDepth 20000 in
theorem ggX10_missed_X8_has : GoodIn wsX10_missed wsX8_has := goodIn_r _ [8, 9, 83, 84, 85, 86, 87, 88, 89, 90, 91, 92, 93, 94, 95, 96, 97, 98] (by decide +kernel) (by decide +kernel)
set_option maxRecDepth 20000 in
theorem gX10_missed_X8_has : GoodIn wsX10_missed (wsV RX10 125 RX8 yX8_has wsX8_has) := goodIn_app (goodIn_of _ (by decide +kernel)) ggX10_missed_X8_has
set_option maxRecDepth 20000 in
theorem ggX10_parted_X2_layParts : GoodIn wsX10_parted wsX2_layParts := goodIn_r _ [14, 15, 16, 17, 18, 13, 19, 20, 21, 22, 23, 24, 25, 26, 27, 28, 29, 30, 31, 32, 33, 34, 35, 36, 37, 38, 39, 40, 41, 42, 43, 44, 45, 7, 46, 9, 47, 48, 49, 50, 51, 52, 53, 54, 55, 56, 57, 88, 89, 90, 91, 92, 93, 72, 73, 74, 75, 76, 77, 78, 79, 80, 81, 82, 83, 84, 85, 86, 87, 70, 71] (by decide +kernel) (by decide +kernel)
set_option maxRecDepth 20000 in
theorem gX10_parted_X2_layParts : GoodIn wsX10_parted (wsV RX10 179 RX2 yX2_layParts wsX2_layParts) := goodIn_app (goodIn_of _ (by decide +kernel)) ggX10_parted_X2_layParts
set_option maxRecDepth 20000 in
theorem ggX10_parted_X8_isTooBig : GoodIn wsX10_parted wsX8_isTooBig := goodIn_r _ [8, 9, 72, 73, 74, 75, 76, 77, 78, 79, 80, 81, 82, 83, 84, 85, 86, 87] (by decide +kernel) (by decide +kernel)
set_option maxRecDepth 20000 in
theorem gX10_parted_X8_isTooBig : GoodIn wsX10_parted (wsV RX10 164 RX8 yX8_isTooBig wsX8_isTooBig) := goodIn_app (goodIn_of _ (by decide +kernel)) ggX10_parted_X8_isTooBig
set_option maxRecDepth 20000 in
theorem ggX10_say_X8_has : GoodIn wsX10_say wsX8_has := goodIn_r _ [7, 8, 54, 55, 56, 57, 58, 59, 60, 61, 62, 63, 64, 65, 66, 67, 68, 69] (by decide +kernel) (by decide +kernel)
set_option maxRecDepth 20000 in
theorem gX10_say_X8_has : GoodIn wsX10_say (wsV RX10 125 RX8 yX8_has wsX8_has) := goodIn_app (goodIn_of _ (by decide +kernel)) ggX10_say_X8_has
set_option maxRecDepth 20000 in
theorem ggX10_score_X8_has : GoodIn wsX10_score wsX8_has := goodIn_r _ [7, 8, 48, 49, 50, 51, 52, 53, 54, 55, 56, 57, 58, 59, 60, 61, 62, 63] (by decide +kernel) (by decide +kernel)
set_option maxRecDepth 20000 in
theorem gX10_score_X8_has : GoodIn wsX10_score (wsV RX10 125 RX8 yX8_has wsX8_has) := goodIn_app (goodIn_of _ (by decide +kernel)) ggX10_score_X8_has
set_option maxRecDepth 20000 in
theorem ggX10_silence_X6_begin : GoodIn wsX10_silence wsX6_begin := goodIn_r _ [6, 7, 8, 21, 22, 23, 24, 25, 26, 27] (by decide +kernel) (by decide +kernel)
set_option maxRecDepth 20000 in
theorem gX10_silence_X6_begin : GoodIn wsX10_silence (wsV RX10 151 RX6 yX6_begin wsX6_begin) := goodIn_app (goodIn_of _ (by decide +kernel)) ggX10_silence_X6_begin
set_option maxRecDepth 20000 in
theorem ggX10_surplus_X1_balance : GoodIn wsX10_surplus wsX1_balance := goodIn_r _ [7, 20, 21, 22, 23, 24, 25, 26, 27, 28, 29, 30, 31, 32, 33, 34, 35] (by decide +kernel) (by decide +kernel)
set_option maxRecDepth 20000 in
theorem gX10_surplus_X1_balance : GoodIn wsX10_surplus (wsV RX10 192 RX1 yX1_balance wsX1_balance) := goodIn_app (goodIn_of _ (by decide +kernel)) ggX10_surplus_X1_balance
set_option maxRecDepth 20000 in
theorem ggX10_talk_X6_choose : GoodIn wsX10_talk wsX6_choose := goodIn_r _ [7, 8, 9, 10, 6, 11, 12, 13, 14, 15, 16, 17, 18, 19, 20, 21, 22, 23, 24, 25, 26, 27, 28, 29, 30, 31, 32, 33, 34, 35, 36, 37, 38, 39, 40, 41, 42, 43, 44, 45, 46, 47, 48, 49, 50, 51, 52, 53, 54, 55, 56, 57, 84, 85, 86, 87, 88, 89, 90, 91, 92, 93, 94, 95, 96, 97, 98, 99, 100, 101, 102, 103, 104, 105, 106] (by decide +kernel) (by decide +kernel)
set_option maxRecDepth 20000 in
theorem gX10_talk_X6_choose : GoodIn wsX10_talk (wsV RX10 154 RX6 yX6_choose wsX6_choose) := goodIn_app (goodIn_of _ (by decide +kernel)) ggX10_talk_X6_choose
set_option maxRecDepth 20000 in
theorem ggX10_talk_X8_has : GoodIn wsX10_talk wsX8_has := goodIn_r _ [17, 18, 84, 85, 86, 87, 88, 89, 90, 91, 92, 93, 94, 95, 96, 97, 98, 99] (by decide +kernel) (by decide +kernel)
set_option maxRecDepth 20000 in
theorem gX10_talk_X8_has : GoodIn wsX10_talk (wsV RX10 125 RX8 yX8_has wsX8_has) := goodIn_app (goodIn_of _ (by decide +kernel)) ggX10_talk_X8_has
set_option maxRecDepth 20000 in
theorem ggX10_wins_X8_has : GoodIn wsX10_wins wsX8_has := goodIn_r _ [7, 8, 48, 49, 50, 51, 52, 53, 54, 55, 56, 57, 58, 59, 60, 61, 62, 63] (by decide +kernel) (by decide +kernel)
set_option maxRecDepth 20000 in
theorem gX10_wins_X8_has : GoodIn wsX10_wins (wsV RX10 125 RX8 yX8_has wsX8_has) := goodIn_app (goodIn_of _ (by decide +kernel)) ggX10_wins_X8_has
set_option maxRecDepth 20000 in
theorem ggX10_word_X8_has : GoodIn wsX10_word wsX8_has := goodIn_r _ [7, 8, 34, 35, 36, 37, 38, 39, 40, 41, 42, 43, 44, 45, 46, 47, 48, 49] (by decide +kernel) (by decide +kernel)
set_option maxRecDepth 20000 in
theorem gX10_word_X8_has : GoodIn wsX10_word (wsV RX10 125 RX8 yX8_has wsX8_has) := goodIn_app (goodIn_of _ (by decide +kernel)) ggX10_word_X8_has
set_option maxRecDepth 20000 in
theorem ggX10_worthy_X2_layMost : GoodIn wsX10_worthy wsX2_layMost := goodIn_r _ [14, 15, 16, 17, 13, 18, 19, 20, 21, 22, 23, 24, 25, 26, 27, 28, 29, 30, 31, 32, 33, 34, 35, 36, 37, 38, 39, 40, 41, 42, 43, 44, 45, 7, 46, 9, 47, 48, 49, 50, 51, 52, 53, 54, 55, 56, 57, 58, 59, 60, 61, 62, 63, 64, 65, 66, 67, 68, 69, 70, 71, 72, 73, 74, 75, 90, 91, 92, 93, 94, 95, 96, 97, 98, 99, 100, 101, 102, 103, 104, 105, 106, 107, 108, 109, 110, 111, 88, 89] (by decide +kernel) (by decide +kernel)
set_option maxRecDepth 20000 in
theorem gX10_worthy_X2_layMost : GoodIn wsX10_worthy (wsV RX10 175 RX2 yX2_layMost wsX2_layMost) := goodIn_app (goodIn_of _ (by decide +kernel)) ggX10_worthy_X2_layMost
set_option maxRecDepth 20000 in
theorem ggX10_worthy_X8_isTooBig : GoodIn wsX10_worthy wsX8_isTooBig := goodIn_r _ [8, 9, 90, 91, 92, 93, 94, 95, 96, 97, 98, 99, 100, 101, 102, 103, 104, 105] (by decide +kernel) (by decide +kernel)
set_option maxRecDepth 20000 in
theorem gX10_worthy_X8_isTooBig : GoodIn wsX10_worthy (wsV RX10 164 RX8 yX8_isTooBig wsX8_isTooBig) := goodIn_app (goodIn_of _ (by decide +kernel)) ggX10_worthy_X8_isTooBig
set_option maxHeartbeats 4000000 in
set_option maxRecDepth 100000 in
theorem p_X10_feed (l : Launch) (D : va_G) (cB cI cJ cS cZ cO : ClassId) (sz : Nat) (o : Nat) (x0 : Int32) (x1 : Int32) (x2 : Int32) (x3 : Int32) (x4 : Int32) (tp : Nat) (rd : Nat) (pr : Nat) (bx : Nat) (rw : Nat) (lt : Nat) (od : Nat) (se : Nat) (gm : Nat) (wl : Nat) (cu : Nat) (sp : Nat) (tb : Nat) (ftb : Nat → Int32) : Met l yX10_feed wsX10_feed ({ frames := 1, cells := 0, slots := 0, locals := 22 }) (xPre D (tyL cB cI cJ cS cZ cO) [(o, .inr (10, [.ref tp, .ref rd, .ref pr, .ref bx, .ref rw, .ref lt, .ref od, .ref se, .ref gm, .ref wl, .ref cu, .ref sp])), (tp, .inr (7, [.ref tb, .int 0])), (tb, .inl (cB, 1600, .inl ftb))] sz [.ref o, .int x0, .int x1, .int x2, .int x3, .int x4]) (xQi D (tyL cB cI cJ cS cZ cO) (va_A [(o, .inr (10, [.ref tp, .ref rd, .ref pr, .ref bx, .ref rw, .ref lt, .ref od, .ref se, .ref gm, .ref wl, .ref cu, .ref sp])), (tp, .inr (7, [.ref tb, .int 0])), (tb, .inl (cB, 1600, .inl ftb))] sz) (fun (r : Int32) (u : va_W) => u = [] ∧ r = 20)) 0 0 (va_A [(o, .inr (10, [.ref tp, .ref rd, .ref pr, .ref bx, .ref rw, .ref lt, .ref od, .ref se, .ref gm, .ref wl, .ref cu, .ref sp])), (tp, .inr (7, [.ref tb, .int 0])), (tb, .inl (cB, 1600, .inl ftb))] sz) := by
  refine Met.ofW (cc := cX10_feed) (maxL := 6) (ret := (some .int)) (by decide) rfl ?_
  intro p e s m args below meth c s₁ B hml hv
  obtain ⟨rfl, hsz, hP, hK, hD0, hN⟩ := hv
  have hx := B.exec
  have hb := B.bytes
  have hr := B.returns
  have hts := atoms_spec (ws := wsX10_feed) B.pre
  have hown : s.vm.findClass RX10 = some m.cls := findClass_of_methodNamed B.named
  have hlocks := B.notSynchronized
  subst hsz
  have hD := hD0.self (sz := s.heap.size)
  generalize hAe : va_A [(o, .inr (10, [.ref tp, .ref rd, .ref pr, .ref bx, .ref rw, .ref lt, .ref od, .ref se, .ref gm, .ref wl, .ref cu, .ref sp])), (tp, .inr (7, [.ref tb, .int 0])), (tb, .inl (cB, 1600, .inl ftb))] s.heap.size = A at hD ⊢
  have hA : ∀ q : Nat, s.heap.size ≤ q → A q := fun q h => by rw [← hAe]; exact Or.inr h
  have hS : va_S A s.heap s.heap [] := va_S.rf
  have hP : va_P D vwCl [(o, .inr (10, [.ref tp, .ref rd, .ref pr, .ref bx, .ref rw, .ref lt, .ref od, .ref se, .ref gm, .ref wl, .ref cu, .ref sp])), (tp, .inr (7, [.ref tb, .int 0])), (tb, .inl (cB, 1600, .inl ftb))] s.heap := hP
  have hl := lv_entry ([.ref o, .int x0, .int x1, .int x2, .int x3, .int x4]) (n := 6) (Nat.le_of_ble_eq_true rfl)
  rw [lg_entry_eq]
  generalize (lg_sl ([.ref o, .int x0, .int x1, .int x2, .int x3, .int x4]) ++ List.replicate (6 - (lg_sl ([.ref o, .int x0, .int x1, .int x2, .int x3, .int x4])).length) Slot.unset).toArray = ls at hl ⊢
  have hl : lv_has ls 6 [(0, .ref o), (1, .int x0), (2, .int x1), (3, .int x2), (4, .int x3), (5, .int x4)] := hl
  refine lv_aload_n hx hb dX10_feed_0 rfl (lv_at hl 0 rfl) ?_
  refine va_get (D := D) (ci := 10) (v := .ref tp) (C := RX10) (T := TX10) (N := 12) hx hb hts (by decide +kernel) hown hK hP 0 rfl rfl 0 (by decide) (hts (.fieldLink RX10 12 "LastLetter" "tape" "LLastLetter$Tape;") (by decide +kernel)) (fun _ h9 => h9) rfl dX10_feed_1 ?_
  refine va_getN (D := D) (ci := 7) (v := .int 0) (C := RX7) (T := TX7) (N := 2) hx hb hts (by decide +kernel) hown hK hP 1 rfl rfl 1 (by decide) (va_Nw.use rfl (hN.1 (RX10, 88, RX7, "size", "I", RX10) (by decide +kernel))) (fun _ h9 => h9) rfl dX10_feed_4 ?_
  refine lv_bipush (v := 20) hx hb dX10_feed_7 (by decide) ?_
  refine lv_iadd hx hb dX10_feed_9 ?_
  refine xb_top (y := 20) (by decide) ?_
  refine lv_sipush (v := 1600) hx hb dX10_feed_10 (by decide) ?_
  refine lv_icmp_le (tgt := 18) hx hb dX10_feed_13 (by decide) (fun c_1 => ?_) (fun c_1 => absurd (by decide) c_1)
  refine lv_aload_n hx hb dX10_feed_18 rfl (lv_at hl 0 rfl) ?_
  refine va_get (D := D) (ci := 10) (v := .ref tp) (C := RX10) (T := TX10) (N := 12) hx hb hts (by decide +kernel) hown hK hP 0 rfl rfl 0 (by decide) (hts (.fieldLink RX10 12 "LastLetter" "tape" "LLastLetter$Tape;") (by decide +kernel)) (fun _ h9 => h9) rfl dX10_feed_19 ?_
  refine lv_iload_n hx hb dX10_feed_22 rfl (lv_at hl 1 rfl) ?_
  refine xCv (wr := [(o, .inr (10, [.ref tp, .ref rd, .ref pr, .ref bx, .ref rw, .ref lt, .ref od, .ref se, .ref gm, .ref wl, .ref cu, .ref sp]))]) (win := [(tp, .inr (7, [.ref tb, .int 0])), (tb, .inl (cB, 1600, .inl ftb))]) hP hD hS hA [1, 2] [0] rfl rfl (by decide) (by decide) (va_runV (As := [.int x0]) (rest := []) ⟨hx, hb, hml, hown, hts⟩ (c_X7_put_0 l D cB cI cJ cS cZ cO s.heap.size tp x0 tb ftb ) (cwV 1 hts gX10_feed_X7_put rfl rfl rfl (by decide +kernel) ⟨Nat.le_of_ble_eq_true rfl, Nat.le_of_ble_eq_true rfl⟩) (xPreV (win := [(tp, .inr (7, [.ref tb, .int 0])), (tb, .inl (cB, 1600, .inl ftb))]) hN hK hP hD [1, 2] (by decide) rfl 1 7 rfl rfl rfl) rfl rfl hl.1 rfl (lv_room (Nat.le_of_ble_eq_true rfl)) dX10_feed_23 ⟨Nat.le_of_ble_eq_true rfl, Nat.le_of_ble_eq_true rfl⟩) (fun w0 H locs hw hP hD hS => ?_)
  obtain ⟨g_2, rfl⟩ := hw
  have hP : va_P D vwCl [(o, .inr (10, [.ref tp, .ref rd, .ref pr, .ref bx, .ref rw, .ref lt, .ref od, .ref se, .ref gm, .ref wl, .ref cu, .ref sp])), (tp, .inr (7, [.ref tb, .int 4])), (tb, .inl (cB, 1600, .inl g_2))] H := hP
  have hD : va_D A [(o, .inr (10, [.ref tp, .ref rd, .ref pr, .ref bx, .ref rw, .ref lt, .ref od, .ref se, .ref gm, .ref wl, .ref cu, .ref sp])), (tp, .inr (7, [.ref tb, .int 4])), (tb, .inl (cB, 1600, .inl g_2))] := hD
  refine lv_aload_n hx hb dX10_feed_26 rfl (lv_at hl 0 rfl) ?_
  refine va_get (D := D) (ci := 10) (v := .ref tp) (C := RX10) (T := TX10) (N := 12) hx hb hts (by decide +kernel) hown hK hP 0 rfl rfl 0 (by decide) (hts (.fieldLink RX10 12 "LastLetter" "tape" "LLastLetter$Tape;") (by decide +kernel)) (fun _ h9 => h9) rfl dX10_feed_27 ?_
  refine lv_iload_n hx hb dX10_feed_30 rfl (lv_at hl 2 rfl) ?_
  refine xCv (wr := [(o, .inr (10, [.ref tp, .ref rd, .ref pr, .ref bx, .ref rw, .ref lt, .ref od, .ref se, .ref gm, .ref wl, .ref cu, .ref sp]))]) (win := [(tp, .inr (7, [.ref tb, .int 4])), (tb, .inl (cB, 1600, .inl g_2))]) hP hD hS hA [1, 2] [0] rfl rfl (by decide) (by decide) (va_runV (As := [.int x1]) (rest := []) ⟨hx, hb, hml, hown, hts⟩ (c_X7_put_4 l D cB cI cJ cS cZ cO H.size tp x1 tb g_2 ) (cwV 1 hts gX10_feed_X7_put rfl rfl rfl (by decide +kernel) ⟨Nat.le_of_ble_eq_true rfl, Nat.le_of_ble_eq_true rfl⟩) (xPreV (win := [(tp, .inr (7, [.ref tb, .int 4])), (tb, .inl (cB, 1600, .inl g_2))]) hN hK hP hD [1, 2] (by decide) rfl 1 7 rfl rfl rfl) rfl rfl hl.1 rfl (lv_room (Nat.le_of_ble_eq_true rfl)) dX10_feed_31 ⟨Nat.le_of_ble_eq_true rfl, Nat.le_of_ble_eq_true rfl⟩) (fun w0 H locs hw hP hD hS => ?_)
  obtain ⟨g_3, rfl⟩ := hw
  have hP : va_P D vwCl [(o, .inr (10, [.ref tp, .ref rd, .ref pr, .ref bx, .ref rw, .ref lt, .ref od, .ref se, .ref gm, .ref wl, .ref cu, .ref sp])), (tp, .inr (7, [.ref tb, .int 8])), (tb, .inl (cB, 1600, .inl g_3))] H := hP
  have hD : va_D A [(o, .inr (10, [.ref tp, .ref rd, .ref pr, .ref bx, .ref rw, .ref lt, .ref od, .ref se, .ref gm, .ref wl, .ref cu, .ref sp])), (tp, .inr (7, [.ref tb, .int 8])), (tb, .inl (cB, 1600, .inl g_3))] := hD
  refine lv_aload_n hx hb dX10_feed_34 rfl (lv_at hl 0 rfl) ?_
  refine va_get (D := D) (ci := 10) (v := .ref tp) (C := RX10) (T := TX10) (N := 12) hx hb hts (by decide +kernel) hown hK hP 0 rfl rfl 0 (by decide) (hts (.fieldLink RX10 12 "LastLetter" "tape" "LLastLetter$Tape;") (by decide +kernel)) (fun _ h9 => h9) rfl dX10_feed_35 ?_
  refine lv_iload_n hx hb dX10_feed_38 rfl (lv_at hl 3 rfl) ?_
  refine xCv (wr := [(o, .inr (10, [.ref tp, .ref rd, .ref pr, .ref bx, .ref rw, .ref lt, .ref od, .ref se, .ref gm, .ref wl, .ref cu, .ref sp]))]) (win := [(tp, .inr (7, [.ref tb, .int 8])), (tb, .inl (cB, 1600, .inl g_3))]) hP hD hS hA [1, 2] [0] rfl rfl (by decide) (by decide) (va_runV (As := [.int x2]) (rest := []) ⟨hx, hb, hml, hown, hts⟩ (c_X7_put_8 l D cB cI cJ cS cZ cO H.size tp x2 tb g_3 ) (cwV 1 hts gX10_feed_X7_put rfl rfl rfl (by decide +kernel) ⟨Nat.le_of_ble_eq_true rfl, Nat.le_of_ble_eq_true rfl⟩) (xPreV (win := [(tp, .inr (7, [.ref tb, .int 8])), (tb, .inl (cB, 1600, .inl g_3))]) hN hK hP hD [1, 2] (by decide) rfl 1 7 rfl rfl rfl) rfl rfl hl.1 rfl (lv_room (Nat.le_of_ble_eq_true rfl)) dX10_feed_39 ⟨Nat.le_of_ble_eq_true rfl, Nat.le_of_ble_eq_true rfl⟩) (fun w0 H locs hw hP hD hS => ?_)
  obtain ⟨g_4, rfl⟩ := hw
  have hP : va_P D vwCl [(o, .inr (10, [.ref tp, .ref rd, .ref pr, .ref bx, .ref rw, .ref lt, .ref od, .ref se, .ref gm, .ref wl, .ref cu, .ref sp])), (tp, .inr (7, [.ref tb, .int 12])), (tb, .inl (cB, 1600, .inl g_4))] H := hP
  have hD : va_D A [(o, .inr (10, [.ref tp, .ref rd, .ref pr, .ref bx, .ref rw, .ref lt, .ref od, .ref se, .ref gm, .ref wl, .ref cu, .ref sp])), (tp, .inr (7, [.ref tb, .int 12])), (tb, .inl (cB, 1600, .inl g_4))] := hD
  refine lv_aload_n hx hb dX10_feed_42 rfl (lv_at hl 0 rfl) ?_
  refine va_get (D := D) (ci := 10) (v := .ref tp) (C := RX10) (T := TX10) (N := 12) hx hb hts (by decide +kernel) hown hK hP 0 rfl rfl 0 (by decide) (hts (.fieldLink RX10 12 "LastLetter" "tape" "LLastLetter$Tape;") (by decide +kernel)) (fun _ h9 => h9) rfl dX10_feed_43 ?_
  refine lv_iload hx hb dX10_feed_46 (lv_at hl 4 rfl) ?_
  refine xCv (wr := [(o, .inr (10, [.ref tp, .ref rd, .ref pr, .ref bx, .ref rw, .ref lt, .ref od, .ref se, .ref gm, .ref wl, .ref cu, .ref sp]))]) (win := [(tp, .inr (7, [.ref tb, .int 12])), (tb, .inl (cB, 1600, .inl g_4))]) hP hD hS hA [1, 2] [0] rfl rfl (by decide) (by decide) (va_runV (As := [.int x3]) (rest := []) ⟨hx, hb, hml, hown, hts⟩ (c_X7_put_12 l D cB cI cJ cS cZ cO H.size tp x3 tb g_4 ) (cwV 1 hts gX10_feed_X7_put rfl rfl rfl (by decide +kernel) ⟨Nat.le_of_ble_eq_true rfl, Nat.le_of_ble_eq_true rfl⟩) (xPreV (win := [(tp, .inr (7, [.ref tb, .int 12])), (tb, .inl (cB, 1600, .inl g_4))]) hN hK hP hD [1, 2] (by decide) rfl 1 7 rfl rfl rfl) rfl rfl hl.1 rfl (lv_room (Nat.le_of_ble_eq_true rfl)) dX10_feed_48 ⟨Nat.le_of_ble_eq_true rfl, Nat.le_of_ble_eq_true rfl⟩) (fun w0 H locs hw hP hD hS => ?_)
  obtain ⟨g_5, rfl⟩ := hw
  have hP : va_P D vwCl [(o, .inr (10, [.ref tp, .ref rd, .ref pr, .ref bx, .ref rw, .ref lt, .ref od, .ref se, .ref gm, .ref wl, .ref cu, .ref sp])), (tp, .inr (7, [.ref tb, .int 16])), (tb, .inl (cB, 1600, .inl g_5))] H := hP
  have hD : va_D A [(o, .inr (10, [.ref tp, .ref rd, .ref pr, .ref bx, .ref rw, .ref lt, .ref od, .ref se, .ref gm, .ref wl, .ref cu, .ref sp])), (tp, .inr (7, [.ref tb, .int 16])), (tb, .inl (cB, 1600, .inl g_5))] := hD
  refine lv_aload_n hx hb dX10_feed_51 rfl (lv_at hl 0 rfl) ?_
  refine va_get (D := D) (ci := 10) (v := .ref tp) (C := RX10) (T := TX10) (N := 12) hx hb hts (by decide +kernel) hown hK hP 0 rfl rfl 0 (by decide) (hts (.fieldLink RX10 12 "LastLetter" "tape" "LLastLetter$Tape;") (by decide +kernel)) (fun _ h9 => h9) rfl dX10_feed_52 ?_
  refine lv_iload hx hb dX10_feed_55 (lv_at hl 5 rfl) ?_
  refine xCv (wr := [(o, .inr (10, [.ref tp, .ref rd, .ref pr, .ref bx, .ref rw, .ref lt, .ref od, .ref se, .ref gm, .ref wl, .ref cu, .ref sp]))]) (win := [(tp, .inr (7, [.ref tb, .int 16])), (tb, .inl (cB, 1600, .inl g_5))]) hP hD hS hA [1, 2] [0] rfl rfl (by decide) (by decide) (va_runV (As := [.int x4]) (rest := []) ⟨hx, hb, hml, hown, hts⟩ (c_X7_put_16 l D cB cI cJ cS cZ cO H.size tp x4 tb g_5 ) (cwV 1 hts gX10_feed_X7_put rfl rfl rfl (by decide +kernel) ⟨Nat.le_of_ble_eq_true rfl, Nat.le_of_ble_eq_true rfl⟩) (xPreV (win := [(tp, .inr (7, [.ref tb, .int 16])), (tb, .inl (cB, 1600, .inl g_5))]) hN hK hP hD [1, 2] (by decide) rfl 1 7 rfl rfl rfl) rfl rfl hl.1 rfl (lv_room (Nat.le_of_ble_eq_true rfl)) dX10_feed_57 ⟨Nat.le_of_ble_eq_true rfl, Nat.le_of_ble_eq_true rfl⟩) (fun w0 H locs hw hP hD hS => ?_)
  obtain ⟨g_6, rfl⟩ := hw
  have hP : va_P D vwCl [(o, .inr (10, [.ref tp, .ref rd, .ref pr, .ref bx, .ref rw, .ref lt, .ref od, .ref se, .ref gm, .ref wl, .ref cu, .ref sp])), (tp, .inr (7, [.ref tb, .int 20])), (tb, .inl (cB, 1600, .inl g_6))] H := hP
  have hD : va_D A [(o, .inr (10, [.ref tp, .ref rd, .ref pr, .ref bx, .ref rw, .ref lt, .ref od, .ref se, .ref gm, .ref wl, .ref cu, .ref sp])), (tp, .inr (7, [.ref tb, .int 20])), (tb, .inl (cB, 1600, .inl g_6))] := hD
  refine lv_aload_n hx hb dX10_feed_60 rfl (lv_at hl 0 rfl) ?_
  refine va_get (D := D) (ci := 10) (v := .ref tp) (C := RX10) (T := TX10) (N := 12) hx hb hts (by decide +kernel) hown hK hP 0 rfl rfl 0 (by decide) (hts (.fieldLink RX10 12 "LastLetter" "tape" "LLastLetter$Tape;") (by decide +kernel)) (fun _ h9 => h9) rfl dX10_feed_61 ?_
  refine va_getN (D := D) (ci := 7) (v := .int 20) (C := RX7) (T := TX7) (N := 2) hx hb hts (by decide +kernel) hown hK hP 1 rfl rfl 1 (by decide) (va_Nw.use rfl (hN.1 (RX10, 88, RX7, "size", "I", RX10) (by decide +kernel))) (fun _ h9 => h9) rfl dX10_feed_64 ?_
  have hP9 := hP.sub (ws' := []) [] rfl
  have hD9 := hD.sub (ws' := []) [] (by decide) rfl
  refine W.widen (k := 0) (n := 0) (Nat.le_of_ble_eq_true rfl) (Nat.le_of_ble_eq_true rfl) ?_
  exact W.iret (v := 20) hx hb hr (fun tz htz hWz => ⟨⟨20, [], rfl, ⟨rfl, rfl⟩, by rw [htz]; exact hP9, va_K.moved hWz.alike hK, hD9⟩, hS.F htz⟩) hS.2.2 dX10_feed_67

set_option maxHeartbeats 4000000 in
set_option maxRecDepth 100000 in
theorem p_X10_end (l : Launch) (D : va_G) (cB cI cJ cS cZ cO : ClassId) (sz : Nat) (o : Nat) (x : Int32) (tp : Nat) (rd : Nat) (pr : Nat) (bx : Nat) (rw : Nat) (lt : Nat) (od : Nat) (se : Nat) (gm : Nat) (wl : Nat) (cu : Nat) (sp : Nat) (tb : Nat) : Met l yX10_end wsX10_end ({ frames := 0, cells := 0, slots := 0, locals := 0 }) (xPre D (tyL cB cI cJ cS cZ cO) [(o, .inr (10, [.ref tp, .ref rd, .ref pr, .ref bx, .ref rw, .ref lt, .ref od, .ref se, .ref gm, .ref wl, .ref cu, .ref sp])), (tp, .inr (7, [.ref tb, .int 0]))] sz [.ref o, .int x]) (xQi D (tyL cB cI cJ cS cZ cO) (va_A [(o, .inr (10, [.ref tp, .ref rd, .ref pr, .ref bx, .ref rw, .ref lt, .ref od, .ref se, .ref gm, .ref wl, .ref cu, .ref sp])), (tp, .inr (7, [.ref tb, .int 0]))] sz) (fun (r : Int32) (u : va_W) => u = [] ∧ r = if x = 0 then 0 else (-1))) 0 0 (va_A [(o, .inr (10, [.ref tp, .ref rd, .ref pr, .ref bx, .ref rw, .ref lt, .ref od, .ref se, .ref gm, .ref wl, .ref cu, .ref sp])), (tp, .inr (7, [.ref tb, .int 0]))] sz) := by
  refine Met.ofW (cc := cX10_end) (maxL := 2) (ret := (some .int)) (by decide) rfl ?_
  intro p e s m args below meth c s₁ B hml hv
  obtain ⟨rfl, hsz, hP, hK, hD0, hN⟩ := hv
  have hx := B.exec
  have hb := B.bytes
  have hr := B.returns
  have hts := atoms_spec (ws := wsX10_end) B.pre
  have hown : s.vm.findClass RX10 = some m.cls := findClass_of_methodNamed B.named
  have hlocks := B.notSynchronized
  subst hsz
  have hD := hD0.self (sz := s.heap.size)
  generalize hAe : va_A [(o, .inr (10, [.ref tp, .ref rd, .ref pr, .ref bx, .ref rw, .ref lt, .ref od, .ref se, .ref gm, .ref wl, .ref cu, .ref sp])), (tp, .inr (7, [.ref tb, .int 0]))] s.heap.size = A at hD ⊢
  have hA : ∀ q : Nat, s.heap.size ≤ q → A q := fun q h => by rw [← hAe]; exact Or.inr h
  have hS : va_S A s.heap s.heap [] := va_S.rf
  have hP : va_P D vwCl [(o, .inr (10, [.ref tp, .ref rd, .ref pr, .ref bx, .ref rw, .ref lt, .ref od, .ref se, .ref gm, .ref wl, .ref cu, .ref sp])), (tp, .inr (7, [.ref tb, .int 0]))] s.heap := hP
  have hl := lv_entry ([.ref o, .int x]) (n := 2) (Nat.le_of_ble_eq_true rfl)
  rw [lg_entry_eq]
  generalize (lg_sl ([.ref o, .int x]) ++ List.replicate (2 - (lg_sl ([.ref o, .int x])).length) Slot.unset).toArray = ls at hl ⊢
  have hl : lv_has ls 2 [(0, .ref o), (1, .int x)] := hl
  refine lv_iload_n hx hb dX10_end_0 rfl (lv_at hl 1 rfl) ?_
  refine lv_if_lt (tgt := 15) hx hb dX10_end_1 (by decide) (fun c_1 => ?_) (fun c_1 => ?_)
  · refine lv_iconst (v := (-1)) hx hb dX10_end_15 (by decide) ?_
    have hP9 := hP.sub (ws' := []) [] rfl
    have hD9 := hD.sub (ws' := []) [] (by decide) rfl
    refine W.widen (k := 0) (n := 0) (Nat.le_of_ble_eq_true rfl) (Nat.le_of_ble_eq_true rfl) ?_
    exact W.iret (v := (-1)) hx hb hr (fun tz htz hWz => ⟨⟨(-1), [], rfl, ⟨rfl, (by grind)⟩, by rw [htz]; exact hP9, va_K.moved hWz.alike hK, hD9⟩, hS.F htz⟩) hS.2.2 dX10_end_16
  · refine lv_iload_n hx hb dX10_end_4 rfl (lv_at hl 1 rfl) ?_
    refine lv_aload_n hx hb dX10_end_5 rfl (lv_at hl 0 rfl) ?_
    refine va_get (D := D) (ci := 10) (v := .ref tp) (C := RX10) (T := TX10) (N := 12) hx hb hts (by decide +kernel) hown hK hP 0 rfl rfl 0 (by decide) (hts (.fieldLink RX10 12 "LastLetter" "tape" "LLastLetter$Tape;") (by decide +kernel)) (fun _ h9 => h9) rfl dX10_end_6 ?_
    refine va_getN (D := D) (ci := 7) (v := .int 0) (C := RX7) (T := TX7) (N := 2) hx hb hts (by decide +kernel) hown hK hP 1 rfl rfl 1 (by decide) (va_Nw.use rfl (hN.1 (RX10, 88, RX7, "size", "I", RX10) (by decide +kernel))) (fun _ h9 => h9) rfl dX10_end_9 ?_
    refine lv_icmp_le (tgt := 17) hx hb dX10_end_12 (by decide) (fun c_2 => ?_) (fun c_2 => ?_)
    · refine lv_aload_n hx hb dX10_end_17 rfl (lv_at hl 0 rfl) ?_
      refine va_get (D := D) (ci := 10) (v := .ref tp) (C := RX10) (T := TX10) (N := 12) hx hb hts (by decide +kernel) hown hK hP 0 rfl rfl 0 (by decide) (hts (.fieldLink RX10 12 "LastLetter" "tape" "LLastLetter$Tape;") (by decide +kernel)) (fun _ h9 => h9) rfl dX10_end_18 ?_
      refine lv_iload_n hx hb dX10_end_21 rfl (lv_at hl 1 rfl) ?_
      refine va_putN (D := D) (ci := 7) (v := .int x) (ty := .int) (C := RX7) (T := TX7) (N := 2) hx hb hts (by decide +kernel) tyX7 tyX7_ok nmX7 hown hK hP hD hS 1 rfl rfl 1 (by decide) (va_Nw.use rfl (hN.1 (RX10, 88, RX7, "size", "I", RX10) (by decide +kernel))) (fun _ h9 => h9) rfl (by decide +kernel) rfl rfl (Nat.le_of_ble_eq_true rfl) dX10_end_22 (fun H locs hP hD hS => ?_)
      have hP : va_P D vwCl [(o, .inr (10, [.ref tp, .ref rd, .ref pr, .ref bx, .ref rw, .ref lt, .ref od, .ref se, .ref gm, .ref wl, .ref cu, .ref sp])), (tp, .inr (7, [.ref tb, .int x]))] H := hP
      have hD : va_D A [(o, .inr (10, [.ref tp, .ref rd, .ref pr, .ref bx, .ref rw, .ref lt, .ref od, .ref se, .ref gm, .ref wl, .ref cu, .ref sp])), (tp, .inr (7, [.ref tb, .int x]))] := hD
      refine lv_iload_n hx hb dX10_end_25 rfl (lv_at hl 1 rfl) ?_
      have hP9 := hP.sub (ws' := []) [] rfl
      have hD9 := hD.sub (ws' := []) [] (by decide) rfl
      refine W.widen (k := 0) (n := 0) (Nat.le_of_ble_eq_true rfl) (Nat.le_of_ble_eq_true rfl) ?_
      exact W.iret (v := x) hx hb hr (fun tz htz hWz => ⟨⟨x, [], rfl, ⟨rfl, (by grind)⟩, by rw [htz]; exact hP9, va_K.moved hWz.alike hK, hD9⟩, hS.F htz⟩) hS.2.2 dX10_end_26
    · refine lv_iconst (v := (-1)) hx hb dX10_end_15 (by decide) ?_
      have hP9 := hP.sub (ws' := []) [] rfl
      have hD9 := hD.sub (ws' := []) [] (by decide) rfl
      refine W.widen (k := 0) (n := 0) (Nat.le_of_ble_eq_true rfl) (Nat.le_of_ble_eq_true rfl) ?_
      exact W.iret (v := (-1)) hx hb hr (fun tz htz hWz => ⟨⟨(-1), [], rfl, ⟨rfl, (by grind)⟩, by rw [htz]; exact hP9, va_K.moved hWz.alike hK, hD9⟩, hS.F htz⟩) hS.2.2 dX10_end_16

set_option maxHeartbeats 4000000 in
set_option maxRecDepth 100000 in
theorem p_X10_fault (l : Launch) (D : va_G) (cB cI cJ cS cZ cO : ClassId) (sz : Nat) (o : Nat) (x : Int32) (tp : Nat) (rd : Nat) (pr : Nat) (bx : Nat) (rw : Nat) (lt : Nat) (od : Nat) (se : Nat) (gm : Nat) (wl : Nat) (cu : Nat) (sp : Nat) : Met l yX10_fault wsX10_fault ({ frames := 0, cells := 0, slots := 0, locals := 0 }) (xPre D (tyL cB cI cJ cS cZ cO) [(o, .inr (10, [.ref tp, .ref rd, .ref pr, .ref bx, .ref rw, .ref lt, .ref od, .ref se, .ref gm, .ref wl, .ref cu, .ref sp])), (rd, .inr (3, [.ref tp, .int 0, .int 0, .int 0, .int 0, .int (-1)]))] sz [.ref o, .int x]) (xQi D (tyL cB cI cJ cS cZ cO) (va_A [(o, .inr (10, [.ref tp, .ref rd, .ref pr, .ref bx, .ref rw, .ref lt, .ref od, .ref se, .ref gm, .ref wl, .ref cu, .ref sp])), (rd, .inr (3, [.ref tp, .int 0, .int 0, .int 0, .int 0, .int (-1)]))] sz) (fun (r : Int32) (u : va_W) => u = [] ∧ r = if x = 0 then 0 else (-1))) 0 0 (va_A [(o, .inr (10, [.ref tp, .ref rd, .ref pr, .ref bx, .ref rw, .ref lt, .ref od, .ref se, .ref gm, .ref wl, .ref cu, .ref sp])), (rd, .inr (3, [.ref tp, .int 0, .int 0, .int 0, .int 0, .int (-1)]))] sz) := by
  refine Met.ofW (cc := cX10_fault) (maxL := 2) (ret := (some .int)) (by decide) rfl ?_
  intro p e s m args below meth c s₁ B hml hv
  obtain ⟨rfl, hsz, hP, hK, hD0, hN⟩ := hv
  have hx := B.exec
  have hb := B.bytes
  have hr := B.returns
  have hts := atoms_spec (ws := wsX10_fault) B.pre
  have hown : s.vm.findClass RX10 = some m.cls := findClass_of_methodNamed B.named
  have hlocks := B.notSynchronized
  subst hsz
  have hD := hD0.self (sz := s.heap.size)
  generalize hAe : va_A [(o, .inr (10, [.ref tp, .ref rd, .ref pr, .ref bx, .ref rw, .ref lt, .ref od, .ref se, .ref gm, .ref wl, .ref cu, .ref sp])), (rd, .inr (3, [.ref tp, .int 0, .int 0, .int 0, .int 0, .int (-1)]))] s.heap.size = A at hD ⊢
  have hA : ∀ q : Nat, s.heap.size ≤ q → A q := fun q h => by rw [← hAe]; exact Or.inr h
  have hS : va_S A s.heap s.heap [] := va_S.rf
  have hP : va_P D vwCl [(o, .inr (10, [.ref tp, .ref rd, .ref pr, .ref bx, .ref rw, .ref lt, .ref od, .ref se, .ref gm, .ref wl, .ref cu, .ref sp])), (rd, .inr (3, [.ref tp, .int 0, .int 0, .int 0, .int 0, .int (-1)]))] s.heap := hP
  have hl := lv_entry ([.ref o, .int x]) (n := 2) (Nat.le_of_ble_eq_true rfl)
  rw [lg_entry_eq]
  generalize (lg_sl ([.ref o, .int x]) ++ List.replicate (2 - (lg_sl ([.ref o, .int x])).length) Slot.unset).toArray = ls at hl ⊢
  have hl : lv_has ls 2 [(0, .ref o), (1, .int x)] := hl
  refine lv_iload_n hx hb dX10_fault_0 rfl (lv_at hl 1 rfl) ?_
  rcases ib_01 x with rfl | rfl | ⟨n0, n1⟩
  · refine lv_lookup (off := 27) (tgt := 28) hx hb dX10_fault_1 (by decide) (by decide) (by decide) ?_
    refine lv_aload_n hx hb dX10_fault_28 rfl (lv_at hl 0 rfl) ?_
    refine va_get (D := D) (ci := 10) (v := .ref rd) (C := RX10) (T := TX10) (N := 12) hx hb hts (by decide +kernel) hown hK hP 0 rfl rfl 1 (by decide) (hts (.fieldLink RX10 21 "LastLetter" "reader" "LLastLetter$Reader;") (by decide +kernel)) (fun _ h9 => h9) rfl dX10_fault_29 ?_
    refine va_getN (D := D) (ci := 3) (v := .int 0) (C := RX3) (T := TX3) (N := 6) hx hb hts (by decide +kernel) hown hK hP 1 rfl rfl 4 (by decide) (va_Nw.use rfl (hN.1 (RX10, 119, RX3, "fault", "I", RX10) (by decide +kernel))) (fun _ h9 => h9) rfl dX10_fault_32 ?_
    have hP9 := hP.sub (ws' := []) [] rfl
    have hD9 := hD.sub (ws' := []) [] (by decide) rfl
    refine W.widen (k := 0) (n := 0) (Nat.le_of_ble_eq_true rfl) (Nat.le_of_ble_eq_true rfl) ?_
    exact W.iret (v := 0) hx hb hr (fun tz htz hWz => ⟨⟨0, [], rfl, ⟨rfl, (by grind)⟩, by rw [htz]; exact hP9, va_K.moved hWz.alike hK, hD9⟩, hS.F htz⟩) hS.2.2 dX10_fault_35
  · refine lv_lookup (off := 35) (tgt := 36) hx hb dX10_fault_1 (by decide) (by decide) (by decide) ?_
    refine lv_aload_n hx hb dX10_fault_36 rfl (lv_at hl 0 rfl) ?_
    refine va_get (D := D) (ci := 10) (v := .ref rd) (C := RX10) (T := TX10) (N := 12) hx hb hts (by decide +kernel) hown hK hP 0 rfl rfl 1 (by decide) (hts (.fieldLink RX10 21 "LastLetter" "reader" "LLastLetter$Reader;") (by decide +kernel)) (fun _ h9 => h9) rfl dX10_fault_37 ?_
    refine va_getN (D := D) (ci := 3) (v := .int (-1)) (C := RX3) (T := TX3) (N := 6) hx hb hts (by decide +kernel) hown hK hP 1 rfl rfl 5 (by decide) (va_Nw.use rfl (hN.1 (RX10, 122, RX3, "place", "I", RX10) (by decide +kernel))) (fun _ h9 => h9) rfl dX10_fault_40 ?_
    have hP9 := hP.sub (ws' := []) [] rfl
    have hD9 := hD.sub (ws' := []) [] (by decide) rfl
    refine W.widen (k := 0) (n := 0) (Nat.le_of_ble_eq_true rfl) (Nat.le_of_ble_eq_true rfl) ?_
    exact W.iret (v := (-1)) hx hb hr (fun tz htz hWz => ⟨⟨(-1), [], rfl, ⟨rfl, (by grind)⟩, by rw [htz]; exact hP9, va_K.moved hWz.alike hK, hD9⟩, hS.F htz⟩) hS.2.2 dX10_fault_43
  · refine lv_lookup (off := 43) (tgt := 44) hx hb dX10_fault_1 (by decide) (lk_out (a := 0) (b := 1) n0 n1 (by decide)) (by decide) ?_
    refine lv_iconst (v := (-1)) hx hb dX10_fault_44 (by decide) ?_
    have hP9 := hP.sub (ws' := []) [] rfl
    have hD9 := hD.sub (ws' := []) [] (by decide) rfl
    refine W.widen (k := 0) (n := 0) (Nat.le_of_ble_eq_true rfl) (Nat.le_of_ble_eq_true rfl) ?_
    exact W.iret (v := (-1)) hx hb hr (fun tz htz hWz => ⟨⟨(-1), [], rfl, ⟨rfl, (by grind)⟩, by rw [htz]; exact hP9, va_K.moved hWz.alike hK, hD9⟩, hS.F htz⟩) hS.2.2 dX10_fault_45

set_option maxHeartbeats 4000000 in
set_option maxRecDepth 100000 in
theorem p_X10_follow (l : Launch) (D : va_G) (cB cI cJ cS cZ cO : ClassId) (sz : Nat) (o : Nat) (x : Int32) (tp : Nat) (rd : Nat) (pr : Nat) (bx : Nat) (rw : Nat) (lt : Nat) (od : Nat) (se : Nat) (gm : Nat) (wl : Nat) (cu : Nat) (sp : Nat) (cu_name : Nat) (cu_worth : Nat) (cu_times : Nat) (cu_first : Nat) (cu_second : Nat) (cu_beforeLast : Nat) (cu_last : Nat) (cu_errandOf : Nat) (cu_errandAfter : Nat) (cu_sound : Nat) (cu_followers : Nat) (cu_leaders : Nat) : Met l yX10_follow wsX10_follow ({ frames := 1, cells := 0, slots := 0, locals := 21 }) (xPre D (tyL cB cI cJ cS cZ cO) [(o, .inr (10, [.ref tp, .ref rd, .ref pr, .ref bx, .ref rw, .ref lt, .ref od, .ref se, .ref gm, .ref wl, .ref cu, .ref sp])), (cu, .inr (8, [.ref cu_name, .ref cu_worth, .ref cu_times, .ref cu_first, .ref cu_second, .ref cu_beforeLast, .ref cu_last, .ref cu_errandOf, .ref cu_errandAfter, .ref cu_sound, .ref cu_followers, .ref cu_leaders, .int 0, .int 0, .int 0, .int (-1)]))] sz [.ref o, .int x]) (xQi D (tyL cB cI cJ cS cZ cO) (va_A [(o, .inr (10, [.ref tp, .ref rd, .ref pr, .ref bx, .ref rw, .ref lt, .ref od, .ref se, .ref gm, .ref wl, .ref cu, .ref sp])), (cu, .inr (8, [.ref cu_name, .ref cu_worth, .ref cu_times, .ref cu_first, .ref cu_second, .ref cu_beforeLast, .ref cu_last, .ref cu_errandOf, .ref cu_errandAfter, .ref cu_sound, .ref cu_followers, .ref cu_leaders, .int 0, .int 0, .int 0, .int (-1)]))] sz) (fun (r : Int32) (u : va_W) => u = [] ∧ r = (-1))) 0 0 (va_A [(o, .inr (10, [.ref tp, .ref rd, .ref pr, .ref bx, .ref rw, .ref lt, .ref od, .ref se, .ref gm, .ref wl, .ref cu, .ref sp])), (cu, .inr (8, [.ref cu_name, .ref cu_worth, .ref cu_times, .ref cu_first, .ref cu_second, .ref cu_beforeLast, .ref cu_last, .ref cu_errandOf, .ref cu_errandAfter, .ref cu_sound, .ref cu_followers, .ref cu_leaders, .int 0, .int 0, .int 0, .int (-1)]))] sz) := by
  refine Met.ofW (cc := cX10_follow) (maxL := 2) (ret := (some .int)) (by decide) rfl ?_
  intro p e s m args below meth c s₁ B hml hv
  obtain ⟨rfl, hsz, hP, hK, hD0, hN⟩ := hv
  have hx := B.exec
  have hb := B.bytes
  have hr := B.returns
  have hts := atoms_spec (ws := wsX10_follow) B.pre
  have hown : s.vm.findClass RX10 = some m.cls := findClass_of_methodNamed B.named
  have hlocks := B.notSynchronized
  subst hsz
  have hD := hD0.self (sz := s.heap.size)
  generalize hAe : va_A [(o, .inr (10, [.ref tp, .ref rd, .ref pr, .ref bx, .ref rw, .ref lt, .ref od, .ref se, .ref gm, .ref wl, .ref cu, .ref sp])), (cu, .inr (8, [.ref cu_name, .ref cu_worth, .ref cu_times, .ref cu_first, .ref cu_second, .ref cu_beforeLast, .ref cu_last, .ref cu_errandOf, .ref cu_errandAfter, .ref cu_sound, .ref cu_followers, .ref cu_leaders, .int 0, .int 0, .int 0, .int (-1)]))] s.heap.size = A at hD ⊢
  have hA : ∀ q : Nat, s.heap.size ≤ q → A q := fun q h => by rw [← hAe]; exact Or.inr h
  have hS : va_S A s.heap s.heap [] := va_S.rf
  have hP : va_P D vwCl [(o, .inr (10, [.ref tp, .ref rd, .ref pr, .ref bx, .ref rw, .ref lt, .ref od, .ref se, .ref gm, .ref wl, .ref cu, .ref sp])), (cu, .inr (8, [.ref cu_name, .ref cu_worth, .ref cu_times, .ref cu_first, .ref cu_second, .ref cu_beforeLast, .ref cu_last, .ref cu_errandOf, .ref cu_errandAfter, .ref cu_sound, .ref cu_followers, .ref cu_leaders, .int 0, .int 0, .int 0, .int (-1)]))] s.heap := hP
  have hl := lv_entry ([.ref o, .int x]) (n := 2) (Nat.le_of_ble_eq_true rfl)
  rw [lg_entry_eq]
  generalize (lg_sl ([.ref o, .int x]) ++ List.replicate (2 - (lg_sl ([.ref o, .int x])).length) Slot.unset).toArray = ls at hl ⊢
  have hl : lv_has ls 2 [(0, .ref o), (1, .int x)] := hl
  refine lv_aload_n hx hb dX10_follow_0 rfl (lv_at hl 0 rfl) ?_
  refine va_get (D := D) (ci := 10) (v := .ref cu) (C := RX10) (T := TX10) (N := 12) hx hb hts (by decide +kernel) hown hK hP 0 rfl rfl 10 (by decide) (hts (.fieldLink RX10 81 "LastLetter" "current" "LLastLetter$Tongue;") (by decide +kernel)) (fun _ h9 => h9) rfl dX10_follow_1 ?_
  refine lv_iload_n hx hb dX10_follow_4 rfl (lv_at hl 1 rfl) ?_
  refine xCi (wr := [(o, .inr (10, [.ref tp, .ref rd, .ref pr, .ref bx, .ref rw, .ref lt, .ref od, .ref se, .ref gm, .ref wl, .ref cu, .ref sp]))]) (win := [(cu, .inr (8, [.ref cu_name, .ref cu_worth, .ref cu_times, .ref cu_first, .ref cu_second, .ref cu_beforeLast, .ref cu_last, .ref cu_errandOf, .ref cu_errandAfter, .ref cu_sound, .ref cu_followers, .ref cu_leaders, .int 0, .int 0, .int 0, .int (-1)]))]) hP hD hS hA [1] [0] rfl rfl (by decide) (by decide) (va_runV (As := [.int x]) (rest := []) ⟨hx, hb, hml, hown, hts⟩ (c_X8_has l D cB cI cJ cS cZ cO s.heap.size cu x cu_name cu_worth cu_times cu_first cu_second cu_beforeLast cu_last cu_errandOf cu_errandAfter cu_sound cu_followers cu_leaders 0 0 (-1) ) (cwV 1 hts gX10_follow_X8_has rfl rfl rfl (by decide +kernel) ⟨Nat.le_of_ble_eq_true rfl, Nat.le_of_ble_eq_true rfl⟩) (xPreV (win := [(cu, .inr (8, [.ref cu_name, .ref cu_worth, .ref cu_times, .ref cu_first, .ref cu_second, .ref cu_beforeLast, .ref cu_last, .ref cu_errandOf, .ref cu_errandAfter, .ref cu_sound, .ref cu_followers, .ref cu_leaders, .int 0, .int 0, .int 0, .int (-1)]))]) hN hK hP hD [1] (by decide) rfl 1 8 rfl rfl rfl) rfl rfl hl.1 rfl (lv_room (Nat.le_of_ble_eq_true rfl)) dX10_follow_5 ⟨Nat.le_of_ble_eq_true rfl, Nat.le_of_ble_eq_true rfl⟩) (fun r0 w0 H locs hw hP hD hS => ?_)
  obtain ⟨rfl, rfl⟩ := hw
  have hP : va_P D vwCl [(o, .inr (10, [.ref tp, .ref rd, .ref pr, .ref bx, .ref rw, .ref lt, .ref od, .ref se, .ref gm, .ref wl, .ref cu, .ref sp])), (cu, .inr (8, [.ref cu_name, .ref cu_worth, .ref cu_times, .ref cu_first, .ref cu_second, .ref cu_beforeLast, .ref cu_last, .ref cu_errandOf, .ref cu_errandAfter, .ref cu_sound, .ref cu_followers, .ref cu_leaders, .int 0, .int 0, .int 0, .int (-1)]))] H := hP
  have hD : va_D A [(o, .inr (10, [.ref tp, .ref rd, .ref pr, .ref bx, .ref rw, .ref lt, .ref od, .ref se, .ref gm, .ref wl, .ref cu, .ref sp])), (cu, .inr (8, [.ref cu_name, .ref cu_worth, .ref cu_times, .ref cu_first, .ref cu_second, .ref cu_beforeLast, .ref cu_last, .ref cu_errandOf, .ref cu_errandAfter, .ref cu_sound, .ref cu_followers, .ref cu_leaders, .int 0, .int 0, .int 0, .int (-1)]))] := hD
  refine lv_if_eq (tgt := 23) hx hb dX10_follow_8 (by decide) (fun c_1 => ?_) (fun c_1 => absurd (by decide) c_1)
  refine lv_iconst (v := (-1)) hx hb dX10_follow_23 (by decide) ?_
  have hP9 := hP.sub (ws' := []) [] rfl
  have hD9 := hD.sub (ws' := []) [] (by decide) rfl
  refine W.widen (k := 0) (n := 0) (Nat.le_of_ble_eq_true rfl) (Nat.le_of_ble_eq_true rfl) ?_
  exact W.iret (v := (-1)) hx hb hr (fun tz htz hWz => ⟨⟨(-1), [], rfl, ⟨rfl, rfl⟩, by rw [htz]; exact hP9, va_K.moved hWz.alike hK, hD9⟩, hS.F htz⟩) hS.2.2 dX10_follow_24

set_option maxHeartbeats 4000000 in
set_option maxRecDepth 100000 in
theorem p_X10_may (l : Launch) (D : va_G) (cB cI cJ cS cZ cO : ClassId) (sz : Nat) (o : Nat) (tp : Nat) (rd : Nat) (pr : Nat) (bx : Nat) (rw : Nat) (lt : Nat) (od : Nat) (se : Nat) (gm : Nat) (wl : Nat) (cu : Nat) (sp : Nat) (ps : Nat) (cu_name : Nat) (cu_worth : Nat) (cu_times : Nat) (cu_first : Nat) (cu_second : Nat) (cu_beforeLast : Nat) (cu_last : Nat) (cu_errandOf : Nat) (cu_errandAfter : Nat) (cu_sound : Nat) (cu_followers : Nat) (cu_leaders : Nat) : Met l yX10_may wsX10_may ({ frames := 2, cells := 0, slots := 0, locals := 45 }) (xPre D (tyL cB cI cJ cS cZ cO) [(o, .inr (10, [.ref tp, .ref rd, .ref pr, .ref bx, .ref rw, .ref lt, .ref od, .ref se, .ref gm, .ref wl, .ref cu, .ref sp])), (pr, .inr (6, [.ref ps, .int (-1), .int 0, .int 0, .int 0, .int 1, .int 0])), (cu, .inr (8, [.ref cu_name, .ref cu_worth, .ref cu_times, .ref cu_first, .ref cu_second, .ref cu_beforeLast, .ref cu_last, .ref cu_errandOf, .ref cu_errandAfter, .ref cu_sound, .ref cu_followers, .ref cu_leaders, .int 0, .int 0, .int 0, .int (-1)]))] sz [.ref o]) (xQi D (tyL cB cI cJ cS cZ cO) (va_A [(o, .inr (10, [.ref tp, .ref rd, .ref pr, .ref bx, .ref rw, .ref lt, .ref od, .ref se, .ref gm, .ref wl, .ref cu, .ref sp])), (pr, .inr (6, [.ref ps, .int (-1), .int 0, .int 0, .int 0, .int 1, .int 0])), (cu, .inr (8, [.ref cu_name, .ref cu_worth, .ref cu_times, .ref cu_first, .ref cu_second, .ref cu_beforeLast, .ref cu_last, .ref cu_errandOf, .ref cu_errandAfter, .ref cu_sound, .ref cu_followers, .ref cu_leaders, .int 0, .int 0, .int 0, .int (-1)]))] sz) (fun (r : Int32) (u : va_W) => u = [] ∧ r = 0)) 0 0 (va_A [(o, .inr (10, [.ref tp, .ref rd, .ref pr, .ref bx, .ref rw, .ref lt, .ref od, .ref se, .ref gm, .ref wl, .ref cu, .ref sp])), (pr, .inr (6, [.ref ps, .int (-1), .int 0, .int 0, .int 0, .int 1, .int 0])), (cu, .inr (8, [.ref cu_name, .ref cu_worth, .ref cu_times, .ref cu_first, .ref cu_second, .ref cu_beforeLast, .ref cu_last, .ref cu_errandOf, .ref cu_errandAfter, .ref cu_sound, .ref cu_followers, .ref cu_leaders, .int 0, .int 0, .int 0, .int (-1)]))] sz) := by
  refine Met.ofW (cc := cX10_may) (maxL := 1) (ret := (some .int)) (by decide) rfl ?_
  intro p e s m args below meth c s₁ B hml hv
  obtain ⟨rfl, hsz, hP, hK, hD0, hN⟩ := hv
  have hx := B.exec
  have hb := B.bytes
  have hr := B.returns
  have hts := atoms_spec (ws := wsX10_may) B.pre
  have hown : s.vm.findClass RX10 = some m.cls := findClass_of_methodNamed B.named
  have hlocks := B.notSynchronized
  subst hsz
  have hD := hD0.self (sz := s.heap.size)
  generalize hAe : va_A [(o, .inr (10, [.ref tp, .ref rd, .ref pr, .ref bx, .ref rw, .ref lt, .ref od, .ref se, .ref gm, .ref wl, .ref cu, .ref sp])), (pr, .inr (6, [.ref ps, .int (-1), .int 0, .int 0, .int 0, .int 1, .int 0])), (cu, .inr (8, [.ref cu_name, .ref cu_worth, .ref cu_times, .ref cu_first, .ref cu_second, .ref cu_beforeLast, .ref cu_last, .ref cu_errandOf, .ref cu_errandAfter, .ref cu_sound, .ref cu_followers, .ref cu_leaders, .int 0, .int 0, .int 0, .int (-1)]))] s.heap.size = A at hD ⊢
  have hA : ∀ q : Nat, s.heap.size ≤ q → A q := fun q h => by rw [← hAe]; exact Or.inr h
  have hS : va_S A s.heap s.heap [] := va_S.rf
  have hP : va_P D vwCl [(o, .inr (10, [.ref tp, .ref rd, .ref pr, .ref bx, .ref rw, .ref lt, .ref od, .ref se, .ref gm, .ref wl, .ref cu, .ref sp])), (pr, .inr (6, [.ref ps, .int (-1), .int 0, .int 0, .int 0, .int 1, .int 0])), (cu, .inr (8, [.ref cu_name, .ref cu_worth, .ref cu_times, .ref cu_first, .ref cu_second, .ref cu_beforeLast, .ref cu_last, .ref cu_errandOf, .ref cu_errandAfter, .ref cu_sound, .ref cu_followers, .ref cu_leaders, .int 0, .int 0, .int 0, .int (-1)]))] s.heap := hP
  have hl := lv_entry ([.ref o]) (n := 1) (Nat.le_of_ble_eq_true rfl)
  rw [lg_entry_eq]
  generalize (lg_sl ([.ref o]) ++ List.replicate (1 - (lg_sl ([.ref o])).length) Slot.unset).toArray = ls at hl ⊢
  have hl : lv_has ls 1 [(0, .ref o)] := hl
  refine lv_aload_n hx hb dX10_may_0 rfl (lv_at hl 0 rfl) ?_
  refine va_get (D := D) (ci := 10) (v := .ref pr) (C := RX10) (T := TX10) (N := 12) hx hb hts (by decide +kernel) hown hK hP 0 rfl rfl 2 (by decide) (hts (.fieldLink RX10 28 "LastLetter" "present" "LLastLetter$Talk;") (by decide +kernel)) (fun _ h9 => h9) rfl dX10_may_1 ?_
  refine lv_aload_n hx hb dX10_may_4 rfl (lv_at hl 0 rfl) ?_
  refine va_get (D := D) (ci := 10) (v := .ref cu) (C := RX10) (T := TX10) (N := 12) hx hb hts (by decide +kernel) hown hK hP 0 rfl rfl 10 (by decide) (hts (.fieldLink RX10 81 "LastLetter" "current" "LLastLetter$Tongue;") (by decide +kernel)) (fun _ h9 => h9) rfl dX10_may_5 ?_
  refine xCi (wr := [(o, .inr (10, [.ref tp, .ref rd, .ref pr, .ref bx, .ref rw, .ref lt, .ref od, .ref se, .ref gm, .ref wl, .ref cu, .ref sp]))]) (win := [(pr, .inr (6, [.ref ps, .int (-1), .int 0, .int 0, .int 0, .int 1, .int 0])), (cu, .inr (8, [.ref cu_name, .ref cu_worth, .ref cu_times, .ref cu_first, .ref cu_second, .ref cu_beforeLast, .ref cu_last, .ref cu_errandOf, .ref cu_errandAfter, .ref cu_sound, .ref cu_followers, .ref cu_leaders, .int 0, .int 0, .int 0, .int (-1)]))]) hP hD hS hA [1, 2] [0] rfl rfl (by decide) (by decide) (va_runV (As := [.ref cu]) (rest := []) ⟨hx, hb, hml, hown, hts⟩ (c_X6_open l D cB cI cJ cS cZ cO s.heap.size pr cu ps 0 0 0 1 0 cu_name cu_worth cu_times cu_first cu_second cu_beforeLast cu_last cu_errandOf cu_errandAfter cu_sound cu_followers cu_leaders 0 0 (-1) ) (cwV 1 hts gX10_may_X6_open rfl rfl rfl (by decide +kernel) ⟨Nat.le_of_ble_eq_true rfl, Nat.le_of_ble_eq_true rfl⟩) (xPreV (win := [(pr, .inr (6, [.ref ps, .int (-1), .int 0, .int 0, .int 0, .int 1, .int 0])), (cu, .inr (8, [.ref cu_name, .ref cu_worth, .ref cu_times, .ref cu_first, .ref cu_second, .ref cu_beforeLast, .ref cu_last, .ref cu_errandOf, .ref cu_errandAfter, .ref cu_sound, .ref cu_followers, .ref cu_leaders, .int 0, .int 0, .int 0, .int (-1)]))]) hN hK hP hD [1, 2] (by decide) rfl 1 6 rfl rfl rfl) rfl rfl hl.1 rfl (lv_room (Nat.le_of_ble_eq_true rfl)) dX10_may_8 ⟨Nat.le_of_ble_eq_true rfl, Nat.le_of_ble_eq_true rfl⟩) (fun r0 w0 H locs hw hP hD hS => ?_)
  obtain ⟨rfl, rfl⟩ := hw
  have hP : va_P D vwCl [(o, .inr (10, [.ref tp, .ref rd, .ref pr, .ref bx, .ref rw, .ref lt, .ref od, .ref se, .ref gm, .ref wl, .ref cu, .ref sp])), (pr, .inr (6, [.ref ps, .int (-1), .int 0, .int 0, .int 0, .int 1, .int 0])), (cu, .inr (8, [.ref cu_name, .ref cu_worth, .ref cu_times, .ref cu_first, .ref cu_second, .ref cu_beforeLast, .ref cu_last, .ref cu_errandOf, .ref cu_errandAfter, .ref cu_sound, .ref cu_followers, .ref cu_leaders, .int 0, .int 0, .int 0, .int (-1)]))] H := hP
  have hD : va_D A [(o, .inr (10, [.ref tp, .ref rd, .ref pr, .ref bx, .ref rw, .ref lt, .ref od, .ref se, .ref gm, .ref wl, .ref cu, .ref sp])), (pr, .inr (6, [.ref ps, .int (-1), .int 0, .int 0, .int 0, .int 1, .int 0])), (cu, .inr (8, [.ref cu_name, .ref cu_worth, .ref cu_times, .ref cu_first, .ref cu_second, .ref cu_beforeLast, .ref cu_last, .ref cu_errandOf, .ref cu_errandAfter, .ref cu_sound, .ref cu_followers, .ref cu_leaders, .int 0, .int 0, .int 0, .int (-1)]))] := hD
  have hP9 := hP.sub (ws' := []) [] rfl
  have hD9 := hD.sub (ws' := []) [] (by decide) rfl
  refine W.widen (k := 0) (n := 0) (Nat.le_of_ble_eq_true rfl) (Nat.le_of_ble_eq_true rfl) ?_
  exact W.iret (v := 0) hx hb hr (fun tz htz hWz => ⟨⟨0, [], rfl, ⟨rfl, rfl⟩, by rw [htz]; exact hP9, va_K.moved hWz.alike hK, hD9⟩, hS.F htz⟩) hS.2.2 dX10_may_11

set_option maxHeartbeats 4000000 in
set_option maxRecDepth 100000 in
theorem p_X10_say (l : Launch) (D : va_G) (cB cI cJ cS cZ cO : ClassId) (sz : Nat) (o : Nat) (x : Int32) (tp : Nat) (rd : Nat) (pr : Nat) (bx : Nat) (rw : Nat) (lt : Nat) (od : Nat) (se : Nat) (gm : Nat) (wl : Nat) (cu : Nat) (sp : Nat) (cu_name : Nat) (cu_worth : Nat) (cu_times : Nat) (cu_first : Nat) (cu_second : Nat) (cu_beforeLast : Nat) (cu_last : Nat) (cu_errandOf : Nat) (cu_errandAfter : Nat) (cu_sound : Nat) (cu_followers : Nat) (cu_leaders : Nat) : Met l yX10_say wsX10_say ({ frames := 1, cells := 0, slots := 0, locals := 21 }) (xPre D (tyL cB cI cJ cS cZ cO) [(o, .inr (10, [.ref tp, .ref rd, .ref pr, .ref bx, .ref rw, .ref lt, .ref od, .ref se, .ref gm, .ref wl, .ref cu, .ref sp])), (cu, .inr (8, [.ref cu_name, .ref cu_worth, .ref cu_times, .ref cu_first, .ref cu_second, .ref cu_beforeLast, .ref cu_last, .ref cu_errandOf, .ref cu_errandAfter, .ref cu_sound, .ref cu_followers, .ref cu_leaders, .int 0, .int 0, .int 0, .int (-1)]))] sz [.ref o, .int x]) (xQi D (tyL cB cI cJ cS cZ cO) (va_A [(o, .inr (10, [.ref tp, .ref rd, .ref pr, .ref bx, .ref rw, .ref lt, .ref od, .ref se, .ref gm, .ref wl, .ref cu, .ref sp])), (cu, .inr (8, [.ref cu_name, .ref cu_worth, .ref cu_times, .ref cu_first, .ref cu_second, .ref cu_beforeLast, .ref cu_last, .ref cu_errandOf, .ref cu_errandAfter, .ref cu_sound, .ref cu_followers, .ref cu_leaders, .int 0, .int 0, .int 0, .int (-1)]))] sz) (fun (r : Int32) (u : va_W) => u = [] ∧ r = (-1))) 0 0 (va_A [(o, .inr (10, [.ref tp, .ref rd, .ref pr, .ref bx, .ref rw, .ref lt, .ref od, .ref se, .ref gm, .ref wl, .ref cu, .ref sp])), (cu, .inr (8, [.ref cu_name, .ref cu_worth, .ref cu_times, .ref cu_first, .ref cu_second, .ref cu_beforeLast, .ref cu_last, .ref cu_errandOf, .ref cu_errandAfter, .ref cu_sound, .ref cu_followers, .ref cu_leaders, .int 0, .int 0, .int 0, .int (-1)]))] sz) := by
  refine Met.ofW (cc := cX10_say) (maxL := 2) (ret := (some .int)) (by decide) rfl ?_
  intro p e s m args below meth c s₁ B hml hv
  obtain ⟨rfl, hsz, hP, hK, hD0, hN⟩ := hv
  have hx := B.exec
  have hb := B.bytes
  have hr := B.returns
  have hts := atoms_spec (ws := wsX10_say) B.pre
  have hown : s.vm.findClass RX10 = some m.cls := findClass_of_methodNamed B.named
  have hlocks := B.notSynchronized
  subst hsz
  have hD := hD0.self (sz := s.heap.size)
  generalize hAe : va_A [(o, .inr (10, [.ref tp, .ref rd, .ref pr, .ref bx, .ref rw, .ref lt, .ref od, .ref se, .ref gm, .ref wl, .ref cu, .ref sp])), (cu, .inr (8, [.ref cu_name, .ref cu_worth, .ref cu_times, .ref cu_first, .ref cu_second, .ref cu_beforeLast, .ref cu_last, .ref cu_errandOf, .ref cu_errandAfter, .ref cu_sound, .ref cu_followers, .ref cu_leaders, .int 0, .int 0, .int 0, .int (-1)]))] s.heap.size = A at hD ⊢
  have hA : ∀ q : Nat, s.heap.size ≤ q → A q := fun q h => by rw [← hAe]; exact Or.inr h
  have hS : va_S A s.heap s.heap [] := va_S.rf
  have hP : va_P D vwCl [(o, .inr (10, [.ref tp, .ref rd, .ref pr, .ref bx, .ref rw, .ref lt, .ref od, .ref se, .ref gm, .ref wl, .ref cu, .ref sp])), (cu, .inr (8, [.ref cu_name, .ref cu_worth, .ref cu_times, .ref cu_first, .ref cu_second, .ref cu_beforeLast, .ref cu_last, .ref cu_errandOf, .ref cu_errandAfter, .ref cu_sound, .ref cu_followers, .ref cu_leaders, .int 0, .int 0, .int 0, .int (-1)]))] s.heap := hP
  have hl := lv_entry ([.ref o, .int x]) (n := 2) (Nat.le_of_ble_eq_true rfl)
  rw [lg_entry_eq]
  generalize (lg_sl ([.ref o, .int x]) ++ List.replicate (2 - (lg_sl ([.ref o, .int x])).length) Slot.unset).toArray = ls at hl ⊢
  have hl : lv_has ls 2 [(0, .ref o), (1, .int x)] := hl
  refine lv_aload_n hx hb dX10_say_0 rfl (lv_at hl 0 rfl) ?_
  refine va_get (D := D) (ci := 10) (v := .ref cu) (C := RX10) (T := TX10) (N := 12) hx hb hts (by decide +kernel) hown hK hP 0 rfl rfl 10 (by decide) (hts (.fieldLink RX10 81 "LastLetter" "current" "LLastLetter$Tongue;") (by decide +kernel)) (fun _ h9 => h9) rfl dX10_say_1 ?_
  refine lv_iload_n hx hb dX10_say_4 rfl (lv_at hl 1 rfl) ?_
  refine xCi (wr := [(o, .inr (10, [.ref tp, .ref rd, .ref pr, .ref bx, .ref rw, .ref lt, .ref od, .ref se, .ref gm, .ref wl, .ref cu, .ref sp]))]) (win := [(cu, .inr (8, [.ref cu_name, .ref cu_worth, .ref cu_times, .ref cu_first, .ref cu_second, .ref cu_beforeLast, .ref cu_last, .ref cu_errandOf, .ref cu_errandAfter, .ref cu_sound, .ref cu_followers, .ref cu_leaders, .int 0, .int 0, .int 0, .int (-1)]))]) hP hD hS hA [1] [0] rfl rfl (by decide) (by decide) (va_runV (As := [.int x]) (rest := []) ⟨hx, hb, hml, hown, hts⟩ (c_X8_has l D cB cI cJ cS cZ cO s.heap.size cu x cu_name cu_worth cu_times cu_first cu_second cu_beforeLast cu_last cu_errandOf cu_errandAfter cu_sound cu_followers cu_leaders 0 0 (-1) ) (cwV 1 hts gX10_say_X8_has rfl rfl rfl (by decide +kernel) ⟨Nat.le_of_ble_eq_true rfl, Nat.le_of_ble_eq_true rfl⟩) (xPreV (win := [(cu, .inr (8, [.ref cu_name, .ref cu_worth, .ref cu_times, .ref cu_first, .ref cu_second, .ref cu_beforeLast, .ref cu_last, .ref cu_errandOf, .ref cu_errandAfter, .ref cu_sound, .ref cu_followers, .ref cu_leaders, .int 0, .int 0, .int 0, .int (-1)]))]) hN hK hP hD [1] (by decide) rfl 1 8 rfl rfl rfl) rfl rfl hl.1 rfl (lv_room (Nat.le_of_ble_eq_true rfl)) dX10_say_5 ⟨Nat.le_of_ble_eq_true rfl, Nat.le_of_ble_eq_true rfl⟩) (fun r0 w0 H locs hw hP hD hS => ?_)
  obtain ⟨rfl, rfl⟩ := hw
  have hP : va_P D vwCl [(o, .inr (10, [.ref tp, .ref rd, .ref pr, .ref bx, .ref rw, .ref lt, .ref od, .ref se, .ref gm, .ref wl, .ref cu, .ref sp])), (cu, .inr (8, [.ref cu_name, .ref cu_worth, .ref cu_times, .ref cu_first, .ref cu_second, .ref cu_beforeLast, .ref cu_last, .ref cu_errandOf, .ref cu_errandAfter, .ref cu_sound, .ref cu_followers, .ref cu_leaders, .int 0, .int 0, .int 0, .int (-1)]))] H := hP
  have hD : va_D A [(o, .inr (10, [.ref tp, .ref rd, .ref pr, .ref bx, .ref rw, .ref lt, .ref od, .ref se, .ref gm, .ref wl, .ref cu, .ref sp])), (cu, .inr (8, [.ref cu_name, .ref cu_worth, .ref cu_times, .ref cu_first, .ref cu_second, .ref cu_beforeLast, .ref cu_last, .ref cu_errandOf, .ref cu_errandAfter, .ref cu_sound, .ref cu_followers, .ref cu_leaders, .int 0, .int 0, .int 0, .int (-1)]))] := hD
  refine lv_if_eq (tgt := 29) hx hb dX10_say_8 (by decide) (fun c_1 => ?_) (fun c_1 => absurd (by decide) c_1)
  refine lv_iconst (v := (-1)) hx hb dX10_say_29 (by decide) ?_
  have hP9 := hP.sub (ws' := []) [] rfl
  have hD9 := hD.sub (ws' := []) [] (by decide) rfl
  refine W.widen (k := 0) (n := 0) (Nat.le_of_ble_eq_true rfl) (Nat.le_of_ble_eq_true rfl) ?_
  exact W.iret (v := (-1)) hx hb hr (fun tz htz hWz => ⟨⟨(-1), [], rfl, ⟨rfl, rfl⟩, by rw [htz]; exact hP9, va_K.moved hWz.alike hK, hD9⟩, hS.F htz⟩) hS.2.2 dX10_say_30

set_option maxHeartbeats 4000000 in
set_option maxRecDepth 100000 in
theorem p_X10_silence (l : Launch) (D : va_G) (cB cI cJ cS cZ cO : ClassId) (sz : Nat) (o : Nat) (tp : Nat) (rd : Nat) (pr : Nat) (bx : Nat) (rw : Nat) (lt : Nat) (od : Nat) (se : Nat) (gm : Nat) (wl : Nat) (cu : Nat) (sp : Nat) (ps : Nat) : Met l yX10_silence wsX10_silence ({ frames := 1, cells := 0, slots := 0, locals := 20 }) (xPre D (tyL cB cI cJ cS cZ cO) [(o, .inr (10, [.ref tp, .ref rd, .ref pr, .ref bx, .ref rw, .ref lt, .ref od, .ref se, .ref gm, .ref wl, .ref cu, .ref sp])), (pr, .inr (6, [.ref ps, .int (-1), .int 0, .int 0, .int 0, .int 1, .int 0]))] sz [.ref o]) (xQi D (tyL cB cI cJ cS cZ cO) (va_A [(o, .inr (10, [.ref tp, .ref rd, .ref pr, .ref bx, .ref rw, .ref lt, .ref od, .ref se, .ref gm, .ref wl, .ref cu, .ref sp])), (pr, .inr (6, [.ref ps, .int (-1), .int 0, .int 0, .int 0, .int 1, .int 0]))] sz) (fun (r : Int32) (u : va_W) => u = [] ∧ r = 0)) 0 0 (va_A [(o, .inr (10, [.ref tp, .ref rd, .ref pr, .ref bx, .ref rw, .ref lt, .ref od, .ref se, .ref gm, .ref wl, .ref cu, .ref sp])), (pr, .inr (6, [.ref ps, .int (-1), .int 0, .int 0, .int 0, .int 1, .int 0]))] sz) := by
  refine Met.ofW (cc := cX10_silence) (maxL := 2) (ret := (some .int)) (by decide) rfl ?_
  intro p e s m args below meth c s₁ B hml hv
  obtain ⟨rfl, hsz, hP, hK, hD0, hN⟩ := hv
  have hx := B.exec
  have hb := B.bytes
  have hr := B.returns
  have hts := atoms_spec (ws := wsX10_silence) B.pre
  have hown : s.vm.findClass RX10 = some m.cls := findClass_of_methodNamed B.named
  have hlocks := B.notSynchronized
  subst hsz
  have hD := hD0.self (sz := s.heap.size)
  generalize hAe : va_A [(o, .inr (10, [.ref tp, .ref rd, .ref pr, .ref bx, .ref rw, .ref lt, .ref od, .ref se, .ref gm, .ref wl, .ref cu, .ref sp])), (pr, .inr (6, [.ref ps, .int (-1), .int 0, .int 0, .int 0, .int 1, .int 0]))] s.heap.size = A at hD ⊢
  have hA : ∀ q : Nat, s.heap.size ≤ q → A q := fun q h => by rw [← hAe]; exact Or.inr h
  have hS : va_S A s.heap s.heap [] := va_S.rf
  have hP : va_P D vwCl [(o, .inr (10, [.ref tp, .ref rd, .ref pr, .ref bx, .ref rw, .ref lt, .ref od, .ref se, .ref gm, .ref wl, .ref cu, .ref sp])), (pr, .inr (6, [.ref ps, .int (-1), .int 0, .int 0, .int 0, .int 1, .int 0]))] s.heap := hP
  have hl := lv_entry ([.ref o]) (n := 2) (Nat.le_of_ble_eq_true rfl)
  rw [lg_entry_eq]
  generalize (lg_sl ([.ref o]) ++ List.replicate (2 - (lg_sl ([.ref o])).length) Slot.unset).toArray = ls at hl ⊢
  have hl : lv_has ls 2 [(0, .ref o)] := hl
  refine lv_aload_n hx hb dX10_silence_0 rfl (lv_at hl 0 rfl) ?_
  refine va_get (D := D) (ci := 10) (v := .ref pr) (C := RX10) (T := TX10) (N := 12) hx hb hts (by decide +kernel) hown hK hP 0 rfl rfl 2 (by decide) (hts (.fieldLink RX10 28 "LastLetter" "present" "LLastLetter$Talk;") (by decide +kernel)) (fun _ h9 => h9) rfl dX10_silence_1 ?_
  refine va_getN (D := D) (ci := 6) (v := .int 0) (C := RX6) (T := TX6) (N := 7) hx hb hts (by decide +kernel) hown hK hP 1 rfl rfl 2 (by decide) (va_Nw.use rfl (hN.1 (RX10, 148, RX6, "spoken", "I", RX10) (by decide +kernel))) (fun _ h9 => h9) rfl dX10_silence_4 ?_
  refine lv_istore_n (lv' := [(1, .int 0), (0, .ref o)]) hx hb dX10_silence_7 rfl hl (by decide) rfl (fun ls hl => ?_)
  refine lv_aload_n hx hb dX10_silence_8 rfl (lv_at hl 1 rfl) ?_
  refine va_get (D := D) (ci := 10) (v := .ref pr) (C := RX10) (T := TX10) (N := 12) hx hb hts (by decide +kernel) hown hK hP 0 rfl rfl 2 (by decide) (hts (.fieldLink RX10 28 "LastLetter" "present" "LLastLetter$Talk;") (by decide +kernel)) (fun _ h9 => h9) rfl dX10_silence_9 ?_
  refine xCv (wr := [(o, .inr (10, [.ref tp, .ref rd, .ref pr, .ref bx, .ref rw, .ref lt, .ref od, .ref se, .ref gm, .ref wl, .ref cu, .ref sp]))]) (win := [(pr, .inr (6, [.ref ps, .int (-1), .int 0, .int 0, .int 0, .int 1, .int 0]))]) hP hD hS hA [1] [0] rfl rfl (by decide) (by decide) (va_runV (As := []) (rest := []) ⟨hx, hb, hml, hown, hts⟩ (c_X6_begin l D cB cI cJ cS cZ cO s.heap.size pr ps (-1) 0 0 0 1 0 ) (cwV 0 hts gX10_silence_X6_begin rfl rfl rfl (by decide +kernel) ⟨Nat.le_of_ble_eq_true rfl, Nat.le_of_ble_eq_true rfl⟩) (xPreV (win := [(pr, .inr (6, [.ref ps, .int (-1), .int 0, .int 0, .int 0, .int 1, .int 0]))]) hN hK hP hD [1] (by decide) rfl 1 6 rfl rfl rfl) rfl rfl hl.1 rfl (lv_room (Nat.le_of_ble_eq_true rfl)) dX10_silence_12 ⟨Nat.le_of_ble_eq_true rfl, Nat.le_of_ble_eq_true rfl⟩) (fun w0 H locs hw hP hD hS => ?_)
  subst hw
  have hP : va_P D vwCl [(o, .inr (10, [.ref tp, .ref rd, .ref pr, .ref bx, .ref rw, .ref lt, .ref od, .ref se, .ref gm, .ref wl, .ref cu, .ref sp])), (pr, .inr (6, [.ref ps, .int (-1), .int 0, .int 0, .int 0, .int 1, .int 0]))] H := hP
  have hD : va_D A [(o, .inr (10, [.ref tp, .ref rd, .ref pr, .ref bx, .ref rw, .ref lt, .ref od, .ref se, .ref gm, .ref wl, .ref cu, .ref sp])), (pr, .inr (6, [.ref ps, .int (-1), .int 0, .int 0, .int 0, .int 1, .int 0]))] := hD
  refine lv_iload_n hx hb dX10_silence_15 rfl (lv_at hl 0 rfl) ?_
  have hP9 := hP.sub (ws' := []) [] rfl
  have hD9 := hD.sub (ws' := []) [] (by decide) rfl
  refine W.widen (k := 0) (n := 0) (Nat.le_of_ble_eq_true rfl) (Nat.le_of_ble_eq_true rfl) ?_
  exact W.iret (v := 0) hx hb hr (fun tz htz hWz => ⟨⟨0, [], rfl, ⟨rfl, rfl⟩, by rw [htz]; exact hP9, va_K.moved hWz.alike hK, hD9⟩, hS.F htz⟩) hS.2.2 dX10_silence_16

set_option maxHeartbeats 4000000 in
set_option maxRecDepth 100000 in
theorem p_X10_talk (l : Launch) (D : va_G) (cB cI cJ cS cZ cO : ClassId) (sz : Nat) (o : Nat) (x : Int32) (y : Int32) (tp : Nat) (rd : Nat) (pr : Nat) (bx : Nat) (rw : Nat) (lt : Nat) (od : Nat) (se : Nat) (gm : Nat) (wl : Nat) (cu : Nat) (sp : Nat) (ps : Nat) (cu_name : Nat) (cu_worth : Nat) (cu_times : Nat) (cu_first : Nat) (cu_second : Nat) (cu_beforeLast : Nat) (cu_last : Nat) (cu_errandOf : Nat) (cu_errandAfter : Nat) (cu_sound : Nat) (cu_followers : Nat) (cu_leaders : Nat) : Met l yX10_talk wsX10_talk ({ frames := 3, cells := 0, slots := 0, locals := 72 }) (xPre D (tyL cB cI cJ cS cZ cO) [(o, .inr (10, [.ref tp, .ref rd, .ref pr, .ref bx, .ref rw, .ref lt, .ref od, .ref se, .ref gm, .ref wl, .ref cu, .ref sp])), (pr, .inr (6, [.ref ps, .int (-1), .int 0, .int 0, .int 0, .int 1, .int 0])), (cu, .inr (8, [.ref cu_name, .ref cu_worth, .ref cu_times, .ref cu_first, .ref cu_second, .ref cu_beforeLast, .ref cu_last, .ref cu_errandOf, .ref cu_errandAfter, .ref cu_sound, .ref cu_followers, .ref cu_leaders, .int 0, .int 0, .int 0, .int (-1)]))] sz [.ref o, .int x, .int y]) (xQi D (tyL cB cI cJ cS cZ cO) (va_A [(o, .inr (10, [.ref tp, .ref rd, .ref pr, .ref bx, .ref rw, .ref lt, .ref od, .ref se, .ref gm, .ref wl, .ref cu, .ref sp])), (pr, .inr (6, [.ref ps, .int (-1), .int 0, .int 0, .int 0, .int 1, .int 0])), (cu, .inr (8, [.ref cu_name, .ref cu_worth, .ref cu_times, .ref cu_first, .ref cu_second, .ref cu_beforeLast, .ref cu_last, .ref cu_errandOf, .ref cu_errandAfter, .ref cu_sound, .ref cu_followers, .ref cu_leaders, .int 0, .int 0, .int 0, .int (-1)]))] sz) (fun (r : Int32) (u : va_W) => u = [] ∧ r = if (0 ≤ x ∧ x ≤ 100) ∧ (0 ≤ y ∧ y ≤ 4) then 0 else (-1))) 0 0 (va_A [(o, .inr (10, [.ref tp, .ref rd, .ref pr, .ref bx, .ref rw, .ref lt, .ref od, .ref se, .ref gm, .ref wl, .ref cu, .ref sp])), (pr, .inr (6, [.ref ps, .int (-1), .int 0, .int 0, .int 0, .int 1, .int 0])), (cu, .inr (8, [.ref cu_name, .ref cu_worth, .ref cu_times, .ref cu_first, .ref cu_second, .ref cu_beforeLast, .ref cu_last, .ref cu_errandOf, .ref cu_errandAfter, .ref cu_sound, .ref cu_followers, .ref cu_leaders, .int 0, .int 0, .int 0, .int (-1)]))] sz) := by
  refine Met.ofW (cc := cX10_talk) (maxL := 6) (ret := (some .int)) (by decide) rfl ?_
  intro p e s m args below meth c s₁ B hml hv
  obtain ⟨rfl, hsz, hP, hK, hD0, hN⟩ := hv
  have hx := B.exec
  have hb := B.bytes
  have hr := B.returns
  have hts := atoms_spec (ws := wsX10_talk) B.pre
  have hown : s.vm.findClass RX10 = some m.cls := findClass_of_methodNamed B.named
  have hlocks := B.notSynchronized
  subst hsz
  have hD := hD0.self (sz := s.heap.size)
  generalize hAe : va_A [(o, .inr (10, [.ref tp, .ref rd, .ref pr, .ref bx, .ref rw, .ref lt, .ref od, .ref se, .ref gm, .ref wl, .ref cu, .ref sp])), (pr, .inr (6, [.ref ps, .int (-1), .int 0, .int 0, .int 0, .int 1, .int 0])), (cu, .inr (8, [.ref cu_name, .ref cu_worth, .ref cu_times, .ref cu_first, .ref cu_second, .ref cu_beforeLast, .ref cu_last, .ref cu_errandOf, .ref cu_errandAfter, .ref cu_sound, .ref cu_followers, .ref cu_leaders, .int 0, .int 0, .int 0, .int (-1)]))] s.heap.size = A at hD ⊢
  have hA : ∀ q : Nat, s.heap.size ≤ q → A q := fun q h => by rw [← hAe]; exact Or.inr h
  have hS : va_S A s.heap s.heap [] := va_S.rf
  have hP : va_P D vwCl [(o, .inr (10, [.ref tp, .ref rd, .ref pr, .ref bx, .ref rw, .ref lt, .ref od, .ref se, .ref gm, .ref wl, .ref cu, .ref sp])), (pr, .inr (6, [.ref ps, .int (-1), .int 0, .int 0, .int 0, .int 1, .int 0])), (cu, .inr (8, [.ref cu_name, .ref cu_worth, .ref cu_times, .ref cu_first, .ref cu_second, .ref cu_beforeLast, .ref cu_last, .ref cu_errandOf, .ref cu_errandAfter, .ref cu_sound, .ref cu_followers, .ref cu_leaders, .int 0, .int 0, .int 0, .int (-1)]))] s.heap := hP
  have hl := lv_entry ([.ref o, .int x, .int y]) (n := 6) (Nat.le_of_ble_eq_true rfl)
  rw [lg_entry_eq]
  generalize (lg_sl ([.ref o, .int x, .int y]) ++ List.replicate (6 - (lg_sl ([.ref o, .int x, .int y])).length) Slot.unset).toArray = ls at hl ⊢
  have hl : lv_has ls 6 [(0, .ref o), (1, .int x), (2, .int y)] := hl
  refine lv_iload_n hx hb dX10_talk_0 rfl (lv_at hl 1 rfl) ?_
  refine lv_if_lt (tgt := 19) hx hb dX10_talk_1 (by decide) (fun c_1 => ?_) (fun c_1 => ?_)
  · refine lv_iconst (v := (-1)) hx hb dX10_talk_19 (by decide) ?_
    have hP9 := hP.sub (ws' := []) [] rfl
    have hD9 := hD.sub (ws' := []) [] (by decide) rfl
    refine W.widen (k := 0) (n := 0) (Nat.le_of_ble_eq_true rfl) (Nat.le_of_ble_eq_true rfl) ?_
    exact W.iret (v := (-1)) hx hb hr (fun tz htz hWz => ⟨⟨(-1), [], rfl, ⟨rfl, (by grind)⟩, by rw [htz]; exact hP9, va_K.moved hWz.alike hK, hD9⟩, hS.F htz⟩) hS.2.2 dX10_talk_20
  · refine lv_iload_n hx hb dX10_talk_4 rfl (lv_at hl 1 rfl) ?_
    refine lv_bipush (v := 100) hx hb dX10_talk_5 (by decide) ?_
    refine lv_icmp_gt (tgt := 19) hx hb dX10_talk_7 (by decide) (fun c_2 => ?_) (fun c_2 => ?_)
    · refine lv_iconst (v := (-1)) hx hb dX10_talk_19 (by decide) ?_
      have hP9 := hP.sub (ws' := []) [] rfl
      have hD9 := hD.sub (ws' := []) [] (by decide) rfl
      refine W.widen (k := 0) (n := 0) (Nat.le_of_ble_eq_true rfl) (Nat.le_of_ble_eq_true rfl) ?_
      exact W.iret (v := (-1)) hx hb hr (fun tz htz hWz => ⟨⟨(-1), [], rfl, ⟨rfl, (by grind)⟩, by rw [htz]; exact hP9, va_K.moved hWz.alike hK, hD9⟩, hS.F htz⟩) hS.2.2 dX10_talk_20
    · refine lv_iload_n hx hb dX10_talk_10 rfl (lv_at hl 2 rfl) ?_
      refine lv_if_lt (tgt := 19) hx hb dX10_talk_11 (by decide) (fun c_3 => ?_) (fun c_3 => ?_)
      · refine lv_iconst (v := (-1)) hx hb dX10_talk_19 (by decide) ?_
        have hP9 := hP.sub (ws' := []) [] rfl
        have hD9 := hD.sub (ws' := []) [] (by decide) rfl
        refine W.widen (k := 0) (n := 0) (Nat.le_of_ble_eq_true rfl) (Nat.le_of_ble_eq_true rfl) ?_
        exact W.iret (v := (-1)) hx hb hr (fun tz htz hWz => ⟨⟨(-1), [], rfl, ⟨rfl, (by grind)⟩, by rw [htz]; exact hP9, va_K.moved hWz.alike hK, hD9⟩, hS.F htz⟩) hS.2.2 dX10_talk_20
      · refine lv_iload_n hx hb dX10_talk_14 rfl (lv_at hl 2 rfl) ?_
        refine lv_iconst (v := 4) hx hb dX10_talk_15 (by decide) ?_
        refine lv_icmp_le (tgt := 21) hx hb dX10_talk_16 (by decide) (fun c_4 => ?_) (fun c_4 => ?_)
        · refine lv_iconst (v := 0) hx hb dX10_talk_21 (by decide) ?_
          refine lv_istore_n (lv' := [(3, .int 0), (0, .ref o), (1, .int x), (2, .int y)]) hx hb dX10_talk_22 rfl hl (by decide) rfl (fun ls hl => ?_)
          refine lv_iconst (v := 0) hx hb dX10_talk_23 (by decide) ?_
          refine lv_istore (lv' := [(4, .int 0), (3, .int 0), (0, .ref o), (1, .int x), (2, .int y)]) hx hb dX10_talk_24 hl (by decide) rfl (fun ls hl => ?_)
          refine lv_iload hx hb dX10_talk_26 (lv_at hl 0 rfl) ?_
          refine lv_iload_n hx hb dX10_talk_28 rfl (lv_at hl 3 rfl) ?_
          refine lv_icmp_ge (tgt := 83) hx hb dX10_talk_29 (by decide) (fun c_5 => ?_) (fun c_5 => ?_)
          · refine lv_iload_n hx hb dX10_talk_83 rfl (lv_at hl 1 rfl) ?_
            have hP9 := hP.sub (ws' := []) [] rfl
            have hD9 := hD.sub (ws' := []) [] (by decide) rfl
            refine W.widen (k := 0) (n := 0) (Nat.le_of_ble_eq_true rfl) (Nat.le_of_ble_eq_true rfl) ?_
            exact W.iret (v := 0) hx hb hr (fun tz htz hWz => ⟨⟨0, [], rfl, ⟨rfl, (by grind)⟩, by rw [htz]; exact hP9, va_K.moved hWz.alike hK, hD9⟩, hS.F htz⟩) hS.2.2 dX10_talk_84
          · refine lv_aload_n hx hb dX10_talk_32 rfl (lv_at hl 2 rfl) ?_
            refine va_get (D := D) (ci := 10) (v := .ref pr) (C := RX10) (T := TX10) (N := 12) hx hb hts (by decide +kernel) hown hK hP 0 rfl rfl 2 (by decide) (hts (.fieldLink RX10 28 "LastLetter" "present" "LLastLetter$Talk;") (by decide +kernel)) (fun _ h9 => h9) rfl dX10_talk_33 ?_
            refine lv_aload_n hx hb dX10_talk_36 rfl (lv_at hl 2 rfl) ?_
            refine va_get (D := D) (ci := 10) (v := .ref cu) (C := RX10) (T := TX10) (N := 12) hx hb hts (by decide +kernel) hown hK hP 0 rfl rfl 10 (by decide) (hts (.fieldLink RX10 81 "LastLetter" "current" "LLastLetter$Tongue;") (by decide +kernel)) (fun _ h9 => h9) rfl dX10_talk_37 ?_
            refine lv_iload_n hx hb dX10_talk_40 rfl (lv_at hl 4 rfl) ?_
            refine xCi (wr := [(o, .inr (10, [.ref tp, .ref rd, .ref pr, .ref bx, .ref rw, .ref lt, .ref od, .ref se, .ref gm, .ref wl, .ref cu, .ref sp]))]) (win := [(pr, .inr (6, [.ref ps, .int (-1), .int 0, .int 0, .int 0, .int 1, .int 0])), (cu, .inr (8, [.ref cu_name, .ref cu_worth, .ref cu_times, .ref cu_first, .ref cu_second, .ref cu_beforeLast, .ref cu_last, .ref cu_errandOf, .ref cu_errandAfter, .ref cu_sound, .ref cu_followers, .ref cu_leaders, .int 0, .int 0, .int 0, .int (-1)]))]) hP hD hS hA [1, 2] [0] rfl rfl (by decide) (by decide) (va_runV (As := [.ref cu, .int y]) (rest := []) ⟨hx, hb, hml, hown, hts⟩ (c_X6_choose l D cB cI cJ cS cZ cO s.heap.size pr cu y ps 0 0 0 1 0 cu_name cu_worth cu_times cu_first cu_second cu_beforeLast cu_last cu_errandOf cu_errandAfter cu_sound cu_followers cu_leaders 0 0 (-1) ) (cwV 2 hts gX10_talk_X6_choose rfl rfl rfl (by decide +kernel) ⟨Nat.le_of_ble_eq_true rfl, Nat.le_of_ble_eq_true rfl⟩) (xPreV (win := [(pr, .inr (6, [.ref ps, .int (-1), .int 0, .int 0, .int 0, .int 1, .int 0])), (cu, .inr (8, [.ref cu_name, .ref cu_worth, .ref cu_times, .ref cu_first, .ref cu_second, .ref cu_beforeLast, .ref cu_last, .ref cu_errandOf, .ref cu_errandAfter, .ref cu_sound, .ref cu_followers, .ref cu_leaders, .int 0, .int 0, .int 0, .int (-1)]))]) hN hK hP hD [1, 2] (by decide) rfl 1 6 rfl rfl rfl) rfl rfl hl.1 rfl (lv_room (Nat.le_of_ble_eq_true rfl)) dX10_talk_41 ⟨Nat.le_of_ble_eq_true rfl, Nat.le_of_ble_eq_true rfl⟩) (fun r0 w0 H locs hw hP hD hS => ?_)
            obtain ⟨rfl, rfl⟩ := hw
            have hP : va_P D vwCl [(o, .inr (10, [.ref tp, .ref rd, .ref pr, .ref bx, .ref rw, .ref lt, .ref od, .ref se, .ref gm, .ref wl, .ref cu, .ref sp])), (pr, .inr (6, [.ref ps, .int (-1), .int 0, .int 0, .int 0, .int 1, .int 0])), (cu, .inr (8, [.ref cu_name, .ref cu_worth, .ref cu_times, .ref cu_first, .ref cu_second, .ref cu_beforeLast, .ref cu_last, .ref cu_errandOf, .ref cu_errandAfter, .ref cu_sound, .ref cu_followers, .ref cu_leaders, .int 0, .int 0, .int 0, .int (-1)]))] H := hP
            have hD : va_D A [(o, .inr (10, [.ref tp, .ref rd, .ref pr, .ref bx, .ref rw, .ref lt, .ref od, .ref se, .ref gm, .ref wl, .ref cu, .ref sp])), (pr, .inr (6, [.ref ps, .int (-1), .int 0, .int 0, .int 0, .int 1, .int 0])), (cu, .inr (8, [.ref cu_name, .ref cu_worth, .ref cu_times, .ref cu_first, .ref cu_second, .ref cu_beforeLast, .ref cu_last, .ref cu_errandOf, .ref cu_errandAfter, .ref cu_sound, .ref cu_followers, .ref cu_leaders, .int 0, .int 0, .int 0, .int (-1)]))] := hD
            refine lv_istore (lv' := [(5, .int (-1)), (4, .int 0), (3, .int 0), (0, .ref o), (1, .int x), (2, .int y)]) hx hb dX10_talk_44 hl (by decide) rfl (fun ls hl => ?_)
            refine lv_aload_n hx hb dX10_talk_46 rfl (lv_at hl 3 rfl) ?_
            refine va_get (D := D) (ci := 10) (v := .ref cu) (C := RX10) (T := TX10) (N := 12) hx hb hts (by decide +kernel) hown hK hP 0 rfl rfl 10 (by decide) (hts (.fieldLink RX10 81 "LastLetter" "current" "LLastLetter$Tongue;") (by decide +kernel)) (fun _ h9 => h9) rfl dX10_talk_47 ?_
            refine lv_iload hx hb dX10_talk_50 (lv_at hl 0 rfl) ?_
            refine xCi (wr := [(o, .inr (10, [.ref tp, .ref rd, .ref pr, .ref bx, .ref rw, .ref lt, .ref od, .ref se, .ref gm, .ref wl, .ref cu, .ref sp])), (pr, .inr (6, [.ref ps, .int (-1), .int 0, .int 0, .int 0, .int 1, .int 0]))]) (win := [(cu, .inr (8, [.ref cu_name, .ref cu_worth, .ref cu_times, .ref cu_first, .ref cu_second, .ref cu_beforeLast, .ref cu_last, .ref cu_errandOf, .ref cu_errandAfter, .ref cu_sound, .ref cu_followers, .ref cu_leaders, .int 0, .int 0, .int 0, .int (-1)]))]) hP hD hS hA [2] [0, 1] rfl rfl (by decide) (by decide) (va_runV (As := [.int (-1)]) (rest := []) ⟨hx, hb, hml, hown, hts⟩ (c_X8_has l D cB cI cJ cS cZ cO H.size cu (-1) cu_name cu_worth cu_times cu_first cu_second cu_beforeLast cu_last cu_errandOf cu_errandAfter cu_sound cu_followers cu_leaders 0 0 (-1) ) (cwV 1 hts gX10_talk_X8_has rfl rfl rfl (by decide +kernel) ⟨Nat.le_of_ble_eq_true rfl, Nat.le_of_ble_eq_true rfl⟩) (xPreV (win := [(cu, .inr (8, [.ref cu_name, .ref cu_worth, .ref cu_times, .ref cu_first, .ref cu_second, .ref cu_beforeLast, .ref cu_last, .ref cu_errandOf, .ref cu_errandAfter, .ref cu_sound, .ref cu_followers, .ref cu_leaders, .int 0, .int 0, .int 0, .int (-1)]))]) hN hK hP hD [2] (by decide) rfl 2 8 rfl rfl rfl) rfl rfl hl.1 rfl (lv_room (Nat.le_of_ble_eq_true rfl)) dX10_talk_52 ⟨Nat.le_of_ble_eq_true rfl, Nat.le_of_ble_eq_true rfl⟩) (fun r0 w0 H locs hw hP hD hS => ?_)
            obtain ⟨rfl, rfl⟩ := hw
            have hP : va_P D vwCl [(o, .inr (10, [.ref tp, .ref rd, .ref pr, .ref bx, .ref rw, .ref lt, .ref od, .ref se, .ref gm, .ref wl, .ref cu, .ref sp])), (pr, .inr (6, [.ref ps, .int (-1), .int 0, .int 0, .int 0, .int 1, .int 0])), (cu, .inr (8, [.ref cu_name, .ref cu_worth, .ref cu_times, .ref cu_first, .ref cu_second, .ref cu_beforeLast, .ref cu_last, .ref cu_errandOf, .ref cu_errandAfter, .ref cu_sound, .ref cu_followers, .ref cu_leaders, .int 0, .int 0, .int 0, .int (-1)]))] H := hP
            have hD : va_D A [(o, .inr (10, [.ref tp, .ref rd, .ref pr, .ref bx, .ref rw, .ref lt, .ref od, .ref se, .ref gm, .ref wl, .ref cu, .ref sp])), (pr, .inr (6, [.ref ps, .int (-1), .int 0, .int 0, .int 0, .int 1, .int 0])), (cu, .inr (8, [.ref cu_name, .ref cu_worth, .ref cu_times, .ref cu_first, .ref cu_second, .ref cu_beforeLast, .ref cu_last, .ref cu_errandOf, .ref cu_errandAfter, .ref cu_sound, .ref cu_followers, .ref cu_leaders, .int 0, .int 0, .int 0, .int (-1)]))] := hD
            refine lv_if_ne (tgt := 61) hx hb dX10_talk_55 (by decide) (fun c_6 => absurd c_6 (by decide)) (fun c_6 => ?_)
            refine lv_goto (tgt := 83) hx hb dX10_talk_58 (by decide) ?_
            refine lv_iload_n hx hb dX10_talk_83 rfl (lv_at hl 2 rfl) ?_
            have hP9 := hP.sub (ws' := []) [] rfl
            have hD9 := hD.sub (ws' := []) [] (by decide) rfl
            refine W.widen (k := 0) (n := 0) (Nat.le_of_ble_eq_true rfl) (Nat.le_of_ble_eq_true rfl) ?_
            exact W.iret (v := 0) hx hb hr (fun tz htz hWz => ⟨⟨0, [], rfl, ⟨rfl, (by grind)⟩, by rw [htz]; exact hP9, va_K.moved hWz.alike hK, hD9⟩, hS.F htz⟩) hS.2.2 dX10_talk_84
        · refine lv_iconst (v := (-1)) hx hb dX10_talk_19 (by decide) ?_
          have hP9 := hP.sub (ws' := []) [] rfl
          have hD9 := hD.sub (ws' := []) [] (by decide) rfl
          refine W.widen (k := 0) (n := 0) (Nat.le_of_ble_eq_true rfl) (Nat.le_of_ble_eq_true rfl) ?_
          exact W.iret (v := (-1)) hx hb hr (fun tz htz hWz => ⟨⟨(-1), [], rfl, ⟨rfl, (by grind)⟩, by rw [htz]; exact hP9, va_K.moved hWz.alike hK, hD9⟩, hS.F htz⟩) hS.2.2 dX10_talk_20

set_option maxHeartbeats 4000000 in
set_option maxRecDepth 100000 in
theorem p_X10_word (l : Launch) (D : va_G) (cB cI cJ cS cZ cO : ClassId) (sz : Nat) (o : Nat) (x : Int32) (y : Int32) (tp : Nat) (rd : Nat) (pr : Nat) (bx : Nat) (rw : Nat) (lt : Nat) (od : Nat) (se : Nat) (gm : Nat) (wl : Nat) (cu : Nat) (sp : Nat) (cu_name : Nat) (cu_worth : Nat) (cu_times : Nat) (cu_first : Nat) (cu_second : Nat) (cu_beforeLast : Nat) (cu_last : Nat) (cu_errandOf : Nat) (cu_errandAfter : Nat) (cu_sound : Nat) (cu_followers : Nat) (cu_leaders : Nat) : Met l yX10_word wsX10_word ({ frames := 1, cells := 0, slots := 0, locals := 21 }) (xPre D (tyL cB cI cJ cS cZ cO) [(o, .inr (10, [.ref tp, .ref rd, .ref pr, .ref bx, .ref rw, .ref lt, .ref od, .ref se, .ref gm, .ref wl, .ref cu, .ref sp])), (cu, .inr (8, [.ref cu_name, .ref cu_worth, .ref cu_times, .ref cu_first, .ref cu_second, .ref cu_beforeLast, .ref cu_last, .ref cu_errandOf, .ref cu_errandAfter, .ref cu_sound, .ref cu_followers, .ref cu_leaders, .int 0, .int 0, .int 0, .int (-1)]))] sz [.ref o, .int x, .int y]) (xQi D (tyL cB cI cJ cS cZ cO) (va_A [(o, .inr (10, [.ref tp, .ref rd, .ref pr, .ref bx, .ref rw, .ref lt, .ref od, .ref se, .ref gm, .ref wl, .ref cu, .ref sp])), (cu, .inr (8, [.ref cu_name, .ref cu_worth, .ref cu_times, .ref cu_first, .ref cu_second, .ref cu_beforeLast, .ref cu_last, .ref cu_errandOf, .ref cu_errandAfter, .ref cu_sound, .ref cu_followers, .ref cu_leaders, .int 0, .int 0, .int 0, .int (-1)]))] sz) (fun (r : Int32) (u : va_W) => u = [] ∧ r = (-1))) 0 0 (va_A [(o, .inr (10, [.ref tp, .ref rd, .ref pr, .ref bx, .ref rw, .ref lt, .ref od, .ref se, .ref gm, .ref wl, .ref cu, .ref sp])), (cu, .inr (8, [.ref cu_name, .ref cu_worth, .ref cu_times, .ref cu_first, .ref cu_second, .ref cu_beforeLast, .ref cu_last, .ref cu_errandOf, .ref cu_errandAfter, .ref cu_sound, .ref cu_followers, .ref cu_leaders, .int 0, .int 0, .int 0, .int (-1)]))] sz) := by
  refine Met.ofW (cc := cX10_word) (maxL := 3) (ret := (some .int)) (by decide) rfl ?_
  intro p e s m args below meth c s₁ B hml hv
  obtain ⟨rfl, hsz, hP, hK, hD0, hN⟩ := hv
  have hx := B.exec
  have hb := B.bytes
  have hr := B.returns
  have hts := atoms_spec (ws := wsX10_word) B.pre
  have hown : s.vm.findClass RX10 = some m.cls := findClass_of_methodNamed B.named
  have hlocks := B.notSynchronized
  subst hsz
  have hD := hD0.self (sz := s.heap.size)
  generalize hAe : va_A [(o, .inr (10, [.ref tp, .ref rd, .ref pr, .ref bx, .ref rw, .ref lt, .ref od, .ref se, .ref gm, .ref wl, .ref cu, .ref sp])), (cu, .inr (8, [.ref cu_name, .ref cu_worth, .ref cu_times, .ref cu_first, .ref cu_second, .ref cu_beforeLast, .ref cu_last, .ref cu_errandOf, .ref cu_errandAfter, .ref cu_sound, .ref cu_followers, .ref cu_leaders, .int 0, .int 0, .int 0, .int (-1)]))] s.heap.size = A at hD ⊢
  have hA : ∀ q : Nat, s.heap.size ≤ q → A q := fun q h => by rw [← hAe]; exact Or.inr h
  have hS : va_S A s.heap s.heap [] := va_S.rf
  have hP : va_P D vwCl [(o, .inr (10, [.ref tp, .ref rd, .ref pr, .ref bx, .ref rw, .ref lt, .ref od, .ref se, .ref gm, .ref wl, .ref cu, .ref sp])), (cu, .inr (8, [.ref cu_name, .ref cu_worth, .ref cu_times, .ref cu_first, .ref cu_second, .ref cu_beforeLast, .ref cu_last, .ref cu_errandOf, .ref cu_errandAfter, .ref cu_sound, .ref cu_followers, .ref cu_leaders, .int 0, .int 0, .int 0, .int (-1)]))] s.heap := hP
  have hl := lv_entry ([.ref o, .int x, .int y]) (n := 3) (Nat.le_of_ble_eq_true rfl)
  rw [lg_entry_eq]
  generalize (lg_sl ([.ref o, .int x, .int y]) ++ List.replicate (3 - (lg_sl ([.ref o, .int x, .int y])).length) Slot.unset).toArray = ls at hl ⊢
  have hl : lv_has ls 3 [(0, .ref o), (1, .int x), (2, .int y)] := hl
  refine lv_aload_n hx hb dX10_word_0 rfl (lv_at hl 0 rfl) ?_
  refine va_get (D := D) (ci := 10) (v := .ref cu) (C := RX10) (T := TX10) (N := 12) hx hb hts (by decide +kernel) hown hK hP 0 rfl rfl 10 (by decide) (hts (.fieldLink RX10 81 "LastLetter" "current" "LLastLetter$Tongue;") (by decide +kernel)) (fun _ h9 => h9) rfl dX10_word_1 ?_
  refine lv_iload_n hx hb dX10_word_4 rfl (lv_at hl 1 rfl) ?_
  refine xCi (wr := [(o, .inr (10, [.ref tp, .ref rd, .ref pr, .ref bx, .ref rw, .ref lt, .ref od, .ref se, .ref gm, .ref wl, .ref cu, .ref sp]))]) (win := [(cu, .inr (8, [.ref cu_name, .ref cu_worth, .ref cu_times, .ref cu_first, .ref cu_second, .ref cu_beforeLast, .ref cu_last, .ref cu_errandOf, .ref cu_errandAfter, .ref cu_sound, .ref cu_followers, .ref cu_leaders, .int 0, .int 0, .int 0, .int (-1)]))]) hP hD hS hA [1] [0] rfl rfl (by decide) (by decide) (va_runV (As := [.int x]) (rest := []) ⟨hx, hb, hml, hown, hts⟩ (c_X8_has l D cB cI cJ cS cZ cO s.heap.size cu x cu_name cu_worth cu_times cu_first cu_second cu_beforeLast cu_last cu_errandOf cu_errandAfter cu_sound cu_followers cu_leaders 0 0 (-1) ) (cwV 1 hts gX10_word_X8_has rfl rfl rfl (by decide +kernel) ⟨Nat.le_of_ble_eq_true rfl, Nat.le_of_ble_eq_true rfl⟩) (xPreV (win := [(cu, .inr (8, [.ref cu_name, .ref cu_worth, .ref cu_times, .ref cu_first, .ref cu_second, .ref cu_beforeLast, .ref cu_last, .ref cu_errandOf, .ref cu_errandAfter, .ref cu_sound, .ref cu_followers, .ref cu_leaders, .int 0, .int 0, .int 0, .int (-1)]))]) hN hK hP hD [1] (by decide) rfl 1 8 rfl rfl rfl) rfl rfl hl.1 rfl (lv_room (Nat.le_of_ble_eq_true rfl)) dX10_word_5 ⟨Nat.le_of_ble_eq_true rfl, Nat.le_of_ble_eq_true rfl⟩) (fun r0 w0 H locs hw hP hD hS => ?_)
  obtain ⟨rfl, rfl⟩ := hw
  have hP : va_P D vwCl [(o, .inr (10, [.ref tp, .ref rd, .ref pr, .ref bx, .ref rw, .ref lt, .ref od, .ref se, .ref gm, .ref wl, .ref cu, .ref sp])), (cu, .inr (8, [.ref cu_name, .ref cu_worth, .ref cu_times, .ref cu_first, .ref cu_second, .ref cu_beforeLast, .ref cu_last, .ref cu_errandOf, .ref cu_errandAfter, .ref cu_sound, .ref cu_followers, .ref cu_leaders, .int 0, .int 0, .int 0, .int (-1)]))] H := hP
  have hD : va_D A [(o, .inr (10, [.ref tp, .ref rd, .ref pr, .ref bx, .ref rw, .ref lt, .ref od, .ref se, .ref gm, .ref wl, .ref cu, .ref sp])), (cu, .inr (8, [.ref cu_name, .ref cu_worth, .ref cu_times, .ref cu_first, .ref cu_second, .ref cu_beforeLast, .ref cu_last, .ref cu_errandOf, .ref cu_errandAfter, .ref cu_sound, .ref cu_followers, .ref cu_leaders, .int 0, .int 0, .int 0, .int (-1)]))] := hD
  refine lv_if_ne (tgt := 13) hx hb dX10_word_8 (by decide) (fun c_1 => absurd c_1 (by decide)) (fun c_1 => ?_)
  refine lv_iconst (v := (-1)) hx hb dX10_word_11 (by decide) ?_
  have hP9 := hP.sub (ws' := []) [] rfl
  have hD9 := hD.sub (ws' := []) [] (by decide) rfl
  refine W.widen (k := 0) (n := 0) (Nat.le_of_ble_eq_true rfl) (Nat.le_of_ble_eq_true rfl) ?_
  exact W.iret (v := (-1)) hx hb hr (fun tz htz hWz => ⟨⟨(-1), [], rfl, ⟨rfl, rfl⟩, by rw [htz]; exact hP9, va_K.moved hWz.alike hK, hD9⟩, hS.F htz⟩) hS.2.2 dX10_word_12

set_option maxHeartbeats 4000000 in
set_option maxRecDepth 100000 in
theorem p_X10_all (l : Launch) (D : va_G) (cB cI cJ cS cZ cO : ClassId) (sz : Nat) (o : Nat) (x : Int32) (tp : Nat) (rd : Nat) (pr : Nat) (bx : Nat) (rw : Nat) (lt : Nat) (od : Nat) (se : Nat) (gm : Nat) (wl : Nat) (cu : Nat) (sp : Nat) (ri : Nat) (cu_name : Nat) (cu_worth : Nat) (cu_times : Nat) (cu_first : Nat) (cu_second : Nat) (cu_beforeLast : Nat) (cu_last : Nat) (cu_errandOf : Nat) (cu_errandAfter : Nat) (cu_sound : Nat) (cu_followers : Nat) (cu_leaders : Nat) (ob : Nat) (os : Nat) (ow : Nat) (oc : Nat) (fob : Nat → Int32) (fow : Nat → Int32) : Met l yX10_all wsX10_all ({ frames := 3, cells := 0, slots := 0, locals := 73 }) (xPre D (tyL cB cI cJ cS cZ cO) [(o, .inr (10, [.ref tp, .ref rd, .ref pr, .ref bx, .ref rw, .ref lt, .ref od, .ref se, .ref gm, .ref wl, .ref cu, .ref sp])), (rw, .inr (4, [.ref ri, .int 0])), (cu, .inr (8, [.ref cu_name, .ref cu_worth, .ref cu_times, .ref cu_first, .ref cu_second, .ref cu_beforeLast, .ref cu_last, .ref cu_errandOf, .ref cu_errandAfter, .ref cu_sound, .ref cu_followers, .ref cu_leaders, .int 0, .int 0, .int 0, .int (-1)])), (od, .inr (2, [.ref ob, .ref os, .ref ow, .ref oc, .int 0, .int 0])), (ob, .inl (cB, 1, .inl fob)), (ow, .inl (cI, 1, .inl fow))] sz [.ref o, .int x]) (xQi D (tyL cB cI cJ cS cZ cO) (va_A [(o, .inr (10, [.ref tp, .ref rd, .ref pr, .ref bx, .ref rw, .ref lt, .ref od, .ref se, .ref gm, .ref wl, .ref cu, .ref sp])), (rw, .inr (4, [.ref ri, .int 0])), (cu, .inr (8, [.ref cu_name, .ref cu_worth, .ref cu_times, .ref cu_first, .ref cu_second, .ref cu_beforeLast, .ref cu_last, .ref cu_errandOf, .ref cu_errandAfter, .ref cu_sound, .ref cu_followers, .ref cu_leaders, .int 0, .int 0, .int 0, .int (-1)])), (od, .inr (2, [.ref ob, .ref os, .ref ow, .ref oc, .int 0, .int 0])), (ob, .inl (cB, 1, .inl fob)), (ow, .inl (cI, 1, .inl fow))] sz) (fun (r : Int32) (u : va_W) => u = [] ∧ r = 1)) 0 0 (va_A [(o, .inr (10, [.ref tp, .ref rd, .ref pr, .ref bx, .ref rw, .ref lt, .ref od, .ref se, .ref gm, .ref wl, .ref cu, .ref sp])), (rw, .inr (4, [.ref ri, .int 0])), (cu, .inr (8, [.ref cu_name, .ref cu_worth, .ref cu_times, .ref cu_first, .ref cu_second, .ref cu_beforeLast, .ref cu_last, .ref cu_errandOf, .ref cu_errandAfter, .ref cu_sound, .ref cu_followers, .ref cu_leaders, .int 0, .int 0, .int 0, .int (-1)])), (od, .inr (2, [.ref ob, .ref os, .ref ow, .ref oc, .int 0, .int 0])), (ob, .inl (cB, 1, .inl fob)), (ow, .inl (cI, 1, .inl fow))] sz) := by
  refine Met.ofW (cc := cX10_all) (maxL := 3) (ret := (some .int)) (by decide) rfl ?_
  intro p e s m args below meth c s₁ B hml hv
  obtain ⟨rfl, hsz, hP, hK, hD0, hN⟩ := hv
  have hx := B.exec
  have hb := B.bytes
  have hr := B.returns
  have hts := atoms_spec (ws := wsX10_all) B.pre
  have hown : s.vm.findClass RX10 = some m.cls := findClass_of_methodNamed B.named
  have hlocks := B.notSynchronized
  subst hsz
  have hD := hD0.self (sz := s.heap.size)
  generalize hAe : va_A [(o, .inr (10, [.ref tp, .ref rd, .ref pr, .ref bx, .ref rw, .ref lt, .ref od, .ref se, .ref gm, .ref wl, .ref cu, .ref sp])), (rw, .inr (4, [.ref ri, .int 0])), (cu, .inr (8, [.ref cu_name, .ref cu_worth, .ref cu_times, .ref cu_first, .ref cu_second, .ref cu_beforeLast, .ref cu_last, .ref cu_errandOf, .ref cu_errandAfter, .ref cu_sound, .ref cu_followers, .ref cu_leaders, .int 0, .int 0, .int 0, .int (-1)])), (od, .inr (2, [.ref ob, .ref os, .ref ow, .ref oc, .int 0, .int 0])), (ob, .inl (cB, 1, .inl fob)), (ow, .inl (cI, 1, .inl fow))] s.heap.size = A at hD ⊢
  have hA : ∀ q : Nat, s.heap.size ≤ q → A q := fun q h => by rw [← hAe]; exact Or.inr h
  have hS : va_S A s.heap s.heap [] := va_S.rf
  have hP : va_P D vwCl [(o, .inr (10, [.ref tp, .ref rd, .ref pr, .ref bx, .ref rw, .ref lt, .ref od, .ref se, .ref gm, .ref wl, .ref cu, .ref sp])), (rw, .inr (4, [.ref ri, .int 0])), (cu, .inr (8, [.ref cu_name, .ref cu_worth, .ref cu_times, .ref cu_first, .ref cu_second, .ref cu_beforeLast, .ref cu_last, .ref cu_errandOf, .ref cu_errandAfter, .ref cu_sound, .ref cu_followers, .ref cu_leaders, .int 0, .int 0, .int 0, .int (-1)])), (od, .inr (2, [.ref ob, .ref os, .ref ow, .ref oc, .int 0, .int 0])), (ob, .inl (cB, 1, .inl fob)), (ow, .inl (cI, 1, .inl fow))] s.heap := hP
  have hl := lv_entry ([.ref o, .int x]) (n := 3) (Nat.le_of_ble_eq_true rfl)
  rw [lg_entry_eq]
  generalize (lg_sl ([.ref o, .int x]) ++ List.replicate (3 - (lg_sl ([.ref o, .int x])).length) Slot.unset).toArray = ls at hl ⊢
  have hl : lv_has ls 3 [(0, .ref o), (1, .int x)] := hl
  refine lv_aload_n hx hb dX10_all_0 rfl (lv_at hl 0 rfl) ?_
  refine va_get (D := D) (ci := 10) (v := .ref rw) (C := RX10) (T := TX10) (N := 12) hx hb hts (by decide +kernel) hown hK hP 0 rfl rfl 4 (by decide) (hts (.fieldLink RX10 39 "LastLetter" "row" "LLastLetter$Row;") (by decide +kernel)) (fun _ h9 => h9) rfl dX10_all_1 ?_
  refine lv_iconst (v := 0) hx hb dX10_all_4 (by decide) ?_
  refine va_putN (D := D) (ci := 4) (v := .int 0) (ty := .int) (C := RX4) (T := TX4) (N := 2) hx hb hts (by decide +kernel) tyX4 tyX4_ok nmX4 hown hK hP hD hS 1 rfl rfl 1 (by decide) (va_Nw.use rfl (hN.1 (RX10, 110, RX4, "size", "I", RX10) (by decide +kernel))) (fun _ h9 => h9) rfl (by decide +kernel) rfl rfl (Nat.le_of_ble_eq_true rfl) dX10_all_5 (fun H locs hP hD hS => ?_)
  have hP : va_P D vwCl [(o, .inr (10, [.ref tp, .ref rd, .ref pr, .ref bx, .ref rw, .ref lt, .ref od, .ref se, .ref gm, .ref wl, .ref cu, .ref sp])), (rw, .inr (4, [.ref ri, .int 0])), (cu, .inr (8, [.ref cu_name, .ref cu_worth, .ref cu_times, .ref cu_first, .ref cu_second, .ref cu_beforeLast, .ref cu_last, .ref cu_errandOf, .ref cu_errandAfter, .ref cu_sound, .ref cu_followers, .ref cu_leaders, .int 0, .int 0, .int 0, .int (-1)])), (od, .inr (2, [.ref ob, .ref os, .ref ow, .ref oc, .int 0, .int 0])), (ob, .inl (cB, 1, .inl fob)), (ow, .inl (cI, 1, .inl fow))] H := hP
  have hD : va_D A [(o, .inr (10, [.ref tp, .ref rd, .ref pr, .ref bx, .ref rw, .ref lt, .ref od, .ref se, .ref gm, .ref wl, .ref cu, .ref sp])), (rw, .inr (4, [.ref ri, .int 0])), (cu, .inr (8, [.ref cu_name, .ref cu_worth, .ref cu_times, .ref cu_first, .ref cu_second, .ref cu_beforeLast, .ref cu_last, .ref cu_errandOf, .ref cu_errandAfter, .ref cu_sound, .ref cu_followers, .ref cu_leaders, .int 0, .int 0, .int 0, .int (-1)])), (od, .inr (2, [.ref ob, .ref os, .ref ow, .ref oc, .int 0, .int 0])), (ob, .inl (cB, 1, .inl fob)), (ow, .inl (cI, 1, .inl fow))] := hD
  refine lv_aload_n hx hb dX10_all_8 rfl (lv_at hl 0 rfl) ?_
  refine va_get (D := D) (ci := 10) (v := .ref cu) (C := RX10) (T := TX10) (N := 12) hx hb hts (by decide +kernel) hown hK hP 0 rfl rfl 10 (by decide) (hts (.fieldLink RX10 81 "LastLetter" "current" "LLastLetter$Tongue;") (by decide +kernel)) (fun _ h9 => h9) rfl dX10_all_9 ?_
  refine xCi (wr := [(o, .inr (10, [.ref tp, .ref rd, .ref pr, .ref bx, .ref rw, .ref lt, .ref od, .ref se, .ref gm, .ref wl, .ref cu, .ref sp])), (rw, .inr (4, [.ref ri, .int 0])), (od, .inr (2, [.ref ob, .ref os, .ref ow, .ref oc, .int 0, .int 0])), (ob, .inl (cB, 1, .inl fob)), (ow, .inl (cI, 1, .inl fow))]) (win := [(cu, .inr (8, [.ref cu_name, .ref cu_worth, .ref cu_times, .ref cu_first, .ref cu_second, .ref cu_beforeLast, .ref cu_last, .ref cu_errandOf, .ref cu_errandAfter, .ref cu_sound, .ref cu_followers, .ref cu_leaders, .int 0, .int 0, .int 0, .int (-1)]))]) hP hD hS hA [2] [0, 1, 3, 4, 5] rfl rfl (by decide) (by decide) (va_runV (As := []) (rest := []) ⟨hx, hb, hml, hown, hts⟩ (c_X8_isTooBig l D cB cI cJ cS cZ cO H.size cu cu_name cu_worth cu_times cu_first cu_second cu_beforeLast cu_last cu_errandOf cu_errandAfter cu_sound cu_followers cu_leaders 0 0 (-1) ) (cwV 0 hts gX10_all_X8_isTooBig rfl rfl rfl (by decide +kernel) ⟨Nat.le_of_ble_eq_true rfl, Nat.le_of_ble_eq_true rfl⟩) (xPreV (win := [(cu, .inr (8, [.ref cu_name, .ref cu_worth, .ref cu_times, .ref cu_first, .ref cu_second, .ref cu_beforeLast, .ref cu_last, .ref cu_errandOf, .ref cu_errandAfter, .ref cu_sound, .ref cu_followers, .ref cu_leaders, .int 0, .int 0, .int 0, .int (-1)]))]) hN hK hP hD [2] (by decide) rfl 2 8 rfl rfl rfl) rfl rfl hl.1 rfl (lv_room (Nat.le_of_ble_eq_true rfl)) dX10_all_12 ⟨Nat.le_of_ble_eq_true rfl, Nat.le_of_ble_eq_true rfl⟩) (fun r0 w0 H locs hw hP hD hS => ?_)
  obtain ⟨rfl, rfl⟩ := hw
  have hP : va_P D vwCl [(o, .inr (10, [.ref tp, .ref rd, .ref pr, .ref bx, .ref rw, .ref lt, .ref od, .ref se, .ref gm, .ref wl, .ref cu, .ref sp])), (rw, .inr (4, [.ref ri, .int 0])), (od, .inr (2, [.ref ob, .ref os, .ref ow, .ref oc, .int 0, .int 0])), (ob, .inl (cB, 1, .inl fob)), (ow, .inl (cI, 1, .inl fow)), (cu, .inr (8, [.ref cu_name, .ref cu_worth, .ref cu_times, .ref cu_first, .ref cu_second, .ref cu_beforeLast, .ref cu_last, .ref cu_errandOf, .ref cu_errandAfter, .ref cu_sound, .ref cu_followers, .ref cu_leaders, .int 0, .int 0, .int 0, .int (-1)]))] H := hP
  have hD : va_D A [(o, .inr (10, [.ref tp, .ref rd, .ref pr, .ref bx, .ref rw, .ref lt, .ref od, .ref se, .ref gm, .ref wl, .ref cu, .ref sp])), (rw, .inr (4, [.ref ri, .int 0])), (od, .inr (2, [.ref ob, .ref os, .ref ow, .ref oc, .int 0, .int 0])), (ob, .inl (cB, 1, .inl fob)), (ow, .inl (cI, 1, .inl fow)), (cu, .inr (8, [.ref cu_name, .ref cu_worth, .ref cu_times, .ref cu_first, .ref cu_second, .ref cu_beforeLast, .ref cu_last, .ref cu_errandOf, .ref cu_errandAfter, .ref cu_sound, .ref cu_followers, .ref cu_leaders, .int 0, .int 0, .int 0, .int (-1)]))] := hD
  refine lv_if_eq (tgt := 21) hx hb dX10_all_15 (by decide) (fun c_1 => ?_) (fun c_1 => absurd (by decide) c_1)
  refine lv_iload_n hx hb dX10_all_21 rfl (lv_at hl 1 rfl) ?_
  refine lv_if_eq (tgt := 43) hx hb dX10_all_22 (by decide) (fun c_2 => ?_) (fun c_2 => ?_)
  · refine lv_aload_n hx hb dX10_all_43 rfl (lv_at hl 0 rfl) ?_
    refine va_get (D := D) (ci := 10) (v := .ref od) (C := RX10) (T := TX10) (N := 12) hx hb hts (by decide +kernel) hown hK hP 0 rfl rfl 6 (by decide) (hts (.fieldLink RX10 53 "LastLetter" "orders" "LLastLetter$Orders;") (by decide +kernel)) (fun _ h9 => h9) rfl dX10_all_44 ?_
    refine lv_aload_n hx hb dX10_all_47 rfl (lv_at hl 0 rfl) ?_
    refine va_get (D := D) (ci := 10) (v := .ref cu) (C := RX10) (T := TX10) (N := 12) hx hb hts (by decide +kernel) hown hK hP 0 rfl rfl 10 (by decide) (hts (.fieldLink RX10 81 "LastLetter" "current" "LLastLetter$Tongue;") (by decide +kernel)) (fun _ h9 => h9) rfl dX10_all_48 ?_
    refine lv_aload_n hx hb dX10_all_51 rfl (lv_at hl 0 rfl) ?_
    refine va_get (D := D) (ci := 10) (v := .ref rw) (C := RX10) (T := TX10) (N := 12) hx hb hts (by decide +kernel) hown hK hP 0 rfl rfl 4 (by decide) (hts (.fieldLink RX10 39 "LastLetter" "row" "LLastLetter$Row;") (by decide +kernel)) (fun _ h9 => h9) rfl dX10_all_52 ?_
    refine xCi (wr := [(o, .inr (10, [.ref tp, .ref rd, .ref pr, .ref bx, .ref rw, .ref lt, .ref od, .ref se, .ref gm, .ref wl, .ref cu, .ref sp])), (rw, .inr (4, [.ref ri, .int 0]))]) (win := [(od, .inr (2, [.ref ob, .ref os, .ref ow, .ref oc, .int 0, .int 0])), (cu, .inr (8, [.ref cu_name, .ref cu_worth, .ref cu_times, .ref cu_first, .ref cu_second, .ref cu_beforeLast, .ref cu_last, .ref cu_errandOf, .ref cu_errandAfter, .ref cu_sound, .ref cu_followers, .ref cu_leaders, .int 0, .int 0, .int 0, .int (-1)])), (ob, .inl (cB, 1, .inl fob)), (ow, .inl (cI, 1, .inl fow))]) hP hD hS hA [2, 5, 3, 4] [0, 1] rfl rfl (by decide) (by decide) (va_runV (As := [.ref cu, .ref rw]) (rest := []) ⟨hx, hb, hml, hown, hts⟩ (c_X2_layWhole l D cB cI cJ cS cZ cO H.size od cu rw ob os ow oc 0 cu_name cu_worth cu_times cu_first cu_second cu_beforeLast cu_last cu_errandOf cu_errandAfter cu_sound cu_followers cu_leaders 0 0 (-1) fob fow ) (cwV 2 hts gX10_all_X2_layWhole rfl rfl rfl (by decide +kernel) ⟨Nat.le_of_ble_eq_true rfl, Nat.le_of_ble_eq_true rfl⟩) (xPreV (win := [(od, .inr (2, [.ref ob, .ref os, .ref ow, .ref oc, .int 0, .int 0])), (cu, .inr (8, [.ref cu_name, .ref cu_worth, .ref cu_times, .ref cu_first, .ref cu_second, .ref cu_beforeLast, .ref cu_last, .ref cu_errandOf, .ref cu_errandAfter, .ref cu_sound, .ref cu_followers, .ref cu_leaders, .int 0, .int 0, .int 0, .int (-1)])), (ob, .inl (cB, 1, .inl fob)), (ow, .inl (cI, 1, .inl fow))]) hN hK hP hD [2, 5, 3, 4] (by decide) rfl 2 2 rfl rfl rfl) rfl rfl hl.1 rfl (lv_room (Nat.le_of_ble_eq_true rfl)) dX10_all_55 ⟨Nat.le_of_ble_eq_true rfl, Nat.le_of_ble_eq_true rfl⟩) (fun r0 w0 H locs hw hP hD hS => ?_)
    obtain ⟨g1_3, g2_4, rfl, rfl⟩ := hw
    have hP : va_P D vwCl [(o, .inr (10, [.ref tp, .ref rd, .ref pr, .ref bx, .ref rw, .ref lt, .ref od, .ref se, .ref gm, .ref wl, .ref cu, .ref sp])), (rw, .inr (4, [.ref ri, .int 0])), (od, .inr (2, [.ref ob, .ref os, .ref ow, .ref oc, .int 1, .int 0])), (cu, .inr (8, [.ref cu_name, .ref cu_worth, .ref cu_times, .ref cu_first, .ref cu_second, .ref cu_beforeLast, .ref cu_last, .ref cu_errandOf, .ref cu_errandAfter, .ref cu_sound, .ref cu_followers, .ref cu_leaders, .int 0, .int 0, .int 0, .int (-1)])), (ob, .inl (cB, 1, .inl g1_3)), (ow, .inl (cI, 1, .inl g2_4))] H := hP
    have hD : va_D A [(o, .inr (10, [.ref tp, .ref rd, .ref pr, .ref bx, .ref rw, .ref lt, .ref od, .ref se, .ref gm, .ref wl, .ref cu, .ref sp])), (rw, .inr (4, [.ref ri, .int 0])), (od, .inr (2, [.ref ob, .ref os, .ref ow, .ref oc, .int 1, .int 0])), (cu, .inr (8, [.ref cu_name, .ref cu_worth, .ref cu_times, .ref cu_first, .ref cu_second, .ref cu_beforeLast, .ref cu_last, .ref cu_errandOf, .ref cu_errandAfter, .ref cu_sound, .ref cu_followers, .ref cu_leaders, .int 0, .int 0, .int 0, .int (-1)])), (ob, .inl (cB, 1, .inl g1_3)), (ow, .inl (cI, 1, .inl g2_4))] := hD
    refine lv_istore_n (lv' := [(2, .int 1), (0, .ref o), (1, .int x)]) hx hb dX10_all_58 rfl hl (by decide) rfl (fun ls hl => ?_)
    refine lv_iload_n hx hb dX10_all_59 rfl (lv_at hl 0 rfl) ?_
    refine lv_if_eq (tgt := 67) hx hb dX10_all_60 (by decide) (fun c_5 => absurd c_5 (by decide)) (fun c_5 => ?_)
    refine lv_iconst (v := 1) hx hb dX10_all_63 (by decide) ?_
    refine lv_goto (tgt := 68) hx hb dX10_all_64 (by decide) ?_
    have hP9 := hP.sub (ws' := []) [] rfl
    have hD9 := hD.sub (ws' := []) [] (by decide) rfl
    refine W.widen (k := 0) (n := 0) (Nat.le_of_ble_eq_true rfl) (Nat.le_of_ble_eq_true rfl) ?_
    exact W.iret (v := 1) hx hb hr (fun tz htz hWz => ⟨⟨1, [], rfl, ⟨rfl, rfl⟩, by rw [htz]; exact hP9, va_K.moved hWz.alike hK, hD9⟩, hS.F htz⟩) hS.2.2 dX10_all_68
  · refine lv_aload_n hx hb dX10_all_25 rfl (lv_at hl 0 rfl) ?_
    refine va_get (D := D) (ci := 10) (v := .ref od) (C := RX10) (T := TX10) (N := 12) hx hb hts (by decide +kernel) hown hK hP 0 rfl rfl 6 (by decide) (hts (.fieldLink RX10 53 "LastLetter" "orders" "LLastLetter$Orders;") (by decide +kernel)) (fun _ h9 => h9) rfl dX10_all_26 ?_
    refine lv_aload_n hx hb dX10_all_29 rfl (lv_at hl 0 rfl) ?_
    refine va_get (D := D) (ci := 10) (v := .ref cu) (C := RX10) (T := TX10) (N := 12) hx hb hts (by decide +kernel) hown hK hP 0 rfl rfl 10 (by decide) (hts (.fieldLink RX10 81 "LastLetter" "current" "LLastLetter$Tongue;") (by decide +kernel)) (fun _ h9 => h9) rfl dX10_all_30 ?_
    refine lv_aload_n hx hb dX10_all_33 rfl (lv_at hl 0 rfl) ?_
    refine va_get (D := D) (ci := 10) (v := .ref rw) (C := RX10) (T := TX10) (N := 12) hx hb hts (by decide +kernel) hown hK hP 0 rfl rfl 4 (by decide) (hts (.fieldLink RX10 39 "LastLetter" "row" "LLastLetter$Row;") (by decide +kernel)) (fun _ h9 => h9) rfl dX10_all_34 ?_
    refine xCi (wr := [(o, .inr (10, [.ref tp, .ref rd, .ref pr, .ref bx, .ref rw, .ref lt, .ref od, .ref se, .ref gm, .ref wl, .ref cu, .ref sp])), (rw, .inr (4, [.ref ri, .int 0])), (od, .inr (2, [.ref ob, .ref os, .ref ow, .ref oc, .int 0, .int 0])), (ob, .inl (cB, 1, .inl fob)), (ow, .inl (cI, 1, .inl fow))]) (win := [(cu, .inr (8, [.ref cu_name, .ref cu_worth, .ref cu_times, .ref cu_first, .ref cu_second, .ref cu_beforeLast, .ref cu_last, .ref cu_errandOf, .ref cu_errandAfter, .ref cu_sound, .ref cu_followers, .ref cu_leaders, .int 0, .int 0, .int 0, .int (-1)]))]) hP hD hS hA [5] [0, 1, 2, 3, 4] rfl rfl (by decide) (by decide) (va_runV (As := [.ref cu, .ref rw]) (rest := []) ⟨hx, hb, hml, hown, hts⟩ (c_X2_layRound l D cB cI cJ cS cZ cO H.size od cu rw cu_name cu_worth cu_times cu_first cu_second cu_beforeLast cu_last cu_errandOf cu_errandAfter cu_sound cu_followers cu_leaders 0 0 (-1) ) (cwV 2 hts gX10_all_X2_layRound rfl rfl rfl (by decide +kernel) ⟨Nat.le_of_ble_eq_true rfl, Nat.le_of_ble_eq_true rfl⟩) (xPreV (win := [(cu, .inr (8, [.ref cu_name, .ref cu_worth, .ref cu_times, .ref cu_first, .ref cu_second, .ref cu_beforeLast, .ref cu_last, .ref cu_errandOf, .ref cu_errandAfter, .ref cu_sound, .ref cu_followers, .ref cu_leaders, .int 0, .int 0, .int 0, .int (-1)]))]) hN hK hP hD [5] (by decide) rfl 2 2 rfl rfl rfl) rfl rfl hl.1 rfl (lv_room (Nat.le_of_ble_eq_true rfl)) dX10_all_37 ⟨Nat.le_of_ble_eq_true rfl, Nat.le_of_ble_eq_true rfl⟩) (fun r0 w0 H locs hw hP hD hS => ?_)
    obtain ⟨rfl, rfl⟩ := hw
    have hP : va_P D vwCl [(o, .inr (10, [.ref tp, .ref rd, .ref pr, .ref bx, .ref rw, .ref lt, .ref od, .ref se, .ref gm, .ref wl, .ref cu, .ref sp])), (rw, .inr (4, [.ref ri, .int 0])), (od, .inr (2, [.ref ob, .ref os, .ref ow, .ref oc, .int 0, .int 0])), (ob, .inl (cB, 1, .inl fob)), (ow, .inl (cI, 1, .inl fow)), (cu, .inr (8, [.ref cu_name, .ref cu_worth, .ref cu_times, .ref cu_first, .ref cu_second, .ref cu_beforeLast, .ref cu_last, .ref cu_errandOf, .ref cu_errandAfter, .ref cu_sound, .ref cu_followers, .ref cu_leaders, .int 0, .int 0, .int 0, .int (-1)]))] H := hP
    have hD : va_D A [(o, .inr (10, [.ref tp, .ref rd, .ref pr, .ref bx, .ref rw, .ref lt, .ref od, .ref se, .ref gm, .ref wl, .ref cu, .ref sp])), (rw, .inr (4, [.ref ri, .int 0])), (od, .inr (2, [.ref ob, .ref os, .ref ow, .ref oc, .int 0, .int 0])), (ob, .inl (cB, 1, .inl fob)), (ow, .inl (cI, 1, .inl fow)), (cu, .inr (8, [.ref cu_name, .ref cu_worth, .ref cu_times, .ref cu_first, .ref cu_second, .ref cu_beforeLast, .ref cu_last, .ref cu_errandOf, .ref cu_errandAfter, .ref cu_sound, .ref cu_followers, .ref cu_leaders, .int 0, .int 0, .int 0, .int (-1)]))] := hD
    refine lv_goto (tgt := 58) hx hb dX10_all_40 (by decide) ?_
    refine lv_istore_n (lv' := [(2, .int 1), (0, .ref o), (1, .int x)]) hx hb dX10_all_58 rfl hl (by decide) rfl (fun ls hl => ?_)
    refine lv_iload_n hx hb dX10_all_59 rfl (lv_at hl 0 rfl) ?_
    refine lv_if_eq (tgt := 67) hx hb dX10_all_60 (by decide) (fun c_6 => absurd c_6 (by decide)) (fun c_6 => ?_)
    refine lv_iconst (v := 1) hx hb dX10_all_63 (by decide) ?_
    refine lv_goto (tgt := 68) hx hb dX10_all_64 (by decide) ?_
    have hP9 := hP.sub (ws' := []) [] rfl
    have hD9 := hD.sub (ws' := []) [] (by decide) rfl
    refine W.widen (k := 0) (n := 0) (Nat.le_of_ble_eq_true rfl) (Nat.le_of_ble_eq_true rfl) ?_
    exact W.iret (v := 1) hx hb hr (fun tz htz hWz => ⟨⟨1, [], rfl, ⟨rfl, rfl⟩, by rw [htz]; exact hP9, va_K.moved hWz.alike hK, hD9⟩, hS.F htz⟩) hS.2.2 dX10_all_68

set_option maxHeartbeats 4000000 in
set_option maxRecDepth 100000 in
theorem p_X10_longest (l : Launch) (D : va_G) (cB cI cJ cS cZ cO : ClassId) (sz : Nat) (o : Nat) (tp : Nat) (rd : Nat) (pr : Nat) (bx : Nat) (rw : Nat) (lt : Nat) (od : Nat) (se : Nat) (gm : Nat) (wl : Nat) (cu : Nat) (sp : Nat) (ri : Nat) (cu_name : Nat) (cu_worth : Nat) (cu_times : Nat) (cu_first : Nat) (cu_second : Nat) (cu_beforeLast : Nat) (cu_last : Nat) (cu_errandOf : Nat) (cu_errandAfter : Nat) (cu_sound : Nat) (cu_followers : Nat) (cu_leaders : Nat) (ob : Nat) (os : Nat) (ow : Nat) (oc : Nat) (fob : Nat → Int32) (fow : Nat → Int32) : Met l yX10_longest wsX10_longest ({ frames := 2, cells := 0, slots := 0, locals := 53 }) (xPre D (tyL cB cI cJ cS cZ cO) [(o, .inr (10, [.ref tp, .ref rd, .ref pr, .ref bx, .ref rw, .ref lt, .ref od, .ref se, .ref gm, .ref wl, .ref cu, .ref sp])), (rw, .inr (4, [.ref ri, .int 0])), (cu, .inr (8, [.ref cu_name, .ref cu_worth, .ref cu_times, .ref cu_first, .ref cu_second, .ref cu_beforeLast, .ref cu_last, .ref cu_errandOf, .ref cu_errandAfter, .ref cu_sound, .ref cu_followers, .ref cu_leaders, .int 0, .int 0, .int 0, .int (-1)])), (od, .inr (2, [.ref ob, .ref os, .ref ow, .ref oc, .int 0, .int 0])), (ob, .inl (cB, 1, .inl fob)), (ow, .inl (cI, 1, .inl fow))] sz [.ref o]) (xQi D (tyL cB cI cJ cS cZ cO) (va_A [(o, .inr (10, [.ref tp, .ref rd, .ref pr, .ref bx, .ref rw, .ref lt, .ref od, .ref se, .ref gm, .ref wl, .ref cu, .ref sp])), (rw, .inr (4, [.ref ri, .int 0])), (cu, .inr (8, [.ref cu_name, .ref cu_worth, .ref cu_times, .ref cu_first, .ref cu_second, .ref cu_beforeLast, .ref cu_last, .ref cu_errandOf, .ref cu_errandAfter, .ref cu_sound, .ref cu_followers, .ref cu_leaders, .int 0, .int 0, .int 0, .int (-1)])), (od, .inr (2, [.ref ob, .ref os, .ref ow, .ref oc, .int 0, .int 0])), (ob, .inl (cB, 1, .inl fob)), (ow, .inl (cI, 1, .inl fow))] sz) (fun (r : Int32) (u : va_W) => u = [] ∧ r = 0)) 0 0 (va_A [(o, .inr (10, [.ref tp, .ref rd, .ref pr, .ref bx, .ref rw, .ref lt, .ref od, .ref se, .ref gm, .ref wl, .ref cu, .ref sp])), (rw, .inr (4, [.ref ri, .int 0])), (cu, .inr (8, [.ref cu_name, .ref cu_worth, .ref cu_times, .ref cu_first, .ref cu_second, .ref cu_beforeLast, .ref cu_last, .ref cu_errandOf, .ref cu_errandAfter, .ref cu_sound, .ref cu_followers, .ref cu_leaders, .int 0, .int 0, .int 0, .int (-1)])), (od, .inr (2, [.ref ob, .ref os, .ref ow, .ref oc, .int 0, .int 0])), (ob, .inl (cB, 1, .inl fob)), (ow, .inl (cI, 1, .inl fow))] sz) := by
  refine Met.ofW (cc := cX10_longest) (maxL := 1) (ret := (some .int)) (by decide) rfl ?_
  intro p e s m args below meth c s₁ B hml hv
  obtain ⟨rfl, hsz, hP, hK, hD0, hN⟩ := hv
  have hx := B.exec
  have hb := B.bytes
  have hr := B.returns
  have hts := atoms_spec (ws := wsX10_longest) B.pre
  have hown : s.vm.findClass RX10 = some m.cls := findClass_of_methodNamed B.named
  have hlocks := B.notSynchronized
  subst hsz
  have hD := hD0.self (sz := s.heap.size)
  generalize hAe : va_A [(o, .inr (10, [.ref tp, .ref rd, .ref pr, .ref bx, .ref rw, .ref lt, .ref od, .ref se, .ref gm, .ref wl, .ref cu, .ref sp])), (rw, .inr (4, [.ref ri, .int 0])), (cu, .inr (8, [.ref cu_name, .ref cu_worth, .ref cu_times, .ref cu_first, .ref cu_second, .ref cu_beforeLast, .ref cu_last, .ref cu_errandOf, .ref cu_errandAfter, .ref cu_sound, .ref cu_followers, .ref cu_leaders, .int 0, .int 0, .int 0, .int (-1)])), (od, .inr (2, [.ref ob, .ref os, .ref ow, .ref oc, .int 0, .int 0])), (ob, .inl (cB, 1, .inl fob)), (ow, .inl (cI, 1, .inl fow))] s.heap.size = A at hD ⊢
  have hA : ∀ q : Nat, s.heap.size ≤ q → A q := fun q h => by rw [← hAe]; exact Or.inr h
  have hS : va_S A s.heap s.heap [] := va_S.rf
  have hP : va_P D vwCl [(o, .inr (10, [.ref tp, .ref rd, .ref pr, .ref bx, .ref rw, .ref lt, .ref od, .ref se, .ref gm, .ref wl, .ref cu, .ref sp])), (rw, .inr (4, [.ref ri, .int 0])), (cu, .inr (8, [.ref cu_name, .ref cu_worth, .ref cu_times, .ref cu_first, .ref cu_second, .ref cu_beforeLast, .ref cu_last, .ref cu_errandOf, .ref cu_errandAfter, .ref cu_sound, .ref cu_followers, .ref cu_leaders, .int 0, .int 0, .int 0, .int (-1)])), (od, .inr (2, [.ref ob, .ref os, .ref ow, .ref oc, .int 0, .int 0])), (ob, .inl (cB, 1, .inl fob)), (ow, .inl (cI, 1, .inl fow))] s.heap := hP
  have hl := lv_entry ([.ref o]) (n := 1) (Nat.le_of_ble_eq_true rfl)
  rw [lg_entry_eq]
  generalize (lg_sl ([.ref o]) ++ List.replicate (1 - (lg_sl ([.ref o])).length) Slot.unset).toArray = ls at hl ⊢
  have hl : lv_has ls 1 [(0, .ref o)] := hl
  refine lv_aload_n hx hb dX10_longest_0 rfl (lv_at hl 0 rfl) ?_
  refine va_get (D := D) (ci := 10) (v := .ref rw) (C := RX10) (T := TX10) (N := 12) hx hb hts (by decide +kernel) hown hK hP 0 rfl rfl 4 (by decide) (hts (.fieldLink RX10 39 "LastLetter" "row" "LLastLetter$Row;") (by decide +kernel)) (fun _ h9 => h9) rfl dX10_longest_1 ?_
  refine lv_iconst (v := 0) hx hb dX10_longest_4 (by decide) ?_
  refine va_putN (D := D) (ci := 4) (v := .int 0) (ty := .int) (C := RX4) (T := TX4) (N := 2) hx hb hts (by decide +kernel) tyX4 tyX4_ok nmX4 hown hK hP hD hS 1 rfl rfl 1 (by decide) (va_Nw.use rfl (hN.1 (RX10, 110, RX4, "size", "I", RX10) (by decide +kernel))) (fun _ h9 => h9) rfl (by decide +kernel) rfl rfl (Nat.le_of_ble_eq_true rfl) dX10_longest_5 (fun H locs hP hD hS => ?_)
  have hP : va_P D vwCl [(o, .inr (10, [.ref tp, .ref rd, .ref pr, .ref bx, .ref rw, .ref lt, .ref od, .ref se, .ref gm, .ref wl, .ref cu, .ref sp])), (rw, .inr (4, [.ref ri, .int 0])), (cu, .inr (8, [.ref cu_name, .ref cu_worth, .ref cu_times, .ref cu_first, .ref cu_second, .ref cu_beforeLast, .ref cu_last, .ref cu_errandOf, .ref cu_errandAfter, .ref cu_sound, .ref cu_followers, .ref cu_leaders, .int 0, .int 0, .int 0, .int (-1)])), (od, .inr (2, [.ref ob, .ref os, .ref ow, .ref oc, .int 0, .int 0])), (ob, .inl (cB, 1, .inl fob)), (ow, .inl (cI, 1, .inl fow))] H := hP
  have hD : va_D A [(o, .inr (10, [.ref tp, .ref rd, .ref pr, .ref bx, .ref rw, .ref lt, .ref od, .ref se, .ref gm, .ref wl, .ref cu, .ref sp])), (rw, .inr (4, [.ref ri, .int 0])), (cu, .inr (8, [.ref cu_name, .ref cu_worth, .ref cu_times, .ref cu_first, .ref cu_second, .ref cu_beforeLast, .ref cu_last, .ref cu_errandOf, .ref cu_errandAfter, .ref cu_sound, .ref cu_followers, .ref cu_leaders, .int 0, .int 0, .int 0, .int (-1)])), (od, .inr (2, [.ref ob, .ref os, .ref ow, .ref oc, .int 0, .int 0])), (ob, .inl (cB, 1, .inl fob)), (ow, .inl (cI, 1, .inl fow))] := hD
  refine lv_aload_n hx hb dX10_longest_8 rfl (lv_at hl 0 rfl) ?_
  refine va_get (D := D) (ci := 10) (v := .ref cu) (C := RX10) (T := TX10) (N := 12) hx hb hts (by decide +kernel) hown hK hP 0 rfl rfl 10 (by decide) (hts (.fieldLink RX10 81 "LastLetter" "current" "LLastLetter$Tongue;") (by decide +kernel)) (fun _ h9 => h9) rfl dX10_longest_9 ?_
  refine xCi (wr := [(o, .inr (10, [.ref tp, .ref rd, .ref pr, .ref bx, .ref rw, .ref lt, .ref od, .ref se, .ref gm, .ref wl, .ref cu, .ref sp])), (rw, .inr (4, [.ref ri, .int 0])), (od, .inr (2, [.ref ob, .ref os, .ref ow, .ref oc, .int 0, .int 0])), (ob, .inl (cB, 1, .inl fob)), (ow, .inl (cI, 1, .inl fow))]) (win := [(cu, .inr (8, [.ref cu_name, .ref cu_worth, .ref cu_times, .ref cu_first, .ref cu_second, .ref cu_beforeLast, .ref cu_last, .ref cu_errandOf, .ref cu_errandAfter, .ref cu_sound, .ref cu_followers, .ref cu_leaders, .int 0, .int 0, .int 0, .int (-1)]))]) hP hD hS hA [2] [0, 1, 3, 4, 5] rfl rfl (by decide) (by decide) (va_runV (As := []) (rest := []) ⟨hx, hb, hml, hown, hts⟩ (c_X8_isTooBig l D cB cI cJ cS cZ cO H.size cu cu_name cu_worth cu_times cu_first cu_second cu_beforeLast cu_last cu_errandOf cu_errandAfter cu_sound cu_followers cu_leaders 0 0 (-1) ) (cwV 0 hts gX10_longest_X8_isTooBig rfl rfl rfl (by decide +kernel) ⟨Nat.le_of_ble_eq_true rfl, Nat.le_of_ble_eq_true rfl⟩) (xPreV (win := [(cu, .inr (8, [.ref cu_name, .ref cu_worth, .ref cu_times, .ref cu_first, .ref cu_second, .ref cu_beforeLast, .ref cu_last, .ref cu_errandOf, .ref cu_errandAfter, .ref cu_sound, .ref cu_followers, .ref cu_leaders, .int 0, .int 0, .int 0, .int (-1)]))]) hN hK hP hD [2] (by decide) rfl 2 8 rfl rfl rfl) rfl rfl hl.1 rfl (lv_room (Nat.le_of_ble_eq_true rfl)) dX10_longest_12 ⟨Nat.le_of_ble_eq_true rfl, Nat.le_of_ble_eq_true rfl⟩) (fun r0 w0 H locs hw hP hD hS => ?_)
  obtain ⟨rfl, rfl⟩ := hw
  have hP : va_P D vwCl [(o, .inr (10, [.ref tp, .ref rd, .ref pr, .ref bx, .ref rw, .ref lt, .ref od, .ref se, .ref gm, .ref wl, .ref cu, .ref sp])), (rw, .inr (4, [.ref ri, .int 0])), (od, .inr (2, [.ref ob, .ref os, .ref ow, .ref oc, .int 0, .int 0])), (ob, .inl (cB, 1, .inl fob)), (ow, .inl (cI, 1, .inl fow)), (cu, .inr (8, [.ref cu_name, .ref cu_worth, .ref cu_times, .ref cu_first, .ref cu_second, .ref cu_beforeLast, .ref cu_last, .ref cu_errandOf, .ref cu_errandAfter, .ref cu_sound, .ref cu_followers, .ref cu_leaders, .int 0, .int 0, .int 0, .int (-1)]))] H := hP
  have hD : va_D A [(o, .inr (10, [.ref tp, .ref rd, .ref pr, .ref bx, .ref rw, .ref lt, .ref od, .ref se, .ref gm, .ref wl, .ref cu, .ref sp])), (rw, .inr (4, [.ref ri, .int 0])), (od, .inr (2, [.ref ob, .ref os, .ref ow, .ref oc, .int 0, .int 0])), (ob, .inl (cB, 1, .inl fob)), (ow, .inl (cI, 1, .inl fow)), (cu, .inr (8, [.ref cu_name, .ref cu_worth, .ref cu_times, .ref cu_first, .ref cu_second, .ref cu_beforeLast, .ref cu_last, .ref cu_errandOf, .ref cu_errandAfter, .ref cu_sound, .ref cu_followers, .ref cu_leaders, .int 0, .int 0, .int 0, .int (-1)]))] := hD
  refine lv_if_eq (tgt := 21) hx hb dX10_longest_15 (by decide) (fun c_1 => ?_) (fun c_1 => absurd (by decide) c_1)
  refine lv_aload_n hx hb dX10_longest_21 rfl (lv_at hl 0 rfl) ?_
  refine va_get (D := D) (ci := 10) (v := .ref od) (C := RX10) (T := TX10) (N := 12) hx hb hts (by decide +kernel) hown hK hP 0 rfl rfl 6 (by decide) (hts (.fieldLink RX10 53 "LastLetter" "orders" "LLastLetter$Orders;") (by decide +kernel)) (fun _ h9 => h9) rfl dX10_longest_22 ?_
  refine lv_aload_n hx hb dX10_longest_25 rfl (lv_at hl 0 rfl) ?_
  refine va_get (D := D) (ci := 10) (v := .ref cu) (C := RX10) (T := TX10) (N := 12) hx hb hts (by decide +kernel) hown hK hP 0 rfl rfl 10 (by decide) (hts (.fieldLink RX10 81 "LastLetter" "current" "LLastLetter$Tongue;") (by decide +kernel)) (fun _ h9 => h9) rfl dX10_longest_26 ?_
  refine lv_aload_n hx hb dX10_longest_29 rfl (lv_at hl 0 rfl) ?_
  refine va_get (D := D) (ci := 10) (v := .ref rw) (C := RX10) (T := TX10) (N := 12) hx hb hts (by decide +kernel) hown hK hP 0 rfl rfl 4 (by decide) (hts (.fieldLink RX10 39 "LastLetter" "row" "LLastLetter$Row;") (by decide +kernel)) (fun _ h9 => h9) rfl dX10_longest_30 ?_
  refine lv_iconst (v := 0) hx hb dX10_longest_33 (by decide) ?_
  refine xCi (wr := [(o, .inr (10, [.ref tp, .ref rd, .ref pr, .ref bx, .ref rw, .ref lt, .ref od, .ref se, .ref gm, .ref wl, .ref cu, .ref sp])), (rw, .inr (4, [.ref ri, .int 0]))]) (win := [(od, .inr (2, [.ref ob, .ref os, .ref ow, .ref oc, .int 0, .int 0])), (cu, .inr (8, [.ref cu_name, .ref cu_worth, .ref cu_times, .ref cu_first, .ref cu_second, .ref cu_beforeLast, .ref cu_last, .ref cu_errandOf, .ref cu_errandAfter, .ref cu_sound, .ref cu_followers, .ref cu_leaders, .int 0, .int 0, .int 0, .int (-1)])), (ob, .inl (cB, 1, .inl fob)), (ow, .inl (cI, 1, .inl fow))]) hP hD hS hA [2, 5, 3, 4] [0, 1] rfl rfl (by decide) (by decide) (va_runV (As := [.ref cu, .ref rw, .int 0]) (rest := []) ⟨hx, hb, hml, hown, hts⟩ (c_X2_layMost l D cB cI cJ cS cZ cO H.size od cu rw 0 ob os ow oc 0 cu_name cu_worth cu_times cu_first cu_second cu_beforeLast cu_last cu_errandOf cu_errandAfter cu_sound cu_followers cu_leaders 0 0 (-1) fob fow ) (cwV 3 hts gX10_longest_X2_layMost rfl rfl rfl (by decide +kernel) ⟨Nat.le_of_ble_eq_true rfl, Nat.le_of_ble_eq_true rfl⟩) (xPreV (win := [(od, .inr (2, [.ref ob, .ref os, .ref ow, .ref oc, .int 0, .int 0])), (cu, .inr (8, [.ref cu_name, .ref cu_worth, .ref cu_times, .ref cu_first, .ref cu_second, .ref cu_beforeLast, .ref cu_last, .ref cu_errandOf, .ref cu_errandAfter, .ref cu_sound, .ref cu_followers, .ref cu_leaders, .int 0, .int 0, .int 0, .int (-1)])), (ob, .inl (cB, 1, .inl fob)), (ow, .inl (cI, 1, .inl fow))]) hN hK hP hD [2, 5, 3, 4] (by decide) rfl 2 2 rfl rfl rfl) rfl rfl hl.1 rfl (lv_room (Nat.le_of_ble_eq_true rfl)) dX10_longest_34 ⟨Nat.le_of_ble_eq_true rfl, Nat.le_of_ble_eq_true rfl⟩) (fun r0 w0 H locs hw hP hD hS => ?_)
  obtain ⟨g1_2, g2_3, rfl, rfl⟩ := hw
  have hP : va_P D vwCl [(o, .inr (10, [.ref tp, .ref rd, .ref pr, .ref bx, .ref rw, .ref lt, .ref od, .ref se, .ref gm, .ref wl, .ref cu, .ref sp])), (rw, .inr (4, [.ref ri, .int 0])), (od, .inr (2, [.ref ob, .ref os, .ref ow, .ref oc, .int 1, .int 0])), (cu, .inr (8, [.ref cu_name, .ref cu_worth, .ref cu_times, .ref cu_first, .ref cu_second, .ref cu_beforeLast, .ref cu_last, .ref cu_errandOf, .ref cu_errandAfter, .ref cu_sound, .ref cu_followers, .ref cu_leaders, .int 0, .int 0, .int 0, .int (-1)])), (ob, .inl (cB, 1, .inl g1_2)), (ow, .inl (cI, 1, .inl g2_3))] H := hP
  have hD : va_D A [(o, .inr (10, [.ref tp, .ref rd, .ref pr, .ref bx, .ref rw, .ref lt, .ref od, .ref se, .ref gm, .ref wl, .ref cu, .ref sp])), (rw, .inr (4, [.ref ri, .int 0])), (od, .inr (2, [.ref ob, .ref os, .ref ow, .ref oc, .int 1, .int 0])), (cu, .inr (8, [.ref cu_name, .ref cu_worth, .ref cu_times, .ref cu_first, .ref cu_second, .ref cu_beforeLast, .ref cu_last, .ref cu_errandOf, .ref cu_errandAfter, .ref cu_sound, .ref cu_followers, .ref cu_leaders, .int 0, .int 0, .int 0, .int (-1)])), (ob, .inl (cB, 1, .inl g1_2)), (ow, .inl (cI, 1, .inl g2_3))] := hD
  have hP9 := hP.sub (ws' := []) [] rfl
  have hD9 := hD.sub (ws' := []) [] (by decide) rfl
  refine W.widen (k := 0) (n := 0) (Nat.le_of_ble_eq_true rfl) (Nat.le_of_ble_eq_true rfl) ?_
  exact W.iret (v := 0) hx hb hr (fun tz htz hWz => ⟨⟨0, [], rfl, ⟨rfl, rfl⟩, by rw [htz]; exact hP9, va_K.moved hWz.alike hK, hD9⟩, hS.F htz⟩) hS.2.2 dX10_longest_37

set_option maxHeartbeats 4000000 in
set_option maxRecDepth 100000 in
theorem p_X10_worthy (l : Launch) (D : va_G) (cB cI cJ cS cZ cO : ClassId) (sz : Nat) (o : Nat) (tp : Nat) (rd : Nat) (pr : Nat) (bx : Nat) (rw : Nat) (lt : Nat) (od : Nat) (se : Nat) (gm : Nat) (wl : Nat) (cu : Nat) (sp : Nat) (ri : Nat) (cu_name : Nat) (cu_worth : Nat) (cu_times : Nat) (cu_first : Nat) (cu_second : Nat) (cu_beforeLast : Nat) (cu_last : Nat) (cu_errandOf : Nat) (cu_errandAfter : Nat) (cu_sound : Nat) (cu_followers : Nat) (cu_leaders : Nat) (ob : Nat) (os : Nat) (ow : Nat) (oc : Nat) (fob : Nat → Int32) (fow : Nat → Int32) : Met l yX10_worthy wsX10_worthy ({ frames := 2, cells := 0, slots := 0, locals := 53 }) (xPre D (tyL cB cI cJ cS cZ cO) [(o, .inr (10, [.ref tp, .ref rd, .ref pr, .ref bx, .ref rw, .ref lt, .ref od, .ref se, .ref gm, .ref wl, .ref cu, .ref sp])), (rw, .inr (4, [.ref ri, .int 0])), (cu, .inr (8, [.ref cu_name, .ref cu_worth, .ref cu_times, .ref cu_first, .ref cu_second, .ref cu_beforeLast, .ref cu_last, .ref cu_errandOf, .ref cu_errandAfter, .ref cu_sound, .ref cu_followers, .ref cu_leaders, .int 0, .int 0, .int 0, .int (-1)])), (od, .inr (2, [.ref ob, .ref os, .ref ow, .ref oc, .int 0, .int 0])), (ob, .inl (cB, 1, .inl fob)), (ow, .inl (cI, 1, .inl fow))] sz [.ref o]) (xQi D (tyL cB cI cJ cS cZ cO) (va_A [(o, .inr (10, [.ref tp, .ref rd, .ref pr, .ref bx, .ref rw, .ref lt, .ref od, .ref se, .ref gm, .ref wl, .ref cu, .ref sp])), (rw, .inr (4, [.ref ri, .int 0])), (cu, .inr (8, [.ref cu_name, .ref cu_worth, .ref cu_times, .ref cu_first, .ref cu_second, .ref cu_beforeLast, .ref cu_last, .ref cu_errandOf, .ref cu_errandAfter, .ref cu_sound, .ref cu_followers, .ref cu_leaders, .int 0, .int 0, .int 0, .int (-1)])), (od, .inr (2, [.ref ob, .ref os, .ref ow, .ref oc, .int 0, .int 0])), (ob, .inl (cB, 1, .inl fob)), (ow, .inl (cI, 1, .inl fow))] sz) (fun (r : Int32) (u : va_W) => u = [] ∧ r = 0)) 0 0 (va_A [(o, .inr (10, [.ref tp, .ref rd, .ref pr, .ref bx, .ref rw, .ref lt, .ref od, .ref se, .ref gm, .ref wl, .ref cu, .ref sp])), (rw, .inr (4, [.ref ri, .int 0])), (cu, .inr (8, [.ref cu_name, .ref cu_worth, .ref cu_times, .ref cu_first, .ref cu_second, .ref cu_beforeLast, .ref cu_last, .ref cu_errandOf, .ref cu_errandAfter, .ref cu_sound, .ref cu_followers, .ref cu_leaders, .int 0, .int 0, .int 0, .int (-1)])), (od, .inr (2, [.ref ob, .ref os, .ref ow, .ref oc, .int 0, .int 0])), (ob, .inl (cB, 1, .inl fob)), (ow, .inl (cI, 1, .inl fow))] sz) := by
  refine Met.ofW (cc := cX10_worthy) (maxL := 1) (ret := (some .int)) (by decide) rfl ?_
  intro p e s m args below meth c s₁ B hml hv
  obtain ⟨rfl, hsz, hP, hK, hD0, hN⟩ := hv
  have hx := B.exec
  have hb := B.bytes
  have hr := B.returns
  have hts := atoms_spec (ws := wsX10_worthy) B.pre
  have hown : s.vm.findClass RX10 = some m.cls := findClass_of_methodNamed B.named
  have hlocks := B.notSynchronized
  subst hsz
  have hD := hD0.self (sz := s.heap.size)
  generalize hAe : va_A [(o, .inr (10, [.ref tp, .ref rd, .ref pr, .ref bx, .ref rw, .ref lt, .ref od, .ref se, .ref gm, .ref wl, .ref cu, .ref sp])), (rw, .inr (4, [.ref ri, .int 0])), (cu, .inr (8, [.ref cu_name, .ref cu_worth, .ref cu_times, .ref cu_first, .ref cu_second, .ref cu_beforeLast, .ref cu_last, .ref cu_errandOf, .ref cu_errandAfter, .ref cu_sound, .ref cu_followers, .ref cu_leaders, .int 0, .int 0, .int 0, .int (-1)])), (od, .inr (2, [.ref ob, .ref os, .ref ow, .ref oc, .int 0, .int 0])), (ob, .inl (cB, 1, .inl fob)), (ow, .inl (cI, 1, .inl fow))] s.heap.size = A at hD ⊢
  have hA : ∀ q : Nat, s.heap.size ≤ q → A q := fun q h => by rw [← hAe]; exact Or.inr h
  have hS : va_S A s.heap s.heap [] := va_S.rf
  have hP : va_P D vwCl [(o, .inr (10, [.ref tp, .ref rd, .ref pr, .ref bx, .ref rw, .ref lt, .ref od, .ref se, .ref gm, .ref wl, .ref cu, .ref sp])), (rw, .inr (4, [.ref ri, .int 0])), (cu, .inr (8, [.ref cu_name, .ref cu_worth, .ref cu_times, .ref cu_first, .ref cu_second, .ref cu_beforeLast, .ref cu_last, .ref cu_errandOf, .ref cu_errandAfter, .ref cu_sound, .ref cu_followers, .ref cu_leaders, .int 0, .int 0, .int 0, .int (-1)])), (od, .inr (2, [.ref ob, .ref os, .ref ow, .ref oc, .int 0, .int 0])), (ob, .inl (cB, 1, .inl fob)), (ow, .inl (cI, 1, .inl fow))] s.heap := hP
  have hl := lv_entry ([.ref o]) (n := 1) (Nat.le_of_ble_eq_true rfl)
  rw [lg_entry_eq]
  generalize (lg_sl ([.ref o]) ++ List.replicate (1 - (lg_sl ([.ref o])).length) Slot.unset).toArray = ls at hl ⊢
  have hl : lv_has ls 1 [(0, .ref o)] := hl
  refine lv_aload_n hx hb dX10_worthy_0 rfl (lv_at hl 0 rfl) ?_
  refine va_get (D := D) (ci := 10) (v := .ref rw) (C := RX10) (T := TX10) (N := 12) hx hb hts (by decide +kernel) hown hK hP 0 rfl rfl 4 (by decide) (hts (.fieldLink RX10 39 "LastLetter" "row" "LLastLetter$Row;") (by decide +kernel)) (fun _ h9 => h9) rfl dX10_worthy_1 ?_
  refine lv_iconst (v := 0) hx hb dX10_worthy_4 (by decide) ?_
  refine va_putN (D := D) (ci := 4) (v := .int 0) (ty := .int) (C := RX4) (T := TX4) (N := 2) hx hb hts (by decide +kernel) tyX4 tyX4_ok nmX4 hown hK hP hD hS 1 rfl rfl 1 (by decide) (va_Nw.use rfl (hN.1 (RX10, 110, RX4, "size", "I", RX10) (by decide +kernel))) (fun _ h9 => h9) rfl (by decide +kernel) rfl rfl (Nat.le_of_ble_eq_true rfl) dX10_worthy_5 (fun H locs hP hD hS => ?_)
  have hP : va_P D vwCl [(o, .inr (10, [.ref tp, .ref rd, .ref pr, .ref bx, .ref rw, .ref lt, .ref od, .ref se, .ref gm, .ref wl, .ref cu, .ref sp])), (rw, .inr (4, [.ref ri, .int 0])), (cu, .inr (8, [.ref cu_name, .ref cu_worth, .ref cu_times, .ref cu_first, .ref cu_second, .ref cu_beforeLast, .ref cu_last, .ref cu_errandOf, .ref cu_errandAfter, .ref cu_sound, .ref cu_followers, .ref cu_leaders, .int 0, .int 0, .int 0, .int (-1)])), (od, .inr (2, [.ref ob, .ref os, .ref ow, .ref oc, .int 0, .int 0])), (ob, .inl (cB, 1, .inl fob)), (ow, .inl (cI, 1, .inl fow))] H := hP
  have hD : va_D A [(o, .inr (10, [.ref tp, .ref rd, .ref pr, .ref bx, .ref rw, .ref lt, .ref od, .ref se, .ref gm, .ref wl, .ref cu, .ref sp])), (rw, .inr (4, [.ref ri, .int 0])), (cu, .inr (8, [.ref cu_name, .ref cu_worth, .ref cu_times, .ref cu_first, .ref cu_second, .ref cu_beforeLast, .ref cu_last, .ref cu_errandOf, .ref cu_errandAfter, .ref cu_sound, .ref cu_followers, .ref cu_leaders, .int 0, .int 0, .int 0, .int (-1)])), (od, .inr (2, [.ref ob, .ref os, .ref ow, .ref oc, .int 0, .int 0])), (ob, .inl (cB, 1, .inl fob)), (ow, .inl (cI, 1, .inl fow))] := hD
  refine lv_aload_n hx hb dX10_worthy_8 rfl (lv_at hl 0 rfl) ?_
  refine va_get (D := D) (ci := 10) (v := .ref cu) (C := RX10) (T := TX10) (N := 12) hx hb hts (by decide +kernel) hown hK hP 0 rfl rfl 10 (by decide) (hts (.fieldLink RX10 81 "LastLetter" "current" "LLastLetter$Tongue;") (by decide +kernel)) (fun _ h9 => h9) rfl dX10_worthy_9 ?_
  refine xCi (wr := [(o, .inr (10, [.ref tp, .ref rd, .ref pr, .ref bx, .ref rw, .ref lt, .ref od, .ref se, .ref gm, .ref wl, .ref cu, .ref sp])), (rw, .inr (4, [.ref ri, .int 0])), (od, .inr (2, [.ref ob, .ref os, .ref ow, .ref oc, .int 0, .int 0])), (ob, .inl (cB, 1, .inl fob)), (ow, .inl (cI, 1, .inl fow))]) (win := [(cu, .inr (8, [.ref cu_name, .ref cu_worth, .ref cu_times, .ref cu_first, .ref cu_second, .ref cu_beforeLast, .ref cu_last, .ref cu_errandOf, .ref cu_errandAfter, .ref cu_sound, .ref cu_followers, .ref cu_leaders, .int 0, .int 0, .int 0, .int (-1)]))]) hP hD hS hA [2] [0, 1, 3, 4, 5] rfl rfl (by decide) (by decide) (va_runV (As := []) (rest := []) ⟨hx, hb, hml, hown, hts⟩ (c_X8_isTooBig l D cB cI cJ cS cZ cO H.size cu cu_name cu_worth cu_times cu_first cu_second cu_beforeLast cu_last cu_errandOf cu_errandAfter cu_sound cu_followers cu_leaders 0 0 (-1) ) (cwV 0 hts gX10_worthy_X8_isTooBig rfl rfl rfl (by decide +kernel) ⟨Nat.le_of_ble_eq_true rfl, Nat.le_of_ble_eq_true rfl⟩) (xPreV (win := [(cu, .inr (8, [.ref cu_name, .ref cu_worth, .ref cu_times, .ref cu_first, .ref cu_second, .ref cu_beforeLast, .ref cu_last, .ref cu_errandOf, .ref cu_errandAfter, .ref cu_sound, .ref cu_followers, .ref cu_leaders, .int 0, .int 0, .int 0, .int (-1)]))]) hN hK hP hD [2] (by decide) rfl 2 8 rfl rfl rfl) rfl rfl hl.1 rfl (lv_room (Nat.le_of_ble_eq_true rfl)) dX10_worthy_12 ⟨Nat.le_of_ble_eq_true rfl, Nat.le_of_ble_eq_true rfl⟩) (fun r0 w0 H locs hw hP hD hS => ?_)
  obtain ⟨rfl, rfl⟩ := hw
  have hP : va_P D vwCl [(o, .inr (10, [.ref tp, .ref rd, .ref pr, .ref bx, .ref rw, .ref lt, .ref od, .ref se, .ref gm, .ref wl, .ref cu, .ref sp])), (rw, .inr (4, [.ref ri, .int 0])), (od, .inr (2, [.ref ob, .ref os, .ref ow, .ref oc, .int 0, .int 0])), (ob, .inl (cB, 1, .inl fob)), (ow, .inl (cI, 1, .inl fow)), (cu, .inr (8, [.ref cu_name, .ref cu_worth, .ref cu_times, .ref cu_first, .ref cu_second, .ref cu_beforeLast, .ref cu_last, .ref cu_errandOf, .ref cu_errandAfter, .ref cu_sound, .ref cu_followers, .ref cu_leaders, .int 0, .int 0, .int 0, .int (-1)]))] H := hP
  have hD : va_D A [(o, .inr (10, [.ref tp, .ref rd, .ref pr, .ref bx, .ref rw, .ref lt, .ref od, .ref se, .ref gm, .ref wl, .ref cu, .ref sp])), (rw, .inr (4, [.ref ri, .int 0])), (od, .inr (2, [.ref ob, .ref os, .ref ow, .ref oc, .int 0, .int 0])), (ob, .inl (cB, 1, .inl fob)), (ow, .inl (cI, 1, .inl fow)), (cu, .inr (8, [.ref cu_name, .ref cu_worth, .ref cu_times, .ref cu_first, .ref cu_second, .ref cu_beforeLast, .ref cu_last, .ref cu_errandOf, .ref cu_errandAfter, .ref cu_sound, .ref cu_followers, .ref cu_leaders, .int 0, .int 0, .int 0, .int (-1)]))] := hD
  refine lv_if_eq (tgt := 21) hx hb dX10_worthy_15 (by decide) (fun c_1 => ?_) (fun c_1 => absurd (by decide) c_1)
  refine lv_aload_n hx hb dX10_worthy_21 rfl (lv_at hl 0 rfl) ?_
  refine va_get (D := D) (ci := 10) (v := .ref od) (C := RX10) (T := TX10) (N := 12) hx hb hts (by decide +kernel) hown hK hP 0 rfl rfl 6 (by decide) (hts (.fieldLink RX10 53 "LastLetter" "orders" "LLastLetter$Orders;") (by decide +kernel)) (fun _ h9 => h9) rfl dX10_worthy_22 ?_
  refine lv_aload_n hx hb dX10_worthy_25 rfl (lv_at hl 0 rfl) ?_
  refine va_get (D := D) (ci := 10) (v := .ref cu) (C := RX10) (T := TX10) (N := 12) hx hb hts (by decide +kernel) hown hK hP 0 rfl rfl 10 (by decide) (hts (.fieldLink RX10 81 "LastLetter" "current" "LLastLetter$Tongue;") (by decide +kernel)) (fun _ h9 => h9) rfl dX10_worthy_26 ?_
  refine lv_aload_n hx hb dX10_worthy_29 rfl (lv_at hl 0 rfl) ?_
  refine va_get (D := D) (ci := 10) (v := .ref rw) (C := RX10) (T := TX10) (N := 12) hx hb hts (by decide +kernel) hown hK hP 0 rfl rfl 4 (by decide) (hts (.fieldLink RX10 39 "LastLetter" "row" "LLastLetter$Row;") (by decide +kernel)) (fun _ h9 => h9) rfl dX10_worthy_30 ?_
  refine lv_iconst (v := 1) hx hb dX10_worthy_33 (by decide) ?_
  refine xCi (wr := [(o, .inr (10, [.ref tp, .ref rd, .ref pr, .ref bx, .ref rw, .ref lt, .ref od, .ref se, .ref gm, .ref wl, .ref cu, .ref sp])), (rw, .inr (4, [.ref ri, .int 0]))]) (win := [(od, .inr (2, [.ref ob, .ref os, .ref ow, .ref oc, .int 0, .int 0])), (cu, .inr (8, [.ref cu_name, .ref cu_worth, .ref cu_times, .ref cu_first, .ref cu_second, .ref cu_beforeLast, .ref cu_last, .ref cu_errandOf, .ref cu_errandAfter, .ref cu_sound, .ref cu_followers, .ref cu_leaders, .int 0, .int 0, .int 0, .int (-1)])), (ob, .inl (cB, 1, .inl fob)), (ow, .inl (cI, 1, .inl fow))]) hP hD hS hA [2, 5, 3, 4] [0, 1] rfl rfl (by decide) (by decide) (va_runV (As := [.ref cu, .ref rw, .int 1]) (rest := []) ⟨hx, hb, hml, hown, hts⟩ (c_X2_layMost l D cB cI cJ cS cZ cO H.size od cu rw 1 ob os ow oc 0 cu_name cu_worth cu_times cu_first cu_second cu_beforeLast cu_last cu_errandOf cu_errandAfter cu_sound cu_followers cu_leaders 0 0 (-1) fob fow ) (cwV 3 hts gX10_worthy_X2_layMost rfl rfl rfl (by decide +kernel) ⟨Nat.le_of_ble_eq_true rfl, Nat.le_of_ble_eq_true rfl⟩) (xPreV (win := [(od, .inr (2, [.ref ob, .ref os, .ref ow, .ref oc, .int 0, .int 0])), (cu, .inr (8, [.ref cu_name, .ref cu_worth, .ref cu_times, .ref cu_first, .ref cu_second, .ref cu_beforeLast, .ref cu_last, .ref cu_errandOf, .ref cu_errandAfter, .ref cu_sound, .ref cu_followers, .ref cu_leaders, .int 0, .int 0, .int 0, .int (-1)])), (ob, .inl (cB, 1, .inl fob)), (ow, .inl (cI, 1, .inl fow))]) hN hK hP hD [2, 5, 3, 4] (by decide) rfl 2 2 rfl rfl rfl) rfl rfl hl.1 rfl (lv_room (Nat.le_of_ble_eq_true rfl)) dX10_worthy_34 ⟨Nat.le_of_ble_eq_true rfl, Nat.le_of_ble_eq_true rfl⟩) (fun r0 w0 H locs hw hP hD hS => ?_)
  obtain ⟨g1_2, g2_3, rfl, rfl⟩ := hw
  have hP : va_P D vwCl [(o, .inr (10, [.ref tp, .ref rd, .ref pr, .ref bx, .ref rw, .ref lt, .ref od, .ref se, .ref gm, .ref wl, .ref cu, .ref sp])), (rw, .inr (4, [.ref ri, .int 0])), (od, .inr (2, [.ref ob, .ref os, .ref ow, .ref oc, .int 1, .int 0])), (cu, .inr (8, [.ref cu_name, .ref cu_worth, .ref cu_times, .ref cu_first, .ref cu_second, .ref cu_beforeLast, .ref cu_last, .ref cu_errandOf, .ref cu_errandAfter, .ref cu_sound, .ref cu_followers, .ref cu_leaders, .int 0, .int 0, .int 0, .int (-1)])), (ob, .inl (cB, 1, .inl g1_2)), (ow, .inl (cI, 1, .inl g2_3))] H := hP
  have hD : va_D A [(o, .inr (10, [.ref tp, .ref rd, .ref pr, .ref bx, .ref rw, .ref lt, .ref od, .ref se, .ref gm, .ref wl, .ref cu, .ref sp])), (rw, .inr (4, [.ref ri, .int 0])), (od, .inr (2, [.ref ob, .ref os, .ref ow, .ref oc, .int 1, .int 0])), (cu, .inr (8, [.ref cu_name, .ref cu_worth, .ref cu_times, .ref cu_first, .ref cu_second, .ref cu_beforeLast, .ref cu_last, .ref cu_errandOf, .ref cu_errandAfter, .ref cu_sound, .ref cu_followers, .ref cu_leaders, .int 0, .int 0, .int 0, .int (-1)])), (ob, .inl (cB, 1, .inl g1_2)), (ow, .inl (cI, 1, .inl g2_3))] := hD
  have hP9 := hP.sub (ws' := []) [] rfl
  have hD9 := hD.sub (ws' := []) [] (by decide) rfl
  refine W.widen (k := 0) (n := 0) (Nat.le_of_ble_eq_true rfl) (Nat.le_of_ble_eq_true rfl) ?_
  exact W.iret (v := 0) hx hb hr (fun tz htz hWz => ⟨⟨0, [], rfl, ⟨rfl, rfl⟩, by rw [htz]; exact hP9, va_K.moved hWz.alike hK, hD9⟩, hS.F htz⟩) hS.2.2 dX10_worthy_37

set_option maxHeartbeats 4000000 in
set_option maxRecDepth 100000 in
theorem p_X10_parted (l : Launch) (D : va_G) (cB cI cJ cS cZ cO : ClassId) (sz : Nat) (o : Nat) (tp : Nat) (rd : Nat) (pr : Nat) (bx : Nat) (rw : Nat) (lt : Nat) (od : Nat) (se : Nat) (gm : Nat) (wl : Nat) (cu : Nat) (sp : Nat) (ri : Nat) (cu_name : Nat) (cu_worth : Nat) (cu_times : Nat) (cu_first : Nat) (cu_second : Nat) (cu_beforeLast : Nat) (cu_last : Nat) (cu_errandOf : Nat) (cu_errandAfter : Nat) (cu_sound : Nat) (cu_followers : Nat) (cu_leaders : Nat) (ob : Nat) (os : Nat) (ow : Nat) (oc : Nat) (fob : Nat → Int32) (fow : Nat → Int32) : Met l yX10_parted wsX10_parted ({ frames := 2, cells := 0, slots := 0, locals := 51 }) (xPre D (tyL cB cI cJ cS cZ cO) [(o, .inr (10, [.ref tp, .ref rd, .ref pr, .ref bx, .ref rw, .ref lt, .ref od, .ref se, .ref gm, .ref wl, .ref cu, .ref sp])), (rw, .inr (4, [.ref ri, .int 0])), (cu, .inr (8, [.ref cu_name, .ref cu_worth, .ref cu_times, .ref cu_first, .ref cu_second, .ref cu_beforeLast, .ref cu_last, .ref cu_errandOf, .ref cu_errandAfter, .ref cu_sound, .ref cu_followers, .ref cu_leaders, .int 0, .int 0, .int 0, .int (-1)])), (od, .inr (2, [.ref ob, .ref os, .ref ow, .ref oc, .int 0, .int 0])), (ob, .inl (cB, 1, .inl fob)), (ow, .inl (cI, 1, .inl fow))] sz [.ref o]) (xQi D (tyL cB cI cJ cS cZ cO) (va_A [(o, .inr (10, [.ref tp, .ref rd, .ref pr, .ref bx, .ref rw, .ref lt, .ref od, .ref se, .ref gm, .ref wl, .ref cu, .ref sp])), (rw, .inr (4, [.ref ri, .int 0])), (cu, .inr (8, [.ref cu_name, .ref cu_worth, .ref cu_times, .ref cu_first, .ref cu_second, .ref cu_beforeLast, .ref cu_last, .ref cu_errandOf, .ref cu_errandAfter, .ref cu_sound, .ref cu_followers, .ref cu_leaders, .int 0, .int 0, .int 0, .int (-1)])), (od, .inr (2, [.ref ob, .ref os, .ref ow, .ref oc, .int 0, .int 0])), (ob, .inl (cB, 1, .inl fob)), (ow, .inl (cI, 1, .inl fow))] sz) (fun (r : Int32) (u : va_W) => u = [] ∧ r = 0)) 0 0 (va_A [(o, .inr (10, [.ref tp, .ref rd, .ref pr, .ref bx, .ref rw, .ref lt, .ref od, .ref se, .ref gm, .ref wl, .ref cu, .ref sp])), (rw, .inr (4, [.ref ri, .int 0])), (cu, .inr (8, [.ref cu_name, .ref cu_worth, .ref cu_times, .ref cu_first, .ref cu_second, .ref cu_beforeLast, .ref cu_last, .ref cu_errandOf, .ref cu_errandAfter, .ref cu_sound, .ref cu_followers, .ref cu_leaders, .int 0, .int 0, .int 0, .int (-1)])), (od, .inr (2, [.ref ob, .ref os, .ref ow, .ref oc, .int 0, .int 0])), (ob, .inl (cB, 1, .inl fob)), (ow, .inl (cI, 1, .inl fow))] sz) := by
  refine Met.ofW (cc := cX10_parted) (maxL := 1) (ret := (some .int)) (by decide) rfl ?_
  intro p e s m args below meth c s₁ B hml hv
  obtain ⟨rfl, hsz, hP, hK, hD0, hN⟩ := hv
  have hx := B.exec
  have hb := B.bytes
  have hr := B.returns
  have hts := atoms_spec (ws := wsX10_parted) B.pre
  have hown : s.vm.findClass RX10 = some m.cls := findClass_of_methodNamed B.named
  have hlocks := B.notSynchronized
  subst hsz
  have hD := hD0.self (sz := s.heap.size)
  generalize hAe : va_A [(o, .inr (10, [.ref tp, .ref rd, .ref pr, .ref bx, .ref rw, .ref lt, .ref od, .ref se, .ref gm, .ref wl, .ref cu, .ref sp])), (rw, .inr (4, [.ref ri, .int 0])), (cu, .inr (8, [.ref cu_name, .ref cu_worth, .ref cu_times, .ref cu_first, .ref cu_second, .ref cu_beforeLast, .ref cu_last, .ref cu_errandOf, .ref cu_errandAfter, .ref cu_sound, .ref cu_followers, .ref cu_leaders, .int 0, .int 0, .int 0, .int (-1)])), (od, .inr (2, [.ref ob, .ref os, .ref ow, .ref oc, .int 0, .int 0])), (ob, .inl (cB, 1, .inl fob)), (ow, .inl (cI, 1, .inl fow))] s.heap.size = A at hD ⊢
  have hA : ∀ q : Nat, s.heap.size ≤ q → A q := fun q h => by rw [← hAe]; exact Or.inr h
  have hS : va_S A s.heap s.heap [] := va_S.rf
  have hP : va_P D vwCl [(o, .inr (10, [.ref tp, .ref rd, .ref pr, .ref bx, .ref rw, .ref lt, .ref od, .ref se, .ref gm, .ref wl, .ref cu, .ref sp])), (rw, .inr (4, [.ref ri, .int 0])), (cu, .inr (8, [.ref cu_name, .ref cu_worth, .ref cu_times, .ref cu_first, .ref cu_second, .ref cu_beforeLast, .ref cu_last, .ref cu_errandOf, .ref cu_errandAfter, .ref cu_sound, .ref cu_followers, .ref cu_leaders, .int 0, .int 0, .int 0, .int (-1)])), (od, .inr (2, [.ref ob, .ref os, .ref ow, .ref oc, .int 0, .int 0])), (ob, .inl (cB, 1, .inl fob)), (ow, .inl (cI, 1, .inl fow))] s.heap := hP
  have hl := lv_entry ([.ref o]) (n := 1) (Nat.le_of_ble_eq_true rfl)
  rw [lg_entry_eq]
  generalize (lg_sl ([.ref o]) ++ List.replicate (1 - (lg_sl ([.ref o])).length) Slot.unset).toArray = ls at hl ⊢
  have hl : lv_has ls 1 [(0, .ref o)] := hl
  refine lv_aload_n hx hb dX10_parted_0 rfl (lv_at hl 0 rfl) ?_
  refine va_get (D := D) (ci := 10) (v := .ref rw) (C := RX10) (T := TX10) (N := 12) hx hb hts (by decide +kernel) hown hK hP 0 rfl rfl 4 (by decide) (hts (.fieldLink RX10 39 "LastLetter" "row" "LLastLetter$Row;") (by decide +kernel)) (fun _ h9 => h9) rfl dX10_parted_1 ?_
  refine lv_iconst (v := 0) hx hb dX10_parted_4 (by decide) ?_
  refine va_putN (D := D) (ci := 4) (v := .int 0) (ty := .int) (C := RX4) (T := TX4) (N := 2) hx hb hts (by decide +kernel) tyX4 tyX4_ok nmX4 hown hK hP hD hS 1 rfl rfl 1 (by decide) (va_Nw.use rfl (hN.1 (RX10, 110, RX4, "size", "I", RX10) (by decide +kernel))) (fun _ h9 => h9) rfl (by decide +kernel) rfl rfl (Nat.le_of_ble_eq_true rfl) dX10_parted_5 (fun H locs hP hD hS => ?_)
  have hP : va_P D vwCl [(o, .inr (10, [.ref tp, .ref rd, .ref pr, .ref bx, .ref rw, .ref lt, .ref od, .ref se, .ref gm, .ref wl, .ref cu, .ref sp])), (rw, .inr (4, [.ref ri, .int 0])), (cu, .inr (8, [.ref cu_name, .ref cu_worth, .ref cu_times, .ref cu_first, .ref cu_second, .ref cu_beforeLast, .ref cu_last, .ref cu_errandOf, .ref cu_errandAfter, .ref cu_sound, .ref cu_followers, .ref cu_leaders, .int 0, .int 0, .int 0, .int (-1)])), (od, .inr (2, [.ref ob, .ref os, .ref ow, .ref oc, .int 0, .int 0])), (ob, .inl (cB, 1, .inl fob)), (ow, .inl (cI, 1, .inl fow))] H := hP
  have hD : va_D A [(o, .inr (10, [.ref tp, .ref rd, .ref pr, .ref bx, .ref rw, .ref lt, .ref od, .ref se, .ref gm, .ref wl, .ref cu, .ref sp])), (rw, .inr (4, [.ref ri, .int 0])), (cu, .inr (8, [.ref cu_name, .ref cu_worth, .ref cu_times, .ref cu_first, .ref cu_second, .ref cu_beforeLast, .ref cu_last, .ref cu_errandOf, .ref cu_errandAfter, .ref cu_sound, .ref cu_followers, .ref cu_leaders, .int 0, .int 0, .int 0, .int (-1)])), (od, .inr (2, [.ref ob, .ref os, .ref ow, .ref oc, .int 0, .int 0])), (ob, .inl (cB, 1, .inl fob)), (ow, .inl (cI, 1, .inl fow))] := hD
  refine lv_aload_n hx hb dX10_parted_8 rfl (lv_at hl 0 rfl) ?_
  refine va_get (D := D) (ci := 10) (v := .ref cu) (C := RX10) (T := TX10) (N := 12) hx hb hts (by decide +kernel) hown hK hP 0 rfl rfl 10 (by decide) (hts (.fieldLink RX10 81 "LastLetter" "current" "LLastLetter$Tongue;") (by decide +kernel)) (fun _ h9 => h9) rfl dX10_parted_9 ?_
  refine xCi (wr := [(o, .inr (10, [.ref tp, .ref rd, .ref pr, .ref bx, .ref rw, .ref lt, .ref od, .ref se, .ref gm, .ref wl, .ref cu, .ref sp])), (rw, .inr (4, [.ref ri, .int 0])), (od, .inr (2, [.ref ob, .ref os, .ref ow, .ref oc, .int 0, .int 0])), (ob, .inl (cB, 1, .inl fob)), (ow, .inl (cI, 1, .inl fow))]) (win := [(cu, .inr (8, [.ref cu_name, .ref cu_worth, .ref cu_times, .ref cu_first, .ref cu_second, .ref cu_beforeLast, .ref cu_last, .ref cu_errandOf, .ref cu_errandAfter, .ref cu_sound, .ref cu_followers, .ref cu_leaders, .int 0, .int 0, .int 0, .int (-1)]))]) hP hD hS hA [2] [0, 1, 3, 4, 5] rfl rfl (by decide) (by decide) (va_runV (As := []) (rest := []) ⟨hx, hb, hml, hown, hts⟩ (c_X8_isTooBig l D cB cI cJ cS cZ cO H.size cu cu_name cu_worth cu_times cu_first cu_second cu_beforeLast cu_last cu_errandOf cu_errandAfter cu_sound cu_followers cu_leaders 0 0 (-1) ) (cwV 0 hts gX10_parted_X8_isTooBig rfl rfl rfl (by decide +kernel) ⟨Nat.le_of_ble_eq_true rfl, Nat.le_of_ble_eq_true rfl⟩) (xPreV (win := [(cu, .inr (8, [.ref cu_name, .ref cu_worth, .ref cu_times, .ref cu_first, .ref cu_second, .ref cu_beforeLast, .ref cu_last, .ref cu_errandOf, .ref cu_errandAfter, .ref cu_sound, .ref cu_followers, .ref cu_leaders, .int 0, .int 0, .int 0, .int (-1)]))]) hN hK hP hD [2] (by decide) rfl 2 8 rfl rfl rfl) rfl rfl hl.1 rfl (lv_room (Nat.le_of_ble_eq_true rfl)) dX10_parted_12 ⟨Nat.le_of_ble_eq_true rfl, Nat.le_of_ble_eq_true rfl⟩) (fun r0 w0 H locs hw hP hD hS => ?_)
  obtain ⟨rfl, rfl⟩ := hw
  have hP : va_P D vwCl [(o, .inr (10, [.ref tp, .ref rd, .ref pr, .ref bx, .ref rw, .ref lt, .ref od, .ref se, .ref gm, .ref wl, .ref cu, .ref sp])), (rw, .inr (4, [.ref ri, .int 0])), (od, .inr (2, [.ref ob, .ref os, .ref ow, .ref oc, .int 0, .int 0])), (ob, .inl (cB, 1, .inl fob)), (ow, .inl (cI, 1, .inl fow)), (cu, .inr (8, [.ref cu_name, .ref cu_worth, .ref cu_times, .ref cu_first, .ref cu_second, .ref cu_beforeLast, .ref cu_last, .ref cu_errandOf, .ref cu_errandAfter, .ref cu_sound, .ref cu_followers, .ref cu_leaders, .int 0, .int 0, .int 0, .int (-1)]))] H := hP
  have hD : va_D A [(o, .inr (10, [.ref tp, .ref rd, .ref pr, .ref bx, .ref rw, .ref lt, .ref od, .ref se, .ref gm, .ref wl, .ref cu, .ref sp])), (rw, .inr (4, [.ref ri, .int 0])), (od, .inr (2, [.ref ob, .ref os, .ref ow, .ref oc, .int 0, .int 0])), (ob, .inl (cB, 1, .inl fob)), (ow, .inl (cI, 1, .inl fow)), (cu, .inr (8, [.ref cu_name, .ref cu_worth, .ref cu_times, .ref cu_first, .ref cu_second, .ref cu_beforeLast, .ref cu_last, .ref cu_errandOf, .ref cu_errandAfter, .ref cu_sound, .ref cu_followers, .ref cu_leaders, .int 0, .int 0, .int 0, .int (-1)]))] := hD
  refine lv_if_eq (tgt := 21) hx hb dX10_parted_15 (by decide) (fun c_1 => ?_) (fun c_1 => absurd (by decide) c_1)
  refine lv_aload_n hx hb dX10_parted_21 rfl (lv_at hl 0 rfl) ?_
  refine va_get (D := D) (ci := 10) (v := .ref od) (C := RX10) (T := TX10) (N := 12) hx hb hts (by decide +kernel) hown hK hP 0 rfl rfl 6 (by decide) (hts (.fieldLink RX10 53 "LastLetter" "orders" "LLastLetter$Orders;") (by decide +kernel)) (fun _ h9 => h9) rfl dX10_parted_22 ?_
  refine lv_aload_n hx hb dX10_parted_25 rfl (lv_at hl 0 rfl) ?_
  refine va_get (D := D) (ci := 10) (v := .ref cu) (C := RX10) (T := TX10) (N := 12) hx hb hts (by decide +kernel) hown hK hP 0 rfl rfl 10 (by decide) (hts (.fieldLink RX10 81 "LastLetter" "current" "LLastLetter$Tongue;") (by decide +kernel)) (fun _ h9 => h9) rfl dX10_parted_26 ?_
  refine lv_aload_n hx hb dX10_parted_29 rfl (lv_at hl 0 rfl) ?_
  refine va_get (D := D) (ci := 10) (v := .ref rw) (C := RX10) (T := TX10) (N := 12) hx hb hts (by decide +kernel) hown hK hP 0 rfl rfl 4 (by decide) (hts (.fieldLink RX10 39 "LastLetter" "row" "LLastLetter$Row;") (by decide +kernel)) (fun _ h9 => h9) rfl dX10_parted_30 ?_
  refine xCi (wr := [(o, .inr (10, [.ref tp, .ref rd, .ref pr, .ref bx, .ref rw, .ref lt, .ref od, .ref se, .ref gm, .ref wl, .ref cu, .ref sp])), (rw, .inr (4, [.ref ri, .int 0]))]) (win := [(od, .inr (2, [.ref ob, .ref os, .ref ow, .ref oc, .int 0, .int 0])), (cu, .inr (8, [.ref cu_name, .ref cu_worth, .ref cu_times, .ref cu_first, .ref cu_second, .ref cu_beforeLast, .ref cu_last, .ref cu_errandOf, .ref cu_errandAfter, .ref cu_sound, .ref cu_followers, .ref cu_leaders, .int 0, .int 0, .int 0, .int (-1)])), (ob, .inl (cB, 1, .inl fob)), (ow, .inl (cI, 1, .inl fow))]) hP hD hS hA [2, 5, 3, 4] [0, 1] rfl rfl (by decide) (by decide) (va_runV (As := [.ref cu, .ref rw]) (rest := []) ⟨hx, hb, hml, hown, hts⟩ (c_X2_layParts_0 l D cB cI cJ cS cZ cO H.size od cu rw ob os ow oc 0 cu_name cu_worth cu_times cu_first cu_second cu_beforeLast cu_last cu_errandOf cu_errandAfter cu_sound cu_followers cu_leaders 0 0 (-1) fob fow ) (cwV 2 hts gX10_parted_X2_layParts rfl rfl rfl (by decide +kernel) ⟨Nat.le_of_ble_eq_true rfl, Nat.le_of_ble_eq_true rfl⟩) (xPreV (win := [(od, .inr (2, [.ref ob, .ref os, .ref ow, .ref oc, .int 0, .int 0])), (cu, .inr (8, [.ref cu_name, .ref cu_worth, .ref cu_times, .ref cu_first, .ref cu_second, .ref cu_beforeLast, .ref cu_last, .ref cu_errandOf, .ref cu_errandAfter, .ref cu_sound, .ref cu_followers, .ref cu_leaders, .int 0, .int 0, .int 0, .int (-1)])), (ob, .inl (cB, 1, .inl fob)), (ow, .inl (cI, 1, .inl fow))]) hN hK hP hD [2, 5, 3, 4] (by decide) rfl 2 2 rfl rfl rfl) rfl rfl hl.1 rfl (lv_room (Nat.le_of_ble_eq_true rfl)) dX10_parted_33 ⟨Nat.le_of_ble_eq_true rfl, Nat.le_of_ble_eq_true rfl⟩) (fun r0 w0 H locs hw hP hD hS => ?_)
  obtain ⟨g1_2, g2_3, rfl, rfl⟩ := hw
  have hP : va_P D vwCl [(o, .inr (10, [.ref tp, .ref rd, .ref pr, .ref bx, .ref rw, .ref lt, .ref od, .ref se, .ref gm, .ref wl, .ref cu, .ref sp])), (rw, .inr (4, [.ref ri, .int 0])), (od, .inr (2, [.ref ob, .ref os, .ref ow, .ref oc, .int 1, .int 0])), (cu, .inr (8, [.ref cu_name, .ref cu_worth, .ref cu_times, .ref cu_first, .ref cu_second, .ref cu_beforeLast, .ref cu_last, .ref cu_errandOf, .ref cu_errandAfter, .ref cu_sound, .ref cu_followers, .ref cu_leaders, .int 0, .int 0, .int 0, .int (-1)])), (ob, .inl (cB, 1, .inl g1_2)), (ow, .inl (cI, 1, .inl g2_3))] H := hP
  have hD : va_D A [(o, .inr (10, [.ref tp, .ref rd, .ref pr, .ref bx, .ref rw, .ref lt, .ref od, .ref se, .ref gm, .ref wl, .ref cu, .ref sp])), (rw, .inr (4, [.ref ri, .int 0])), (od, .inr (2, [.ref ob, .ref os, .ref ow, .ref oc, .int 1, .int 0])), (cu, .inr (8, [.ref cu_name, .ref cu_worth, .ref cu_times, .ref cu_first, .ref cu_second, .ref cu_beforeLast, .ref cu_last, .ref cu_errandOf, .ref cu_errandAfter, .ref cu_sound, .ref cu_followers, .ref cu_leaders, .int 0, .int 0, .int 0, .int (-1)])), (ob, .inl (cB, 1, .inl g1_2)), (ow, .inl (cI, 1, .inl g2_3))] := hD
  have hP9 := hP.sub (ws' := []) [] rfl
  have hD9 := hD.sub (ws' := []) [] (by decide) rfl
  refine W.widen (k := 0) (n := 0) (Nat.le_of_ble_eq_true rfl) (Nat.le_of_ble_eq_true rfl) ?_
  exact W.iret (v := 0) hx hb hr (fun tz htz hWz => ⟨⟨0, [], rfl, ⟨rfl, rfl⟩, by rw [htz]; exact hP9, va_K.moved hWz.alike hK, hD9⟩, hS.F htz⟩) hS.2.2 dX10_parted_36

set_option maxHeartbeats 4000000 in
set_option maxRecDepth 100000 in
theorem p_X10_missed (l : Launch) (D : va_G) (cB cI cJ cS cZ cO : ClassId) (sz : Nat) (o : Nat) (x : Int32) (tp : Nat) (rd : Nat) (pr : Nat) (bx : Nat) (rw : Nat) (lt : Nat) (od : Nat) (se : Nat) (gm : Nat) (wl : Nat) (cu : Nat) (sp : Nat) (ri : Nat) (cu_name : Nat) (cu_worth : Nat) (cu_times : Nat) (cu_first : Nat) (cu_second : Nat) (cu_beforeLast : Nat) (cu_last : Nat) (cu_errandOf : Nat) (cu_errandAfter : Nat) (cu_sound : Nat) (cu_followers : Nat) (cu_leaders : Nat) : Met l yX10_missed wsX10_missed ({ frames := 1, cells := 0, slots := 0, locals := 21 }) (xPre D (tyL cB cI cJ cS cZ cO) [(o, .inr (10, [.ref tp, .ref rd, .ref pr, .ref bx, .ref rw, .ref lt, .ref od, .ref se, .ref gm, .ref wl, .ref cu, .ref sp])), (rw, .inr (4, [.ref ri, .int 0])), (cu, .inr (8, [.ref cu_name, .ref cu_worth, .ref cu_times, .ref cu_first, .ref cu_second, .ref cu_beforeLast, .ref cu_last, .ref cu_errandOf, .ref cu_errandAfter, .ref cu_sound, .ref cu_followers, .ref cu_leaders, .int 0, .int 0, .int 0, .int (-1)]))] sz [.ref o, .int x]) (xQi D (tyL cB cI cJ cS cZ cO) (va_A [(o, .inr (10, [.ref tp, .ref rd, .ref pr, .ref bx, .ref rw, .ref lt, .ref od, .ref se, .ref gm, .ref wl, .ref cu, .ref sp])), (rw, .inr (4, [.ref ri, .int 0])), (cu, .inr (8, [.ref cu_name, .ref cu_worth, .ref cu_times, .ref cu_first, .ref cu_second, .ref cu_beforeLast, .ref cu_last, .ref cu_errandOf, .ref cu_errandAfter, .ref cu_sound, .ref cu_followers, .ref cu_leaders, .int 0, .int 0, .int 0, .int (-1)]))] sz) (fun (r : Int32) (u : va_W) => u = [] ∧ r = (-1))) 0 0 (va_A [(o, .inr (10, [.ref tp, .ref rd, .ref pr, .ref bx, .ref rw, .ref lt, .ref od, .ref se, .ref gm, .ref wl, .ref cu, .ref sp])), (rw, .inr (4, [.ref ri, .int 0])), (cu, .inr (8, [.ref cu_name, .ref cu_worth, .ref cu_times, .ref cu_first, .ref cu_second, .ref cu_beforeLast, .ref cu_last, .ref cu_errandOf, .ref cu_errandAfter, .ref cu_sound, .ref cu_followers, .ref cu_leaders, .int 0, .int 0, .int 0, .int (-1)]))] sz) := by
  refine Met.ofW (cc := cX10_missed) (maxL := 2) (ret := (some .int)) (by decide) rfl ?_
  intro p e s m args below meth c s₁ B hml hv
  obtain ⟨rfl, hsz, hP, hK, hD0, hN⟩ := hv
  have hx := B.exec
  have hb := B.bytes
  have hr := B.returns
  have hts := atoms_spec (ws := wsX10_missed) B.pre
  have hown : s.vm.findClass RX10 = some m.cls := findClass_of_methodNamed B.named
  have hlocks := B.notSynchronized
  subst hsz
  have hD := hD0.self (sz := s.heap.size)
  generalize hAe : va_A [(o, .inr (10, [.ref tp, .ref rd, .ref pr, .ref bx, .ref rw, .ref lt, .ref od, .ref se, .ref gm, .ref wl, .ref cu, .ref sp])), (rw, .inr (4, [.ref ri, .int 0])), (cu, .inr (8, [.ref cu_name, .ref cu_worth, .ref cu_times, .ref cu_first, .ref cu_second, .ref cu_beforeLast, .ref cu_last, .ref cu_errandOf, .ref cu_errandAfter, .ref cu_sound, .ref cu_followers, .ref cu_leaders, .int 0, .int 0, .int 0, .int (-1)]))] s.heap.size = A at hD ⊢
  have hA : ∀ q : Nat, s.heap.size ≤ q → A q := fun q h => by rw [← hAe]; exact Or.inr h
  have hS : va_S A s.heap s.heap [] := va_S.rf
  have hP : va_P D vwCl [(o, .inr (10, [.ref tp, .ref rd, .ref pr, .ref bx, .ref rw, .ref lt, .ref od, .ref se, .ref gm, .ref wl, .ref cu, .ref sp])), (rw, .inr (4, [.ref ri, .int 0])), (cu, .inr (8, [.ref cu_name, .ref cu_worth, .ref cu_times, .ref cu_first, .ref cu_second, .ref cu_beforeLast, .ref cu_last, .ref cu_errandOf, .ref cu_errandAfter, .ref cu_sound, .ref cu_followers, .ref cu_leaders, .int 0, .int 0, .int 0, .int (-1)]))] s.heap := hP
  have hl := lv_entry ([.ref o, .int x]) (n := 2) (Nat.le_of_ble_eq_true rfl)
  rw [lg_entry_eq]
  generalize (lg_sl ([.ref o, .int x]) ++ List.replicate (2 - (lg_sl ([.ref o, .int x])).length) Slot.unset).toArray = ls at hl ⊢
  have hl : lv_has ls 2 [(0, .ref o), (1, .int x)] := hl
  refine lv_aload_n hx hb dX10_missed_0 rfl (lv_at hl 0 rfl) ?_
  refine va_get (D := D) (ci := 10) (v := .ref rw) (C := RX10) (T := TX10) (N := 12) hx hb hts (by decide +kernel) hown hK hP 0 rfl rfl 4 (by decide) (hts (.fieldLink RX10 39 "LastLetter" "row" "LLastLetter$Row;") (by decide +kernel)) (fun _ h9 => h9) rfl dX10_missed_1 ?_
  refine lv_iconst (v := 0) hx hb dX10_missed_4 (by decide) ?_
  refine va_putN (D := D) (ci := 4) (v := .int 0) (ty := .int) (C := RX4) (T := TX4) (N := 2) hx hb hts (by decide +kernel) tyX4 tyX4_ok nmX4 hown hK hP hD hS 1 rfl rfl 1 (by decide) (va_Nw.use rfl (hN.1 (RX10, 110, RX4, "size", "I", RX10) (by decide +kernel))) (fun _ h9 => h9) rfl (by decide +kernel) rfl rfl (Nat.le_of_ble_eq_true rfl) dX10_missed_5 (fun H locs hP hD hS => ?_)
  have hP : va_P D vwCl [(o, .inr (10, [.ref tp, .ref rd, .ref pr, .ref bx, .ref rw, .ref lt, .ref od, .ref se, .ref gm, .ref wl, .ref cu, .ref sp])), (rw, .inr (4, [.ref ri, .int 0])), (cu, .inr (8, [.ref cu_name, .ref cu_worth, .ref cu_times, .ref cu_first, .ref cu_second, .ref cu_beforeLast, .ref cu_last, .ref cu_errandOf, .ref cu_errandAfter, .ref cu_sound, .ref cu_followers, .ref cu_leaders, .int 0, .int 0, .int 0, .int (-1)]))] H := hP
  have hD : va_D A [(o, .inr (10, [.ref tp, .ref rd, .ref pr, .ref bx, .ref rw, .ref lt, .ref od, .ref se, .ref gm, .ref wl, .ref cu, .ref sp])), (rw, .inr (4, [.ref ri, .int 0])), (cu, .inr (8, [.ref cu_name, .ref cu_worth, .ref cu_times, .ref cu_first, .ref cu_second, .ref cu_beforeLast, .ref cu_last, .ref cu_errandOf, .ref cu_errandAfter, .ref cu_sound, .ref cu_followers, .ref cu_leaders, .int 0, .int 0, .int 0, .int (-1)]))] := hD
  refine lv_aload_n hx hb dX10_missed_8 rfl (lv_at hl 0 rfl) ?_
  refine va_get (D := D) (ci := 10) (v := .ref cu) (C := RX10) (T := TX10) (N := 12) hx hb hts (by decide +kernel) hown hK hP 0 rfl rfl 10 (by decide) (hts (.fieldLink RX10 81 "LastLetter" "current" "LLastLetter$Tongue;") (by decide +kernel)) (fun _ h9 => h9) rfl dX10_missed_9 ?_
  refine lv_iload_n hx hb dX10_missed_12 rfl (lv_at hl 1 rfl) ?_
  refine xCi (wr := [(o, .inr (10, [.ref tp, .ref rd, .ref pr, .ref bx, .ref rw, .ref lt, .ref od, .ref se, .ref gm, .ref wl, .ref cu, .ref sp])), (rw, .inr (4, [.ref ri, .int 0]))]) (win := [(cu, .inr (8, [.ref cu_name, .ref cu_worth, .ref cu_times, .ref cu_first, .ref cu_second, .ref cu_beforeLast, .ref cu_last, .ref cu_errandOf, .ref cu_errandAfter, .ref cu_sound, .ref cu_followers, .ref cu_leaders, .int 0, .int 0, .int 0, .int (-1)]))]) hP hD hS hA [2] [0, 1] rfl rfl (by decide) (by decide) (va_runV (As := [.int x]) (rest := []) ⟨hx, hb, hml, hown, hts⟩ (c_X8_has l D cB cI cJ cS cZ cO H.size cu x cu_name cu_worth cu_times cu_first cu_second cu_beforeLast cu_last cu_errandOf cu_errandAfter cu_sound cu_followers cu_leaders 0 0 (-1) ) (cwV 1 hts gX10_missed_X8_has rfl rfl rfl (by decide +kernel) ⟨Nat.le_of_ble_eq_true rfl, Nat.le_of_ble_eq_true rfl⟩) (xPreV (win := [(cu, .inr (8, [.ref cu_name, .ref cu_worth, .ref cu_times, .ref cu_first, .ref cu_second, .ref cu_beforeLast, .ref cu_last, .ref cu_errandOf, .ref cu_errandAfter, .ref cu_sound, .ref cu_followers, .ref cu_leaders, .int 0, .int 0, .int 0, .int (-1)]))]) hN hK hP hD [2] (by decide) rfl 2 8 rfl rfl rfl) rfl rfl hl.1 rfl (lv_room (Nat.le_of_ble_eq_true rfl)) dX10_missed_13 ⟨Nat.le_of_ble_eq_true rfl, Nat.le_of_ble_eq_true rfl⟩) (fun r0 w0 H locs hw hP hD hS => ?_)
  obtain ⟨rfl, rfl⟩ := hw
  have hP : va_P D vwCl [(o, .inr (10, [.ref tp, .ref rd, .ref pr, .ref bx, .ref rw, .ref lt, .ref od, .ref se, .ref gm, .ref wl, .ref cu, .ref sp])), (rw, .inr (4, [.ref ri, .int 0])), (cu, .inr (8, [.ref cu_name, .ref cu_worth, .ref cu_times, .ref cu_first, .ref cu_second, .ref cu_beforeLast, .ref cu_last, .ref cu_errandOf, .ref cu_errandAfter, .ref cu_sound, .ref cu_followers, .ref cu_leaders, .int 0, .int 0, .int 0, .int (-1)]))] H := hP
  have hD : va_D A [(o, .inr (10, [.ref tp, .ref rd, .ref pr, .ref bx, .ref rw, .ref lt, .ref od, .ref se, .ref gm, .ref wl, .ref cu, .ref sp])), (rw, .inr (4, [.ref ri, .int 0])), (cu, .inr (8, [.ref cu_name, .ref cu_worth, .ref cu_times, .ref cu_first, .ref cu_second, .ref cu_beforeLast, .ref cu_last, .ref cu_errandOf, .ref cu_errandAfter, .ref cu_sound, .ref cu_followers, .ref cu_leaders, .int 0, .int 0, .int 0, .int (-1)]))] := hD
  refine lv_if_ne (tgt := 21) hx hb dX10_missed_16 (by decide) (fun c_1 => absurd c_1 (by decide)) (fun c_1 => ?_)
  refine lv_iconst (v := (-1)) hx hb dX10_missed_19 (by decide) ?_
  have hP9 := hP.sub (ws' := []) [] rfl
  have hD9 := hD.sub (ws' := []) [] (by decide) rfl
  refine W.widen (k := 0) (n := 0) (Nat.le_of_ble_eq_true rfl) (Nat.le_of_ble_eq_true rfl) ?_
  exact W.iret (v := (-1)) hx hb hr (fun tz htz hWz => ⟨⟨(-1), [], rfl, ⟨rfl, rfl⟩, by rw [htz]; exact hP9, va_K.moved hWz.alike hK, hD9⟩, hS.F htz⟩) hS.2.2 dX10_missed_20

set_option maxHeartbeats 4000000 in
set_option maxRecDepth 100000 in
theorem p_X10_lies (l : Launch) (D : va_G) (cB cI cJ cS cZ cO : ClassId) (sz : Nat) (o : Nat) (x : Int32) (tp : Nat) (rd : Nat) (pr : Nat) (bx : Nat) (rw : Nat) (lt : Nat) (od : Nat) (se : Nat) (gm : Nat) (wl : Nat) (cu : Nat) (sp : Nat) (ri : Nat) : Met l yX10_lies wsX10_lies ({ frames := 0, cells := 0, slots := 0, locals := 0 }) (xPre D (tyL cB cI cJ cS cZ cO) [(o, .inr (10, [.ref tp, .ref rd, .ref pr, .ref bx, .ref rw, .ref lt, .ref od, .ref se, .ref gm, .ref wl, .ref cu, .ref sp])), (rw, .inr (4, [.ref ri, .int 0]))] sz [.ref o, .int x]) (xQi D (tyL cB cI cJ cS cZ cO) (va_A [(o, .inr (10, [.ref tp, .ref rd, .ref pr, .ref bx, .ref rw, .ref lt, .ref od, .ref se, .ref gm, .ref wl, .ref cu, .ref sp])), (rw, .inr (4, [.ref ri, .int 0]))] sz) (fun (r : Int32) (u : va_W) => u = [] ∧ r = (-1))) 0 0 (va_A [(o, .inr (10, [.ref tp, .ref rd, .ref pr, .ref bx, .ref rw, .ref lt, .ref od, .ref se, .ref gm, .ref wl, .ref cu, .ref sp])), (rw, .inr (4, [.ref ri, .int 0]))] sz) := by
  refine Met.ofW (cc := cX10_lies) (maxL := 2) (ret := (some .int)) (by decide) rfl ?_
  intro p e s m args below meth c s₁ B hml hv
  obtain ⟨rfl, hsz, hP, hK, hD0, hN⟩ := hv
  have hx := B.exec
  have hb := B.bytes
  have hr := B.returns
  have hts := atoms_spec (ws := wsX10_lies) B.pre
  have hown : s.vm.findClass RX10 = some m.cls := findClass_of_methodNamed B.named
  have hlocks := B.notSynchronized
  subst hsz
  have hD := hD0.self (sz := s.heap.size)
  generalize hAe : va_A [(o, .inr (10, [.ref tp, .ref rd, .ref pr, .ref bx, .ref rw, .ref lt, .ref od, .ref se, .ref gm, .ref wl, .ref cu, .ref sp])), (rw, .inr (4, [.ref ri, .int 0]))] s.heap.size = A at hD ⊢
  have hA : ∀ q : Nat, s.heap.size ≤ q → A q := fun q h => by rw [← hAe]; exact Or.inr h
  have hS : va_S A s.heap s.heap [] := va_S.rf
  have hP : va_P D vwCl [(o, .inr (10, [.ref tp, .ref rd, .ref pr, .ref bx, .ref rw, .ref lt, .ref od, .ref se, .ref gm, .ref wl, .ref cu, .ref sp])), (rw, .inr (4, [.ref ri, .int 0]))] s.heap := hP
  have hl := lv_entry ([.ref o, .int x]) (n := 2) (Nat.le_of_ble_eq_true rfl)
  rw [lg_entry_eq]
  generalize (lg_sl ([.ref o, .int x]) ++ List.replicate (2 - (lg_sl ([.ref o, .int x])).length) Slot.unset).toArray = ls at hl ⊢
  have hl : lv_has ls 2 [(0, .ref o), (1, .int x)] := hl
  refine lv_iload_n hx hb dX10_lies_0 rfl (lv_at hl 1 rfl) ?_
  refine lv_if_lt (tgt := 27) hx hb dX10_lies_1 (by decide) (fun c_1 => ?_) (fun c_1 => ?_)
  · refine lv_iconst (v := (-1)) hx hb dX10_lies_27 (by decide) ?_
    have hP9 := hP.sub (ws' := []) [] rfl
    have hD9 := hD.sub (ws' := []) [] (by decide) rfl
    refine W.widen (k := 0) (n := 0) (Nat.le_of_ble_eq_true rfl) (Nat.le_of_ble_eq_true rfl) ?_
    exact W.iret (v := (-1)) hx hb hr (fun tz htz hWz => ⟨⟨(-1), [], rfl, ⟨rfl, rfl⟩, by rw [htz]; exact hP9, va_K.moved hWz.alike hK, hD9⟩, hS.F htz⟩) hS.2.2 dX10_lies_28
  · refine lv_iload_n hx hb dX10_lies_4 rfl (lv_at hl 1 rfl) ?_
    refine lv_aload_n hx hb dX10_lies_5 rfl (lv_at hl 0 rfl) ?_
    refine va_get (D := D) (ci := 10) (v := .ref rw) (C := RX10) (T := TX10) (N := 12) hx hb hts (by decide +kernel) hown hK hP 0 rfl rfl 4 (by decide) (hts (.fieldLink RX10 39 "LastLetter" "row" "LLastLetter$Row;") (by decide +kernel)) (fun _ h9 => h9) rfl dX10_lies_6 ?_
    refine va_getN (D := D) (ci := 4) (v := .int 0) (C := RX4) (T := TX4) (N := 2) hx hb hts (by decide +kernel) hown hK hP 1 rfl rfl 1 (by decide) (va_Nw.use rfl (hN.1 (RX10, 110, RX4, "size", "I", RX10) (by decide +kernel))) (fun _ h9 => h9) rfl dX10_lies_9 ?_
    refine lv_icmp_ge (tgt := 27) hx hb dX10_lies_12 (by decide) (fun c_2 => ?_) (fun c_2 => absurd (Int32.not_lt.mp c_1) c_2)
    refine lv_iconst (v := (-1)) hx hb dX10_lies_27 (by decide) ?_
    have hP9 := hP.sub (ws' := []) [] rfl
    have hD9 := hD.sub (ws' := []) [] (by decide) rfl
    refine W.widen (k := 0) (n := 0) (Nat.le_of_ble_eq_true rfl) (Nat.le_of_ble_eq_true rfl) ?_
    exact W.iret (v := (-1)) hx hb hr (fun tz htz hWz => ⟨⟨(-1), [], rfl, ⟨rfl, rfl⟩, by rw [htz]; exact hP9, va_K.moved hWz.alike hK, hD9⟩, hS.F htz⟩) hS.2.2 dX10_lies_28

set_option maxHeartbeats 4000000 in
set_option maxRecDepth 100000 in
theorem p_X10_surplus (l : Launch) (D : va_G) (cB cI cJ cS cZ cO : ClassId) (sz : Nat) (o : Nat) (x : Int32) (tp : Nat) (rd : Nat) (pr : Nat) (bx : Nat) (rw : Nat) (lt : Nat) (od : Nat) (se : Nat) (gm : Nat) (wl : Nat) (cu : Nat) (sp : Nat) (lg : Nat) (cu_name : Nat) (cu_worth : Nat) (cu_times : Nat) (cu_first : Nat) (cu_second : Nat) (cu_beforeLast : Nat) (cu_last : Nat) (cu_errandOf : Nat) (cu_errandAfter : Nat) (cu_sound : Nat) (cu_followers : Nat) (cu_leaders : Nat) (fcu_sound : Nat → Int32) : Met l yX10_surplus wsX10_surplus ({ frames := 1, cells := 0, slots := 0, locals := 24 }) (xPre D (tyL cB cI cJ cS cZ cO) [(o, .inr (10, [.ref tp, .ref rd, .ref pr, .ref bx, .ref rw, .ref lt, .ref od, .ref se, .ref gm, .ref wl, .ref cu, .ref sp])), (lt, .inr (1, [.ref lg])), (cu, .inr (8, [.ref cu_name, .ref cu_worth, .ref cu_times, .ref cu_first, .ref cu_second, .ref cu_beforeLast, .ref cu_last, .ref cu_errandOf, .ref cu_errandAfter, .ref cu_sound, .ref cu_followers, .ref cu_leaders, .int 0, .int 0, .int 0, .int (-1)])), (cu_sound, .inl (cI, 26, .inl fcu_sound))] sz [.ref o, .int x]) (xQi D (tyL cB cI cJ cS cZ cO) (va_A [(o, .inr (10, [.ref tp, .ref rd, .ref pr, .ref bx, .ref rw, .ref lt, .ref od, .ref se, .ref gm, .ref wl, .ref cu, .ref sp])), (lt, .inr (1, [.ref lg])), (cu, .inr (8, [.ref cu_name, .ref cu_worth, .ref cu_times, .ref cu_first, .ref cu_second, .ref cu_beforeLast, .ref cu_last, .ref cu_errandOf, .ref cu_errandAfter, .ref cu_sound, .ref cu_followers, .ref cu_leaders, .int 0, .int 0, .int 0, .int (-1)])), (cu_sound, .inl (cI, 26, .inl fcu_sound))] sz) (fun (r : Int32) (u : va_W) => u = [] ∧ r = if 0 ≤ x ∧ x ≤ 25 then 0 else (-1000))) 0 0 (va_A [(o, .inr (10, [.ref tp, .ref rd, .ref pr, .ref bx, .ref rw, .ref lt, .ref od, .ref se, .ref gm, .ref wl, .ref cu, .ref sp])), (lt, .inr (1, [.ref lg])), (cu, .inr (8, [.ref cu_name, .ref cu_worth, .ref cu_times, .ref cu_first, .ref cu_second, .ref cu_beforeLast, .ref cu_last, .ref cu_errandOf, .ref cu_errandAfter, .ref cu_sound, .ref cu_followers, .ref cu_leaders, .int 0, .int 0, .int 0, .int (-1)])), (cu_sound, .inl (cI, 26, .inl fcu_sound))] sz) := by
  refine Met.ofW (cc := cX10_surplus) (maxL := 2) (ret := (some .int)) (by decide) rfl ?_
  intro p e s m args below meth c s₁ B hml hv
  obtain ⟨rfl, hsz, hP, hK, hD0, hN⟩ := hv
  have hx := B.exec
  have hb := B.bytes
  have hr := B.returns
  have hts := atoms_spec (ws := wsX10_surplus) B.pre
  have hown : s.vm.findClass RX10 = some m.cls := findClass_of_methodNamed B.named
  have hlocks := B.notSynchronized
  subst hsz
  have hD := hD0.self (sz := s.heap.size)
  generalize hAe : va_A [(o, .inr (10, [.ref tp, .ref rd, .ref pr, .ref bx, .ref rw, .ref lt, .ref od, .ref se, .ref gm, .ref wl, .ref cu, .ref sp])), (lt, .inr (1, [.ref lg])), (cu, .inr (8, [.ref cu_name, .ref cu_worth, .ref cu_times, .ref cu_first, .ref cu_second, .ref cu_beforeLast, .ref cu_last, .ref cu_errandOf, .ref cu_errandAfter, .ref cu_sound, .ref cu_followers, .ref cu_leaders, .int 0, .int 0, .int 0, .int (-1)])), (cu_sound, .inl (cI, 26, .inl fcu_sound))] s.heap.size = A at hD ⊢
  have hA : ∀ q : Nat, s.heap.size ≤ q → A q := fun q h => by rw [← hAe]; exact Or.inr h
  have hS : va_S A s.heap s.heap [] := va_S.rf
  have hP : va_P D vwCl [(o, .inr (10, [.ref tp, .ref rd, .ref pr, .ref bx, .ref rw, .ref lt, .ref od, .ref se, .ref gm, .ref wl, .ref cu, .ref sp])), (lt, .inr (1, [.ref lg])), (cu, .inr (8, [.ref cu_name, .ref cu_worth, .ref cu_times, .ref cu_first, .ref cu_second, .ref cu_beforeLast, .ref cu_last, .ref cu_errandOf, .ref cu_errandAfter, .ref cu_sound, .ref cu_followers, .ref cu_leaders, .int 0, .int 0, .int 0, .int (-1)])), (cu_sound, .inl (cI, 26, .inl fcu_sound))] s.heap := hP
  have hl := lv_entry ([.ref o, .int x]) (n := 2) (Nat.le_of_ble_eq_true rfl)
  rw [lg_entry_eq]
  generalize (lg_sl ([.ref o, .int x]) ++ List.replicate (2 - (lg_sl ([.ref o, .int x])).length) Slot.unset).toArray = ls at hl ⊢
  have hl : lv_has ls 2 [(0, .ref o), (1, .int x)] := hl
  refine lv_iload_n hx hb dX10_surplus_0 rfl (lv_at hl 1 rfl) ?_
  refine lv_if_lt (tgt := 10) hx hb dX10_surplus_1 (by decide) (fun c_1 => ?_) (fun c_1 => ?_)
  · refine lv_sipush (v := (-1000)) hx hb dX10_surplus_10 (by decide) ?_
    have hP9 := hP.sub (ws' := []) [] rfl
    have hD9 := hD.sub (ws' := []) [] (by decide) rfl
    refine W.widen (k := 0) (n := 0) (Nat.le_of_ble_eq_true rfl) (Nat.le_of_ble_eq_true rfl) ?_
    exact W.iret (v := (-1000)) hx hb hr (fun tz htz hWz => ⟨⟨(-1000), [], rfl, ⟨rfl, (by grind)⟩, by rw [htz]; exact hP9, va_K.moved hWz.alike hK, hD9⟩, hS.F htz⟩) hS.2.2 dX10_surplus_13
  · refine lv_iload_n hx hb dX10_surplus_4 rfl (lv_at hl 1 rfl) ?_
    refine lv_bipush (v := 26) hx hb dX10_surplus_5 (by decide) ?_
    refine lv_icmp_lt (tgt := 14) hx hb dX10_surplus_7 (by decide) (fun c_2 => ?_) (fun c_2 => ?_)
    · refine lv_aload_n hx hb dX10_surplus_14 rfl (lv_at hl 0 rfl) ?_
      refine va_get (D := D) (ci := 10) (v := .ref lt) (C := RX10) (T := TX10) (N := 12) hx hb hts (by decide +kernel) hown hK hP 0 rfl rfl 5 (by decide) (hts (.fieldLink RX10 46 "LastLetter" "letters" "LLastLetter$Letters;") (by decide +kernel)) (fun _ h9 => h9) rfl dX10_surplus_15 ?_
      refine lv_aload_n hx hb dX10_surplus_18 rfl (lv_at hl 0 rfl) ?_
      refine va_get (D := D) (ci := 10) (v := .ref cu) (C := RX10) (T := TX10) (N := 12) hx hb hts (by decide +kernel) hown hK hP 0 rfl rfl 10 (by decide) (hts (.fieldLink RX10 81 "LastLetter" "current" "LLastLetter$Tongue;") (by decide +kernel)) (fun _ h9 => h9) rfl dX10_surplus_19 ?_
      refine lv_aload_n hx hb dX10_surplus_22 rfl (lv_at hl 0 rfl) ?_
      refine va_get (D := D) (ci := 10) (v := .ref cu) (C := RX10) (T := TX10) (N := 12) hx hb hts (by decide +kernel) hown hK hP 0 rfl rfl 10 (by decide) (hts (.fieldLink RX10 81 "LastLetter" "current" "LLastLetter$Tongue;") (by decide +kernel)) (fun _ h9 => h9) rfl dX10_surplus_23 ?_
      refine va_getN (D := D) (ci := 8) (v := .ref cu_sound) (C := RX8) (T := TX8) (N := 16) hx hb hts (by decide +kernel) hown hK hP 2 rfl rfl 9 (by decide) (va_Nw.use rfl (hN.1 (RX10, 189, RX8, "sound", "[I", RX10) (by decide +kernel))) (fun _ h9 => h9) rfl dX10_surplus_26 ?_
      refine lv_iload_n hx hb dX10_surplus_29 rfl (lv_at hl 1 rfl) ?_
      refine va_iald hx hb hK hP 3 1 rfl rfl (ib_in c_1 (Int32.not_le.mpr c_2) (by decide)) dX10_surplus_30 ?_
      refine xCi (wr := [(o, .inr (10, [.ref tp, .ref rd, .ref pr, .ref bx, .ref rw, .ref lt, .ref od, .ref se, .ref gm, .ref wl, .ref cu, .ref sp])), (lt, .inr (1, [.ref lg])), (cu_sound, .inl (cI, 26, .inl fcu_sound))]) (win := [(cu, .inr (8, [.ref cu_name, .ref cu_worth, .ref cu_times, .ref cu_first, .ref cu_second, .ref cu_beforeLast, .ref cu_last, .ref cu_errandOf, .ref cu_errandAfter, .ref cu_sound, .ref cu_followers, .ref cu_leaders, .int 0, .int 0, .int 0, .int (-1)]))]) hP hD hS hA [2] [0, 1, 3] rfl rfl (by decide) (by decide) (va_runV (As := [.ref cu, .int (fcu_sound (Int32.toNatClampNeg x))]) (rest := []) ⟨hx, hb, hml, hown, hts⟩ (c_X1_balance l D cB cI cJ cS cZ cO s.heap.size lt cu (fcu_sound (Int32.toNatClampNeg x)) cu_name cu_worth cu_times cu_first cu_second cu_beforeLast cu_last cu_errandOf cu_errandAfter cu_sound cu_followers cu_leaders 0 0 (-1) ) (cwV 2 hts gX10_surplus_X1_balance rfl rfl rfl (by decide +kernel) ⟨Nat.le_of_ble_eq_true rfl, Nat.le_of_ble_eq_true rfl⟩) (xPreV (win := [(cu, .inr (8, [.ref cu_name, .ref cu_worth, .ref cu_times, .ref cu_first, .ref cu_second, .ref cu_beforeLast, .ref cu_last, .ref cu_errandOf, .ref cu_errandAfter, .ref cu_sound, .ref cu_followers, .ref cu_leaders, .int 0, .int 0, .int 0, .int (-1)]))]) hN hK hP hD [2] (by decide) rfl 1 1 rfl rfl rfl) rfl rfl hl.1 rfl (lv_room (Nat.le_of_ble_eq_true rfl)) dX10_surplus_31 ⟨Nat.le_of_ble_eq_true rfl, Nat.le_of_ble_eq_true rfl⟩) (fun r0 w0 H locs hw hP hD hS => ?_)
      obtain ⟨rfl, rfl⟩ := hw
      have hP : va_P D vwCl [(o, .inr (10, [.ref tp, .ref rd, .ref pr, .ref bx, .ref rw, .ref lt, .ref od, .ref se, .ref gm, .ref wl, .ref cu, .ref sp])), (lt, .inr (1, [.ref lg])), (cu_sound, .inl (cI, 26, .inl fcu_sound)), (cu, .inr (8, [.ref cu_name, .ref cu_worth, .ref cu_times, .ref cu_first, .ref cu_second, .ref cu_beforeLast, .ref cu_last, .ref cu_errandOf, .ref cu_errandAfter, .ref cu_sound, .ref cu_followers, .ref cu_leaders, .int 0, .int 0, .int 0, .int (-1)]))] H := hP
      have hD : va_D A [(o, .inr (10, [.ref tp, .ref rd, .ref pr, .ref bx, .ref rw, .ref lt, .ref od, .ref se, .ref gm, .ref wl, .ref cu, .ref sp])), (lt, .inr (1, [.ref lg])), (cu_sound, .inl (cI, 26, .inl fcu_sound)), (cu, .inr (8, [.ref cu_name, .ref cu_worth, .ref cu_times, .ref cu_first, .ref cu_second, .ref cu_beforeLast, .ref cu_last, .ref cu_errandOf, .ref cu_errandAfter, .ref cu_sound, .ref cu_followers, .ref cu_leaders, .int 0, .int 0, .int 0, .int (-1)]))] := hD
      have hP9 := hP.sub (ws' := []) [] rfl
      have hD9 := hD.sub (ws' := []) [] (by decide) rfl
      refine W.widen (k := 0) (n := 0) (Nat.le_of_ble_eq_true rfl) (Nat.le_of_ble_eq_true rfl) ?_
      exact W.iret (v := 0) hx hb hr (fun tz htz hWz => ⟨⟨0, [], rfl, ⟨rfl, (by grind)⟩, by rw [htz]; exact hP9, va_K.moved hWz.alike hK, hD9⟩, hS.F htz⟩) hS.2.2 dX10_surplus_34
    · refine lv_sipush (v := (-1000)) hx hb dX10_surplus_10 (by decide) ?_
      have hP9 := hP.sub (ws' := []) [] rfl
      have hD9 := hD.sub (ws' := []) [] (by decide) rfl
      refine W.widen (k := 0) (n := 0) (Nat.le_of_ble_eq_true rfl) (Nat.le_of_ble_eq_true rfl) ?_
      exact W.iret (v := (-1000)) hx hb hr (fun tz htz hWz => ⟨⟨(-1000), [], rfl, ⟨rfl, (by grind)⟩, by rw [htz]; exact hP9, va_K.moved hWz.alike hK, hD9⟩, hS.F htz⟩) hS.2.2 dX10_surplus_13

set_option maxHeartbeats 4000000 in
set_option maxRecDepth 100000 in
theorem p_X10_mended (l : Launch) (D : va_G) (cB cI cJ cS cZ cO : ClassId) (sz : Nat) (o : Nat) (tp : Nat) (rd : Nat) (pr : Nat) (bx : Nat) (rw : Nat) (lt : Nat) (od : Nat) (se : Nat) (gm : Nat) (wl : Nat) (cu : Nat) (sp : Nat) (lg : Nat) (flg : Nat → Int32) (cu_name : Nat) (cu_worth : Nat) (cu_times : Nat) (cu_first : Nat) (cu_second : Nat) (cu_beforeLast : Nat) (cu_last : Nat) (cu_errandOf : Nat) (cu_errandAfter : Nat) (cu_sound : Nat) (cu_followers : Nat) (cu_leaders : Nat) (fcu_sound : Nat → Int32) : Met l yX10_mended wsX10_mended ({ frames := 3, cells := 0, slots := 0, locals := 88 }) (xPre D (tyL cB cI cJ cS cZ cO) [(o, .inr (10, [.ref tp, .ref rd, .ref pr, .ref bx, .ref rw, .ref lt, .ref od, .ref se, .ref gm, .ref wl, .ref cu, .ref sp])), (lt, .inr (1, [.ref lg])), (lg, .inl (cI, 26, .inl flg)), (cu, .inr (8, [.ref cu_name, .ref cu_worth, .ref cu_times, .ref cu_first, .ref cu_second, .ref cu_beforeLast, .ref cu_last, .ref cu_errandOf, .ref cu_errandAfter, .ref cu_sound, .ref cu_followers, .ref cu_leaders, .int 0, .int 0, .int 0, .int (-1)])), (cu_sound, .inl (cI, 26, .inl fcu_sound))] sz [.ref o]) (xQi D (tyL cB cI cJ cS cZ cO) (va_A [(o, .inr (10, [.ref tp, .ref rd, .ref pr, .ref bx, .ref rw, .ref lt, .ref od, .ref se, .ref gm, .ref wl, .ref cu, .ref sp])), (lt, .inr (1, [.ref lg])), (lg, .inl (cI, 26, .inl flg)), (cu, .inr (8, [.ref cu_name, .ref cu_worth, .ref cu_times, .ref cu_first, .ref cu_second, .ref cu_beforeLast, .ref cu_last, .ref cu_errandOf, .ref cu_errandAfter, .ref cu_sound, .ref cu_followers, .ref cu_leaders, .int 0, .int 0, .int 0, .int (-1)])), (cu_sound, .inl (cI, 26, .inl fcu_sound))] sz) (fun (r : Int32) (u : va_W) => u = [] ∧ r = 0)) 0 0 (va_A [(o, .inr (10, [.ref tp, .ref rd, .ref pr, .ref bx, .ref rw, .ref lt, .ref od, .ref se, .ref gm, .ref wl, .ref cu, .ref sp])), (lt, .inr (1, [.ref lg])), (lg, .inl (cI, 26, .inl flg)), (cu, .inr (8, [.ref cu_name, .ref cu_worth, .ref cu_times, .ref cu_first, .ref cu_second, .ref cu_beforeLast, .ref cu_last, .ref cu_errandOf, .ref cu_errandAfter, .ref cu_sound, .ref cu_followers, .ref cu_leaders, .int 0, .int 0, .int 0, .int (-1)])), (cu_sound, .inl (cI, 26, .inl fcu_sound))] sz) := by
  refine Met.ofW (cc := cX10_mended) (maxL := 1) (ret := (some .int)) (by decide) rfl ?_
  intro p e s m args below meth c s₁ B hml hv
  obtain ⟨rfl, hsz, hP, hK, hD0, hN⟩ := hv
  have hx := B.exec
  have hb := B.bytes
  have hr := B.returns
  have hts := atoms_spec (ws := wsX10_mended) B.pre
  have hown : s.vm.findClass RX10 = some m.cls := findClass_of_methodNamed B.named
  have hlocks := B.notSynchronized
  subst hsz
  have hD := hD0.self (sz := s.heap.size)
  generalize hAe : va_A [(o, .inr (10, [.ref tp, .ref rd, .ref pr, .ref bx, .ref rw, .ref lt, .ref od, .ref se, .ref gm, .ref wl, .ref cu, .ref sp])), (lt, .inr (1, [.ref lg])), (lg, .inl (cI, 26, .inl flg)), (cu, .inr (8, [.ref cu_name, .ref cu_worth, .ref cu_times, .ref cu_first, .ref cu_second, .ref cu_beforeLast, .ref cu_last, .ref cu_errandOf, .ref cu_errandAfter, .ref cu_sound, .ref cu_followers, .ref cu_leaders, .int 0, .int 0, .int 0, .int (-1)])), (cu_sound, .inl (cI, 26, .inl fcu_sound))] s.heap.size = A at hD ⊢
  have hA : ∀ q : Nat, s.heap.size ≤ q → A q := fun q h => by rw [← hAe]; exact Or.inr h
  have hS : va_S A s.heap s.heap [] := va_S.rf
  have hP : va_P D vwCl [(o, .inr (10, [.ref tp, .ref rd, .ref pr, .ref bx, .ref rw, .ref lt, .ref od, .ref se, .ref gm, .ref wl, .ref cu, .ref sp])), (lt, .inr (1, [.ref lg])), (lg, .inl (cI, 26, .inl flg)), (cu, .inr (8, [.ref cu_name, .ref cu_worth, .ref cu_times, .ref cu_first, .ref cu_second, .ref cu_beforeLast, .ref cu_last, .ref cu_errandOf, .ref cu_errandAfter, .ref cu_sound, .ref cu_followers, .ref cu_leaders, .int 0, .int 0, .int 0, .int (-1)])), (cu_sound, .inl (cI, 26, .inl fcu_sound))] s.heap := hP
  have hl := lv_entry ([.ref o]) (n := 1) (Nat.le_of_ble_eq_true rfl)
  rw [lg_entry_eq]
  generalize (lg_sl ([.ref o]) ++ List.replicate (1 - (lg_sl ([.ref o])).length) Slot.unset).toArray = ls at hl ⊢
  have hl : lv_has ls 1 [(0, .ref o)] := hl
  refine lv_aload_n hx hb dX10_mended_0 rfl (lv_at hl 0 rfl) ?_
  refine va_get (D := D) (ci := 10) (v := .ref lt) (C := RX10) (T := TX10) (N := 12) hx hb hts (by decide +kernel) hown hK hP 0 rfl rfl 5 (by decide) (hts (.fieldLink RX10 46 "LastLetter" "letters" "LLastLetter$Letters;") (by decide +kernel)) (fun _ h9 => h9) rfl dX10_mended_1 ?_
  refine lv_aload_n hx hb dX10_mended_4 rfl (lv_at hl 0 rfl) ?_
  refine va_get (D := D) (ci := 10) (v := .ref cu) (C := RX10) (T := TX10) (N := 12) hx hb hts (by decide +kernel) hown hK hP 0 rfl rfl 10 (by decide) (hts (.fieldLink RX10 81 "LastLetter" "current" "LLastLetter$Tongue;") (by decide +kernel)) (fun _ h9 => h9) rfl dX10_mended_5 ?_
  refine xCi (wr := [(o, .inr (10, [.ref tp, .ref rd, .ref pr, .ref bx, .ref rw, .ref lt, .ref od, .ref se, .ref gm, .ref wl, .ref cu, .ref sp]))]) (win := [(lt, .inr (1, [.ref lg])), (cu, .inr (8, [.ref cu_name, .ref cu_worth, .ref cu_times, .ref cu_first, .ref cu_second, .ref cu_beforeLast, .ref cu_last, .ref cu_errandOf, .ref cu_errandAfter, .ref cu_sound, .ref cu_followers, .ref cu_leaders, .int 0, .int 0, .int 0, .int (-1)])), (lg, .inl (cI, 26, .inl flg)), (cu_sound, .inl (cI, 26, .inl fcu_sound))]) hP hD hS hA [1, 3, 2, 4] [0] rfl rfl (by decide) (by decide) (va_runV (As := [.ref cu]) (rest := []) ⟨hx, hb, hml, hown, hts⟩ (c_X1_lacking l D cB cI cJ cS cZ cO s.heap.size lt cu lg cu_name cu_worth cu_times cu_first cu_second cu_beforeLast cu_last cu_errandOf cu_errandAfter cu_sound cu_followers cu_leaders 0 0 (-1) flg fcu_sound ) (cwV 1 hts gX10_mended_X1_lacking rfl rfl rfl (by decide +kernel) ⟨Nat.le_of_ble_eq_true rfl, Nat.le_of_ble_eq_true rfl⟩) (xPreV (win := [(lt, .inr (1, [.ref lg])), (cu, .inr (8, [.ref cu_name, .ref cu_worth, .ref cu_times, .ref cu_first, .ref cu_second, .ref cu_beforeLast, .ref cu_last, .ref cu_errandOf, .ref cu_errandAfter, .ref cu_sound, .ref cu_followers, .ref cu_leaders, .int 0, .int 0, .int 0, .int (-1)])), (lg, .inl (cI, 26, .inl flg)), (cu_sound, .inl (cI, 26, .inl fcu_sound))]) hN hK hP hD [1, 3, 2, 4] (by decide) rfl 1 1 rfl rfl rfl) rfl rfl hl.1 rfl (lv_room (Nat.le_of_ble_eq_true rfl)) dX10_mended_8 ⟨Nat.le_of_ble_eq_true rfl, Nat.le_of_ble_eq_true rfl⟩) (fun r0 w0 H locs hw hP hD hS => ?_)
  obtain ⟨rfl, rfl⟩ := hw
  have hP : va_P D vwCl [(o, .inr (10, [.ref tp, .ref rd, .ref pr, .ref bx, .ref rw, .ref lt, .ref od, .ref se, .ref gm, .ref wl, .ref cu, .ref sp])), (lt, .inr (1, [.ref lg])), (cu, .inr (8, [.ref cu_name, .ref cu_worth, .ref cu_times, .ref cu_first, .ref cu_second, .ref cu_beforeLast, .ref cu_last, .ref cu_errandOf, .ref cu_errandAfter, .ref cu_sound, .ref cu_followers, .ref cu_leaders, .int 0, .int 0, .int 0, .int (-1)]))] H := hP
  have hD : va_D A [(o, .inr (10, [.ref tp, .ref rd, .ref pr, .ref bx, .ref rw, .ref lt, .ref od, .ref se, .ref gm, .ref wl, .ref cu, .ref sp])), (lt, .inr (1, [.ref lg])), (cu, .inr (8, [.ref cu_name, .ref cu_worth, .ref cu_times, .ref cu_first, .ref cu_second, .ref cu_beforeLast, .ref cu_last, .ref cu_errandOf, .ref cu_errandAfter, .ref cu_sound, .ref cu_followers, .ref cu_leaders, .int 0, .int 0, .int 0, .int (-1)]))] := hD
  have hP9 := hP.sub (ws' := []) [] rfl
  have hD9 := hD.sub (ws' := []) [] (by decide) rfl
  refine W.widen (k := 0) (n := 0) (Nat.le_of_ble_eq_true rfl) (Nat.le_of_ble_eq_true rfl) ?_
  exact W.iret (v := 0) hx hb hr (fun tz htz hWz => ⟨⟨0, [], rfl, ⟨rfl, rfl⟩, by rw [htz]; exact hP9, va_K.moved hWz.alike hK, hD9⟩, hS.F htz⟩) hS.2.2 dX10_mended_11

set_option maxHeartbeats 4000000 in
set_option maxRecDepth 100000 in
theorem p_X10_join (l : Launch) (D : va_G) (cB cI cJ cS cZ cO : ClassId) (sz : Nat) (o : Nat) (x : Int32) (y : Int32) (tp : Nat) (rd : Nat) (pr : Nat) (bx : Nat) (rw : Nat) (lt : Nat) (od : Nat) (se : Nat) (gm : Nat) (wl : Nat) (cu : Nat) (sp : Nat) (ri : Nat) (cu_name : Nat) (cu_worth : Nat) (cu_times : Nat) (cu_first : Nat) (cu_second : Nat) (cu_beforeLast : Nat) (cu_last : Nat) (cu_errandOf : Nat) (cu_errandAfter : Nat) (cu_sound : Nat) (cu_followers : Nat) (cu_leaders : Nat) : Met l yX10_join wsX10_join ({ frames := 1, cells := 0, slots := 0, locals := 21 }) (xPre D (tyL cB cI cJ cS cZ cO) [(o, .inr (10, [.ref tp, .ref rd, .ref pr, .ref bx, .ref rw, .ref lt, .ref od, .ref se, .ref gm, .ref wl, .ref cu, .ref sp])), (rw, .inr (4, [.ref ri, .int 0])), (cu, .inr (8, [.ref cu_name, .ref cu_worth, .ref cu_times, .ref cu_first, .ref cu_second, .ref cu_beforeLast, .ref cu_last, .ref cu_errandOf, .ref cu_errandAfter, .ref cu_sound, .ref cu_followers, .ref cu_leaders, .int 0, .int 0, .int 0, .int (-1)]))] sz [.ref o, .int x, .int y]) (xQi D (tyL cB cI cJ cS cZ cO) (va_A [(o, .inr (10, [.ref tp, .ref rd, .ref pr, .ref bx, .ref rw, .ref lt, .ref od, .ref se, .ref gm, .ref wl, .ref cu, .ref sp])), (rw, .inr (4, [.ref ri, .int 0])), (cu, .inr (8, [.ref cu_name, .ref cu_worth, .ref cu_times, .ref cu_first, .ref cu_second, .ref cu_beforeLast, .ref cu_last, .ref cu_errandOf, .ref cu_errandAfter, .ref cu_sound, .ref cu_followers, .ref cu_leaders, .int 0, .int 0, .int 0, .int (-1)]))] sz) (fun (r : Int32) (u : va_W) => u = [] ∧ r = (-1))) 0 0 (va_A [(o, .inr (10, [.ref tp, .ref rd, .ref pr, .ref bx, .ref rw, .ref lt, .ref od, .ref se, .ref gm, .ref wl, .ref cu, .ref sp])), (rw, .inr (4, [.ref ri, .int 0])), (cu, .inr (8, [.ref cu_name, .ref cu_worth, .ref cu_times, .ref cu_first, .ref cu_second, .ref cu_beforeLast, .ref cu_last, .ref cu_errandOf, .ref cu_errandAfter, .ref cu_sound, .ref cu_followers, .ref cu_leaders, .int 0, .int 0, .int 0, .int (-1)]))] sz) := by
  refine Met.ofW (cc := cX10_join) (maxL := 3) (ret := (some .int)) (by decide) rfl ?_
  intro p e s m args below meth c s₁ B hml hv
  obtain ⟨rfl, hsz, hP, hK, hD0, hN⟩ := hv
  have hx := B.exec
  have hb := B.bytes
  have hr := B.returns
  have hts := atoms_spec (ws := wsX10_join) B.pre
  have hown : s.vm.findClass RX10 = some m.cls := findClass_of_methodNamed B.named
  have hlocks := B.notSynchronized
  subst hsz
  have hD := hD0.self (sz := s.heap.size)
  generalize hAe : va_A [(o, .inr (10, [.ref tp, .ref rd, .ref pr, .ref bx, .ref rw, .ref lt, .ref od, .ref se, .ref gm, .ref wl, .ref cu, .ref sp])), (rw, .inr (4, [.ref ri, .int 0])), (cu, .inr (8, [.ref cu_name, .ref cu_worth, .ref cu_times, .ref cu_first, .ref cu_second, .ref cu_beforeLast, .ref cu_last, .ref cu_errandOf, .ref cu_errandAfter, .ref cu_sound, .ref cu_followers, .ref cu_leaders, .int 0, .int 0, .int 0, .int (-1)]))] s.heap.size = A at hD ⊢
  have hA : ∀ q : Nat, s.heap.size ≤ q → A q := fun q h => by rw [← hAe]; exact Or.inr h
  have hS : va_S A s.heap s.heap [] := va_S.rf
  have hP : va_P D vwCl [(o, .inr (10, [.ref tp, .ref rd, .ref pr, .ref bx, .ref rw, .ref lt, .ref od, .ref se, .ref gm, .ref wl, .ref cu, .ref sp])), (rw, .inr (4, [.ref ri, .int 0])), (cu, .inr (8, [.ref cu_name, .ref cu_worth, .ref cu_times, .ref cu_first, .ref cu_second, .ref cu_beforeLast, .ref cu_last, .ref cu_errandOf, .ref cu_errandAfter, .ref cu_sound, .ref cu_followers, .ref cu_leaders, .int 0, .int 0, .int 0, .int (-1)]))] s.heap := hP
  have hl := lv_entry ([.ref o, .int x, .int y]) (n := 3) (Nat.le_of_ble_eq_true rfl)
  rw [lg_entry_eq]
  generalize (lg_sl ([.ref o, .int x, .int y]) ++ List.replicate (3 - (lg_sl ([.ref o, .int x, .int y])).length) Slot.unset).toArray = ls at hl ⊢
  have hl : lv_has ls 3 [(0, .ref o), (1, .int x), (2, .int y)] := hl
  refine lv_aload_n hx hb dX10_join_0 rfl (lv_at hl 0 rfl) ?_
  refine va_get (D := D) (ci := 10) (v := .ref rw) (C := RX10) (T := TX10) (N := 12) hx hb hts (by decide +kernel) hown hK hP 0 rfl rfl 4 (by decide) (hts (.fieldLink RX10 39 "LastLetter" "row" "LLastLetter$Row;") (by decide +kernel)) (fun _ h9 => h9) rfl dX10_join_1 ?_
  refine lv_iconst (v := 0) hx hb dX10_join_4 (by decide) ?_
  refine va_putN (D := D) (ci := 4) (v := .int 0) (ty := .int) (C := RX4) (T := TX4) (N := 2) hx hb hts (by decide +kernel) tyX4 tyX4_ok nmX4 hown hK hP hD hS 1 rfl rfl 1 (by decide) (va_Nw.use rfl (hN.1 (RX10, 110, RX4, "size", "I", RX10) (by decide +kernel))) (fun _ h9 => h9) rfl (by decide +kernel) rfl rfl (Nat.le_of_ble_eq_true rfl) dX10_join_5 (fun H locs hP hD hS => ?_)
  have hP : va_P D vwCl [(o, .inr (10, [.ref tp, .ref rd, .ref pr, .ref bx, .ref rw, .ref lt, .ref od, .ref se, .ref gm, .ref wl, .ref cu, .ref sp])), (rw, .inr (4, [.ref ri, .int 0])), (cu, .inr (8, [.ref cu_name, .ref cu_worth, .ref cu_times, .ref cu_first, .ref cu_second, .ref cu_beforeLast, .ref cu_last, .ref cu_errandOf, .ref cu_errandAfter, .ref cu_sound, .ref cu_followers, .ref cu_leaders, .int 0, .int 0, .int 0, .int (-1)]))] H := hP
  have hD : va_D A [(o, .inr (10, [.ref tp, .ref rd, .ref pr, .ref bx, .ref rw, .ref lt, .ref od, .ref se, .ref gm, .ref wl, .ref cu, .ref sp])), (rw, .inr (4, [.ref ri, .int 0])), (cu, .inr (8, [.ref cu_name, .ref cu_worth, .ref cu_times, .ref cu_first, .ref cu_second, .ref cu_beforeLast, .ref cu_last, .ref cu_errandOf, .ref cu_errandAfter, .ref cu_sound, .ref cu_followers, .ref cu_leaders, .int 0, .int 0, .int 0, .int (-1)]))] := hD
  refine lv_aload_n hx hb dX10_join_8 rfl (lv_at hl 0 rfl) ?_
  refine va_get (D := D) (ci := 10) (v := .ref cu) (C := RX10) (T := TX10) (N := 12) hx hb hts (by decide +kernel) hown hK hP 0 rfl rfl 10 (by decide) (hts (.fieldLink RX10 81 "LastLetter" "current" "LLastLetter$Tongue;") (by decide +kernel)) (fun _ h9 => h9) rfl dX10_join_9 ?_
  refine lv_iload_n hx hb dX10_join_12 rfl (lv_at hl 1 rfl) ?_
  refine xCi (wr := [(o, .inr (10, [.ref tp, .ref rd, .ref pr, .ref bx, .ref rw, .ref lt, .ref od, .ref se, .ref gm, .ref wl, .ref cu, .ref sp])), (rw, .inr (4, [.ref ri, .int 0]))]) (win := [(cu, .inr (8, [.ref cu_name, .ref cu_worth, .ref cu_times, .ref cu_first, .ref cu_second, .ref cu_beforeLast, .ref cu_last, .ref cu_errandOf, .ref cu_errandAfter, .ref cu_sound, .ref cu_followers, .ref cu_leaders, .int 0, .int 0, .int 0, .int (-1)]))]) hP hD hS hA [2] [0, 1] rfl rfl (by decide) (by decide) (va_runV (As := [.int x]) (rest := []) ⟨hx, hb, hml, hown, hts⟩ (c_X8_has l D cB cI cJ cS cZ cO H.size cu x cu_name cu_worth cu_times cu_first cu_second cu_beforeLast cu_last cu_errandOf cu_errandAfter cu_sound cu_followers cu_leaders 0 0 (-1) ) (cwV 1 hts gX10_join_X8_has rfl rfl rfl (by decide +kernel) ⟨Nat.le_of_ble_eq_true rfl, Nat.le_of_ble_eq_true rfl⟩) (xPreV (win := [(cu, .inr (8, [.ref cu_name, .ref cu_worth, .ref cu_times, .ref cu_first, .ref cu_second, .ref cu_beforeLast, .ref cu_last, .ref cu_errandOf, .ref cu_errandAfter, .ref cu_sound, .ref cu_followers, .ref cu_leaders, .int 0, .int 0, .int 0, .int (-1)]))]) hN hK hP hD [2] (by decide) rfl 2 8 rfl rfl rfl) rfl rfl hl.1 rfl (lv_room (Nat.le_of_ble_eq_true rfl)) dX10_join_13 ⟨Nat.le_of_ble_eq_true rfl, Nat.le_of_ble_eq_true rfl⟩) (fun r0 w0 H locs hw hP hD hS => ?_)
  obtain ⟨rfl, rfl⟩ := hw
  have hP : va_P D vwCl [(o, .inr (10, [.ref tp, .ref rd, .ref pr, .ref bx, .ref rw, .ref lt, .ref od, .ref se, .ref gm, .ref wl, .ref cu, .ref sp])), (rw, .inr (4, [.ref ri, .int 0])), (cu, .inr (8, [.ref cu_name, .ref cu_worth, .ref cu_times, .ref cu_first, .ref cu_second, .ref cu_beforeLast, .ref cu_last, .ref cu_errandOf, .ref cu_errandAfter, .ref cu_sound, .ref cu_followers, .ref cu_leaders, .int 0, .int 0, .int 0, .int (-1)]))] H := hP
  have hD : va_D A [(o, .inr (10, [.ref tp, .ref rd, .ref pr, .ref bx, .ref rw, .ref lt, .ref od, .ref se, .ref gm, .ref wl, .ref cu, .ref sp])), (rw, .inr (4, [.ref ri, .int 0])), (cu, .inr (8, [.ref cu_name, .ref cu_worth, .ref cu_times, .ref cu_first, .ref cu_second, .ref cu_beforeLast, .ref cu_last, .ref cu_errandOf, .ref cu_errandAfter, .ref cu_sound, .ref cu_followers, .ref cu_leaders, .int 0, .int 0, .int 0, .int (-1)]))] := hD
  refine lv_if_eq (tgt := 30) hx hb dX10_join_16 (by decide) (fun c_1 => ?_) (fun c_1 => absurd (by decide) c_1)
  refine lv_iconst (v := (-1)) hx hb dX10_join_30 (by decide) ?_
  have hP9 := hP.sub (ws' := []) [] rfl
  have hD9 := hD.sub (ws' := []) [] (by decide) rfl
  refine W.widen (k := 0) (n := 0) (Nat.le_of_ble_eq_true rfl) (Nat.le_of_ble_eq_true rfl) ?_
  exact W.iret (v := (-1)) hx hb hr (fun tz htz hWz => ⟨⟨(-1), [], rfl, ⟨rfl, rfl⟩, by rw [htz]; exact hP9, va_K.moved hWz.alike hK, hD9⟩, hS.F htz⟩) hS.2.2 dX10_join_31

set_option maxHeartbeats 4000000 in
set_option maxRecDepth 100000 in
theorem p_X10_telling (l : Launch) (D : va_G) (cB cI cJ cS cZ cO : ClassId) (sz : Nat) (o : Nat) (tp : Nat) (rd : Nat) (pr : Nat) (bx : Nat) (rw : Nat) (lt : Nat) (od : Nat) (se : Nat) (gm : Nat) (wl : Nat) (cu : Nat) (sp : Nat) (ri : Nat) (cu_name : Nat) (cu_worth : Nat) (cu_times : Nat) (cu_first : Nat) (cu_second : Nat) (cu_beforeLast : Nat) (cu_last : Nat) (cu_errandOf : Nat) (cu_errandAfter : Nat) (cu_sound : Nat) (cu_followers : Nat) (cu_leaders : Nat) : Met l yX10_telling wsX10_telling ({ frames := 0, cells := 0, slots := 0, locals := 0 }) (xPre D (tyL cB cI cJ cS cZ cO) [(o, .inr (10, [.ref tp, .ref rd, .ref pr, .ref bx, .ref rw, .ref lt, .ref od, .ref se, .ref gm, .ref wl, .ref cu, .ref sp])), (rw, .inr (4, [.ref ri, .int 0])), (cu, .inr (8, [.ref cu_name, .ref cu_worth, .ref cu_times, .ref cu_first, .ref cu_second, .ref cu_beforeLast, .ref cu_last, .ref cu_errandOf, .ref cu_errandAfter, .ref cu_sound, .ref cu_followers, .ref cu_leaders, .int 0, .int 0, .int 0, .int (-1)]))] sz [.ref o]) (xQi D (tyL cB cI cJ cS cZ cO) (va_A [(o, .inr (10, [.ref tp, .ref rd, .ref pr, .ref bx, .ref rw, .ref lt, .ref od, .ref se, .ref gm, .ref wl, .ref cu, .ref sp])), (rw, .inr (4, [.ref ri, .int 0])), (cu, .inr (8, [.ref cu_name, .ref cu_worth, .ref cu_times, .ref cu_first, .ref cu_second, .ref cu_beforeLast, .ref cu_last, .ref cu_errandOf, .ref cu_errandAfter, .ref cu_sound, .ref cu_followers, .ref cu_leaders, .int 0, .int 0, .int 0, .int (-1)]))] sz) (fun (r : Int32) (u : va_W) => u = [] ∧ r = 0)) 0 0 (va_A [(o, .inr (10, [.ref tp, .ref rd, .ref pr, .ref bx, .ref rw, .ref lt, .ref od, .ref se, .ref gm, .ref wl, .ref cu, .ref sp])), (rw, .inr (4, [.ref ri, .int 0])), (cu, .inr (8, [.ref cu_name, .ref cu_worth, .ref cu_times, .ref cu_first, .ref cu_second, .ref cu_beforeLast, .ref cu_last, .ref cu_errandOf, .ref cu_errandAfter, .ref cu_sound, .ref cu_followers, .ref cu_leaders, .int 0, .int 0, .int 0, .int (-1)]))] sz) := by
  refine Met.ofW (cc := cX10_telling) (maxL := 1) (ret := (some .int)) (by decide) rfl ?_
  intro p e s m args below meth c s₁ B hml hv
  obtain ⟨rfl, hsz, hP, hK, hD0, hN⟩ := hv
  have hx := B.exec
  have hb := B.bytes
  have hr := B.returns
  have hts := atoms_spec (ws := wsX10_telling) B.pre
  have hown : s.vm.findClass RX10 = some m.cls := findClass_of_methodNamed B.named
  have hlocks := B.notSynchronized
  subst hsz
  have hD := hD0.self (sz := s.heap.size)
  generalize hAe : va_A [(o, .inr (10, [.ref tp, .ref rd, .ref pr, .ref bx, .ref rw, .ref lt, .ref od, .ref se, .ref gm, .ref wl, .ref cu, .ref sp])), (rw, .inr (4, [.ref ri, .int 0])), (cu, .inr (8, [.ref cu_name, .ref cu_worth, .ref cu_times, .ref cu_first, .ref cu_second, .ref cu_beforeLast, .ref cu_last, .ref cu_errandOf, .ref cu_errandAfter, .ref cu_sound, .ref cu_followers, .ref cu_leaders, .int 0, .int 0, .int 0, .int (-1)]))] s.heap.size = A at hD ⊢
  have hA : ∀ q : Nat, s.heap.size ≤ q → A q := fun q h => by rw [← hAe]; exact Or.inr h
  have hS : va_S A s.heap s.heap [] := va_S.rf
  have hP : va_P D vwCl [(o, .inr (10, [.ref tp, .ref rd, .ref pr, .ref bx, .ref rw, .ref lt, .ref od, .ref se, .ref gm, .ref wl, .ref cu, .ref sp])), (rw, .inr (4, [.ref ri, .int 0])), (cu, .inr (8, [.ref cu_name, .ref cu_worth, .ref cu_times, .ref cu_first, .ref cu_second, .ref cu_beforeLast, .ref cu_last, .ref cu_errandOf, .ref cu_errandAfter, .ref cu_sound, .ref cu_followers, .ref cu_leaders, .int 0, .int 0, .int 0, .int (-1)]))] s.heap := hP
  have hl := lv_entry ([.ref o]) (n := 1) (Nat.le_of_ble_eq_true rfl)
  rw [lg_entry_eq]
  generalize (lg_sl ([.ref o]) ++ List.replicate (1 - (lg_sl ([.ref o])).length) Slot.unset).toArray = ls at hl ⊢
  have hl : lv_has ls 1 [(0, .ref o)] := hl
  refine lv_aload_n hx hb dX10_telling_0 rfl (lv_at hl 0 rfl) ?_
  refine va_get (D := D) (ci := 10) (v := .ref rw) (C := RX10) (T := TX10) (N := 12) hx hb hts (by decide +kernel) hown hK hP 0 rfl rfl 4 (by decide) (hts (.fieldLink RX10 39 "LastLetter" "row" "LLastLetter$Row;") (by decide +kernel)) (fun _ h9 => h9) rfl dX10_telling_1 ?_
  refine lv_iconst (v := 0) hx hb dX10_telling_4 (by decide) ?_
  refine va_putN (D := D) (ci := 4) (v := .int 0) (ty := .int) (C := RX4) (T := TX4) (N := 2) hx hb hts (by decide +kernel) tyX4 tyX4_ok nmX4 hown hK hP hD hS 1 rfl rfl 1 (by decide) (va_Nw.use rfl (hN.1 (RX10, 110, RX4, "size", "I", RX10) (by decide +kernel))) (fun _ h9 => h9) rfl (by decide +kernel) rfl rfl (Nat.le_of_ble_eq_true rfl) dX10_telling_5 (fun H locs hP hD hS => ?_)
  have hP : va_P D vwCl [(o, .inr (10, [.ref tp, .ref rd, .ref pr, .ref bx, .ref rw, .ref lt, .ref od, .ref se, .ref gm, .ref wl, .ref cu, .ref sp])), (rw, .inr (4, [.ref ri, .int 0])), (cu, .inr (8, [.ref cu_name, .ref cu_worth, .ref cu_times, .ref cu_first, .ref cu_second, .ref cu_beforeLast, .ref cu_last, .ref cu_errandOf, .ref cu_errandAfter, .ref cu_sound, .ref cu_followers, .ref cu_leaders, .int 0, .int 0, .int 0, .int (-1)]))] H := hP
  have hD : va_D A [(o, .inr (10, [.ref tp, .ref rd, .ref pr, .ref bx, .ref rw, .ref lt, .ref od, .ref se, .ref gm, .ref wl, .ref cu, .ref sp])), (rw, .inr (4, [.ref ri, .int 0])), (cu, .inr (8, [.ref cu_name, .ref cu_worth, .ref cu_times, .ref cu_first, .ref cu_second, .ref cu_beforeLast, .ref cu_last, .ref cu_errandOf, .ref cu_errandAfter, .ref cu_sound, .ref cu_followers, .ref cu_leaders, .int 0, .int 0, .int 0, .int (-1)]))] := hD
  refine lv_aload_n hx hb dX10_telling_8 rfl (lv_at hl 0 rfl) ?_
  refine va_get (D := D) (ci := 10) (v := .ref cu) (C := RX10) (T := TX10) (N := 12) hx hb hts (by decide +kernel) hown hK hP 0 rfl rfl 10 (by decide) (hts (.fieldLink RX10 81 "LastLetter" "current" "LLastLetter$Tongue;") (by decide +kernel)) (fun _ h9 => h9) rfl dX10_telling_9 ?_
  refine va_getN (D := D) (ci := 8) (v := .int 0) (C := RX8) (T := TX8) (N := 16) hx hb hts (by decide +kernel) hown hK hP 2 rfl rfl 13 (by decide) (va_Nw.use rfl (hN.1 (RX10, 202, RX8, "errands", "I", RX10) (by decide +kernel))) (fun _ h9 => h9) rfl dX10_telling_12 ?_
  refine lv_if_ne (tgt := 22) hx hb dX10_telling_15 (by decide) (fun c_1 => absurd c_1 (by decide)) (fun c_1 => ?_)
  refine lv_iconst (v := 0) hx hb dX10_telling_18 (by decide) ?_
  refine lv_goto (tgt := 37) hx hb dX10_telling_19 (by decide) ?_
  have hP9 := hP.sub (ws' := []) [] rfl
  have hD9 := hD.sub (ws' := []) [] (by decide) rfl
  refine W.widen (k := 0) (n := 0) (Nat.le_of_ble_eq_true rfl) (Nat.le_of_ble_eq_true rfl) ?_
  exact W.iret (v := 0) hx hb hr (fun tz htz hWz => ⟨⟨0, [], rfl, ⟨rfl, rfl⟩, by rw [htz]; exact hP9, va_K.moved hWz.alike hK, hD9⟩, hS.F htz⟩) hS.2.2 dX10_telling_37

set_option maxHeartbeats 4000000 in
set_option maxRecDepth 100000 in
theorem p_X10_game (l : Launch) (D : va_G) (cB cI cJ cS cZ cO : ClassId) (sz : Nat) (o : Nat) (x : Int32) (tp : Nat) (rd : Nat) (pr : Nat) (bx : Nat) (rw : Nat) (lt : Nat) (od : Nat) (se : Nat) (gm : Nat) (wl : Nat) (cu : Nat) (sp : Nat) (cu_name : Nat) (cu_worth : Nat) (cu_times : Nat) (cu_first : Nat) (cu_second : Nat) (cu_beforeLast : Nat) (cu_last : Nat) (cu_errandOf : Nat) (cu_errandAfter : Nat) (cu_sound : Nat) (cu_followers : Nat) (cu_leaders : Nat) : Met l yX10_game wsX10_game ({ frames := 1, cells := 0, slots := 0, locals := 21 }) (xPre D (tyL cB cI cJ cS cZ cO) [(o, .inr (10, [.ref tp, .ref rd, .ref pr, .ref bx, .ref rw, .ref lt, .ref od, .ref se, .ref gm, .ref wl, .ref cu, .ref sp])), (cu, .inr (8, [.ref cu_name, .ref cu_worth, .ref cu_times, .ref cu_first, .ref cu_second, .ref cu_beforeLast, .ref cu_last, .ref cu_errandOf, .ref cu_errandAfter, .ref cu_sound, .ref cu_followers, .ref cu_leaders, .int 0, .int 0, .int 0, .int (-1)]))] sz [.ref o, .int x]) (xQi D (tyL cB cI cJ cS cZ cO) (va_A [(o, .inr (10, [.ref tp, .ref rd, .ref pr, .ref bx, .ref rw, .ref lt, .ref od, .ref se, .ref gm, .ref wl, .ref cu, .ref sp])), (cu, .inr (8, [.ref cu_name, .ref cu_worth, .ref cu_times, .ref cu_first, .ref cu_second, .ref cu_beforeLast, .ref cu_last, .ref cu_errandOf, .ref cu_errandAfter, .ref cu_sound, .ref cu_followers, .ref cu_leaders, .int 0, .int 0, .int 0, .int (-1)]))] sz) (fun (r : Int32) (u : va_W) => u = [] ∧ r = (-1))) 0 0 (va_A [(o, .inr (10, [.ref tp, .ref rd, .ref pr, .ref bx, .ref rw, .ref lt, .ref od, .ref se, .ref gm, .ref wl, .ref cu, .ref sp])), (cu, .inr (8, [.ref cu_name, .ref cu_worth, .ref cu_times, .ref cu_first, .ref cu_second, .ref cu_beforeLast, .ref cu_last, .ref cu_errandOf, .ref cu_errandAfter, .ref cu_sound, .ref cu_followers, .ref cu_leaders, .int 0, .int 0, .int 0, .int (-1)]))] sz) := by
  refine Met.ofW (cc := cX10_game) (maxL := 2) (ret := (some .int)) (by decide) rfl ?_
  intro p e s m args below meth c s₁ B hml hv
  obtain ⟨rfl, hsz, hP, hK, hD0, hN⟩ := hv
  have hx := B.exec
  have hb := B.bytes
  have hr := B.returns
  have hts := atoms_spec (ws := wsX10_game) B.pre
  have hown : s.vm.findClass RX10 = some m.cls := findClass_of_methodNamed B.named
  have hlocks := B.notSynchronized
  subst hsz
  have hD := hD0.self (sz := s.heap.size)
  generalize hAe : va_A [(o, .inr (10, [.ref tp, .ref rd, .ref pr, .ref bx, .ref rw, .ref lt, .ref od, .ref se, .ref gm, .ref wl, .ref cu, .ref sp])), (cu, .inr (8, [.ref cu_name, .ref cu_worth, .ref cu_times, .ref cu_first, .ref cu_second, .ref cu_beforeLast, .ref cu_last, .ref cu_errandOf, .ref cu_errandAfter, .ref cu_sound, .ref cu_followers, .ref cu_leaders, .int 0, .int 0, .int 0, .int (-1)]))] s.heap.size = A at hD ⊢
  have hA : ∀ q : Nat, s.heap.size ≤ q → A q := fun q h => by rw [← hAe]; exact Or.inr h
  have hS : va_S A s.heap s.heap [] := va_S.rf
  have hP : va_P D vwCl [(o, .inr (10, [.ref tp, .ref rd, .ref pr, .ref bx, .ref rw, .ref lt, .ref od, .ref se, .ref gm, .ref wl, .ref cu, .ref sp])), (cu, .inr (8, [.ref cu_name, .ref cu_worth, .ref cu_times, .ref cu_first, .ref cu_second, .ref cu_beforeLast, .ref cu_last, .ref cu_errandOf, .ref cu_errandAfter, .ref cu_sound, .ref cu_followers, .ref cu_leaders, .int 0, .int 0, .int 0, .int (-1)]))] s.heap := hP
  have hl := lv_entry ([.ref o, .int x]) (n := 2) (Nat.le_of_ble_eq_true rfl)
  rw [lg_entry_eq]
  generalize (lg_sl ([.ref o, .int x]) ++ List.replicate (2 - (lg_sl ([.ref o, .int x])).length) Slot.unset).toArray = ls at hl ⊢
  have hl : lv_has ls 2 [(0, .ref o), (1, .int x)] := hl
  refine lv_aload_n hx hb dX10_game_0 rfl (lv_at hl 0 rfl) ?_
  refine va_get (D := D) (ci := 10) (v := .ref cu) (C := RX10) (T := TX10) (N := 12) hx hb hts (by decide +kernel) hown hK hP 0 rfl rfl 10 (by decide) (hts (.fieldLink RX10 81 "LastLetter" "current" "LLastLetter$Tongue;") (by decide +kernel)) (fun _ h9 => h9) rfl dX10_game_1 ?_
  refine lv_iload_n hx hb dX10_game_4 rfl (lv_at hl 1 rfl) ?_
  refine xCi (wr := [(o, .inr (10, [.ref tp, .ref rd, .ref pr, .ref bx, .ref rw, .ref lt, .ref od, .ref se, .ref gm, .ref wl, .ref cu, .ref sp]))]) (win := [(cu, .inr (8, [.ref cu_name, .ref cu_worth, .ref cu_times, .ref cu_first, .ref cu_second, .ref cu_beforeLast, .ref cu_last, .ref cu_errandOf, .ref cu_errandAfter, .ref cu_sound, .ref cu_followers, .ref cu_leaders, .int 0, .int 0, .int 0, .int (-1)]))]) hP hD hS hA [1] [0] rfl rfl (by decide) (by decide) (va_runV (As := [.int x]) (rest := []) ⟨hx, hb, hml, hown, hts⟩ (c_X8_has l D cB cI cJ cS cZ cO s.heap.size cu x cu_name cu_worth cu_times cu_first cu_second cu_beforeLast cu_last cu_errandOf cu_errandAfter cu_sound cu_followers cu_leaders 0 0 (-1) ) (cwV 1 hts gX10_game_X8_has rfl rfl rfl (by decide +kernel) ⟨Nat.le_of_ble_eq_true rfl, Nat.le_of_ble_eq_true rfl⟩) (xPreV (win := [(cu, .inr (8, [.ref cu_name, .ref cu_worth, .ref cu_times, .ref cu_first, .ref cu_second, .ref cu_beforeLast, .ref cu_last, .ref cu_errandOf, .ref cu_errandAfter, .ref cu_sound, .ref cu_followers, .ref cu_leaders, .int 0, .int 0, .int 0, .int (-1)]))]) hN hK hP hD [1] (by decide) rfl 1 8 rfl rfl rfl) rfl rfl hl.1 rfl (lv_room (Nat.le_of_ble_eq_true rfl)) dX10_game_5 ⟨Nat.le_of_ble_eq_true rfl, Nat.le_of_ble_eq_true rfl⟩) (fun r0 w0 H locs hw hP hD hS => ?_)
  obtain ⟨rfl, rfl⟩ := hw
  have hP : va_P D vwCl [(o, .inr (10, [.ref tp, .ref rd, .ref pr, .ref bx, .ref rw, .ref lt, .ref od, .ref se, .ref gm, .ref wl, .ref cu, .ref sp])), (cu, .inr (8, [.ref cu_name, .ref cu_worth, .ref cu_times, .ref cu_first, .ref cu_second, .ref cu_beforeLast, .ref cu_last, .ref cu_errandOf, .ref cu_errandAfter, .ref cu_sound, .ref cu_followers, .ref cu_leaders, .int 0, .int 0, .int 0, .int (-1)]))] H := hP
  have hD : va_D A [(o, .inr (10, [.ref tp, .ref rd, .ref pr, .ref bx, .ref rw, .ref lt, .ref od, .ref se, .ref gm, .ref wl, .ref cu, .ref sp])), (cu, .inr (8, [.ref cu_name, .ref cu_worth, .ref cu_times, .ref cu_first, .ref cu_second, .ref cu_beforeLast, .ref cu_last, .ref cu_errandOf, .ref cu_errandAfter, .ref cu_sound, .ref cu_followers, .ref cu_leaders, .int 0, .int 0, .int 0, .int (-1)]))] := hD
  refine lv_if_ne (tgt := 13) hx hb dX10_game_8 (by decide) (fun c_1 => absurd c_1 (by decide)) (fun c_1 => ?_)
  refine lv_iconst (v := (-1)) hx hb dX10_game_11 (by decide) ?_
  have hP9 := hP.sub (ws' := []) [] rfl
  have hD9 := hD.sub (ws' := []) [] (by decide) rfl
  refine W.widen (k := 0) (n := 0) (Nat.le_of_ble_eq_true rfl) (Nat.le_of_ble_eq_true rfl) ?_
  exact W.iret (v := (-1)) hx hb hr (fun tz htz hWz => ⟨⟨(-1), [], rfl, ⟨rfl, rfl⟩, by rw [htz]; exact hP9, va_K.moved hWz.alike hK, hD9⟩, hS.F htz⟩) hS.2.2 dX10_game_12

set_option maxHeartbeats 4000000 in
set_option maxRecDepth 100000 in
theorem p_X10_wins (l : Launch) (D : va_G) (cB cI cJ cS cZ cO : ClassId) (sz : Nat) (o : Nat) (x : Int32) (tp : Nat) (rd : Nat) (pr : Nat) (bx : Nat) (rw : Nat) (lt : Nat) (od : Nat) (se : Nat) (gm : Nat) (wl : Nat) (cu : Nat) (sp : Nat) (cu_name : Nat) (cu_worth : Nat) (cu_times : Nat) (cu_first : Nat) (cu_second : Nat) (cu_beforeLast : Nat) (cu_last : Nat) (cu_errandOf : Nat) (cu_errandAfter : Nat) (cu_sound : Nat) (cu_followers : Nat) (cu_leaders : Nat) : Met l yX10_wins wsX10_wins ({ frames := 1, cells := 0, slots := 0, locals := 21 }) (xPre D (tyL cB cI cJ cS cZ cO) [(o, .inr (10, [.ref tp, .ref rd, .ref pr, .ref bx, .ref rw, .ref lt, .ref od, .ref se, .ref gm, .ref wl, .ref cu, .ref sp])), (cu, .inr (8, [.ref cu_name, .ref cu_worth, .ref cu_times, .ref cu_first, .ref cu_second, .ref cu_beforeLast, .ref cu_last, .ref cu_errandOf, .ref cu_errandAfter, .ref cu_sound, .ref cu_followers, .ref cu_leaders, .int 0, .int 0, .int 0, .int (-1)]))] sz [.ref o, .int x]) (xQi D (tyL cB cI cJ cS cZ cO) (va_A [(o, .inr (10, [.ref tp, .ref rd, .ref pr, .ref bx, .ref rw, .ref lt, .ref od, .ref se, .ref gm, .ref wl, .ref cu, .ref sp])), (cu, .inr (8, [.ref cu_name, .ref cu_worth, .ref cu_times, .ref cu_first, .ref cu_second, .ref cu_beforeLast, .ref cu_last, .ref cu_errandOf, .ref cu_errandAfter, .ref cu_sound, .ref cu_followers, .ref cu_leaders, .int 0, .int 0, .int 0, .int (-1)]))] sz) (fun (r : Int32) (u : va_W) => u = [] ∧ r = (-1))) 0 0 (va_A [(o, .inr (10, [.ref tp, .ref rd, .ref pr, .ref bx, .ref rw, .ref lt, .ref od, .ref se, .ref gm, .ref wl, .ref cu, .ref sp])), (cu, .inr (8, [.ref cu_name, .ref cu_worth, .ref cu_times, .ref cu_first, .ref cu_second, .ref cu_beforeLast, .ref cu_last, .ref cu_errandOf, .ref cu_errandAfter, .ref cu_sound, .ref cu_followers, .ref cu_leaders, .int 0, .int 0, .int 0, .int (-1)]))] sz) := by
  refine Met.ofW (cc := cX10_wins) (maxL := 2) (ret := (some .int)) (by decide) rfl ?_
  intro p e s m args below meth c s₁ B hml hv
  obtain ⟨rfl, hsz, hP, hK, hD0, hN⟩ := hv
  have hx := B.exec
  have hb := B.bytes
  have hr := B.returns
  have hts := atoms_spec (ws := wsX10_wins) B.pre
  have hown : s.vm.findClass RX10 = some m.cls := findClass_of_methodNamed B.named
  have hlocks := B.notSynchronized
  subst hsz
  have hD := hD0.self (sz := s.heap.size)
  generalize hAe : va_A [(o, .inr (10, [.ref tp, .ref rd, .ref pr, .ref bx, .ref rw, .ref lt, .ref od, .ref se, .ref gm, .ref wl, .ref cu, .ref sp])), (cu, .inr (8, [.ref cu_name, .ref cu_worth, .ref cu_times, .ref cu_first, .ref cu_second, .ref cu_beforeLast, .ref cu_last, .ref cu_errandOf, .ref cu_errandAfter, .ref cu_sound, .ref cu_followers, .ref cu_leaders, .int 0, .int 0, .int 0, .int (-1)]))] s.heap.size = A at hD ⊢
  have hA : ∀ q : Nat, s.heap.size ≤ q → A q := fun q h => by rw [← hAe]; exact Or.inr h
  have hS : va_S A s.heap s.heap [] := va_S.rf
  have hP : va_P D vwCl [(o, .inr (10, [.ref tp, .ref rd, .ref pr, .ref bx, .ref rw, .ref lt, .ref od, .ref se, .ref gm, .ref wl, .ref cu, .ref sp])), (cu, .inr (8, [.ref cu_name, .ref cu_worth, .ref cu_times, .ref cu_first, .ref cu_second, .ref cu_beforeLast, .ref cu_last, .ref cu_errandOf, .ref cu_errandAfter, .ref cu_sound, .ref cu_followers, .ref cu_leaders, .int 0, .int 0, .int 0, .int (-1)]))] s.heap := hP
  have hl := lv_entry ([.ref o, .int x]) (n := 2) (Nat.le_of_ble_eq_true rfl)
  rw [lg_entry_eq]
  generalize (lg_sl ([.ref o, .int x]) ++ List.replicate (2 - (lg_sl ([.ref o, .int x])).length) Slot.unset).toArray = ls at hl ⊢
  have hl : lv_has ls 2 [(0, .ref o), (1, .int x)] := hl
  refine lv_aload_n hx hb dX10_wins_0 rfl (lv_at hl 0 rfl) ?_
  refine va_get (D := D) (ci := 10) (v := .ref cu) (C := RX10) (T := TX10) (N := 12) hx hb hts (by decide +kernel) hown hK hP 0 rfl rfl 10 (by decide) (hts (.fieldLink RX10 81 "LastLetter" "current" "LLastLetter$Tongue;") (by decide +kernel)) (fun _ h9 => h9) rfl dX10_wins_1 ?_
  refine lv_iload_n hx hb dX10_wins_4 rfl (lv_at hl 1 rfl) ?_
  refine xCi (wr := [(o, .inr (10, [.ref tp, .ref rd, .ref pr, .ref bx, .ref rw, .ref lt, .ref od, .ref se, .ref gm, .ref wl, .ref cu, .ref sp]))]) (win := [(cu, .inr (8, [.ref cu_name, .ref cu_worth, .ref cu_times, .ref cu_first, .ref cu_second, .ref cu_beforeLast, .ref cu_last, .ref cu_errandOf, .ref cu_errandAfter, .ref cu_sound, .ref cu_followers, .ref cu_leaders, .int 0, .int 0, .int 0, .int (-1)]))]) hP hD hS hA [1] [0] rfl rfl (by decide) (by decide) (va_runV (As := [.int x]) (rest := []) ⟨hx, hb, hml, hown, hts⟩ (c_X8_has l D cB cI cJ cS cZ cO s.heap.size cu x cu_name cu_worth cu_times cu_first cu_second cu_beforeLast cu_last cu_errandOf cu_errandAfter cu_sound cu_followers cu_leaders 0 0 (-1) ) (cwV 1 hts gX10_wins_X8_has rfl rfl rfl (by decide +kernel) ⟨Nat.le_of_ble_eq_true rfl, Nat.le_of_ble_eq_true rfl⟩) (xPreV (win := [(cu, .inr (8, [.ref cu_name, .ref cu_worth, .ref cu_times, .ref cu_first, .ref cu_second, .ref cu_beforeLast, .ref cu_last, .ref cu_errandOf, .ref cu_errandAfter, .ref cu_sound, .ref cu_followers, .ref cu_leaders, .int 0, .int 0, .int 0, .int (-1)]))]) hN hK hP hD [1] (by decide) rfl 1 8 rfl rfl rfl) rfl rfl hl.1 rfl (lv_room (Nat.le_of_ble_eq_true rfl)) dX10_wins_5 ⟨Nat.le_of_ble_eq_true rfl, Nat.le_of_ble_eq_true rfl⟩) (fun r0 w0 H locs hw hP hD hS => ?_)
  obtain ⟨rfl, rfl⟩ := hw
  have hP : va_P D vwCl [(o, .inr (10, [.ref tp, .ref rd, .ref pr, .ref bx, .ref rw, .ref lt, .ref od, .ref se, .ref gm, .ref wl, .ref cu, .ref sp])), (cu, .inr (8, [.ref cu_name, .ref cu_worth, .ref cu_times, .ref cu_first, .ref cu_second, .ref cu_beforeLast, .ref cu_last, .ref cu_errandOf, .ref cu_errandAfter, .ref cu_sound, .ref cu_followers, .ref cu_leaders, .int 0, .int 0, .int 0, .int (-1)]))] H := hP
  have hD : va_D A [(o, .inr (10, [.ref tp, .ref rd, .ref pr, .ref bx, .ref rw, .ref lt, .ref od, .ref se, .ref gm, .ref wl, .ref cu, .ref sp])), (cu, .inr (8, [.ref cu_name, .ref cu_worth, .ref cu_times, .ref cu_first, .ref cu_second, .ref cu_beforeLast, .ref cu_last, .ref cu_errandOf, .ref cu_errandAfter, .ref cu_sound, .ref cu_followers, .ref cu_leaders, .int 0, .int 0, .int 0, .int (-1)]))] := hD
  refine lv_if_ne (tgt := 13) hx hb dX10_wins_8 (by decide) (fun c_1 => absurd c_1 (by decide)) (fun c_1 => ?_)
  refine lv_iconst (v := (-1)) hx hb dX10_wins_11 (by decide) ?_
  have hP9 := hP.sub (ws' := []) [] rfl
  have hD9 := hD.sub (ws' := []) [] (by decide) rfl
  refine W.widen (k := 0) (n := 0) (Nat.le_of_ble_eq_true rfl) (Nat.le_of_ble_eq_true rfl) ?_
  exact W.iret (v := (-1)) hx hb hr (fun tz htz hWz => ⟨⟨(-1), [], rfl, ⟨rfl, rfl⟩, by rw [htz]; exact hP9, va_K.moved hWz.alike hK, hD9⟩, hS.F htz⟩) hS.2.2 dX10_wins_12

set_option maxHeartbeats 4000000 in
set_option maxRecDepth 100000 in
theorem p_X10_deep (l : Launch) (D : va_G) (cB cI cJ cS cZ cO : ClassId) (sz : Nat) (o : Nat) (x : Int32) (tp : Nat) (rd : Nat) (pr : Nat) (bx : Nat) (rw : Nat) (lt : Nat) (od : Nat) (se : Nat) (gm : Nat) (wl : Nat) (cu : Nat) (sp : Nat) (cu_name : Nat) (cu_worth : Nat) (cu_times : Nat) (cu_first : Nat) (cu_second : Nat) (cu_beforeLast : Nat) (cu_last : Nat) (cu_errandOf : Nat) (cu_errandAfter : Nat) (cu_sound : Nat) (cu_followers : Nat) (cu_leaders : Nat) : Met l yX10_deep wsX10_deep ({ frames := 1, cells := 0, slots := 0, locals := 21 }) (xPre D (tyL cB cI cJ cS cZ cO) [(o, .inr (10, [.ref tp, .ref rd, .ref pr, .ref bx, .ref rw, .ref lt, .ref od, .ref se, .ref gm, .ref wl, .ref cu, .ref sp])), (cu, .inr (8, [.ref cu_name, .ref cu_worth, .ref cu_times, .ref cu_first, .ref cu_second, .ref cu_beforeLast, .ref cu_last, .ref cu_errandOf, .ref cu_errandAfter, .ref cu_sound, .ref cu_followers, .ref cu_leaders, .int 0, .int 0, .int 0, .int (-1)]))] sz [.ref o, .int x]) (xQi D (tyL cB cI cJ cS cZ cO) (va_A [(o, .inr (10, [.ref tp, .ref rd, .ref pr, .ref bx, .ref rw, .ref lt, .ref od, .ref se, .ref gm, .ref wl, .ref cu, .ref sp])), (cu, .inr (8, [.ref cu_name, .ref cu_worth, .ref cu_times, .ref cu_first, .ref cu_second, .ref cu_beforeLast, .ref cu_last, .ref cu_errandOf, .ref cu_errandAfter, .ref cu_sound, .ref cu_followers, .ref cu_leaders, .int 0, .int 0, .int 0, .int (-1)]))] sz) (fun (r : Int32) (u : va_W) => u = [] ∧ r = (-1))) 0 0 (va_A [(o, .inr (10, [.ref tp, .ref rd, .ref pr, .ref bx, .ref rw, .ref lt, .ref od, .ref se, .ref gm, .ref wl, .ref cu, .ref sp])), (cu, .inr (8, [.ref cu_name, .ref cu_worth, .ref cu_times, .ref cu_first, .ref cu_second, .ref cu_beforeLast, .ref cu_last, .ref cu_errandOf, .ref cu_errandAfter, .ref cu_sound, .ref cu_followers, .ref cu_leaders, .int 0, .int 0, .int 0, .int (-1)]))] sz) := by
  refine Met.ofW (cc := cX10_deep) (maxL := 2) (ret := (some .int)) (by decide) rfl ?_
  intro p e s m args below meth c s₁ B hml hv
  obtain ⟨rfl, hsz, hP, hK, hD0, hN⟩ := hv
  have hx := B.exec
  have hb := B.bytes
  have hr := B.returns
  have hts := atoms_spec (ws := wsX10_deep) B.pre
  have hown : s.vm.findClass RX10 = some m.cls := findClass_of_methodNamed B.named
  have hlocks := B.notSynchronized
  subst hsz
  have hD := hD0.self (sz := s.heap.size)
  generalize hAe : va_A [(o, .inr (10, [.ref tp, .ref rd, .ref pr, .ref bx, .ref rw, .ref lt, .ref od, .ref se, .ref gm, .ref wl, .ref cu, .ref sp])), (cu, .inr (8, [.ref cu_name, .ref cu_worth, .ref cu_times, .ref cu_first, .ref cu_second, .ref cu_beforeLast, .ref cu_last, .ref cu_errandOf, .ref cu_errandAfter, .ref cu_sound, .ref cu_followers, .ref cu_leaders, .int 0, .int 0, .int 0, .int (-1)]))] s.heap.size = A at hD ⊢
  have hA : ∀ q : Nat, s.heap.size ≤ q → A q := fun q h => by rw [← hAe]; exact Or.inr h
  have hS : va_S A s.heap s.heap [] := va_S.rf
  have hP : va_P D vwCl [(o, .inr (10, [.ref tp, .ref rd, .ref pr, .ref bx, .ref rw, .ref lt, .ref od, .ref se, .ref gm, .ref wl, .ref cu, .ref sp])), (cu, .inr (8, [.ref cu_name, .ref cu_worth, .ref cu_times, .ref cu_first, .ref cu_second, .ref cu_beforeLast, .ref cu_last, .ref cu_errandOf, .ref cu_errandAfter, .ref cu_sound, .ref cu_followers, .ref cu_leaders, .int 0, .int 0, .int 0, .int (-1)]))] s.heap := hP
  have hl := lv_entry ([.ref o, .int x]) (n := 2) (Nat.le_of_ble_eq_true rfl)
  rw [lg_entry_eq]
  generalize (lg_sl ([.ref o, .int x]) ++ List.replicate (2 - (lg_sl ([.ref o, .int x])).length) Slot.unset).toArray = ls at hl ⊢
  have hl : lv_has ls 2 [(0, .ref o), (1, .int x)] := hl
  refine lv_aload_n hx hb dX10_deep_0 rfl (lv_at hl 0 rfl) ?_
  refine va_get (D := D) (ci := 10) (v := .ref cu) (C := RX10) (T := TX10) (N := 12) hx hb hts (by decide +kernel) hown hK hP 0 rfl rfl 10 (by decide) (hts (.fieldLink RX10 81 "LastLetter" "current" "LLastLetter$Tongue;") (by decide +kernel)) (fun _ h9 => h9) rfl dX10_deep_1 ?_
  refine lv_iload_n hx hb dX10_deep_4 rfl (lv_at hl 1 rfl) ?_
  refine xCi (wr := [(o, .inr (10, [.ref tp, .ref rd, .ref pr, .ref bx, .ref rw, .ref lt, .ref od, .ref se, .ref gm, .ref wl, .ref cu, .ref sp]))]) (win := [(cu, .inr (8, [.ref cu_name, .ref cu_worth, .ref cu_times, .ref cu_first, .ref cu_second, .ref cu_beforeLast, .ref cu_last, .ref cu_errandOf, .ref cu_errandAfter, .ref cu_sound, .ref cu_followers, .ref cu_leaders, .int 0, .int 0, .int 0, .int (-1)]))]) hP hD hS hA [1] [0] rfl rfl (by decide) (by decide) (va_runV (As := [.int x]) (rest := []) ⟨hx, hb, hml, hown, hts⟩ (c_X8_has l D cB cI cJ cS cZ cO s.heap.size cu x cu_name cu_worth cu_times cu_first cu_second cu_beforeLast cu_last cu_errandOf cu_errandAfter cu_sound cu_followers cu_leaders 0 0 (-1) ) (cwV 1 hts gX10_deep_X8_has rfl rfl rfl (by decide +kernel) ⟨Nat.le_of_ble_eq_true rfl, Nat.le_of_ble_eq_true rfl⟩) (xPreV (win := [(cu, .inr (8, [.ref cu_name, .ref cu_worth, .ref cu_times, .ref cu_first, .ref cu_second, .ref cu_beforeLast, .ref cu_last, .ref cu_errandOf, .ref cu_errandAfter, .ref cu_sound, .ref cu_followers, .ref cu_leaders, .int 0, .int 0, .int 0, .int (-1)]))]) hN hK hP hD [1] (by decide) rfl 1 8 rfl rfl rfl) rfl rfl hl.1 rfl (lv_room (Nat.le_of_ble_eq_true rfl)) dX10_deep_5 ⟨Nat.le_of_ble_eq_true rfl, Nat.le_of_ble_eq_true rfl⟩) (fun r0 w0 H locs hw hP hD hS => ?_)
  obtain ⟨rfl, rfl⟩ := hw
  have hP : va_P D vwCl [(o, .inr (10, [.ref tp, .ref rd, .ref pr, .ref bx, .ref rw, .ref lt, .ref od, .ref se, .ref gm, .ref wl, .ref cu, .ref sp])), (cu, .inr (8, [.ref cu_name, .ref cu_worth, .ref cu_times, .ref cu_first, .ref cu_second, .ref cu_beforeLast, .ref cu_last, .ref cu_errandOf, .ref cu_errandAfter, .ref cu_sound, .ref cu_followers, .ref cu_leaders, .int 0, .int 0, .int 0, .int (-1)]))] H := hP
  have hD : va_D A [(o, .inr (10, [.ref tp, .ref rd, .ref pr, .ref bx, .ref rw, .ref lt, .ref od, .ref se, .ref gm, .ref wl, .ref cu, .ref sp])), (cu, .inr (8, [.ref cu_name, .ref cu_worth, .ref cu_times, .ref cu_first, .ref cu_second, .ref cu_beforeLast, .ref cu_last, .ref cu_errandOf, .ref cu_errandAfter, .ref cu_sound, .ref cu_followers, .ref cu_leaders, .int 0, .int 0, .int 0, .int (-1)]))] := hD
  refine lv_if_ne (tgt := 13) hx hb dX10_deep_8 (by decide) (fun c_1 => absurd c_1 (by decide)) (fun c_1 => ?_)
  refine lv_iconst (v := (-1)) hx hb dX10_deep_11 (by decide) ?_
  have hP9 := hP.sub (ws' := []) [] rfl
  have hD9 := hD.sub (ws' := []) [] (by decide) rfl
  refine W.widen (k := 0) (n := 0) (Nat.le_of_ble_eq_true rfl) (Nat.le_of_ble_eq_true rfl) ?_
  exact W.iret (v := (-1)) hx hb hr (fun tz htz hWz => ⟨⟨(-1), [], rfl, ⟨rfl, rfl⟩, by rw [htz]; exact hP9, va_K.moved hWz.alike hK, hD9⟩, hS.F htz⟩) hS.2.2 dX10_deep_12

set_option maxHeartbeats 4000000 in
set_option maxRecDepth 100000 in
theorem p_X10_again (l : Launch) (D : va_G) (cB cI cJ cS cZ cO : ClassId) (sz : Nat) (o : Nat) (x : Int32) (tp : Nat) (rd : Nat) (pr : Nat) (bx : Nat) (rw : Nat) (lt : Nat) (od : Nat) (se : Nat) (gm : Nat) (wl : Nat) (cu : Nat) (sp : Nat) (cu_name : Nat) (cu_worth : Nat) (cu_times : Nat) (cu_first : Nat) (cu_second : Nat) (cu_beforeLast : Nat) (cu_last : Nat) (cu_errandOf : Nat) (cu_errandAfter : Nat) (cu_sound : Nat) (cu_followers : Nat) (cu_leaders : Nat) : Met l yX10_again wsX10_again ({ frames := 1, cells := 0, slots := 0, locals := 21 }) (xPre D (tyL cB cI cJ cS cZ cO) [(o, .inr (10, [.ref tp, .ref rd, .ref pr, .ref bx, .ref rw, .ref lt, .ref od, .ref se, .ref gm, .ref wl, .ref cu, .ref sp])), (cu, .inr (8, [.ref cu_name, .ref cu_worth, .ref cu_times, .ref cu_first, .ref cu_second, .ref cu_beforeLast, .ref cu_last, .ref cu_errandOf, .ref cu_errandAfter, .ref cu_sound, .ref cu_followers, .ref cu_leaders, .int 0, .int 0, .int 0, .int (-1)]))] sz [.ref o, .int x]) (xQi D (tyL cB cI cJ cS cZ cO) (va_A [(o, .inr (10, [.ref tp, .ref rd, .ref pr, .ref bx, .ref rw, .ref lt, .ref od, .ref se, .ref gm, .ref wl, .ref cu, .ref sp])), (cu, .inr (8, [.ref cu_name, .ref cu_worth, .ref cu_times, .ref cu_first, .ref cu_second, .ref cu_beforeLast, .ref cu_last, .ref cu_errandOf, .ref cu_errandAfter, .ref cu_sound, .ref cu_followers, .ref cu_leaders, .int 0, .int 0, .int 0, .int (-1)]))] sz) (fun (r : Int32) (u : va_W) => u = [] ∧ r = (-1))) 0 0 (va_A [(o, .inr (10, [.ref tp, .ref rd, .ref pr, .ref bx, .ref rw, .ref lt, .ref od, .ref se, .ref gm, .ref wl, .ref cu, .ref sp])), (cu, .inr (8, [.ref cu_name, .ref cu_worth, .ref cu_times, .ref cu_first, .ref cu_second, .ref cu_beforeLast, .ref cu_last, .ref cu_errandOf, .ref cu_errandAfter, .ref cu_sound, .ref cu_followers, .ref cu_leaders, .int 0, .int 0, .int 0, .int (-1)]))] sz) := by
  refine Met.ofW (cc := cX10_again) (maxL := 2) (ret := (some .int)) (by decide) rfl ?_
  intro p e s m args below meth c s₁ B hml hv
  obtain ⟨rfl, hsz, hP, hK, hD0, hN⟩ := hv
  have hx := B.exec
  have hb := B.bytes
  have hr := B.returns
  have hts := atoms_spec (ws := wsX10_again) B.pre
  have hown : s.vm.findClass RX10 = some m.cls := findClass_of_methodNamed B.named
  have hlocks := B.notSynchronized
  subst hsz
  have hD := hD0.self (sz := s.heap.size)
  generalize hAe : va_A [(o, .inr (10, [.ref tp, .ref rd, .ref pr, .ref bx, .ref rw, .ref lt, .ref od, .ref se, .ref gm, .ref wl, .ref cu, .ref sp])), (cu, .inr (8, [.ref cu_name, .ref cu_worth, .ref cu_times, .ref cu_first, .ref cu_second, .ref cu_beforeLast, .ref cu_last, .ref cu_errandOf, .ref cu_errandAfter, .ref cu_sound, .ref cu_followers, .ref cu_leaders, .int 0, .int 0, .int 0, .int (-1)]))] s.heap.size = A at hD ⊢
  have hA : ∀ q : Nat, s.heap.size ≤ q → A q := fun q h => by rw [← hAe]; exact Or.inr h
  have hS : va_S A s.heap s.heap [] := va_S.rf
  have hP : va_P D vwCl [(o, .inr (10, [.ref tp, .ref rd, .ref pr, .ref bx, .ref rw, .ref lt, .ref od, .ref se, .ref gm, .ref wl, .ref cu, .ref sp])), (cu, .inr (8, [.ref cu_name, .ref cu_worth, .ref cu_times, .ref cu_first, .ref cu_second, .ref cu_beforeLast, .ref cu_last, .ref cu_errandOf, .ref cu_errandAfter, .ref cu_sound, .ref cu_followers, .ref cu_leaders, .int 0, .int 0, .int 0, .int (-1)]))] s.heap := hP
  have hl := lv_entry ([.ref o, .int x]) (n := 2) (Nat.le_of_ble_eq_true rfl)
  rw [lg_entry_eq]
  generalize (lg_sl ([.ref o, .int x]) ++ List.replicate (2 - (lg_sl ([.ref o, .int x])).length) Slot.unset).toArray = ls at hl ⊢
  have hl : lv_has ls 2 [(0, .ref o), (1, .int x)] := hl
  refine lv_aload_n hx hb dX10_again_0 rfl (lv_at hl 0 rfl) ?_
  refine va_get (D := D) (ci := 10) (v := .ref cu) (C := RX10) (T := TX10) (N := 12) hx hb hts (by decide +kernel) hown hK hP 0 rfl rfl 10 (by decide) (hts (.fieldLink RX10 81 "LastLetter" "current" "LLastLetter$Tongue;") (by decide +kernel)) (fun _ h9 => h9) rfl dX10_again_1 ?_
  refine lv_iload_n hx hb dX10_again_4 rfl (lv_at hl 1 rfl) ?_
  refine xCi (wr := [(o, .inr (10, [.ref tp, .ref rd, .ref pr, .ref bx, .ref rw, .ref lt, .ref od, .ref se, .ref gm, .ref wl, .ref cu, .ref sp]))]) (win := [(cu, .inr (8, [.ref cu_name, .ref cu_worth, .ref cu_times, .ref cu_first, .ref cu_second, .ref cu_beforeLast, .ref cu_last, .ref cu_errandOf, .ref cu_errandAfter, .ref cu_sound, .ref cu_followers, .ref cu_leaders, .int 0, .int 0, .int 0, .int (-1)]))]) hP hD hS hA [1] [0] rfl rfl (by decide) (by decide) (va_runV (As := [.int x]) (rest := []) ⟨hx, hb, hml, hown, hts⟩ (c_X8_has l D cB cI cJ cS cZ cO s.heap.size cu x cu_name cu_worth cu_times cu_first cu_second cu_beforeLast cu_last cu_errandOf cu_errandAfter cu_sound cu_followers cu_leaders 0 0 (-1) ) (cwV 1 hts gX10_again_X8_has rfl rfl rfl (by decide +kernel) ⟨Nat.le_of_ble_eq_true rfl, Nat.le_of_ble_eq_true rfl⟩) (xPreV (win := [(cu, .inr (8, [.ref cu_name, .ref cu_worth, .ref cu_times, .ref cu_first, .ref cu_second, .ref cu_beforeLast, .ref cu_last, .ref cu_errandOf, .ref cu_errandAfter, .ref cu_sound, .ref cu_followers, .ref cu_leaders, .int 0, .int 0, .int 0, .int (-1)]))]) hN hK hP hD [1] (by decide) rfl 1 8 rfl rfl rfl) rfl rfl hl.1 rfl (lv_room (Nat.le_of_ble_eq_true rfl)) dX10_again_5 ⟨Nat.le_of_ble_eq_true rfl, Nat.le_of_ble_eq_true rfl⟩) (fun r0 w0 H locs hw hP hD hS => ?_)
  obtain ⟨rfl, rfl⟩ := hw
  have hP : va_P D vwCl [(o, .inr (10, [.ref tp, .ref rd, .ref pr, .ref bx, .ref rw, .ref lt, .ref od, .ref se, .ref gm, .ref wl, .ref cu, .ref sp])), (cu, .inr (8, [.ref cu_name, .ref cu_worth, .ref cu_times, .ref cu_first, .ref cu_second, .ref cu_beforeLast, .ref cu_last, .ref cu_errandOf, .ref cu_errandAfter, .ref cu_sound, .ref cu_followers, .ref cu_leaders, .int 0, .int 0, .int 0, .int (-1)]))] H := hP
  have hD : va_D A [(o, .inr (10, [.ref tp, .ref rd, .ref pr, .ref bx, .ref rw, .ref lt, .ref od, .ref se, .ref gm, .ref wl, .ref cu, .ref sp])), (cu, .inr (8, [.ref cu_name, .ref cu_worth, .ref cu_times, .ref cu_first, .ref cu_second, .ref cu_beforeLast, .ref cu_last, .ref cu_errandOf, .ref cu_errandAfter, .ref cu_sound, .ref cu_followers, .ref cu_leaders, .int 0, .int 0, .int 0, .int (-1)]))] := hD
  refine lv_if_eq (tgt := 26) hx hb dX10_again_8 (by decide) (fun c_1 => ?_) (fun c_1 => absurd (by decide) c_1)
  refine lv_iconst (v := (-1)) hx hb dX10_again_26 (by decide) ?_
  have hP9 := hP.sub (ws' := []) [] rfl
  have hD9 := hD.sub (ws' := []) [] (by decide) rfl
  refine W.widen (k := 0) (n := 0) (Nat.le_of_ble_eq_true rfl) (Nat.le_of_ble_eq_true rfl) ?_
  exact W.iret (v := (-1)) hx hb hr (fun tz htz hWz => ⟨⟨(-1), [], rfl, ⟨rfl, rfl⟩, by rw [htz]; exact hP9, va_K.moved hWz.alike hK, hD9⟩, hS.F htz⟩) hS.2.2 dX10_again_27

set_option maxHeartbeats 4000000 in
set_option maxRecDepth 100000 in
theorem p_X10_score (l : Launch) (D : va_G) (cB cI cJ cS cZ cO : ClassId) (sz : Nat) (o : Nat) (x : Int32) (tp : Nat) (rd : Nat) (pr : Nat) (bx : Nat) (rw : Nat) (lt : Nat) (od : Nat) (se : Nat) (gm : Nat) (wl : Nat) (cu : Nat) (sp : Nat) (cu_name : Nat) (cu_worth : Nat) (cu_times : Nat) (cu_first : Nat) (cu_second : Nat) (cu_beforeLast : Nat) (cu_last : Nat) (cu_errandOf : Nat) (cu_errandAfter : Nat) (cu_sound : Nat) (cu_followers : Nat) (cu_leaders : Nat) : Met l yX10_score wsX10_score ({ frames := 1, cells := 0, slots := 0, locals := 21 }) (xPre D (tyL cB cI cJ cS cZ cO) [(o, .inr (10, [.ref tp, .ref rd, .ref pr, .ref bx, .ref rw, .ref lt, .ref od, .ref se, .ref gm, .ref wl, .ref cu, .ref sp])), (cu, .inr (8, [.ref cu_name, .ref cu_worth, .ref cu_times, .ref cu_first, .ref cu_second, .ref cu_beforeLast, .ref cu_last, .ref cu_errandOf, .ref cu_errandAfter, .ref cu_sound, .ref cu_followers, .ref cu_leaders, .int 0, .int 0, .int 0, .int (-1)]))] sz [.ref o, .int x]) (xQi D (tyL cB cI cJ cS cZ cO) (va_A [(o, .inr (10, [.ref tp, .ref rd, .ref pr, .ref bx, .ref rw, .ref lt, .ref od, .ref se, .ref gm, .ref wl, .ref cu, .ref sp])), (cu, .inr (8, [.ref cu_name, .ref cu_worth, .ref cu_times, .ref cu_first, .ref cu_second, .ref cu_beforeLast, .ref cu_last, .ref cu_errandOf, .ref cu_errandAfter, .ref cu_sound, .ref cu_followers, .ref cu_leaders, .int 0, .int 0, .int 0, .int (-1)]))] sz) (fun (r : Int32) (u : va_W) => u = [] ∧ r = (-10000))) 0 0 (va_A [(o, .inr (10, [.ref tp, .ref rd, .ref pr, .ref bx, .ref rw, .ref lt, .ref od, .ref se, .ref gm, .ref wl, .ref cu, .ref sp])), (cu, .inr (8, [.ref cu_name, .ref cu_worth, .ref cu_times, .ref cu_first, .ref cu_second, .ref cu_beforeLast, .ref cu_last, .ref cu_errandOf, .ref cu_errandAfter, .ref cu_sound, .ref cu_followers, .ref cu_leaders, .int 0, .int 0, .int 0, .int (-1)]))] sz) := by
  refine Met.ofW (cc := cX10_score) (maxL := 2) (ret := (some .int)) (by decide) rfl ?_
  intro p e s m args below meth c s₁ B hml hv
  obtain ⟨rfl, hsz, hP, hK, hD0, hN⟩ := hv
  have hx := B.exec
  have hb := B.bytes
  have hr := B.returns
  have hts := atoms_spec (ws := wsX10_score) B.pre
  have hown : s.vm.findClass RX10 = some m.cls := findClass_of_methodNamed B.named
  have hlocks := B.notSynchronized
  subst hsz
  have hD := hD0.self (sz := s.heap.size)
  generalize hAe : va_A [(o, .inr (10, [.ref tp, .ref rd, .ref pr, .ref bx, .ref rw, .ref lt, .ref od, .ref se, .ref gm, .ref wl, .ref cu, .ref sp])), (cu, .inr (8, [.ref cu_name, .ref cu_worth, .ref cu_times, .ref cu_first, .ref cu_second, .ref cu_beforeLast, .ref cu_last, .ref cu_errandOf, .ref cu_errandAfter, .ref cu_sound, .ref cu_followers, .ref cu_leaders, .int 0, .int 0, .int 0, .int (-1)]))] s.heap.size = A at hD ⊢
  have hA : ∀ q : Nat, s.heap.size ≤ q → A q := fun q h => by rw [← hAe]; exact Or.inr h
  have hS : va_S A s.heap s.heap [] := va_S.rf
  have hP : va_P D vwCl [(o, .inr (10, [.ref tp, .ref rd, .ref pr, .ref bx, .ref rw, .ref lt, .ref od, .ref se, .ref gm, .ref wl, .ref cu, .ref sp])), (cu, .inr (8, [.ref cu_name, .ref cu_worth, .ref cu_times, .ref cu_first, .ref cu_second, .ref cu_beforeLast, .ref cu_last, .ref cu_errandOf, .ref cu_errandAfter, .ref cu_sound, .ref cu_followers, .ref cu_leaders, .int 0, .int 0, .int 0, .int (-1)]))] s.heap := hP
  have hl := lv_entry ([.ref o, .int x]) (n := 2) (Nat.le_of_ble_eq_true rfl)
  rw [lg_entry_eq]
  generalize (lg_sl ([.ref o, .int x]) ++ List.replicate (2 - (lg_sl ([.ref o, .int x])).length) Slot.unset).toArray = ls at hl ⊢
  have hl : lv_has ls 2 [(0, .ref o), (1, .int x)] := hl
  refine lv_aload_n hx hb dX10_score_0 rfl (lv_at hl 0 rfl) ?_
  refine va_get (D := D) (ci := 10) (v := .ref cu) (C := RX10) (T := TX10) (N := 12) hx hb hts (by decide +kernel) hown hK hP 0 rfl rfl 10 (by decide) (hts (.fieldLink RX10 81 "LastLetter" "current" "LLastLetter$Tongue;") (by decide +kernel)) (fun _ h9 => h9) rfl dX10_score_1 ?_
  refine lv_iload_n hx hb dX10_score_4 rfl (lv_at hl 1 rfl) ?_
  refine xCi (wr := [(o, .inr (10, [.ref tp, .ref rd, .ref pr, .ref bx, .ref rw, .ref lt, .ref od, .ref se, .ref gm, .ref wl, .ref cu, .ref sp]))]) (win := [(cu, .inr (8, [.ref cu_name, .ref cu_worth, .ref cu_times, .ref cu_first, .ref cu_second, .ref cu_beforeLast, .ref cu_last, .ref cu_errandOf, .ref cu_errandAfter, .ref cu_sound, .ref cu_followers, .ref cu_leaders, .int 0, .int 0, .int 0, .int (-1)]))]) hP hD hS hA [1] [0] rfl rfl (by decide) (by decide) (va_runV (As := [.int x]) (rest := []) ⟨hx, hb, hml, hown, hts⟩ (c_X8_has l D cB cI cJ cS cZ cO s.heap.size cu x cu_name cu_worth cu_times cu_first cu_second cu_beforeLast cu_last cu_errandOf cu_errandAfter cu_sound cu_followers cu_leaders 0 0 (-1) ) (cwV 1 hts gX10_score_X8_has rfl rfl rfl (by decide +kernel) ⟨Nat.le_of_ble_eq_true rfl, Nat.le_of_ble_eq_true rfl⟩) (xPreV (win := [(cu, .inr (8, [.ref cu_name, .ref cu_worth, .ref cu_times, .ref cu_first, .ref cu_second, .ref cu_beforeLast, .ref cu_last, .ref cu_errandOf, .ref cu_errandAfter, .ref cu_sound, .ref cu_followers, .ref cu_leaders, .int 0, .int 0, .int 0, .int (-1)]))]) hN hK hP hD [1] (by decide) rfl 1 8 rfl rfl rfl) rfl rfl hl.1 rfl (lv_room (Nat.le_of_ble_eq_true rfl)) dX10_score_5 ⟨Nat.le_of_ble_eq_true rfl, Nat.le_of_ble_eq_true rfl⟩) (fun r0 w0 H locs hw hP hD hS => ?_)
  obtain ⟨rfl, rfl⟩ := hw
  have hP : va_P D vwCl [(o, .inr (10, [.ref tp, .ref rd, .ref pr, .ref bx, .ref rw, .ref lt, .ref od, .ref se, .ref gm, .ref wl, .ref cu, .ref sp])), (cu, .inr (8, [.ref cu_name, .ref cu_worth, .ref cu_times, .ref cu_first, .ref cu_second, .ref cu_beforeLast, .ref cu_last, .ref cu_errandOf, .ref cu_errandAfter, .ref cu_sound, .ref cu_followers, .ref cu_leaders, .int 0, .int 0, .int 0, .int (-1)]))] H := hP
  have hD : va_D A [(o, .inr (10, [.ref tp, .ref rd, .ref pr, .ref bx, .ref rw, .ref lt, .ref od, .ref se, .ref gm, .ref wl, .ref cu, .ref sp])), (cu, .inr (8, [.ref cu_name, .ref cu_worth, .ref cu_times, .ref cu_first, .ref cu_second, .ref cu_beforeLast, .ref cu_last, .ref cu_errandOf, .ref cu_errandAfter, .ref cu_sound, .ref cu_followers, .ref cu_leaders, .int 0, .int 0, .int 0, .int (-1)]))] := hD
  refine lv_if_ne (tgt := 15) hx hb dX10_score_8 (by decide) (fun c_1 => absurd c_1 (by decide)) (fun c_1 => ?_)
  refine lv_sipush (v := (-10000)) hx hb dX10_score_11 (by decide) ?_
  have hP9 := hP.sub (ws' := []) [] rfl
  have hD9 := hD.sub (ws' := []) [] (by decide) rfl
  refine W.widen (k := 0) (n := 0) (Nat.le_of_ble_eq_true rfl) (Nat.le_of_ble_eq_true rfl) ?_
  exact W.iret (v := (-10000)) hx hb hr (fun tz htz hWz => ⟨⟨(-10000), [], rfl, ⟨rfl, rfl⟩, by rw [htz]; exact hP9, va_K.moved hWz.alike hK, hD9⟩, hS.F htz⟩) hS.2.2 dX10_score_14

set_option maxHeartbeats 4000000 in
set_option maxRecDepth 100000 in
theorem p_X10_done (l : Launch) (D : va_G) (cB cI cJ cS cZ cO : ClassId) (sz : Nat) (o : Nat) (tp : Nat) (rd : Nat) (pr : Nat) (bx : Nat) (rw : Nat) (lt : Nat) (od : Nat) (se : Nat) (gm : Nat) (wl : Nat) (cu : Nat) (sp : Nat) (ps : Nat) : Met l yX10_done wsX10_done ({ frames := 0, cells := 0, slots := 0, locals := 0 }) (xPre D (tyL cB cI cJ cS cZ cO) [(o, .inr (10, [.ref tp, .ref rd, .ref pr, .ref bx, .ref rw, .ref lt, .ref od, .ref se, .ref gm, .ref wl, .ref cu, .ref sp])), (pr, .inr (6, [.ref ps, .int (-1), .int 0, .int 0, .int 0, .int 1, .int 0]))] sz [.ref o]) (xQi D (tyL cB cI cJ cS cZ cO) (va_A [(o, .inr (10, [.ref tp, .ref rd, .ref pr, .ref bx, .ref rw, .ref lt, .ref od, .ref se, .ref gm, .ref wl, .ref cu, .ref sp])), (pr, .inr (6, [.ref ps, .int (-1), .int 0, .int 0, .int 0, .int 1, .int 0]))] sz) (fun (r : Int32) (u : va_W) => u = [] ∧ r = 0)) 0 0 (va_A [(o, .inr (10, [.ref tp, .ref rd, .ref pr, .ref bx, .ref rw, .ref lt, .ref od, .ref se, .ref gm, .ref wl, .ref cu, .ref sp])), (pr, .inr (6, [.ref ps, .int (-1), .int 0, .int 0, .int 0, .int 1, .int 0]))] sz) := by
  refine Met.ofW (cc := cX10_done) (maxL := 1) (ret := (some .int)) (by decide) rfl ?_
  intro p e s m args below meth c s₁ B hml hv
  obtain ⟨rfl, hsz, hP, hK, hD0, hN⟩ := hv
  have hx := B.exec
  have hb := B.bytes
  have hr := B.returns
  have hts := atoms_spec (ws := wsX10_done) B.pre
  have hown : s.vm.findClass RX10 = some m.cls := findClass_of_methodNamed B.named
  have hlocks := B.notSynchronized
  subst hsz
  have hD := hD0.self (sz := s.heap.size)
  generalize hAe : va_A [(o, .inr (10, [.ref tp, .ref rd, .ref pr, .ref bx, .ref rw, .ref lt, .ref od, .ref se, .ref gm, .ref wl, .ref cu, .ref sp])), (pr, .inr (6, [.ref ps, .int (-1), .int 0, .int 0, .int 0, .int 1, .int 0]))] s.heap.size = A at hD ⊢
  have hA : ∀ q : Nat, s.heap.size ≤ q → A q := fun q h => by rw [← hAe]; exact Or.inr h
  have hS : va_S A s.heap s.heap [] := va_S.rf
  have hP : va_P D vwCl [(o, .inr (10, [.ref tp, .ref rd, .ref pr, .ref bx, .ref rw, .ref lt, .ref od, .ref se, .ref gm, .ref wl, .ref cu, .ref sp])), (pr, .inr (6, [.ref ps, .int (-1), .int 0, .int 0, .int 0, .int 1, .int 0]))] s.heap := hP
  have hl := lv_entry ([.ref o]) (n := 1) (Nat.le_of_ble_eq_true rfl)
  rw [lg_entry_eq]
  generalize (lg_sl ([.ref o]) ++ List.replicate (1 - (lg_sl ([.ref o])).length) Slot.unset).toArray = ls at hl ⊢
  have hl : lv_has ls 1 [(0, .ref o)] := hl
  refine lv_aload_n hx hb dX10_done_0 rfl (lv_at hl 0 rfl) ?_
  refine va_get (D := D) (ci := 10) (v := .ref pr) (C := RX10) (T := TX10) (N := 12) hx hb hts (by decide +kernel) hown hK hP 0 rfl rfl 2 (by decide) (hts (.fieldLink RX10 28 "LastLetter" "present" "LLastLetter$Talk;") (by decide +kernel)) (fun _ h9 => h9) rfl dX10_done_1 ?_
  refine va_getN (D := D) (ci := 6) (v := .int 0) (C := RX6) (T := TX6) (N := 7) hx hb hts (by decide +kernel) hown hK hP 1 rfl rfl 4 (by decide) (va_Nw.use rfl (hN.1 (RX10, 221, RX6, "doneErrands", "I", RX10) (by decide +kernel))) (fun _ h9 => h9) rfl dX10_done_4 ?_
  have hP9 := hP.sub (ws' := []) [] rfl
  have hD9 := hD.sub (ws' := []) [] (by decide) rfl
  refine W.widen (k := 0) (n := 0) (Nat.le_of_ble_eq_true rfl) (Nat.le_of_ble_eq_true rfl) ?_
  exact W.iret (v := 0) hx hb hr (fun tz htz hWz => ⟨⟨0, [], rfl, ⟨rfl, rfl⟩, by rw [htz]; exact hP9, va_K.moved hWz.alike hK, hD9⟩, hS.F htz⟩) hS.2.2 dX10_done_7

set_option maxHeartbeats 4000000 in
set_option maxRecDepth 100000 in
theorem p_X10_dead (l : Launch) (D : va_G) (cB cI cJ cS cZ cO : ClassId) (sz : Nat) (o : Nat) (tp : Nat) (rd : Nat) (pr : Nat) (bx : Nat) (rw : Nat) (lt : Nat) (od : Nat) (se : Nat) (gm : Nat) (wl : Nat) (cu : Nat) (sp : Nat) (cu_name : Nat) (cu_worth : Nat) (cu_times : Nat) (cu_first : Nat) (cu_second : Nat) (cu_beforeLast : Nat) (cu_last : Nat) (cu_errandOf : Nat) (cu_errandAfter : Nat) (cu_sound : Nat) (cu_followers : Nat) (cu_leaders : Nat) : Met l yX10_dead wsX10_dead ({ frames := 0, cells := 0, slots := 0, locals := 0 }) (xPre D (tyL cB cI cJ cS cZ cO) [(o, .inr (10, [.ref tp, .ref rd, .ref pr, .ref bx, .ref rw, .ref lt, .ref od, .ref se, .ref gm, .ref wl, .ref cu, .ref sp])), (cu, .inr (8, [.ref cu_name, .ref cu_worth, .ref cu_times, .ref cu_first, .ref cu_second, .ref cu_beforeLast, .ref cu_last, .ref cu_errandOf, .ref cu_errandAfter, .ref cu_sound, .ref cu_followers, .ref cu_leaders, .int 0, .int 0, .int 0, .int (-1)]))] sz [.ref o]) (xQi D (tyL cB cI cJ cS cZ cO) (va_A [(o, .inr (10, [.ref tp, .ref rd, .ref pr, .ref bx, .ref rw, .ref lt, .ref od, .ref se, .ref gm, .ref wl, .ref cu, .ref sp])), (cu, .inr (8, [.ref cu_name, .ref cu_worth, .ref cu_times, .ref cu_first, .ref cu_second, .ref cu_beforeLast, .ref cu_last, .ref cu_errandOf, .ref cu_errandAfter, .ref cu_sound, .ref cu_followers, .ref cu_leaders, .int 0, .int 0, .int 0, .int (-1)]))] sz) (fun (r : Int32) (u : va_W) => u = [] ∧ r = 0)) 0 0 (va_A [(o, .inr (10, [.ref tp, .ref rd, .ref pr, .ref bx, .ref rw, .ref lt, .ref od, .ref se, .ref gm, .ref wl, .ref cu, .ref sp])), (cu, .inr (8, [.ref cu_name, .ref cu_worth, .ref cu_times, .ref cu_first, .ref cu_second, .ref cu_beforeLast, .ref cu_last, .ref cu_errandOf, .ref cu_errandAfter, .ref cu_sound, .ref cu_followers, .ref cu_leaders, .int 0, .int 0, .int 0, .int (-1)]))] sz) := by
  refine Met.ofW (cc := cX10_dead) (maxL := 3) (ret := (some .int)) (by decide) rfl ?_
  intro p e s m args below meth c s₁ B hml hv
  obtain ⟨rfl, hsz, hP, hK, hD0, hN⟩ := hv
  have hx := B.exec
  have hb := B.bytes
  have hr := B.returns
  have hts := atoms_spec (ws := wsX10_dead) B.pre
  have hown : s.vm.findClass RX10 = some m.cls := findClass_of_methodNamed B.named
  have hlocks := B.notSynchronized
  subst hsz
  have hD := hD0.self (sz := s.heap.size)
  generalize hAe : va_A [(o, .inr (10, [.ref tp, .ref rd, .ref pr, .ref bx, .ref rw, .ref lt, .ref od, .ref se, .ref gm, .ref wl, .ref cu, .ref sp])), (cu, .inr (8, [.ref cu_name, .ref cu_worth, .ref cu_times, .ref cu_first, .ref cu_second, .ref cu_beforeLast, .ref cu_last, .ref cu_errandOf, .ref cu_errandAfter, .ref cu_sound, .ref cu_followers, .ref cu_leaders, .int 0, .int 0, .int 0, .int (-1)]))] s.heap.size = A at hD ⊢
  have hA : ∀ q : Nat, s.heap.size ≤ q → A q := fun q h => by rw [← hAe]; exact Or.inr h
  have hS : va_S A s.heap s.heap [] := va_S.rf
  have hP : va_P D vwCl [(o, .inr (10, [.ref tp, .ref rd, .ref pr, .ref bx, .ref rw, .ref lt, .ref od, .ref se, .ref gm, .ref wl, .ref cu, .ref sp])), (cu, .inr (8, [.ref cu_name, .ref cu_worth, .ref cu_times, .ref cu_first, .ref cu_second, .ref cu_beforeLast, .ref cu_last, .ref cu_errandOf, .ref cu_errandAfter, .ref cu_sound, .ref cu_followers, .ref cu_leaders, .int 0, .int 0, .int 0, .int (-1)]))] s.heap := hP
  have hl := lv_entry ([.ref o]) (n := 3) (Nat.le_of_ble_eq_true rfl)
  rw [lg_entry_eq]
  generalize (lg_sl ([.ref o]) ++ List.replicate (3 - (lg_sl ([.ref o])).length) Slot.unset).toArray = ls at hl ⊢
  have hl : lv_has ls 3 [(0, .ref o)] := hl
  refine lv_iconst (v := 0) hx hb dX10_dead_0 (by decide) ?_
  refine lv_istore_n (lv' := [(1, .int 0), (0, .ref o)]) hx hb dX10_dead_1 rfl hl (by decide) rfl (fun ls hl => ?_)
  refine lv_iconst (v := 0) hx hb dX10_dead_2 (by decide) ?_
  refine lv_istore_n (lv' := [(2, .int 0), (1, .int 0), (0, .ref o)]) hx hb dX10_dead_3 rfl hl (by decide) rfl (fun ls hl => ?_)
  refine lv_iload_n hx hb dX10_dead_4 rfl (lv_at hl 0 rfl) ?_
  refine lv_aload_n hx hb dX10_dead_5 rfl (lv_at hl 2 rfl) ?_
  refine va_get (D := D) (ci := 10) (v := .ref cu) (C := RX10) (T := TX10) (N := 12) hx hb hts (by decide +kernel) hown hK hP 0 rfl rfl 10 (by decide) (hts (.fieldLink RX10 81 "LastLetter" "current" "LLastLetter$Tongue;") (by decide +kernel)) (fun _ h9 => h9) rfl dX10_dead_6 ?_
  refine va_getN (D := D) (ci := 8) (v := .int 0) (C := RX8) (T := TX8) (N := 16) hx hb hts (by decide +kernel) hown hK hP 1 rfl rfl 12 (by decide) (va_Nw.use rfl (hN.1 (RX10, 116, RX8, "words", "I", RX10) (by decide +kernel))) (fun _ h9 => h9) rfl dX10_dead_9 ?_
  refine lv_icmp_ge (tgt := 39) hx hb dX10_dead_12 (by decide) (fun c_1 => ?_) (fun c_1 => absurd (by decide) c_1)
  refine lv_iload_n hx hb dX10_dead_39 rfl (lv_at hl 1 rfl) ?_
  have hP9 := hP.sub (ws' := []) [] rfl
  have hD9 := hD.sub (ws' := []) [] (by decide) rfl
  refine W.widen (k := 0) (n := 0) (Nat.le_of_ble_eq_true rfl) (Nat.le_of_ble_eq_true rfl) ?_
  exact W.iret (v := 0) hx hb hr (fun tz htz hWz => ⟨⟨0, [], rfl, ⟨rfl, rfl⟩, by rw [htz]; exact hP9, va_K.moved hWz.alike hK, hD9⟩, hS.F htz⟩) hS.2.2 dX10_dead_40
