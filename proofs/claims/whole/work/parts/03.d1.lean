theorem dX7_miss_5 : decode cX7_miss 5 = .ok (.ifCond .ne 6, 3) := by decide +kernel
theorem dX7_miss_8 : decode cX7_miss 8 = .ok (.bipush (-2), 2) := by decide +kernel
theorem dX7_miss_10 : decode cX7_miss 10 = .ok (.ireturn, 1) := by decide +kernel
theorem dX7_miss_11 : decode cX7_miss 11 = .ok (.aload_n 0, 1) := by decide +kernel
theorem dX7_miss_12 : decode cX7_miss 12 = .ok (.iload_n 1, 1) := by decide +kernel
theorem dX7_miss_13 : decode cX7_miss 13 = .ok (.invokevirtual 120, 3) := by decide +kernel
theorem dX7_miss_16 : decode cX7_miss 16 = .ok (.ifCond .eq 11, 3) := by decide +kernel
theorem dX7_miss_19 : decode cX7_miss 19 = .ok (.aload_n 0, 1) := by decide +kernel
theorem dX7_miss_20 : decode cX7_miss 20 = .ok (.iload_n 1, 1) := by decide +kernel
theorem dX7_miss_21 : decode cX7_miss 21 = .ok (.invokevirtual 140, 3) := by decide +kernel
theorem dX7_miss_24 : decode cX7_miss 24 = .ok (.goto 5, 3) := by decide +kernel
theorem dX7_miss_27 : decode cX7_miss 27 = .ok (.bipush (-3), 2) := by decide +kernel
theorem dX7_miss_29 : decode cX7_miss 29 = .ok (.ireturn, 1) := by decide +kernel
theorem dX7_worst_0 : decode cX7_worst 0 = .ok (.aload_n 0, 1) := by decide +kernel
theorem dX7_worst_1 : decode cX7_worst 1 = .ok (.invokevirtual 126, 3) := by decide +kernel
theorem dX7_worst_4 : decode cX7_worst 4 = .ok (.istore_n 1, 1) := by decide +kernel
theorem dX7_worst_5 : decode cX7_worst 5 = .ok (.iconst (-1), 1) := by decide +kernel
theorem dX7_worst_6 : decode cX7_worst 6 = .ok (.istore_n 2, 1) := by decide +kernel
theorem dX7_worst_7 : decode cX7_worst 7 = .ok (.iconst (-1), 1) := by decide +kernel
theorem dX7_worst_8 : decode cX7_worst 8 = .ok (.istore_n 3, 1) := by decide +kernel
theorem dX7_worst_9 : decode cX7_worst 9 = .ok (.iconst 0, 1) := by decide +kernel
theorem dX7_worst_10 : decode cX7_worst 10 = .ok (.istore 4, 2) := by decide +kernel
theorem dX7_worst_12 : decode cX7_worst 12 = .ok (.iload 4, 2) := by decide +kernel
theorem dX7_worst_14 : decode cX7_worst 14 = .ok (.iload_n 1, 1) := by decide +kernel
theorem dX7_worst_15 : decode cX7_worst 15 = .ok (.if_icmp .ge 39, 3) := by decide +kernel
theorem dX7_worst_18 : decode cX7_worst 18 = .ok (.aload_n 0, 1) := by decide +kernel
theorem dX7_worst_19 : decode cX7_worst 19 = .ok (.aload_n 0, 1) := by decide +kernel
theorem dX7_worst_20 : decode cX7_worst 20 = .ok (.getfield 20, 3) := by decide +kernel
theorem dX7_worst_23 : decode cX7_worst 23 = .ok (.iload 4, 2) := by decide +kernel
theorem dX7_worst_25 : decode cX7_worst 25 = .ok (.iaload, 1) := by decide +kernel
theorem dX7_worst_26 : decode cX7_worst 26 = .ok (.invokevirtual 140, 3) := by decide +kernel
theorem dX7_worst_29 : decode cX7_worst 29 = .ok (.istore 5, 2) := by decide +kernel
theorem dX7_worst_31 : decode cX7_worst 31 = .ok (.iload 5, 2) := by decide +kernel
theorem dX7_worst_33 : decode cX7_worst 33 = .ok (.iload_n 3, 1) := by decide +kernel
theorem dX7_worst_34 : decode cX7_worst 34 = .ok (.if_icmp .le 14, 3) := by decide +kernel
theorem dX7_worst_37 : decode cX7_worst 37 = .ok (.iload 5, 2) := by decide +kernel
theorem dX7_worst_39 : decode cX7_worst 39 = .ok (.istore_n 3, 1) := by decide +kernel
theorem dX7_worst_40 : decode cX7_worst 40 = .ok (.aload_n 0, 1) := by decide +kernel
theorem dX7_worst_41 : decode cX7_worst 41 = .ok (.getfield 20, 3) := by decide +kernel
theorem dX7_worst_44 : decode cX7_worst 44 = .ok (.iload 4, 2) := by decide +kernel
theorem dX7_worst_46 : decode cX7_worst 46 = .ok (.iaload, 1) := by decide +kernel
theorem dX7_worst_47 : decode cX7_worst 47 = .ok (.istore_n 2, 1) := by decide +kernel
theorem dX7_worst_48 : decode cX7_worst 48 = .ok (.iinc 4 1, 3) := by decide +kernel
theorem dX7_worst_51 : decode cX7_worst 51 = .ok (.goto (-39), 3) := by decide +kernel
theorem dX7_worst_54 : decode cX7_worst 54 = .ok (.iload_n 2, 1) := by decide +kernel
theorem dX7_worst_55 : decode cX7_worst 55 = .ok (.ireturn, 1) := by decide +kernel
theorem dX7_best_0 : decode cX7_best 0 = .ok (.iload_n 1, 1) := by decide +kernel
theorem dX7_best_1 : decode cX7_best 1 = .ok (.iconst 1, 1) := by decide +kernel
theorem dX7_best_2 : decode cX7_best 2 = .ok (.iconst 4, 1) := by decide +kernel
theorem dX7_best_3 : decode cX7_best 3 = .ok (.invokestatic 65, 3) := by decide +kernel
theorem dX7_best_6 : decode cX7_best 6 = .ok (.ifCond .ne 6, 3) := by decide +kernel
theorem dX7_best_9 : decode cX7_best 9 = .ok (.bipush (-2), 2) := by decide +kernel
theorem dX7_best_11 : decode cX7_best 11 = .ok (.ireturn, 1) := by decide +kernel
theorem dX7_best_12 : decode cX7_best 12 = .ok (.aload_n 0, 1) := by decide +kernel
theorem dX7_best_13 : decode cX7_best 13 = .ok (.getfield 10, 3) := by decide +kernel
theorem dX7_best_16 : decode cX7_best 16 = .ok (.getfield 76, 3) := by decide +kernel
theorem dX7_best_19 : decode cX7_best 19 = .ok (.iload_n 1, 1) := by decide +kernel
theorem dX7_best_20 : decode cX7_best 20 = .ok (.if_icmp .ge 6, 3) := by decide +kernel
theorem dX7_best_23 : decode cX7_best 23 = .ok (.bipush (-3), 2) := by decide +kernel
theorem dX7_best_25 : decode cX7_best 25 = .ok (.ireturn, 1) := by decide +kernel
theorem dX7_best_26 : decode cX7_best 26 = .ok (.iconst (-1), 1) := by decide +kernel
theorem dX7_best_27 : decode cX7_best 27 = .ok (.istore_n 2, 1) := by decide +kernel
theorem dX7_best_28 : decode cX7_best 28 = .ok (.lconst 0, 1) := by decide +kernel
theorem dX7_best_29 : decode cX7_best 29 = .ok (.lstore_n 3, 1) := by decide +kernel
theorem dX7_best_30 : decode cX7_best 30 = .ok (.aload_n 0, 1) := by decide +kernel
theorem dX7_best_31 : decode cX7_best 31 = .ok (.invokevirtual 144, 3) := by decide +kernel
theorem dX7_best_34 : decode cX7_best 34 = .ok (.istore 5, 2) := by decide +kernel
theorem dX7_best_36 : decode cX7_best 36 = .ok (.iconst 1, 1) := by decide +kernel
theorem dX7_best_37 : decode cX7_best 37 = .ok (.istore 6, 2) := by decide +kernel
theorem dX7_best_39 : decode cX7_best 39 = .ok (.iload 6, 2) := by decide +kernel
theorem dX7_best_41 : decode cX7_best 41 = .ok (.iload 5, 2) := by decide +kernel
theorem dX7_best_43 : decode cX7_best 43 = .ok (.if_icmp .ge 39, 3) := by decide +kernel
theorem dX7_best_46 : decode cX7_best 46 = .ok (.iload 6, 2) := by decide +kernel
theorem dX7_best_48 : decode cX7_best 48 = .ok (.invokestatic 147, 3) := by decide +kernel
theorem dX7_best_51 : decode cX7_best 51 = .ok (.iload_n 1, 1) := by decide +kernel
theorem dX7_best_52 : decode cX7_best 52 = .ok (.if_icmp .ne 24, 3) := by decide +kernel
theorem dX7_best_55 : decode cX7_best 55 = .ok (.aload_n 0, 1) := by decide +kernel
theorem dX7_best_56 : decode cX7_best 56 = .ok (.iload 6, 2) := by decide +kernel
theorem dX7_best_58 : decode cX7_best 58 = .ok (.invokevirtual 152, 3) := by decide +kernel
theorem dX7_best_61 : decode cX7_best 61 = .ok (.lstore 7, 2) := by decide +kernel
theorem dX7_best_63 : decode cX7_best 63 = .ok (.lload 7, 2) := by decide +kernel
theorem dX7_best_65 : decode cX7_best 65 = .ok (.lload_n 3, 1) := by decide +kernel
theorem dX7_best_66 : decode cX7_best 66 = .ok (.lcmp, 1) := by decide +kernel
theorem dX7_best_67 : decode cX7_best 67 = .ok (.ifCond .le 9, 3) := by decide +kernel
theorem dX7_best_70 : decode cX7_best 70 = .ok (.lload 7, 2) := by decide +kernel
theorem dX7_best_72 : decode cX7_best 72 = .ok (.lstore_n 3, 1) := by decide +kernel
theorem dX7_best_73 : decode cX7_best 73 = .ok (.iload 6, 2) := by decide +kernel
theorem dX7_best_75 : decode cX7_best 75 = .ok (.istore_n 2, 1) := by decide +kernel
theorem dX7_best_76 : decode cX7_best 76 = .ok (.iinc 6 1, 3) := by decide +kernel
theorem dX7_best_79 : decode cX7_best 79 = .ok (.goto (-40), 3) := by decide +kernel
theorem dX7_best_82 : decode cX7_best 82 = .ok (.iload_n 2, 1) := by decide +kernel
theorem dX7_best_83 : decode cX7_best 83 = .ok (.ireturn, 1) := by decide +kernel
theorem dX7_weight_0 : decode cX7_weight 0 = .ok (.iload_n 1, 1) := by decide +kernel
theorem dX7_weight_1 : decode cX7_weight 1 = .ok (.iconst 0, 1) := by decide +kernel
theorem dX7_weight_2 : decode cX7_weight 2 = .ok (.aload_n 0, 1) := by decide +kernel
theorem dX7_weight_3 : decode cX7_weight 3 = .ok (.invokevirtual 144, 3) := by decide +kernel
theorem dX7_weight_6 : decode cX7_weight 6 = .ok (.iconst 1, 1) := by decide +kernel
theorem dX7_weight_7 : decode cX7_weight 7 = .ok (.isub, 1) := by decide +kernel
theorem dX7_weight_8 : decode cX7_weight 8 = .ok (.invokestatic 65, 3) := by decide +kernel
theorem dX7_weight_11 : decode cX7_weight 11 = .ok (.ifCond .ne 7, 3) := by decide +kernel
theorem dX7_weight_14 : decode cX7_weight 14 = .ok (.ldc2_w 129, 3) := by decide +kernel
theorem dX7_weight_17 : decode cX7_weight 17 = .ok (.lreturn, 1) := by decide +kernel
theorem dX7_weight_18 : decode cX7_weight 18 = .ok (.aload_n 0, 1) := by decide +kernel
theorem dX7_weight_19 : decode cX7_weight 19 = .ok (.iload_n 1, 1) := by decide +kernel
theorem dX7_weight_20 : decode cX7_weight 20 = .ok (.invokevirtual 152, 3) := by decide +kernel
theorem dX7_weight_23 : decode cX7_weight 23 = .ok (.lreturn, 1) := by decide +kernel
theorem dX7_pair_0 : decode cX7_pair 0 = .ok (.iload_n 1, 1) := by decide +kernel
theorem dX7_pair_1 : decode cX7_pair 1 = .ok (.invokestatic 155, 3) := by decide +kernel
theorem dX7_pair_4 : decode cX7_pair 4 = .ok (.ifCond .eq 25, 3) := by decide +kernel
theorem dX7_pair_7 : decode cX7_pair 7 = .ok (.iload_n 2, 1) := by decide +kernel
theorem dX7_pair_8 : decode cX7_pair 8 = .ok (.invokestatic 155, 3) := by decide +kernel
theorem dX7_pair_11 : decode cX7_pair 11 = .ok (.ifCond .eq 18, 3) := by decide +kernel
theorem dX7_pair_14 : decode cX7_pair 14 = .ok (.iload_n 3, 1) := by decide +kernel
theorem dX7_pair_15 : decode cX7_pair 15 = .ok (.invokestatic 155, 3) := by decide +kernel
theorem dX7_pair_18 : decode cX7_pair 18 = .ok (.ifCond .eq 11, 3) := by decide +kernel
theorem dX7_pair_21 : decode cX7_pair 21 = .ok (.iload 4, 2) := by decide +kernel
theorem dX7_pair_23 : decode cX7_pair 23 = .ok (.invokestatic 155, 3) := by decide +kernel
theorem dX7_pair_26 : decode cX7_pair 26 = .ok (.ifCond .ne 6, 3) := by decide +kernel
theorem dX7_pair_29 : decode cX7_pair 29 = .ok (.bipush (-2), 2) := by decide +kernel
theorem dX7_pair_31 : decode cX7_pair 31 = .ok (.ireturn, 1) := by decide +kernel
theorem dX7_pair_32 : decode cX7_pair 32 = .ok (.aload_n 0, 1) := by decide +kernel
theorem dX7_pair_33 : decode cX7_pair 33 = .ok (.getfield 34, 3) := by decide +kernel
theorem dX7_pair_36 : decode cX7_pair 36 = .ok (.getfield 158, 3) := by decide +kernel
theorem dX7_pair_39 : decode cX7_pair 39 = .ok (.bipush 20, 2) := by decide +kernel
theorem dX7_pair_41 : decode cX7_pair 41 = .ok (.if_icmp .lt 6, 3) := by decide +kernel
theorem dX7_pair_44 : decode cX7_pair 44 = .ok (.bipush (-4), 2) := by decide +kernel
theorem dX7_pair_46 : decode cX7_pair 46 = .ok (.ireturn, 1) := by decide +kernel
theorem dX7_pair_47 : decode cX7_pair 47 = .ok (.aload_n 0, 1) := by decide +kernel
theorem dX7_pair_48 : decode cX7_pair 48 = .ok (.getfield 34, 3) := by decide +kernel
theorem dX7_pair_51 : decode cX7_pair 51 = .ok (.iload_n 1, 1) := by decide +kernel
theorem dX7_pair_52 : decode cX7_pair 52 = .ok (.iload_n 2, 1) := by decide +kernel
theorem dX7_pair_53 : decode cX7_pair 53 = .ok (.iload_n 3, 1) := by decide +kernel
theorem dX7_pair_54 : decode cX7_pair 54 = .ok (.iload 4, 2) := by decide +kernel
theorem dX7_pair_56 : decode cX7_pair 56 = .ok (.invokevirtual 161, 3) := by decide +kernel
theorem dX7_pair_59 : decode cX7_pair 59 = .ok (.ireturn, 1) := by decide +kernel
theorem dX7_shut_0 : decode cX7_shut 0 = .ok (.aload_n 0, 1) := by decide +kernel
theorem dX7_shut_1 : decode cX7_shut 1 = .ok (.getfield 34, 3) := by decide +kernel
theorem dX7_shut_4 : decode cX7_shut 4 = .ok (.getfield 158, 3) := by decide +kernel
theorem dX7_shut_7 : decode cX7_shut 7 = .ok (.istore_n 1, 1) := by decide +kernel
theorem dX7_shut_8 : decode cX7_shut 8 = .ok (.aload_n 0, 1) := by decide +kernel
theorem dX7_shut_9 : decode cX7_shut 9 = .ok (.getfield 34, 3) := by decide +kernel
theorem dX7_shut_12 : decode cX7_shut 12 = .ok (.iconst 0, 1) := by decide +kernel
theorem dX7_shut_13 : decode cX7_shut 13 = .ok (.putfield 158, 3) := by decide +kernel
theorem dX7_shut_16 : decode cX7_shut 16 = .ok (.iload_n 1, 1) := by decide +kernel
theorem dX7_shut_17 : decode cX7_shut 17 = .ok (.ireturn, 1) := by decide +kernel
theorem dX7_answers_0 : decode cX7_answers 0 = .ok (.aload_n 0, 1) := by decide +kernel
theorem dX7_answers_1 : decode cX7_answers 1 = .ok (.getfield 34, 3) := by decide +kernel
theorem dX7_answers_4 : decode cX7_answers 4 = .ok (.invokevirtual 165, 3) := by decide +kernel
theorem dX7_answers_7 : decode cX7_answers 7 = .ok (.ireturn, 1) := by decide +kernel
theorem dX7_answer_0 : decode cX7_answer 0 = .ok (.iload_n 1, 1) := by decide +kernel
theorem dX7_answer_1 : decode cX7_answer 1 = .ok (.ifCond .lt 12, 3) := by decide +kernel
theorem dX7_answer_4 : decode cX7_answer 4 = .ok (.iload_n 2, 1) := by decide +kernel
theorem dX7_answer_5 : decode cX7_answer 5 = .ok (.iconst 0, 1) := by decide +kernel
theorem dX7_answer_6 : decode cX7_answer 6 = .ok (.iconst 2, 1) := by decide +kernel
theorem dX7_answer_7 : decode cX7_answer 7 = .ok (.invokestatic 65, 3) := by decide +kernel
theorem dX7_answer_10 : decode cX7_answer 10 = .ok (.ifCond .ne 6, 3) := by decide +kernel
theorem dX7_answer_13 : decode cX7_answer 13 = .ok (.ldc 87, 2) := by decide +kernel
theorem dX7_answer_15 : decode cX7_answer 15 = .ok (.ireturn, 1) := by decide +kernel
theorem dX7_answer_16 : decode cX7_answer 16 = .ok (.aload_n 0, 1) := by decide +kernel
theorem dX7_answer_17 : decode cX7_answer 17 = .ok (.getfield 34, 3) := by decide +kernel
theorem dX7_answer_20 : decode cX7_answer 20 = .ok (.iload_n 1, 1) := by decide +kernel
theorem dX7_answer_21 : decode cX7_answer 21 = .ok (.invokevirtual 168, 3) := by decide +kernel
theorem dX7_answer_24 : decode cX7_answer 24 = .ok (.istore_n 3, 1) := by decide +kernel
theorem dX7_answer_25 : decode cX7_answer 25 = .ok (.iload_n 3, 1) := by decide +kernel
theorem dX7_answer_26 : decode cX7_answer 26 = .ok (.iconst (-1), 1) := by decide +kernel
theorem dX7_answer_27 : decode cX7_answer 27 = .ok (.if_icmp .ne 6, 3) := by decide +kernel
theorem dX7_answer_30 : decode cX7_answer 30 = .ok (.ldc 87, 2) := by decide +kernel
theorem dX7_answer_32 : decode cX7_answer 32 = .ok (.ireturn, 1) := by decide +kernel
theorem dX7_answer_33 : decode cX7_answer 33 = .ok (.iload_n 2, 1) := by decide +kernel
theorem dX7_answer_34 : decode cX7_answer 34 = .ok (.ifCond .ne 5, 3) := by decide +kernel
theorem dX7_answer_37 : decode cX7_answer 37 = .ok (.iload_n 3, 1) := by decide +kernel
theorem dX7_answer_38 : decode cX7_answer 38 = .ok (.ireturn, 1) := by decide +kernel
theorem dX7_answer_39 : decode cX7_answer 39 = .ok (.aload_n 0, 1) := by decide +kernel
theorem dX7_answer_40 : decode cX7_answer 40 = .ok (.getfield 34, 3) := by decide +kernel
theorem dX7_answer_43 : decode cX7_answer 43 = .ok (.getfield 158, 3) := by decide +kernel
theorem dX7_answer_46 : decode cX7_answer 46 = .ok (.ifCond .ne 8, 3) := by decide +kernel
theorem dX7_answer_49 : decode cX7_answer 49 = .ok (.ldc 171, 2) := by decide +kernel
theorem dX7_answer_51 : decode cX7_answer 51 = .ok (.goto 15, 3) := by decide +kernel
theorem dX7_answer_54 : decode cX7_answer 54 = .ok (.aload_n 0, 1) := by decide +kernel
theorem dX7_answer_55 : decode cX7_answer 55 = .ok (.getfield 34, 3) := by decide +kernel
theorem dX7_answer_58 : decode cX7_answer 58 = .ok (.iload_n 3, 1) := by decide +kernel
theorem dX7_answer_59 : decode cX7_answer 59 = .ok (.iconst 0, 1) := by decide +kernel
theorem dX7_answer_60 : decode cX7_answer 60 = .ok (.iload_n 2, 1) := by decide +kernel
theorem dX7_answer_61 : decode cX7_answer 61 = .ok (.iconst 1, 1) := by decide +kernel
theorem dX7_answer_62 : decode cX7_answer 62 = .ok (.isub, 1) := by decide +kernel
theorem dX7_answer_63 : decode cX7_answer 63 = .ok (.invokevirtual 172, 3) := by decide +kernel
theorem dX7_answer_66 : decode cX7_answer 66 = .ok (.ireturn, 1) := by decide +kernel
theorem dX7_limit_0 : decode cX7_limit 0 = .ok (.iload_n 1, 1) := by decide +kernel
theorem dX7_limit_1 : decode cX7_limit 1 = .ok (.iconst 0, 1) := by decide +kernel
theorem dX7_limit_2 : decode cX7_limit 2 = .ok (.iconst 2, 1) := by decide +kernel
theorem dX7_limit_3 : decode cX7_limit 3 = .ok (.invokestatic 65, 3) := by decide +kernel
theorem dX7_limit_6 : decode cX7_limit 6 = .ok (.ifCond .eq 23, 3) := by decide +kernel
theorem dX7_limit_9 : decode cX7_limit 9 = .ok (.iload_n 2, 1) := by decide +kernel
theorem dX7_limit_10 : decode cX7_limit 10 = .ok (.iconst 0, 1) := by decide +kernel
theorem dX7_limit_11 : decode cX7_limit 11 = .ok (.bipush 35, 2) := by decide +kernel
theorem dX7_limit_13 : decode cX7_limit 13 = .ok (.invokestatic 65, 3) := by decide +kernel
theorem dX7_limit_16 : decode cX7_limit 16 = .ok (.ifCond .eq 13, 3) := by decide +kernel
theorem dX7_limit_19 : decode cX7_limit 19 = .ok (.iload_n 3, 1) := by decide +kernel
theorem dX7_limit_20 : decode cX7_limit 20 = .ok (.iconst 0, 1) := by decide +kernel
theorem dX7_limit_21 : decode cX7_limit 21 = .ok (.bipush 35, 2) := by decide +kernel
theorem dX7_limit_23 : decode cX7_limit 23 = .ok (.invokestatic 65, 3) := by decide +kernel
theorem dX7_limit_26 : decode cX7_limit 26 = .ok (.ifCond .ne 6, 3) := by decide +kernel
theorem dX7_limit_29 : decode cX7_limit 29 = .ok (.bipush (-2), 2) := by decide +kernel
theorem dX7_limit_31 : decode cX7_limit 31 = .ok (.ireturn, 1) := by decide +kernel
theorem dX7_limit_32 : decode cX7_limit 32 = .ok (.aload_n 0, 1) := by decide +kernel
theorem dX7_limit_33 : decode cX7_limit 33 = .ok (.getfield 41, 3) := by decide +kernel
theorem dX7_limit_36 : decode cX7_limit 36 = .ok (.iload_n 1, 1) := by decide +kernel
theorem dX7_limit_37 : decode cX7_limit 37 = .ok (.iload_n 2, 1) := by decide +kernel
theorem dX7_limit_38 : decode cX7_limit 38 = .ok (.iload_n 3, 1) := by decide +kernel
theorem dX7_limit_39 : decode cX7_limit 39 = .ok (.invokevirtual 175, 3) := by decide +kernel
theorem dX7_limit_42 : decode cX7_limit 42 = .ok (.iconst 1, 1) := by decide +kernel
theorem dX7_limit_43 : decode cX7_limit 43 = .ok (.ireturn, 1) := by decide +kernel
theorem dX7_nearest_0 : decode cX7_nearest 0 = .ok (.iload_n 1, 1) := by decide +kernel
theorem dX7_nearest_1 : decode cX7_nearest 1 = .ok (.iload_n 2, 1) := by decide +kernel
theorem dX7_nearest_2 : decode cX7_nearest 2 = .ok (.invokestatic 179, 3) := by decide +kernel
theorem dX7_nearest_5 : decode cX7_nearest 5 = .ok (.ifCond .ne 6, 3) := by decide +kernel
theorem dX7_nearest_8 : decode cX7_nearest 8 = .ok (.bipush (-2), 2) := by decide +kernel
theorem dX7_nearest_10 : decode cX7_nearest 10 = .ok (.ireturn, 1) := by decide +kernel
theorem dX7_nearest_11 : decode cX7_nearest 11 = .ok (.aload_n 0, 1) := by decide +kernel
theorem dX7_nearest_12 : decode cX7_nearest 12 = .ok (.getfield 41, 3) := by decide +kernel
theorem dX7_nearest_15 : decode cX7_nearest 15 = .ok (.aload_n 0, 1) := by decide +kernel
theorem dX7_nearest_16 : decode cX7_nearest 16 = .ok (.getfield 10, 3) := by decide +kernel
theorem dX7_nearest_19 : decode cX7_nearest 19 = .ok (.getfield 73, 3) := by decide +kernel
theorem dX7_nearest_22 : decode cX7_nearest 22 = .ok (.iload_n 1, 1) := by decide +kernel
theorem dX7_nearest_23 : decode cX7_nearest 23 = .ok (.iload_n 2, 1) := by decide +kernel
theorem dX7_nearest_24 : decode cX7_nearest 24 = .ok (.invokevirtual 183, 3) := by decide +kernel
theorem dX7_nearest_27 : decode cX7_nearest 27 = .ok (.aload_n 0, 1) := by decide +kernel
theorem dX7_nearest_28 : decode cX7_nearest 28 = .ok (.getfield 41, 3) := by decide +kernel
theorem dX7_nearest_31 : decode cX7_nearest 31 = .ok (.getfield 187, 3) := by decide +kernel
theorem dX7_nearest_34 : decode cX7_nearest 34 = .ok (.ireturn, 1) := by decide +kernel
theorem dX7_near_0 : decode cX7_near 0 = .ok (.iload_n 1, 1) := by decide +kernel
theorem dX7_near_1 : decode cX7_near 1 = .ok (.iload_n 2, 1) := by decide +kernel
theorem dX7_near_2 : decode cX7_near 2 = .ok (.invokestatic 179, 3) := by decide +kernel
theorem dX7_near_5 : decode cX7_near 5 = .ok (.ifCond .ne 7, 3) := by decide +kernel
theorem dX7_near_8 : decode cX7_near 8 = .ok (.ldc2_w 129, 3) := by decide +kernel
theorem dX7_near_11 : decode cX7_near 11 = .ok (.lreturn, 1) := by decide +kernel
theorem dX7_near_12 : decode cX7_near 12 = .ok (.aload_n 0, 1) := by decide +kernel
theorem dX7_near_13 : decode cX7_near 13 = .ok (.getfield 41, 3) := by decide +kernel
theorem dX7_near_16 : decode cX7_near 16 = .ok (.aload_n 0, 1) := by decide +kernel
theorem dX7_near_17 : decode cX7_near 17 = .ok (.getfield 10, 3) := by decide +kernel
theorem dX7_near_20 : decode cX7_near 20 = .ok (.getfield 73, 3) := by decide +kernel
theorem dX7_near_23 : decode cX7_near 23 = .ok (.iload_n 1, 1) := by decide +kernel
theorem dX7_near_24 : decode cX7_near 24 = .ok (.iload_n 2, 1) := by decide +kernel
theorem dX7_near_25 : decode cX7_near 25 = .ok (.invokevirtual 183, 3) := by decide +kernel
theorem dX7_near_28 : decode cX7_near 28 = .ok (.aload_n 0, 1) := by decide +kernel
theorem dX7_near_29 : decode cX7_near 29 = .ok (.getfield 41, 3) := by decide +kernel
theorem dX7_near_32 : decode cX7_near 32 = .ok (.getfield 190, 3) := by decide +kernel
theorem dX7_near_35 : decode cX7_near 35 = .ok (.lreturn, 1) := by decide +kernel
theorem dX7_drift_0 : decode cX7_drift 0 = .ok (.iload_n 1, 1) := by decide +kernel
theorem dX7_drift_1 : decode cX7_drift 1 = .ok (.invokestatic 194, 3) := by decide +kernel
theorem dX7_drift_4 : decode cX7_drift 4 = .ok (.ifCond .eq 22, 3) := by decide +kernel
theorem dX7_drift_7 : decode cX7_drift 7 = .ok (.iload_n 2, 1) := by decide +kernel
theorem dX7_drift_8 : decode cX7_drift 8 = .ok (.ifCond .lt 18, 3) := by decide +kernel
theorem dX7_drift_11 : decode cX7_drift 11 = .ok (.iload_n 2, 1) := by decide +kernel
theorem dX7_drift_12 : decode cX7_drift 12 = .ok (.iload_n 3, 1) := by decide +kernel
theorem dX7_drift_13 : decode cX7_drift 13 = .ok (.if_icmp .gt 13, 3) := by decide +kernel
theorem dX7_drift_16 : decode cX7_drift 16 = .ok (.iload 4, 2) := by decide +kernel
theorem dX7_drift_18 : decode cX7_drift 18 = .ok (.iconst 0, 1) := by decide +kernel
theorem dX7_drift_19 : decode cX7_drift 19 = .ok (.iconst 2, 1) := by decide +kernel
theorem dX7_drift_20 : decode cX7_drift 20 = .ok (.invokestatic 65, 3) := by decide +kernel
theorem dX7_drift_23 : decode cX7_drift 23 = .ok (.ifCond .ne 6, 3) := by decide +kernel
theorem dX7_drift_26 : decode cX7_drift 26 = .ok (.bipush (-2), 2) := by decide +kernel
theorem dX7_drift_28 : decode cX7_drift 28 = .ok (.ireturn, 1) := by decide +kernel
theorem dX7_drift_29 : decode cX7_drift 29 = .ok (.aload_n 0, 1) := by decide +kernel
theorem dX7_drift_30 : decode cX7_drift 30 = .ok (.getfield 54, 3) := by decide +kernel
theorem dX7_drift_33 : decode cX7_drift 33 = .ok (.iload_n 1, 1) := by decide +kernel
theorem dX7_drift_34 : decode cX7_drift 34 = .ok (.aaload, 1) := by decide +kernel
theorem dX7_drift_35 : decode cX7_drift 35 = .ok (.astore 5, 2) := by decide +kernel
theorem dX7_drift_37 : decode cX7_drift 37 = .ok (.aload 5, 2) := by decide +kernel
theorem dX7_drift_39 : decode cX7_drift 39 = .ok (.invokevirtual 197, 3) := by decide +kernel
theorem dX7_drift_42 : decode cX7_drift 42 = .ok (.ifCond .eq 9, 3) := by decide +kernel
theorem dX7_drift_45 : decode cX7_drift 45 = .ok (.aload_n 0, 1) := by decide +kernel
theorem dX7_drift_46 : decode cX7_drift 46 = .ok (.iconst 1, 1) := by decide +kernel
theorem dX7_drift_47 : decode cX7_drift 47 = .ok (.invokevirtual 201, 3) := by decide +kernel
theorem dX7_drift_50 : decode cX7_drift 50 = .ok (.ireturn, 1) := by decide +kernel
theorem dX7_drift_51 : decode cX7_drift 51 = .ok (.aload 5, 2) := by decide +kernel
theorem dX7_drift_53 : decode cX7_drift 53 = .ok (.iload_n 3, 1) := by decide +kernel
theorem dX7_drift_54 : decode cX7_drift 54 = .ok (.invokevirtual 204, 3) := by decide +kernel
theorem dX7_drift_57 : decode cX7_drift 57 = .ok (.ifCond .ne 9, 3) := by decide +kernel
theorem dX7_drift_60 : decode cX7_drift 60 = .ok (.aload_n 0, 1) := by decide +kernel
theorem dX7_drift_61 : decode cX7_drift 61 = .ok (.iconst 2, 1) := by decide +kernel
theorem dX7_drift_62 : decode cX7_drift 62 = .ok (.invokevirtual 201, 3) := by decide +kernel
theorem dX7_drift_65 : decode cX7_drift 65 = .ok (.ireturn, 1) := by decide +kernel
theorem dX7_drift_66 : decode cX7_drift 66 = .ok (.aload_n 0, 1) := by decide +kernel
theorem dX7_drift_67 : decode cX7_drift 67 = .ok (.getfield 48, 3) := by decide +kernel
theorem dX7_drift_70 : decode cX7_drift 70 = .ok (.aload 5, 2) := by decide +kernel
theorem dX7_drift_72 : decode cX7_drift 72 = .ok (.iload_n 2, 1) := by decide +kernel
theorem dX7_drift_73 : decode cX7_drift 73 = .ok (.iload_n 3, 1) := by decide +kernel
theorem dX7_drift_74 : decode cX7_drift 74 = .ok (.invokevirtual 207, 3) := by decide +kernel
theorem dX7_drift_77 : decode cX7_drift 77 = .ok (.iload 4, 2) := by decide +kernel
theorem dX7_drift_79 : decode cX7_drift 79 = .ok (.ifCond .ne 11, 3) := by decide +kernel
theorem dX7_drift_82 : decode cX7_drift 82 = .ok (.aload_n 0, 1) := by decide +kernel
theorem dX7_drift_83 : decode cX7_drift 83 = .ok (.getfield 48, 3) := by decide +kernel
theorem dX7_drift_86 : decode cX7_drift 86 = .ok (.getfield 211, 3) := by decide +kernel
theorem dX7_drift_89 : decode cX7_drift 89 = .ok (.ireturn, 1) := by decide +kernel
theorem dX7_drift_90 : decode cX7_drift 90 = .ok (.iload 4, 2) := by decide +kernel
theorem dX7_drift_92 : decode cX7_drift 92 = .ok (.iconst 1, 1) := by decide +kernel
theorem dX7_drift_93 : decode cX7_drift 93 = .ok (.if_icmp .ne 13, 3) := by decide +kernel
theorem dX7_drift_96 : decode cX7_drift 96 = .ok (.aload_n 0, 1) := by decide +kernel
theorem dX7_drift_97 : decode cX7_drift 97 = .ok (.getfield 48, 3) := by decide +kernel
theorem dX7_drift_100 : decode cX7_drift 100 = .ok (.getfield 214, 3) := by decide +kernel
theorem dX7_drift_103 : decode cX7_drift 103 = .ok (.goto 10, 3) := by decide +kernel
theorem dX7_drift_106 : decode cX7_drift 106 = .ok (.aload_n 0, 1) := by decide +kernel
theorem dX7_drift_107 : decode cX7_drift 107 = .ok (.getfield 48, 3) := by decide +kernel
theorem dX7_drift_110 : decode cX7_drift 110 = .ok (.invokevirtual 217, 3) := by decide +kernel
theorem dX7_drift_113 : decode cX7_drift 113 = .ok (.ireturn, 1) := by decide +kernel
theorem dX7_sheet_0 : decode cX7_sheet 0 = .ok (.iload_n 1, 1) := by decide +kernel
theorem dX7_sheet_1 : decode cX7_sheet 1 = .ok (.invokestatic 194, 3) := by decide +kernel
theorem dX7_sheet_4 : decode cX7_sheet 4 = .ok (.ifCond .eq 16, 3) := by decide +kernel
theorem dX7_sheet_7 : decode cX7_sheet 7 = .ok (.iload_n 2, 1) := by decide +kernel
theorem dX7_sheet_8 : decode cX7_sheet 8 = .ok (.invokestatic 220, 3) := by decide +kernel
theorem dX7_sheet_11 : decode cX7_sheet 11 = .ok (.ifCond .eq 9, 3) := by decide +kernel
theorem dX7_sheet_14 : decode cX7_sheet 14 = .ok (.iload_n 3, 1) := by decide +kernel
theorem dX7_sheet_15 : decode cX7_sheet 15 = .ok (.bipush 100, 2) := by decide +kernel
theorem dX7_sheet_17 : decode cX7_sheet 17 = .ok (.if_icmp .le 6, 3) := by decide +kernel
theorem dX7_sheet_20 : decode cX7_sheet 20 = .ok (.bipush (-2), 2) := by decide +kernel
theorem dX7_sheet_22 : decode cX7_sheet 22 = .ok (.ireturn, 1) := by decide +kernel
theorem dX7_sheet_23 : decode cX7_sheet 23 = .ok (.iload_n 3, 1) := by decide +kernel
theorem dX7_sheet_24 : decode cX7_sheet 24 = .ok (.ifCond .ge 9, 3) := by decide +kernel
theorem dX7_sheet_27 : decode cX7_sheet 27 = .ok (.aload_n 0, 1) := by decide +kernel
theorem dX7_sheet_28 : decode cX7_sheet 28 = .ok (.iconst 5, 1) := by decide +kernel
theorem dX7_sheet_29 : decode cX7_sheet 29 = .ok (.invokevirtual 201, 3) := by decide +kernel
theorem dX7_sheet_32 : decode cX7_sheet 32 = .ok (.ireturn, 1) := by decide +kernel
theorem dX7_sheet_33 : decode cX7_sheet 33 = .ok (.aload_n 0, 1) := by decide +kernel
theorem dX7_sheet_34 : decode cX7_sheet 34 = .ok (.getfield 54, 3) := by decide +kernel
theorem dX7_sheet_37 : decode cX7_sheet 37 = .ok (.iload_n 1, 1) := by decide +kernel
theorem dX7_sheet_38 : decode cX7_sheet 38 = .ok (.aaload, 1) := by decide +kernel
theorem dX7_sheet_39 : decode cX7_sheet 39 = .ok (.iload_n 2, 1) := by decide +kernel
theorem dX7_sheet_40 : decode cX7_sheet 40 = .ok (.iload_n 3, 1) := by decide +kernel
theorem dX7_sheet_41 : decode cX7_sheet 41 = .ok (.invokevirtual 223, 3) := by decide +kernel
theorem dX7_sheet_44 : decode cX7_sheet 44 = .ok (.iload_n 3, 1) := by decide +kernel
theorem dX7_sheet_45 : decode cX7_sheet 45 = .ok (.ireturn, 1) := by decide +kernel
theorem dX7_lose_0 : decode cX7_lose 0 = .ok (.iload_n 1, 1) := by decide +kernel
theorem dX7_lose_1 : decode cX7_lose 1 = .ok (.invokestatic 194, 3) := by decide +kernel
theorem dX7_lose_4 : decode cX7_lose 4 = .ok (.ifCond .ne 6, 3) := by decide +kernel
theorem dX7_lose_7 : decode cX7_lose 7 = .ok (.bipush (-2), 2) := by decide +kernel
theorem dX7_lose_9 : decode cX7_lose 9 = .ok (.ireturn, 1) := by decide +kernel
theorem dX7_lose_10 : decode cX7_lose 10 = .ok (.aload_n 0, 1) := by decide +kernel
theorem dX7_lose_11 : decode cX7_lose 11 = .ok (.getfield 54, 3) := by decide +kernel
theorem dX7_lose_14 : decode cX7_lose 14 = .ok (.iload_n 1, 1) := by decide +kernel
theorem dX7_lose_15 : decode cX7_lose 15 = .ok (.aaload, 1) := by decide +kernel
theorem dX7_lose_16 : decode cX7_lose 16 = .ok (.invokevirtual 197, 3) := by decide +kernel
theorem dX7_lose_19 : decode cX7_lose 19 = .ok (.ifCond .eq 9, 3) := by decide +kernel
theorem dX7_lose_22 : decode cX7_lose 22 = .ok (.aload_n 0, 1) := by decide +kernel
theorem dX7_lose_23 : decode cX7_lose 23 = .ok (.iconst 1, 1) := by decide +kernel
theorem dX7_lose_24 : decode cX7_lose 24 = .ok (.invokevirtual 201, 3) := by decide +kernel
theorem dX7_lose_27 : decode cX7_lose 27 = .ok (.ireturn, 1) := by decide +kernel
theorem dX7_lose_28 : decode cX7_lose 28 = .ok (.aload_n 0, 1) := by decide +kernel
theorem dX7_lose_29 : decode cX7_lose 29 = .ok (.getfield 54, 3) := by decide +kernel
theorem dX7_lose_32 : decode cX7_lose 32 = .ok (.iload_n 1, 1) := by decide +kernel
theorem dX7_lose_33 : decode cX7_lose 33 = .ok (.aaload, 1) := by decide +kernel
theorem dX7_lose_34 : decode cX7_lose 34 = .ok (.invokevirtual 227, 3) := by decide +kernel
theorem dX7_lose_37 : decode cX7_lose 37 = .ok (.ireturn, 1) := by decide +kernel
theorem dX7_put_0 : decode cX7_put 0 = .ok (.iload_n 1, 1) := by decide +kernel
theorem dX7_put_1 : decode cX7_put 1 = .ok (.invokestatic 194, 3) := by decide +kernel
theorem dX7_put_4 : decode cX7_put 4 = .ok (.ifCond .eq 10, 3) := by decide +kernel
theorem dX7_put_7 : decode cX7_put 7 = .ok (.iload_n 2, 1) := by decide +kernel
theorem dX7_put_8 : decode cX7_put 8 = .ok (.invokestatic 220, 3) := by decide +kernel
theorem dX7_put_11 : decode cX7_put 11 = .ok (.ifCond .ne 6, 3) := by decide +kernel
theorem dX7_put_14 : decode cX7_put 14 = .ok (.bipush (-2), 2) := by decide +kernel
theorem dX7_put_16 : decode cX7_put 16 = .ok (.ireturn, 1) := by decide +kernel
theorem dX7_put_17 : decode cX7_put 17 = .ok (.aload_n 0, 1) := by decide +kernel
theorem dX7_put_18 : decode cX7_put 18 = .ok (.getfield 54, 3) := by decide +kernel
theorem dX7_put_21 : decode cX7_put 21 = .ok (.iload_n 1, 1) := by decide +kernel
theorem dX7_put_22 : decode cX7_put 22 = .ok (.aaload, 1) := by decide +kernel
theorem dX7_put_23 : decode cX7_put 23 = .ok (.iload_n 2, 1) := by decide +kernel
theorem dX7_put_24 : decode cX7_put 24 = .ok (.iload_n 3, 1) := by decide +kernel
theorem dX7_put_25 : decode cX7_put 25 = .ok (.invokestatic 230, 3) := by decide +kernel
theorem dX7_put_28 : decode cX7_put 28 = .ok (.istore 5, 2) := by decide +kernel
theorem dX7_put_30 : decode cX7_put 30 = .ok (.iload 5, 2) := by decide +kernel
theorem dX7_put_32 : decode cX7_put 32 = .ok (.ifCond .eq 10, 3) := by decide +kernel
theorem dX7_put_35 : decode cX7_put 35 = .ok (.aload_n 0, 1) := by decide +kernel
theorem dX7_put_36 : decode cX7_put 36 = .ok (.iload 5, 2) := by decide +kernel
theorem dX7_put_38 : decode cX7_put 38 = .ok (.invokevirtual 201, 3) := by decide +kernel
theorem dX7_put_41 : decode cX7_put 41 = .ok (.ireturn, 1) := by decide +kernel
theorem dX7_put_42 : decode cX7_put 42 = .ok (.aload_n 0, 1) := by decide +kernel
theorem dX7_put_43 : decode cX7_put 43 = .ok (.getfield 54, 3) := by decide +kernel
theorem dX7_put_46 : decode cX7_put 46 = .ok (.iload_n 1, 1) := by decide +kernel
theorem dX7_put_47 : decode cX7_put 47 = .ok (.aaload, 1) := by decide +kernel
theorem dX7_put_48 : decode cX7_put 48 = .ok (.getfield 234, 3) := by decide +kernel
theorem dX7_put_51 : decode cX7_put 51 = .ok (.iload_n 3, 1) := by decide +kernel
theorem dX7_put_52 : decode cX7_put 52 = .ok (.iload_n 2, 1) := by decide +kernel
theorem dX7_put_53 : decode cX7_put 53 = .ok (.iload 4, 2) := by decide +kernel
theorem dX7_put_55 : decode cX7_put 55 = .ok (.invokestatic 237, 3) := by decide +kernel
theorem dX7_put_58 : decode cX7_put 58 = .ok (.iastore, 1) := by decide +kernel
theorem dX7_put_59 : decode cX7_put 59 = .ok (.iconst 1, 1) := by decide +kernel
theorem dX7_put_60 : decode cX7_put 60 = .ok (.ireturn, 1) := by decide +kernel
theorem dX7_get_0 : decode cX7_get 0 = .ok (.iload_n 1, 1) := by decide +kernel
theorem dX7_get_1 : decode cX7_get 1 = .ok (.invokestatic 194, 3) := by decide +kernel
theorem dX7_get_4 : decode cX7_get 4 = .ok (.ifCond .eq 10, 3) := by decide +kernel
theorem dX7_get_7 : decode cX7_get 7 = .ok (.iload_n 2, 1) := by decide +kernel
theorem dX7_get_8 : decode cX7_get 8 = .ok (.invokestatic 220, 3) := by decide +kernel
theorem dX7_get_11 : decode cX7_get 11 = .ok (.ifCond .ne 6, 3) := by decide +kernel
theorem dX7_get_14 : decode cX7_get 14 = .ok (.ldc 87, 2) := by decide +kernel
theorem dX7_get_16 : decode cX7_get 16 = .ok (.ireturn, 1) := by decide +kernel
theorem dX7_get_17 : decode cX7_get 17 = .ok (.aload_n 0, 1) := by decide +kernel
theorem dX7_get_18 : decode cX7_get 18 = .ok (.getfield 54, 3) := by decide +kernel
theorem dX7_get_21 : decode cX7_get 21 = .ok (.iload_n 1, 1) := by decide +kernel
theorem dX7_get_22 : decode cX7_get 22 = .ok (.aaload, 1) := by decide +kernel
theorem dX7_get_23 : decode cX7_get 23 = .ok (.iload_n 2, 1) := by decide +kernel
theorem dX7_get_24 : decode cX7_get 24 = .ok (.iload_n 3, 1) := by decide +kernel
theorem dX7_get_25 : decode cX7_get 25 = .ok (.invokestatic 230, 3) := by decide +kernel
theorem dX7_get_28 : decode cX7_get 28 = .ok (.istore 4, 2) := by decide +kernel
theorem dX7_get_30 : decode cX7_get 30 = .ok (.iload 4, 2) := by decide +kernel
theorem dX7_get_32 : decode cX7_get 32 = .ok (.ifCond .eq 12, 3) := by decide +kernel
theorem dX7_get_35 : decode cX7_get 35 = .ok (.aload_n 0, 1) := by decide +kernel
theorem dX7_get_36 : decode cX7_get 36 = .ok (.iload 4, 2) := by decide +kernel
theorem dX7_get_38 : decode cX7_get 38 = .ok (.putfield 58, 3) := by decide +kernel
theorem dX7_get_41 : decode cX7_get 41 = .ok (.ldc 87, 2) := by decide +kernel
theorem dX7_get_43 : decode cX7_get 43 = .ok (.ireturn, 1) := by decide +kernel
theorem dX7_get_44 : decode cX7_get 44 = .ok (.aload_n 0, 1) := by decide +kernel
theorem dX7_get_45 : decode cX7_get 45 = .ok (.getfield 54, 3) := by decide +kernel
theorem dX7_get_48 : decode cX7_get 48 = .ok (.iload_n 1, 1) := by decide +kernel
theorem dX7_get_49 : decode cX7_get 49 = .ok (.aaload, 1) := by decide +kernel
theorem dX7_get_50 : decode cX7_get 50 = .ok (.getfield 234, 3) := by decide +kernel
theorem dX7_get_53 : decode cX7_get 53 = .ok (.iload_n 3, 1) := by decide +kernel
theorem dX7_get_54 : decode cX7_get 54 = .ok (.iaload, 1) := by decide +kernel
theorem dX7_get_55 : decode cX7_get 55 = .ok (.ireturn, 1) := by decide +kernel
theorem dX7_copy_0 : decode cX7_copy 0 = .ok (.iload_n 1, 1) := by decide +kernel
theorem dX7_copy_1 : decode cX7_copy 1 = .ok (.invokestatic 194, 3) := by decide +kernel
theorem dX7_copy_4 : decode cX7_copy 4 = .ok (.ifCond .eq 10, 3) := by decide +kernel
theorem dX7_copy_7 : decode cX7_copy 7 = .ok (.iload_n 3, 1) := by decide +kernel
theorem dX7_copy_8 : decode cX7_copy 8 = .ok (.invokestatic 194, 3) := by decide +kernel
theorem dX7_copy_11 : decode cX7_copy 11 = .ok (.ifCond .ne 6, 3) := by decide +kernel
theorem dX7_copy_14 : decode cX7_copy 14 = .ok (.bipush (-2), 2) := by decide +kernel
theorem dX7_copy_16 : decode cX7_copy 16 = .ok (.ireturn, 1) := by decide +kernel
theorem dX7_copy_17 : decode cX7_copy 17 = .ok (.aload_n 0, 1) := by decide +kernel
theorem dX7_copy_18 : decode cX7_copy 18 = .ok (.getfield 54, 3) := by decide +kernel
theorem dX7_copy_21 : decode cX7_copy 21 = .ok (.iload_n 1, 1) := by decide +kernel
theorem dX7_copy_22 : decode cX7_copy 22 = .ok (.aaload, 1) := by decide +kernel
theorem dX7_copy_23 : decode cX7_copy 23 = .ok (.astore 6, 2) := by decide +kernel
theorem dX7_copy_25 : decode cX7_copy 25 = .ok (.aload_n 0, 1) := by decide +kernel
theorem dX7_copy_26 : decode cX7_copy 26 = .ok (.getfield 54, 3) := by decide +kernel
theorem dX7_copy_29 : decode cX7_copy 29 = .ok (.iload_n 3, 1) := by decide +kernel
theorem dX7_copy_30 : decode cX7_copy 30 = .ok (.aaload, 1) := by decide +kernel
theorem dX7_copy_31 : decode cX7_copy 31 = .ok (.astore 7, 2) := by decide +kernel
theorem dX7_copy_33 : decode cX7_copy 33 = .ok (.aload 6, 2) := by decide +kernel
theorem dX7_copy_35 : decode cX7_copy 35 = .ok (.invokevirtual 197, 3) := by decide +kernel
theorem dX7_copy_38 : decode cX7_copy 38 = .ok (.ifCond .ne 11, 3) := by decide +kernel
theorem dX7_copy_41 : decode cX7_copy 41 = .ok (.aload 7, 2) := by decide +kernel
theorem dX7_copy_43 : decode cX7_copy 43 = .ok (.invokevirtual 197, 3) := by decide +kernel
theorem dX7_copy_46 : decode cX7_copy 46 = .ok (.ifCond .eq 9, 3) := by decide +kernel
theorem dX7_copy_49 : decode cX7_copy 49 = .ok (.aload_n 0, 1) := by decide +kernel
theorem dX7_copy_50 : decode cX7_copy 50 = .ok (.iconst 1, 1) := by decide +kernel
theorem dX7_copy_51 : decode cX7_copy 51 = .ok (.invokevirtual 201, 3) := by decide +kernel
theorem dX7_copy_54 : decode cX7_copy 54 = .ok (.ireturn, 1) := by decide +kernel
theorem dX7_copy_55 : decode cX7_copy 55 = .ok (.aload 6, 2) := by decide +kernel
theorem dX7_copy_57 : decode cX7_copy 57 = .ok (.getfield 240, 3) := by decide +kernel
theorem dX7_copy_60 : decode cX7_copy 60 = .ok (.aload 7, 2) := by decide +kernel
theorem dX7_copy_62 : decode cX7_copy 62 = .ok (.getfield 240, 3) := by decide +kernel
theorem dX7_copy_65 : decode cX7_copy 65 = .ok (.if_icmp .eq 9, 3) := by decide +kernel
theorem dX7_copy_68 : decode cX7_copy 68 = .ok (.aload_n 0, 1) := by decide +kernel
theorem dX7_copy_69 : decode cX7_copy 69 = .ok (.iconst 4, 1) := by decide +kernel
theorem dX7_copy_70 : decode cX7_copy 70 = .ok (.invokevirtual 201, 3) := by decide +kernel
theorem dX7_copy_73 : decode cX7_copy 73 = .ok (.ireturn, 1) := by decide +kernel
theorem dX7_copy_74 : decode cX7_copy 74 = .ok (.aload 6, 2) := by decide +kernel
theorem dX7_copy_76 : decode cX7_copy 76 = .ok (.iload_n 2, 1) := by decide +kernel
theorem dX7_copy_77 : decode cX7_copy 77 = .ok (.iload 5, 2) := by decide +kernel
theorem dX7_copy_79 : decode cX7_copy 79 = .ok (.invokevirtual 243, 3) := by decide +kernel
theorem dX7_copy_82 : decode cX7_copy 82 = .ok (.ifCond .eq 15, 3) := by decide +kernel
theorem dX7_copy_85 : decode cX7_copy 85 = .ok (.aload 7, 2) := by decide +kernel
theorem dX7_copy_87 : decode cX7_copy 87 = .ok (.iload 4, 2) := by decide +kernel
theorem dX7_copy_89 : decode cX7_copy 89 = .ok (.iload 5, 2) := by decide +kernel
theorem dX7_copy_91 : decode cX7_copy 91 = .ok (.invokevirtual 243, 3) := by decide +kernel
theorem dX7_copy_94 : decode cX7_copy 94 = .ok (.ifCond .ne 9, 3) := by decide +kernel
theorem dX7_copy_97 : decode cX7_copy 97 = .ok (.aload_n 0, 1) := by decide +kernel
theorem dX7_copy_98 : decode cX7_copy 98 = .ok (.iconst 2, 1) := by decide +kernel
theorem dX7_copy_99 : decode cX7_copy 99 = .ok (.invokevirtual 201, 3) := by decide +kernel
theorem dX7_copy_102 : decode cX7_copy 102 = .ok (.ireturn, 1) := by decide +kernel
theorem dX7_copy_103 : decode cX7_copy 103 = .ok (.aload 6, 2) := by decide +kernel
theorem dX7_copy_105 : decode cX7_copy 105 = .ok (.getfield 234, 3) := by decide +kernel
theorem dX7_copy_108 : decode cX7_copy 108 = .ok (.iload_n 2, 1) := by decide +kernel
theorem dX7_copy_109 : decode cX7_copy 109 = .ok (.aload 7, 2) := by decide +kernel
theorem dX7_copy_111 : decode cX7_copy 111 = .ok (.getfield 234, 3) := by decide +kernel
theorem dX7_copy_114 : decode cX7_copy 114 = .ok (.iload 4, 2) := by decide +kernel
theorem dX7_copy_116 : decode cX7_copy 116 = .ok (.iload 5, 2) := by decide +kernel
theorem dX7_copy_118 : decode cX7_copy 118 = .ok (.invokestatic 246, 3) := by decide +kernel
theorem dX7_copy_121 : decode cX7_copy 121 = .ok (.iconst 1, 1) := by decide +kernel
theorem dX7_copy_122 : decode cX7_copy 122 = .ok (.ireturn, 1) := by decide +kernel
theorem dX7_count_0 : decode cX7_count 0 = .ok (.iload_n 1, 1) := by decide +kernel
theorem dX7_count_1 : decode cX7_count 1 = .ok (.tableswitch 77 0 5 #[39, 47, 52, 60, 67, 72], 39) := by decide +kernel
theorem dX7_count_40 : decode cX7_count 40 = .ok (.aload_n 0, 1) := by decide +kernel
theorem dX7_count_41 : decode cX7_count 41 = .ok (.getfield 10, 3) := by decide +kernel
theorem dX7_count_44 : decode cX7_count 44 = .ok (.getfield 76, 3) := by decide +kernel
theorem dX7_count_47 : decode cX7_count 47 = .ok (.ireturn, 1) := by decide +kernel
theorem dX7_count_48 : decode cX7_count 48 = .ok (.aload_n 0, 1) := by decide +kernel
theorem dX7_count_49 : decode cX7_count 49 = .ok (.invokevirtual 252, 3) := by decide +kernel
theorem dX7_count_52 : decode cX7_count 52 = .ok (.ireturn, 1) := by decide +kernel
theorem dX7_count_53 : decode cX7_count 53 = .ok (.aload_n 0, 1) := by decide +kernel
theorem dX7_count_54 : decode cX7_count 54 = .ok (.getfield 34, 3) := by decide +kernel
theorem dX7_count_57 : decode cX7_count 57 = .ok (.getfield 158, 3) := by decide +kernel
theorem dX7_count_60 : decode cX7_count 60 = .ok (.ireturn, 1) := by decide +kernel
theorem dX7_count_61 : decode cX7_count 61 = .ok (.iconst 4, 1) := by decide +kernel
theorem dX7_count_62 : decode cX7_count 62 = .ok (.aload_n 0, 1) := by decide +kernel
theorem dX7_count_63 : decode cX7_count 63 = .ok (.invokevirtual 255, 3) := by decide +kernel
theorem dX7_count_66 : decode cX7_count 66 = .ok (.isub, 1) := by decide +kernel
theorem dX7_count_67 : decode cX7_count 67 = .ok (.ireturn, 1) := by decide +kernel
theorem dX7_count_68 : decode cX7_count 68 = .ok (.aload_n 0, 1) := by decide +kernel
theorem dX7_count_69 : decode cX7_count 69 = .ok (.invokevirtual 255, 3) := by decide +kernel
theorem dX7_count_72 : decode cX7_count 72 = .ok (.ireturn, 1) := by decide +kernel
theorem dX7_count_73 : decode cX7_count 73 = .ok (.aload_n 0, 1) := by decide +kernel
theorem dX7_count_74 : decode cX7_count 74 = .ok (.getfield 58, 3) := by decide +kernel
theorem dX7_count_77 : decode cX7_count 77 = .ok (.ireturn, 1) := by decide +kernel
theorem dX7_count_78 : decode cX7_count 78 = .ok (.bipush (-2), 2) := by decide +kernel
theorem dX7_count_80 : decode cX7_count 80 = .ok (.ireturn, 1) := by decide +kernel
theorem dX7_digest_0 : decode cX7_digest 0 = .ok (.ldc2_w 258, 3) := by decide +kernel
theorem dX7_digest_3 : decode cX7_digest 3 = .ok (.lstore_n 1, 1) := by decide +kernel
theorem dX7_digest_4 : decode cX7_digest 4 = .ok (.iconst 0, 1) := by decide +kernel
theorem dX7_digest_5 : decode cX7_digest 5 = .ok (.istore_n 3, 1) := by decide +kernel
theorem dX7_digest_6 : decode cX7_digest 6 = .ok (.iload_n 3, 1) := by decide +kernel
theorem dX7_digest_7 : decode cX7_digest 7 = .ok (.iconst 4, 1) := by decide +kernel
theorem dX7_digest_8 : decode cX7_digest 8 = .ok (.if_icmp .gt 22, 3) := by decide +kernel
theorem dX7_digest_11 : decode cX7_digest 11 = .ok (.ldc2_w 260, 3) := by decide +kernel
theorem dX7_digest_14 : decode cX7_digest 14 = .ok (.lload_n 1, 1) := by decide +kernel
theorem dX7_digest_15 : decode cX7_digest 15 = .ok (.lmul, 1) := by decide +kernel
theorem dX7_digest_16 : decode cX7_digest 16 = .ok (.aload_n 0, 1) := by decide +kernel
theorem dX7_digest_17 : decode cX7_digest 17 = .ok (.iload_n 3, 1) := by decide +kernel
theorem dX7_digest_18 : decode cX7_digest 18 = .ok (.invokevirtual 262, 3) := by decide +kernel
theorem dX7_digest_21 : decode cX7_digest 21 = .ok (.i2l, 1) := by decide +kernel
theorem dX7_digest_22 : decode cX7_digest 22 = .ok (.ladd, 1) := by decide +kernel
theorem dX7_digest_23 : decode cX7_digest 23 = .ok (.lstore_n 1, 1) := by decide +kernel
theorem dX7_digest_24 : decode cX7_digest 24 = .ok (.iinc 3 1, 3) := by decide +kernel
theorem dX7_digest_27 : decode cX7_digest 27 = .ok (.goto (-21), 3) := by decide +kernel
theorem dX7_digest_30 : decode cX7_digest 30 = .ok (.iconst 0, 1) := by decide +kernel
theorem dX7_digest_31 : decode cX7_digest 31 = .ok (.istore_n 3, 1) := by decide +kernel
theorem dX7_digest_32 : decode cX7_digest 32 = .ok (.iload_n 3, 1) := by decide +kernel
theorem dX7_digest_33 : decode cX7_digest 33 = .ok (.iconst 3, 1) := by decide +kernel
theorem dX7_digest_34 : decode cX7_digest 34 = .ok (.if_icmp .ge 26, 3) := by decide +kernel
theorem dX7_digest_37 : decode cX7_digest 37 = .ok (.ldc2_w 260, 3) := by decide +kernel
theorem dX7_digest_40 : decode cX7_digest 40 = .ok (.lload_n 1, 1) := by decide +kernel
theorem dX7_digest_41 : decode cX7_digest 41 = .ok (.lmul, 1) := by decide +kernel
theorem dX7_digest_42 : decode cX7_digest 42 = .ok (.aload_n 0, 1) := by decide +kernel
theorem dX7_digest_43 : decode cX7_digest 43 = .ok (.getfield 10, 3) := by decide +kernel
theorem dX7_digest_46 : decode cX7_digest 46 = .ok (.getfield 73, 3) := by decide +kernel
theorem dX7_digest_49 : decode cX7_digest 49 = .ok (.iload_n 3, 1) := by decide +kernel
theorem dX7_digest_50 : decode cX7_digest 50 = .ok (.iaload, 1) := by decide +kernel
theorem dX7_digest_51 : decode cX7_digest 51 = .ok (.i2l, 1) := by decide +kernel
theorem dX7_digest_52 : decode cX7_digest 52 = .ok (.ladd, 1) := by decide +kernel
theorem dX7_digest_53 : decode cX7_digest 53 = .ok (.lstore_n 1, 1) := by decide +kernel
theorem dX7_digest_54 : decode cX7_digest 54 = .ok (.iinc 3 1, 3) := by decide +kernel
theorem dX7_digest_57 : decode cX7_digest 57 = .ok (.goto (-25), 3) := by decide +kernel
theorem dX7_digest_60 : decode cX7_digest 60 = .ok (.iconst 0, 1) := by decide +kernel
theorem dX7_digest_61 : decode cX7_digest 61 = .ok (.istore_n 3, 1) := by decide +kernel
theorem dX7_digest_62 : decode cX7_digest 62 = .ok (.iload_n 3, 1) := by decide +kernel
theorem dX7_digest_63 : decode cX7_digest 63 = .ok (.aload_n 0, 1) := by decide +kernel
theorem dX7_digest_64 : decode cX7_digest 64 = .ok (.getfield 10, 3) := by decide +kernel
theorem dX7_digest_67 : decode cX7_digest 67 = .ok (.getfield 76, 3) := by decide +kernel
theorem dX7_digest_70 : decode cX7_digest 70 = .ok (.if_icmp .ge 43, 3) := by decide +kernel
theorem dX7_digest_73 : decode cX7_digest 73 = .ok (.ldc2_w 260, 3) := by decide +kernel
theorem dX7_digest_76 : decode cX7_digest 76 = .ok (.lload_n 1, 1) := by decide +kernel
theorem dX7_digest_77 : decode cX7_digest 77 = .ok (.lmul, 1) := by decide +kernel
theorem dX7_digest_78 : decode cX7_digest 78 = .ok (.aload_n 0, 1) := by decide +kernel
theorem dX7_digest_79 : decode cX7_digest 79 = .ok (.getfield 10, 3) := by decide +kernel
theorem dX7_digest_82 : decode cX7_digest 82 = .ok (.iload_n 3, 1) := by decide +kernel
theorem dX7_digest_83 : decode cX7_digest 83 = .ok (.iconst 0, 1) := by decide +kernel
theorem dX7_digest_84 : decode cX7_digest 84 = .ok (.invokevirtual 88, 3) := by decide +kernel
theorem dX7_digest_87 : decode cX7_digest 87 = .ok (.i2l, 1) := by decide +kernel
theorem dX7_digest_88 : decode cX7_digest 88 = .ok (.ladd, 1) := by decide +kernel
theorem dX7_digest_89 : decode cX7_digest 89 = .ok (.lstore_n 1, 1) := by decide +kernel
theorem dX7_digest_90 : decode cX7_digest 90 = .ok (.ldc2_w 260, 3) := by decide +kernel
theorem dX7_digest_93 : decode cX7_digest 93 = .ok (.lload_n 1, 1) := by decide +kernel
theorem dX7_digest_94 : decode cX7_digest 94 = .ok (.lmul, 1) := by decide +kernel
theorem dX7_digest_95 : decode cX7_digest 95 = .ok (.aload_n 0, 1) := by decide +kernel
theorem dX7_digest_96 : decode cX7_digest 96 = .ok (.getfield 10, 3) := by decide +kernel
theorem dX7_digest_99 : decode cX7_digest 99 = .ok (.iload_n 3, 1) := by decide +kernel
theorem dX7_digest_100 : decode cX7_digest 100 = .ok (.iconst 1, 1) := by decide +kernel
theorem dX7_digest_101 : decode cX7_digest 101 = .ok (.invokevirtual 88, 3) := by decide +kernel
theorem dX7_digest_104 : decode cX7_digest 104 = .ok (.i2l, 1) := by decide +kernel
theorem dX7_digest_105 : decode cX7_digest 105 = .ok (.ladd, 1) := by decide +kernel
theorem dX7_digest_106 : decode cX7_digest 106 = .ok (.lstore_n 1, 1) := by decide +kernel
theorem dX7_digest_107 : decode cX7_digest 107 = .ok (.iinc 3 1, 3) := by decide +kernel
theorem dX7_digest_110 : decode cX7_digest 110 = .ok (.goto (-48), 3) := by decide +kernel
theorem dX7_digest_113 : decode cX7_digest 113 = .ok (.aload_n 0, 1) := by decide +kernel
theorem dX7_digest_114 : decode cX7_digest 114 = .ok (.invokevirtual 91, 3) := by decide +kernel
theorem dX7_digest_117 : decode cX7_digest 117 = .ok (.iconst 0, 1) := by decide +kernel
theorem dX7_digest_118 : decode cX7_digest 118 = .ok (.istore_n 3, 1) := by decide +kernel
theorem dX7_digest_119 : decode cX7_digest 119 = .ok (.iload_n 3, 1) := by decide +kernel
theorem dX7_digest_120 : decode cX7_digest 120 = .ok (.bipush 9, 2) := by decide +kernel
theorem dX7_digest_122 : decode cX7_digest 122 = .ok (.if_icmp .ge 25, 3) := by decide +kernel
theorem dX7_digest_125 : decode cX7_digest 125 = .ok (.ldc2_w 260, 3) := by decide +kernel
theorem dX7_digest_128 : decode cX7_digest 128 = .ok (.lload_n 1, 1) := by decide +kernel
theorem dX7_digest_129 : decode cX7_digest 129 = .ok (.lmul, 1) := by decide +kernel
theorem dX7_digest_130 : decode cX7_digest 130 = .ok (.aload_n 0, 1) := by decide +kernel
theorem dX7_digest_131 : decode cX7_digest 131 = .ok (.getfield 27, 3) := by decide +kernel
theorem dX7_digest_134 : decode cX7_digest 134 = .ok (.getfield 131, 3) := by decide +kernel
theorem dX7_digest_137 : decode cX7_digest 137 = .ok (.iload_n 3, 1) := by decide +kernel
theorem dX7_digest_138 : decode cX7_digest 138 = .ok (.laload, 1) := by decide +kernel
theorem dX7_digest_139 : decode cX7_digest 139 = .ok (.ladd, 1) := by decide +kernel
theorem dX7_digest_140 : decode cX7_digest 140 = .ok (.lstore_n 1, 1) := by decide +kernel
theorem dX7_digest_141 : decode cX7_digest 141 = .ok (.iinc 3 1, 3) := by decide +kernel
theorem dX7_digest_144 : decode cX7_digest 144 = .ok (.goto (-25), 3) := by decide +kernel
theorem dX7_digest_147 : decode cX7_digest 147 = .ok (.ldc2_w 260, 3) := by decide +kernel
theorem dX7_digest_150 : decode cX7_digest 150 = .ok (.lload_n 1, 1) := by decide +kernel
theorem dX7_digest_151 : decode cX7_digest 151 = .ok (.lmul, 1) := by decide +kernel
theorem dX7_digest_152 : decode cX7_digest 152 = .ok (.aload_n 0, 1) := by decide +kernel
theorem dX7_digest_153 : decode cX7_digest 153 = .ok (.getfield 27, 3) := by decide +kernel
theorem dX7_digest_156 : decode cX7_digest 156 = .ok (.invokevirtual 94, 3) := by decide +kernel
theorem dX7_digest_159 : decode cX7_digest 159 = .ok (.i2l, 1) := by decide +kernel
theorem dX7_digest_160 : decode cX7_digest 160 = .ok (.ladd, 1) := by decide +kernel
theorem dX7_digest_161 : decode cX7_digest 161 = .ok (.lstore_n 1, 1) := by decide +kernel
theorem dX7_digest_162 : decode cX7_digest 162 = .ok (.ldc2_w 260, 3) := by decide +kernel
theorem dX7_digest_165 : decode cX7_digest 165 = .ok (.lload_n 1, 1) := by decide +kernel
theorem dX7_digest_166 : decode cX7_digest 166 = .ok (.lmul, 1) := by decide +kernel
theorem dX7_digest_167 : decode cX7_digest 167 = .ok (.aload_n 0, 1) := by decide +kernel
theorem dX7_digest_168 : decode cX7_digest 168 = .ok (.getfield 34, 3) := by decide +kernel
theorem dX7_digest_171 : decode cX7_digest 171 = .ok (.invokevirtual 165, 3) := by decide +kernel
theorem dX7_digest_174 : decode cX7_digest 174 = .ok (.i2l, 1) := by decide +kernel
theorem dX7_digest_175 : decode cX7_digest 175 = .ok (.ladd, 1) := by decide +kernel
theorem dX7_digest_176 : decode cX7_digest 176 = .ok (.lreturn, 1) := by decide +kernel
theorem dX7_within_0 : decode cX7_within 0 = .ok (.iload_n 0, 1) := by decide +kernel
theorem dX7_within_1 : decode cX7_within 1 = .ok (.iload_n 1, 1) := by decide +kernel
theorem dX7_within_2 : decode cX7_within 2 = .ok (.if_icmp .lt 12, 3) := by decide +kernel
theorem dX7_within_5 : decode cX7_within 5 = .ok (.iload_n 0, 1) := by decide +kernel
theorem dX7_within_6 : decode cX7_within 6 = .ok (.iload_n 2, 1) := by decide +kernel
theorem dX7_within_7 : decode cX7_within 7 = .ok (.if_icmp .gt 7, 3) := by decide +kernel
theorem dX7_within_10 : decode cX7_within 10 = .ok (.iconst 1, 1) := by decide +kernel
theorem dX7_within_11 : decode cX7_within 11 = .ok (.goto 4, 3) := by decide +kernel
theorem dX7_within_14 : decode cX7_within 14 = .ok (.iconst 0, 1) := by decide +kernel
theorem dX7_within_15 : decode cX7_within 15 = .ok (.ireturn, 1) := by decide +kernel
theorem dX7_isPosture_0 : decode cX7_isPosture 0 = .ok (.iload_n 1, 1) := by decide +kernel
theorem dX7_isPosture_1 : decode cX7_isPosture 1 = .ok (.ifCond .lt 18, 3) := by decide +kernel
theorem dX7_isPosture_4 : decode cX7_isPosture 4 = .ok (.iload_n 1, 1) := by decide +kernel
theorem dX7_isPosture_5 : decode cX7_isPosture 5 = .ok (.aload_n 0, 1) := by decide +kernel
theorem dX7_isPosture_6 : decode cX7_isPosture 6 = .ok (.getfield 10, 3) := by decide +kernel
theorem dX7_isPosture_9 : decode cX7_isPosture 9 = .ok (.getfield 76, 3) := by decide +kernel
theorem dX7_isPosture_12 : decode cX7_isPosture 12 = .ok (.if_icmp .ge 7, 3) := by decide +kernel
theorem dX7_isPosture_15 : decode cX7_isPosture 15 = .ok (.iconst 1, 1) := by decide +kernel
theorem dX7_isPosture_16 : decode cX7_isPosture 16 = .ok (.goto 4, 3) := by decide +kernel
theorem dX7_isPosture_19 : decode cX7_isPosture 19 = .ok (.iconst 0, 1) := by decide +kernel
theorem dX7_isPosture_20 : decode cX7_isPosture 20 = .ok (.ireturn, 1) := by decide +kernel
theorem dX7_isSheet_0 : decode cX7_isSheet 0 = .ok (.iload_n 0, 1) := by decide +kernel
theorem dX7_isSheet_1 : decode cX7_isSheet 1 = .ok (.ifCond .lt 12, 3) := by decide +kernel
theorem dX7_isSheet_4 : decode cX7_isSheet 4 = .ok (.iload_n 0, 1) := by decide +kernel
theorem dX7_isSheet_5 : decode cX7_isSheet 5 = .ok (.iconst 4, 1) := by decide +kernel
theorem dX7_isSheet_6 : decode cX7_isSheet 6 = .ok (.if_icmp .ge 7, 3) := by decide +kernel
theorem dX7_isSheet_9 : decode cX7_isSheet 9 = .ok (.iconst 1, 1) := by decide +kernel
theorem dX7_isSheet_10 : decode cX7_isSheet 10 = .ok (.goto 4, 3) := by decide +kernel
theorem dX7_isSheet_13 : decode cX7_isSheet 13 = .ok (.iconst 0, 1) := by decide +kernel
theorem dX7_isSheet_14 : decode cX7_isSheet 14 = .ok (.ireturn, 1) := by decide +kernel
theorem dX7_finding_0 : decode cX7_finding 0 = .ok (.aload_n 0, 1) := by decide +kernel
theorem dX7_finding_1 : decode cX7_finding 1 = .ok (.iload_n 1, 1) := by decide +kernel
theorem dX7_finding_2 : decode cX7_finding 2 = .ok (.putfield 58, 3) := by decide +kernel
theorem dX7_finding_5 : decode cX7_finding 5 = .ok (.bipush (-10), 2) := by decide +kernel
theorem dX7_finding_7 : decode cX7_finding 7 = .ok (.iload_n 1, 1) := by decide +kernel
theorem dX7_finding_8 : decode cX7_finding 8 = .ok (.isub, 1) := by decide +kernel
theorem dX7_finding_9 : decode cX7_finding 9 = .ok (.ireturn, 1) := by decide +kernel
theorem dX7_troubleWith_0 : decode cX7_troubleWith 0 = .ok (.aload_n 0, 1) := by decide +kernel
theorem dX7_troubleWith_1 : decode cX7_troubleWith 1 = .ok (.invokevirtual 197, 3) := by decide +kernel
theorem dX7_troubleWith_4 : decode cX7_troubleWith 4 = .ok (.ifCond .eq 5, 3) := by decide +kernel
theorem dX7_troubleWith_7 : decode cX7_troubleWith 7 = .ok (.iconst 1, 1) := by decide +kernel
theorem dX7_troubleWith_8 : decode cX7_troubleWith 8 = .ok (.ireturn, 1) := by decide +kernel
theorem dX7_troubleWith_9 : decode cX7_troubleWith 9 = .ok (.aload_n 0, 1) := by decide +kernel
theorem dX7_troubleWith_10 : decode cX7_troubleWith 10 = .ok (.getfield 240, 3) := by decide +kernel
theorem dX7_troubleWith_13 : decode cX7_troubleWith 13 = .ok (.iload_n 1, 1) := by decide +kernel
theorem dX7_troubleWith_14 : decode cX7_troubleWith 14 = .ok (.if_icmp .eq 5, 3) := by decide +kernel
theorem dX7_troubleWith_17 : decode cX7_troubleWith 17 = .ok (.iconst 3, 1) := by decide +kernel
theorem dX7_troubleWith_18 : decode cX7_troubleWith 18 = .ok (.ireturn, 1) := by decide +kernel
theorem dX7_troubleWith_19 : decode cX7_troubleWith 19 = .ok (.aload_n 0, 1) := by decide +kernel
theorem dX7_troubleWith_20 : decode cX7_troubleWith 20 = .ok (.iload_n 2, 1) := by decide +kernel
theorem dX7_troubleWith_21 : decode cX7_troubleWith 21 = .ok (.invokevirtual 204, 3) := by decide +kernel
theorem dX7_troubleWith_24 : decode cX7_troubleWith 24 = .ok (.ifCond .eq 7, 3) := by decide +kernel
theorem dX7_troubleWith_27 : decode cX7_troubleWith 27 = .ok (.iconst 0, 1) := by decide +kernel
theorem dX7_troubleWith_28 : decode cX7_troubleWith 28 = .ok (.goto 4, 3) := by decide +kernel
theorem dX7_troubleWith_31 : decode cX7_troubleWith 31 = .ok (.iconst 2, 1) := by decide +kernel
theorem dX7_troubleWith_32 : decode cX7_troubleWith 32 = .ok (.ireturn, 1) := by decide +kernel
theorem dX7_countLeftOut_0 : decode cX7_countLeftOut 0 = .ok (.iconst 0, 1) := by decide +kernel
theorem dX7_countLeftOut_1 : decode cX7_countLeftOut 1 = .ok (.istore_n 1, 1) := by decide +kernel
theorem dX7_countLeftOut_2 : decode cX7_countLeftOut 2 = .ok (.iconst 0, 1) := by decide +kernel
theorem dX7_countLeftOut_3 : decode cX7_countLeftOut 3 = .ok (.istore_n 2, 1) := by decide +kernel
theorem dX7_countLeftOut_4 : decode cX7_countLeftOut 4 = .ok (.iload_n 2, 1) := by decide +kernel
theorem dX7_countLeftOut_5 : decode cX7_countLeftOut 5 = .ok (.aload_n 0, 1) := by decide +kernel
theorem dX7_countLeftOut_6 : decode cX7_countLeftOut 6 = .ok (.getfield 10, 3) := by decide +kernel
theorem dX7_countLeftOut_9 : decode cX7_countLeftOut 9 = .ok (.getfield 76, 3) := by decide +kernel
theorem dX7_countLeftOut_12 : decode cX7_countLeftOut 12 = .ok (.if_icmp .ge 21, 3) := by decide +kernel
theorem dX7_countLeftOut_15 : decode cX7_countLeftOut 15 = .ok (.aload_n 0, 1) := by decide +kernel
theorem dX7_countLeftOut_16 : decode cX7_countLeftOut 16 = .ok (.getfield 16, 3) := by decide +kernel
theorem dX7_countLeftOut_19 : decode cX7_countLeftOut 19 = .ok (.iload_n 2, 1) := by decide +kernel
theorem dX7_countLeftOut_20 : decode cX7_countLeftOut 20 = .ok (.baload, 1) := by decide +kernel
theorem dX7_countLeftOut_21 : decode cX7_countLeftOut 21 = .ok (.ifCond .eq 6, 3) := by decide +kernel
theorem dX7_countLeftOut_24 : decode cX7_countLeftOut 24 = .ok (.iinc 1 1, 3) := by decide +kernel
theorem dX7_countLeftOut_27 : decode cX7_countLeftOut 27 = .ok (.iinc 2 1, 3) := by decide +kernel
theorem dX7_countLeftOut_30 : decode cX7_countLeftOut 30 = .ok (.goto (-26), 3) := by decide +kernel
theorem dX7_countLeftOut_33 : decode cX7_countLeftOut 33 = .ok (.iload_n 1, 1) := by decide +kernel
theorem dX7_countLeftOut_34 : decode cX7_countLeftOut 34 = .ok (.ireturn, 1) := by decide +kernel
theorem dX7_countLost_0 : decode cX7_countLost 0 = .ok (.iconst 0, 1) := by decide +kernel
theorem dX7_countLost_1 : decode cX7_countLost 1 = .ok (.istore_n 1, 1) := by decide +kernel
theorem dX7_countLost_2 : decode cX7_countLost 2 = .ok (.iconst 0, 1) := by decide +kernel
theorem dX7_countLost_3 : decode cX7_countLost 3 = .ok (.istore_n 2, 1) := by decide +kernel
theorem dX7_countLost_4 : decode cX7_countLost 4 = .ok (.iload_n 2, 1) := by decide +kernel
theorem dX7_countLost_5 : decode cX7_countLost 5 = .ok (.iconst 4, 1) := by decide +kernel
theorem dX7_countLost_6 : decode cX7_countLost 6 = .ok (.if_icmp .ge 24, 3) := by decide +kernel
theorem dX7_countLost_9 : decode cX7_countLost 9 = .ok (.aload_n 0, 1) := by decide +kernel
theorem dX7_countLost_10 : decode cX7_countLost 10 = .ok (.getfield 54, 3) := by decide +kernel
theorem dX7_countLost_13 : decode cX7_countLost 13 = .ok (.iload_n 2, 1) := by decide +kernel
theorem dX7_countLost_14 : decode cX7_countLost 14 = .ok (.aaload, 1) := by decide +kernel
theorem dX7_countLost_15 : decode cX7_countLost 15 = .ok (.invokevirtual 197, 3) := by decide +kernel
theorem dX7_countLost_18 : decode cX7_countLost 18 = .ok (.ifCond .eq 6, 3) := by decide +kernel
theorem dX7_countLost_21 : decode cX7_countLost 21 = .ok (.iinc 1 1, 3) := by decide +kernel
theorem dX7_countLost_24 : decode cX7_countLost 24 = .ok (.iinc 2 1, 3) := by decide +kernel
theorem dX7_countLost_27 : decode cX7_countLost 27 = .ok (.goto (-23), 3) := by decide +kernel
theorem dX7_countLost_30 : decode cX7_countLost 30 = .ok (.iload_n 1, 1) := by decide +kernel
theorem dX7_countLost_31 : decode cX7_countLost 31 = .ok (.ireturn, 1) := by decide +kernel
theorem dX7_isMeasured_0 : decode cX7_isMeasured 0 = .ok (.aload_n 0, 1) := by decide +kernel
theorem dX7_isMeasured_1 : decode cX7_isMeasured 1 = .ok (.getfield 54, 3) := by decide +kernel
theorem dX7_isMeasured_4 : decode cX7_isMeasured 4 = .ok (.iconst 0, 1) := by decide +kernel
theorem dX7_isMeasured_5 : decode cX7_isMeasured 5 = .ok (.aaload, 1) := by decide +kernel
theorem dX7_isMeasured_6 : decode cX7_isMeasured 6 = .ok (.iconst 2, 1) := by decide +kernel
theorem dX7_isMeasured_7 : decode cX7_isMeasured 7 = .ok (.iload_n 1, 1) := by decide +kernel
theorem dX7_isMeasured_8 : decode cX7_isMeasured 8 = .ok (.imul, 1) := by decide +kernel
theorem dX7_isMeasured_9 : decode cX7_isMeasured 9 = .ok (.invokevirtual 265, 3) := by decide +kernel
theorem dX7_isMeasured_12 : decode cX7_isMeasured 12 = .ok (.ifCond .eq 24, 3) := by decide +kernel
theorem dX7_isMeasured_15 : decode cX7_isMeasured 15 = .ok (.aload_n 0, 1) := by decide +kernel
theorem dX7_isMeasured_16 : decode cX7_isMeasured 16 = .ok (.getfield 54, 3) := by decide +kernel
theorem dX7_isMeasured_19 : decode cX7_isMeasured 19 = .ok (.iconst 0, 1) := by decide +kernel
theorem dX7_isMeasured_20 : decode cX7_isMeasured 20 = .ok (.aaload, 1) := by decide +kernel
theorem dX7_isMeasured_21 : decode cX7_isMeasured 21 = .ok (.iconst 2, 1) := by decide +kernel
theorem dX7_isMeasured_22 : decode cX7_isMeasured 22 = .ok (.iload_n 1, 1) := by decide +kernel
theorem dX7_isMeasured_23 : decode cX7_isMeasured 23 = .ok (.imul, 1) := by decide +kernel
theorem dX7_isMeasured_24 : decode cX7_isMeasured 24 = .ok (.iconst 1, 1) := by decide +kernel
theorem dX7_isMeasured_25 : decode cX7_isMeasured 25 = .ok (.iadd, 1) := by decide +kernel
theorem dX7_isMeasured_26 : decode cX7_isMeasured 26 = .ok (.invokevirtual 265, 3) := by decide +kernel
theorem dX7_isMeasured_29 : decode cX7_isMeasured 29 = .ok (.ifCond .eq 7, 3) := by decide +kernel
theorem dX7_isMeasured_32 : decode cX7_isMeasured 32 = .ok (.iconst 1, 1) := by decide +kernel
theorem dX7_isMeasured_33 : decode cX7_isMeasured 33 = .ok (.goto 4, 3) := by decide +kernel
theorem dX7_isMeasured_36 : decode cX7_isMeasured 36 = .ok (.iconst 0, 1) := by decide +kernel
theorem dX7_isMeasured_37 : decode cX7_isMeasured 37 = .ok (.ireturn, 1) := by decide +kernel
theorem dX7_measured_0 : decode cX7_measured 0 = .ok (.aload_n 0, 1) := by decide +kernel
theorem dX7_measured_1 : decode cX7_measured 1 = .ok (.getfield 54, 3) := by decide +kernel
theorem dX7_measured_4 : decode cX7_measured 4 = .ok (.iconst 0, 1) := by decide +kernel
theorem dX7_measured_5 : decode cX7_measured 5 = .ok (.aaload, 1) := by decide +kernel
theorem dX7_measured_6 : decode cX7_measured 6 = .ok (.getfield 234, 3) := by decide +kernel
theorem dX7_measured_9 : decode cX7_measured 9 = .ok (.iconst 2, 1) := by decide +kernel
theorem dX7_measured_10 : decode cX7_measured 10 = .ok (.iload_n 1, 1) := by decide +kernel
theorem dX7_measured_11 : decode cX7_measured 11 = .ok (.imul, 1) := by decide +kernel
theorem dX7_measured_12 : decode cX7_measured 12 = .ok (.iload_n 2, 1) := by decide +kernel
theorem dX7_measured_13 : decode cX7_measured 13 = .ok (.iadd, 1) := by decide +kernel
theorem dX7_measured_14 : decode cX7_measured 14 = .ok (.iaload, 1) := by decide +kernel
theorem dX7_measured_15 : decode cX7_measured 15 = .ok (.ireturn, 1) := by decide +kernel
theorem dX7_missOf_0 : decode cX7_missOf 0 = .ok (.aload_n 0, 1) := by decide +kernel
theorem dX7_missOf_1 : decode cX7_missOf 1 = .ok (.getfield 10, 3) := by decide +kernel
theorem dX7_missOf_4 : decode cX7_missOf 4 = .ok (.iload_n 1, 1) := by decide +kernel
theorem dX7_missOf_5 : decode cX7_missOf 5 = .ok (.iconst 0, 1) := by decide +kernel
theorem dX7_missOf_6 : decode cX7_missOf 6 = .ok (.invokevirtual 88, 3) := by decide +kernel
theorem dX7_missOf_9 : decode cX7_missOf 9 = .ok (.bipush 65, 2) := by decide +kernel
theorem dX7_missOf_11 : decode cX7_missOf 11 = .ok (.aload_n 0, 1) := by decide +kernel
theorem dX7_missOf_12 : decode cX7_missOf 12 = .ok (.iload_n 1, 1) := by decide +kernel
theorem dX7_missOf_13 : decode cX7_missOf 13 = .ok (.iconst 0, 1) := by decide +kernel
theorem dX7_missOf_14 : decode cX7_missOf 14 = .ok (.invokevirtual 123, 3) := by decide +kernel
theorem dX7_missOf_17 : decode cX7_missOf 17 = .ok (.imul, 1) := by decide +kernel
theorem dX7_missOf_18 : decode cX7_missOf 18 = .ok (.isub, 1) := by decide +kernel
theorem dX7_missOf_19 : decode cX7_missOf 19 = .ok (.invokestatic 268, 3) := by decide +kernel
theorem dX7_missOf_22 : decode cX7_missOf 22 = .ok (.istore_n 2, 1) := by decide +kernel
theorem dX7_missOf_23 : decode cX7_missOf 23 = .ok (.aload_n 0, 1) := by decide +kernel
theorem dX7_missOf_24 : decode cX7_missOf 24 = .ok (.getfield 10, 3) := by decide +kernel
theorem dX7_missOf_27 : decode cX7_missOf 27 = .ok (.iload_n 1, 1) := by decide +kernel
theorem dX7_missOf_28 : decode cX7_missOf 28 = .ok (.iconst 1, 1) := by decide +kernel
theorem dX7_missOf_29 : decode cX7_missOf 29 = .ok (.invokevirtual 88, 3) := by decide +kernel
theorem dX7_missOf_32 : decode cX7_missOf 32 = .ok (.bipush 65, 2) := by decide +kernel
theorem dX7_missOf_34 : decode cX7_missOf 34 = .ok (.aload_n 0, 1) := by decide +kernel
theorem dX7_missOf_35 : decode cX7_missOf 35 = .ok (.iload_n 1, 1) := by decide +kernel
theorem dX7_missOf_36 : decode cX7_missOf 36 = .ok (.iconst 1, 1) := by decide +kernel
theorem dX7_missOf_37 : decode cX7_missOf 37 = .ok (.invokevirtual 123, 3) := by decide +kernel
theorem dX7_missOf_40 : decode cX7_missOf 40 = .ok (.imul, 1) := by decide +kernel
theorem dX7_missOf_41 : decode cX7_missOf 41 = .ok (.isub, 1) := by decide +kernel
theorem dX7_missOf_42 : decode cX7_missOf 42 = .ok (.invokestatic 268, 3) := by decide +kernel
theorem dX7_missOf_45 : decode cX7_missOf 45 = .ok (.istore_n 3, 1) := by decide +kernel
theorem dX7_missOf_46 : decode cX7_missOf 46 = .ok (.iload_n 2, 1) := by decide +kernel
theorem dX7_missOf_47 : decode cX7_missOf 47 = .ok (.iload_n 3, 1) := by decide +kernel
theorem dX7_missOf_48 : decode cX7_missOf 48 = .ok (.invokestatic 271, 3) := by decide +kernel
theorem dX7_missOf_51 : decode cX7_missOf 51 = .ok (.ireturn, 1) := by decide +kernel
theorem dX7_listUsed_0 : decode cX7_listUsed 0 = .ok (.iconst 0, 1) := by decide +kernel
theorem dX7_listUsed_1 : decode cX7_listUsed 1 = .ok (.istore_n 1, 1) := by decide +kernel
theorem dX7_listUsed_2 : decode cX7_listUsed 2 = .ok (.iconst 0, 1) := by decide +kernel
theorem dX7_listUsed_3 : decode cX7_listUsed 3 = .ok (.istore_n 2, 1) := by decide +kernel
theorem dX7_listUsed_4 : decode cX7_listUsed 4 = .ok (.iload_n 2, 1) := by decide +kernel
theorem dX7_listUsed_5 : decode cX7_listUsed 5 = .ok (.aload_n 0, 1) := by decide +kernel
theorem dX7_listUsed_6 : decode cX7_listUsed 6 = .ok (.getfield 10, 3) := by decide +kernel
theorem dX7_listUsed_9 : decode cX7_listUsed 9 = .ok (.getfield 76, 3) := by decide +kernel
theorem dX7_listUsed_12 : decode cX7_listUsed 12 = .ok (.if_icmp .ge 42, 3) := by decide +kernel
theorem dX7_listUsed_15 : decode cX7_listUsed 15 = .ok (.iload_n 1, 1) := by decide +kernel
theorem dX7_listUsed_16 : decode cX7_listUsed 16 = .ok (.bipush 12, 2) := by decide +kernel
theorem dX7_listUsed_18 : decode cX7_listUsed 18 = .ok (.if_icmp .ge 36, 3) := by decide +kernel
theorem dX7_listUsed_21 : decode cX7_listUsed 21 = .ok (.aload_n 0, 1) := by decide +kernel
theorem dX7_listUsed_22 : decode cX7_listUsed 22 = .ok (.getfield 16, 3) := by decide +kernel
theorem dX7_listUsed_25 : decode cX7_listUsed 25 = .ok (.iload_n 2, 1) := by decide +kernel
theorem dX7_listUsed_26 : decode cX7_listUsed 26 = .ok (.baload, 1) := by decide +kernel
theorem dX7_listUsed_27 : decode cX7_listUsed 27 = .ok (.ifCond .ne 21, 3) := by decide +kernel
theorem dX7_listUsed_30 : decode cX7_listUsed 30 = .ok (.aload_n 0, 1) := by decide +kernel
theorem dX7_listUsed_31 : decode cX7_listUsed 31 = .ok (.iload_n 2, 1) := by decide +kernel
theorem dX7_listUsed_32 : decode cX7_listUsed 32 = .ok (.invokevirtual 120, 3) := by decide +kernel
theorem dX7_listUsed_35 : decode cX7_listUsed 35 = .ok (.ifCond .eq 13, 3) := by decide +kernel
theorem dX7_listUsed_38 : decode cX7_listUsed 38 = .ok (.aload_n 0, 1) := by decide +kernel
theorem dX7_listUsed_39 : decode cX7_listUsed 39 = .ok (.getfield 20, 3) := by decide +kernel
theorem dX7_listUsed_42 : decode cX7_listUsed 42 = .ok (.iload_n 1, 1) := by decide +kernel
theorem dX7_listUsed_43 : decode cX7_listUsed 43 = .ok (.iload_n 2, 1) := by decide +kernel
theorem dX7_listUsed_44 : decode cX7_listUsed 44 = .ok (.iastore, 1) := by decide +kernel
theorem dX7_listUsed_45 : decode cX7_listUsed 45 = .ok (.iinc 1 1, 3) := by decide +kernel
theorem dX7_listUsed_48 : decode cX7_listUsed 48 = .ok (.iinc 2 1, 3) := by decide +kernel
theorem dX7_listUsed_51 : decode cX7_listUsed 51 = .ok (.goto (-47), 3) := by decide +kernel
theorem dX7_listUsed_54 : decode cX7_listUsed 54 = .ok (.iload_n 1, 1) := by decide +kernel
theorem dX7_listUsed_55 : decode cX7_listUsed 55 = .ok (.ireturn, 1) := by decide +kernel
theorem dX7_sumUsed_0 : decode cX7_sumUsed 0 = .ok (.aload_n 0, 1) := by decide +kernel
theorem dX7_sumUsed_1 : decode cX7_sumUsed 1 = .ok (.invokevirtual 126, 3) := by decide +kernel
theorem dX7_sumUsed_4 : decode cX7_sumUsed 4 = .ok (.istore_n 1, 1) := by decide +kernel
theorem dX7_sumUsed_5 : decode cX7_sumUsed 5 = .ok (.aload_n 0, 1) := by decide +kernel
theorem dX7_sumUsed_6 : decode cX7_sumUsed 6 = .ok (.getfield 27, 3) := by decide +kernel
theorem dX7_sumUsed_9 : decode cX7_sumUsed 9 = .ok (.invokevirtual 273, 3) := by decide +kernel
theorem dX7_sumUsed_12 : decode cX7_sumUsed 12 = .ok (.iconst 0, 1) := by decide +kernel
theorem dX7_sumUsed_13 : decode cX7_sumUsed 13 = .ok (.istore_n 2, 1) := by decide +kernel
theorem dX7_sumUsed_14 : decode cX7_sumUsed 14 = .ok (.iload_n 2, 1) := by decide +kernel
theorem dX7_sumUsed_15 : decode cX7_sumUsed 15 = .ok (.iload_n 1, 1) := by decide +kernel
theorem dX7_sumUsed_16 : decode cX7_sumUsed 16 = .ok (.if_icmp .ge 52, 3) := by decide +kernel
theorem dX7_sumUsed_19 : decode cX7_sumUsed 19 = .ok (.aload_n 0, 1) := by decide +kernel
theorem dX7_sumUsed_20 : decode cX7_sumUsed 20 = .ok (.getfield 20, 3) := by decide +kernel
theorem dX7_sumUsed_23 : decode cX7_sumUsed 23 = .ok (.iload_n 2, 1) := by decide +kernel
theorem dX7_sumUsed_24 : decode cX7_sumUsed 24 = .ok (.iaload, 1) := by decide +kernel
theorem dX7_sumUsed_25 : decode cX7_sumUsed 25 = .ok (.istore_n 3, 1) := by decide +kernel
theorem dX7_sumUsed_26 : decode cX7_sumUsed 26 = .ok (.aload_n 0, 1) := by decide +kernel
theorem dX7_sumUsed_27 : decode cX7_sumUsed 27 = .ok (.getfield 27, 3) := by decide +kernel
theorem dX7_sumUsed_30 : decode cX7_sumUsed 30 = .ok (.aload_n 0, 1) := by decide +kernel
theorem dX7_sumUsed_31 : decode cX7_sumUsed 31 = .ok (.getfield 10, 3) := by decide +kernel
theorem dX7_sumUsed_34 : decode cX7_sumUsed 34 = .ok (.iload_n 3, 1) := by decide +kernel
theorem dX7_sumUsed_35 : decode cX7_sumUsed 35 = .ok (.invokevirtual 276, 3) := by decide +kernel
theorem dX7_sumUsed_38 : decode cX7_sumUsed 38 = .ok (.aload_n 0, 1) := by decide +kernel
theorem dX7_sumUsed_39 : decode cX7_sumUsed 39 = .ok (.getfield 27, 3) := by decide +kernel
theorem dX7_sumUsed_42 : decode cX7_sumUsed 42 = .ok (.aload_n 0, 1) := by decide +kernel
theorem dX7_sumUsed_43 : decode cX7_sumUsed 43 = .ok (.getfield 10, 3) := by decide +kernel
theorem dX7_sumUsed_46 : decode cX7_sumUsed 46 = .ok (.iload_n 3, 1) := by decide +kernel
theorem dX7_sumUsed_47 : decode cX7_sumUsed 47 = .ok (.aload_n 0, 1) := by decide +kernel
theorem dX7_sumUsed_48 : decode cX7_sumUsed 48 = .ok (.iload_n 3, 1) := by decide +kernel
theorem dX7_sumUsed_49 : decode cX7_sumUsed 49 = .ok (.iconst 0, 1) := by decide +kernel
theorem dX7_sumUsed_50 : decode cX7_sumUsed 50 = .ok (.invokevirtual 123, 3) := by decide +kernel
theorem dX7_sumUsed_53 : decode cX7_sumUsed 53 = .ok (.aload_n 0, 1) := by decide +kernel
theorem dX7_sumUsed_54 : decode cX7_sumUsed 54 = .ok (.iload_n 3, 1) := by decide +kernel
theorem dX7_sumUsed_55 : decode cX7_sumUsed 55 = .ok (.iconst 1, 1) := by decide +kernel
theorem dX7_sumUsed_56 : decode cX7_sumUsed 56 = .ok (.invokevirtual 123, 3) := by decide +kernel
theorem dX7_sumUsed_59 : decode cX7_sumUsed 59 = .ok (.invokevirtual 280, 3) := by decide +kernel
theorem dX7_sumUsed_62 : decode cX7_sumUsed 62 = .ok (.iinc 2 1, 3) := by decide +kernel
theorem dX7_sumUsed_65 : decode cX7_sumUsed 65 = .ok (.goto (-51), 3) := by decide +kernel
theorem dX7_sumUsed_68 : decode cX7_sumUsed 68 = .ok (.return_, 1) := by decide +kernel
theorem dX7_choosableSets_0 : decode cX7_choosableSets 0 = .ok (.iconst 1, 1) := by decide +kernel
theorem dX7_choosableSets_1 : decode cX7_choosableSets 1 = .ok (.aload_n 0, 1) := by decide +kernel
theorem dX7_choosableSets_2 : decode cX7_choosableSets 2 = .ok (.getfield 10, 3) := by decide +kernel
theorem dX7_choosableSets_5 : decode cX7_choosableSets 5 = .ok (.getfield 76, 3) := by decide +kernel
theorem dX7_choosableSets_8 : decode cX7_choosableSets 8 = .ok (.bipush 10, 2) := by decide +kernel
theorem dX7_choosableSets_10 : decode cX7_choosableSets 10 = .ok (.invokestatic 284, 3) := by decide +kernel
theorem dX7_choosableSets_13 : decode cX7_choosableSets 13 = .ok (.ishl, 1) := by decide +kernel
theorem dX7_choosableSets_14 : decode cX7_choosableSets 14 = .ok (.ireturn, 1) := by decide +kernel
theorem dX7_weightOf_0 : decode cX7_weightOf 0 = .ok (.aload_n 0, 1) := by decide +kernel
theorem dX7_weightOf_1 : decode cX7_weightOf 1 = .ok (.getfield 27, 3) := by decide +kernel
theorem dX7_weightOf_4 : decode cX7_weightOf 4 = .ok (.invokevirtual 273, 3) := by decide +kernel
theorem dX7_weightOf_7 : decode cX7_weightOf 7 = .ok (.iconst 0, 1) := by decide +kernel
theorem dX7_weightOf_8 : decode cX7_weightOf 8 = .ok (.istore_n 2, 1) := by decide +kernel
theorem dX7_weightOf_9 : decode cX7_weightOf 9 = .ok (.iload_n 2, 1) := by decide +kernel
theorem dX7_weightOf_10 : decode cX7_weightOf 10 = .ok (.bipush 10, 2) := by decide +kernel
theorem dX7_weightOf_12 : decode cX7_weightOf 12 = .ok (.if_icmp .ge 30, 3) := by decide +kernel
theorem dX7_weightOf_15 : decode cX7_weightOf 15 = .ok (.iload_n 1, 1) := by decide +kernel
theorem dX7_weightOf_16 : decode cX7_weightOf 16 = .ok (.iload_n 2, 1) := by decide +kernel
theorem dX7_weightOf_17 : decode cX7_weightOf 17 = .ok (.ishr, 1) := by decide +kernel
theorem dX7_weightOf_18 : decode cX7_weightOf 18 = .ok (.iconst 1, 1) := by decide +kernel
theorem dX7_weightOf_19 : decode cX7_weightOf 19 = .ok (.iand, 1) := by decide +kernel
theorem dX7_weightOf_20 : decode cX7_weightOf 20 = .ok (.iconst 1, 1) := by decide +kernel
theorem dX7_weightOf_21 : decode cX7_weightOf 21 = .ok (.if_icmp .ne 15, 3) := by decide +kernel
theorem dX7_weightOf_24 : decode cX7_weightOf 24 = .ok (.aload_n 0, 1) := by decide +kernel
theorem dX7_weightOf_25 : decode cX7_weightOf 25 = .ok (.getfield 27, 3) := by decide +kernel
theorem dX7_weightOf_28 : decode cX7_weightOf 28 = .ok (.aload_n 0, 1) := by decide +kernel
theorem dX7_weightOf_29 : decode cX7_weightOf 29 = .ok (.getfield 10, 3) := by decide +kernel
theorem dX7_weightOf_32 : decode cX7_weightOf 32 = .ok (.iload_n 2, 1) := by decide +kernel
theorem dX7_weightOf_33 : decode cX7_weightOf 33 = .ok (.invokevirtual 276, 3) := by decide +kernel
theorem dX7_weightOf_36 : decode cX7_weightOf 36 = .ok (.iinc 2 1, 3) := by decide +kernel
theorem dX7_weightOf_39 : decode cX7_weightOf 39 = .ok (.goto (-30), 3) := by decide +kernel
theorem dX7_weightOf_42 : decode cX7_weightOf 42 = .ok (.aload_n 0, 1) := by decide +kernel
theorem dX7_weightOf_43 : decode cX7_weightOf 43 = .ok (.getfield 27, 3) := by decide +kernel
theorem dX7_weightOf_46 : decode cX7_weightOf 46 = .ok (.invokevirtual 286, 3) := by decide +kernel
theorem dX7_weightOf_49 : decode cX7_weightOf 49 = .ok (.lreturn, 1) := by decide +kernel
theorem dX8_init_0 : decode cX8_init 0 = .ok (.aload_n 0, 1) := by decide +kernel
theorem dX8_init_1 : decode cX8_init 1 = .ok (.invokespecial 1, 3) := by decide +kernel
theorem dX8_init_4 : decode cX8_init 4 = .ok (.aload_n 0, 1) := by decide +kernel
theorem dX8_init_5 : decode cX8_init 5 = .ok (.bipush 36, 2) := by decide +kernel
theorem dX8_init_7 : decode cX8_init 7 = .ok (.newarray .int, 2) := by decide +kernel
theorem dX8_init_9 : decode cX8_init 9 = .ok (.putfield 7, 3) := by decide +kernel
theorem dX8_init_12 : decode cX8_init 12 = .ok (.aload_n 0, 1) := by decide +kernel
theorem dX8_init_13 : decode cX8_init 13 = .ok (.iconst 3, 1) := by decide +kernel
theorem dX8_init_14 : decode cX8_init 14 = .ok (.newarray .int, 2) := by decide +kernel
theorem dX8_init_16 : decode cX8_init 16 = .ok (.putfield 13, 3) := by decide +kernel
theorem dX8_init_19 : decode cX8_init 19 = .ok (.aload_n 0, 1) := by decide +kernel
theorem dX8_init_20 : decode cX8_init 20 = .ok (.bipush 60, 2) := by decide +kernel
theorem dX8_init_22 : decode cX8_init 22 = .ok (.newarray .int, 2) := by decide +kernel
theorem dX8_init_24 : decode cX8_init 24 = .ok (.putfield 16, 3) := by decide +kernel
theorem dX8_init_27 : decode cX8_init 27 = .ok (.aload_n 0, 1) := by decide +kernel
theorem dX8_init_28 : decode cX8_init 28 = .ok (.bipush 20, 2) := by decide +kernel
theorem dX8_init_30 : decode cX8_init 30 = .ok (.newarray .boolean, 2) := by decide +kernel
theorem dX8_init_32 : decode cX8_init 32 = .ok (.putfield 19, 3) := by decide +kernel
theorem dX8_init_35 : decode cX8_init 35 = .ok (.aload_n 0, 1) := by decide +kernel
theorem dX8_init_36 : decode cX8_init 36 = .ok (.bipush 12, 2) := by decide +kernel
theorem dX8_init_38 : decode cX8_init 38 = .ok (.newarray .int, 2) := by decide +kernel
theorem dX8_init_40 : decode cX8_init 40 = .ok (.putfield 23, 3) := by decide +kernel
theorem dX8_init_43 : decode cX8_init 43 = .ok (.aload_n 0, 1) := by decide +kernel
theorem dX8_init_44 : decode cX8_init 44 = .ok (.bipush 9, 2) := by decide +kernel
theorem dX8_init_46 : decode cX8_init 46 = .ok (.newarray .long, 2) := by decide +kernel
theorem dX8_init_48 : decode cX8_init 48 = .ok (.putfield 26, 3) := by decide +kernel
theorem dX8_init_51 : decode cX8_init 51 = .ok (.aload_n 0, 1) := by decide +kernel
theorem dX8_init_52 : decode cX8_init 52 = .ok (.iconst 3, 1) := by decide +kernel
theorem dX8_init_53 : decode cX8_init 53 = .ok (.newarray .long, 2) := by decide +kernel
theorem dX8_init_55 : decode cX8_init 55 = .ok (.putfield 30, 3) := by decide +kernel
theorem dX8_init_58 : decode cX8_init 58 = .ok (.aload_n 0, 1) := by decide +kernel
theorem dX8_init_59 : decode cX8_init 59 = .ok (.iconst 3, 1) := by decide +kernel
theorem dX8_init_60 : decode cX8_init 60 = .ok (.newarray .long, 2) := by decide +kernel
theorem dX8_init_62 : decode cX8_init 62 = .ok (.putfield 33, 3) := by decide +kernel
theorem dX8_init_65 : decode cX8_init 65 = .ok (.aload_n 0, 1) := by decide +kernel
theorem dX8_init_66 : decode cX8_init 66 = .ok (.bipush 20, 2) := by decide +kernel
theorem dX8_init_68 : decode cX8_init 68 = .ok (.newarray .int, 2) := by decide +kernel
theorem dX8_init_70 : decode cX8_init 70 = .ok (.putfield 36, 3) := by decide +kernel
theorem dX8_init_73 : decode cX8_init 73 = .ok (.aload_n 0, 1) := by decide +kernel
theorem dX8_init_74 : decode cX8_init 74 = .ok (.bipush 20, 2) := by decide +kernel
theorem dX8_init_76 : decode cX8_init 76 = .ok (.newarray .int, 2) := by decide +kernel
theorem dX8_init_78 : decode cX8_init 78 = .ok (.putfield 39, 3) := by decide +kernel
theorem dX8_init_81 : decode cX8_init 81 = .ok (.aload_n 0, 1) := by decide +kernel
theorem dX8_init_82 : decode cX8_init 82 = .ok (.bipush 20, 2) := by decide +kernel
theorem dX8_init_84 : decode cX8_init 84 = .ok (.newarray .int, 2) := by decide +kernel
theorem dX8_init_86 : decode cX8_init 86 = .ok (.putfield 42, 3) := by decide +kernel
theorem dX8_init_89 : decode cX8_init 89 = .ok (.aload_n 0, 1) := by decide +kernel
theorem dX8_init_90 : decode cX8_init 90 = .ok (.bipush 20, 2) := by decide +kernel
theorem dX8_init_92 : decode cX8_init 92 = .ok (.newarray .int, 2) := by decide +kernel
theorem dX8_init_94 : decode cX8_init 94 = .ok (.putfield 45, 3) := by decide +kernel
theorem dX8_init_97 : decode cX8_init 97 = .ok (.aload_n 0, 1) := by decide +kernel
theorem dX8_init_98 : decode cX8_init 98 = .ok (.iconst 3, 1) := by decide +kernel
theorem dX8_init_99 : decode cX8_init 99 = .ok (.newarray .int, 2) := by decide +kernel
theorem dX8_init_101 : decode cX8_init 101 = .ok (.putfield 48, 3) := by decide +kernel
theorem dX8_init_104 : decode cX8_init 104 = .ok (.aload_n 0, 1) := by decide +kernel
theorem dX8_init_105 : decode cX8_init 105 = .ok (.iconst 3, 1) := by decide +kernel
theorem dX8_init_106 : decode cX8_init 106 = .ok (.newarray .int, 2) := by decide +kernel
theorem dX8_init_108 : decode cX8_init 108 = .ok (.putfield 51, 3) := by decide +kernel
theorem dX8_init_111 : decode cX8_init 111 = .ok (.aload_n 0, 1) := by decide +kernel
theorem dX8_init_112 : decode cX8_init 112 = .ok (.iconst 4, 1) := by decide +kernel
theorem dX8_init_113 : decode cX8_init 113 = .ok (.newarray .int, 2) := by decide +kernel
theorem dX8_init_115 : decode cX8_init 115 = .ok (.putfield 54, 3) := by decide +kernel
theorem dX8_init_118 : decode cX8_init 118 = .ok (.aload_n 0, 1) := by decide +kernel
theorem dX8_init_119 : decode cX8_init 119 = .ok (.iconst 4, 1) := by decide +kernel
theorem dX8_init_120 : decode cX8_init 120 = .ok (.newarray .int, 2) := by decide +kernel
theorem dX8_init_122 : decode cX8_init 122 = .ok (.putfield 57, 3) := by decide +kernel
theorem dX8_init_125 : decode cX8_init 125 = .ok (.aload_n 0, 1) := by decide +kernel
theorem dX8_init_126 : decode cX8_init 126 = .ok (.sipush 400, 3) := by decide +kernel
theorem dX8_init_129 : decode cX8_init 129 = .ok (.newarray .int, 2) := by decide +kernel
theorem dX8_init_131 : decode cX8_init 131 = .ok (.putfield 60, 3) := by decide +kernel
theorem dX8_init_134 : decode cX8_init 134 = .ok (.aload_n 0, 1) := by decide +kernel
theorem dX8_init_135 : decode cX8_init 135 = .ok (.bipush 100, 2) := by decide +kernel
theorem dX8_init_137 : decode cX8_init 137 = .ok (.newarray .int, 2) := by decide +kernel
theorem dX8_init_139 : decode cX8_init 139 = .ok (.putfield 63, 3) := by decide +kernel
theorem dX8_init_142 : decode cX8_init 142 = .ok (.aload_n 0, 1) := by decide +kernel
theorem dX8_init_143 : decode cX8_init 143 = .ok (.getfield 7, 3) := by decide +kernel
theorem dX8_init_146 : decode cX8_init 146 = .ok (.iconst 0, 1) := by decide +kernel
theorem dX8_init_147 : decode cX8_init 147 = .ok (.bipush 65, 2) := by decide +kernel
theorem dX8_init_149 : decode cX8_init 149 = .ok (.iastore, 1) := by decide +kernel
theorem dX8_init_150 : decode cX8_init 150 = .ok (.aload_n 0, 1) := by decide +kernel
theorem dX8_init_151 : decode cX8_init 151 = .ok (.getfield 7, 3) := by decide +kernel
theorem dX8_init_154 : decode cX8_init 154 = .ok (.iconst 1, 1) := by decide +kernel
theorem dX8_init_155 : decode cX8_init 155 = .ok (.bipush 63, 2) := by decide +kernel
theorem dX8_init_157 : decode cX8_init 157 = .ok (.iastore, 1) := by decide +kernel
theorem dX8_init_158 : decode cX8_init 158 = .ok (.aload_n 0, 1) := by decide +kernel
theorem dX8_init_159 : decode cX8_init 159 = .ok (.getfield 7, 3) := by decide +kernel
theorem dX8_init_162 : decode cX8_init 162 = .ok (.iconst 2, 1) := by decide +kernel
theorem dX8_init_163 : decode cX8_init 163 = .ok (.bipush 60, 2) := by decide +kernel
theorem dX8_init_165 : decode cX8_init 165 = .ok (.iastore, 1) := by decide +kernel
theorem dX8_init_166 : decode cX8_init 166 = .ok (.aload_n 0, 1) := by decide +kernel
theorem dX8_init_167 : decode cX8_init 167 = .ok (.getfield 7, 3) := by decide +kernel
theorem dX8_init_170 : decode cX8_init 170 = .ok (.iconst 3, 1) := by decide +kernel
theorem dX8_init_171 : decode cX8_init 171 = .ok (.bipush 56, 2) := by decide +kernel
theorem dX8_init_173 : decode cX8_init 173 = .ok (.iastore, 1) := by decide +kernel
theorem dX8_init_174 : decode cX8_init 174 = .ok (.aload_n 0, 1) := by decide +kernel
theorem dX8_init_175 : decode cX8_init 175 = .ok (.getfield 7, 3) := by decide +kernel
theorem dX8_init_178 : decode cX8_init 178 = .ok (.iconst 4, 1) := by decide +kernel
theorem dX8_init_179 : decode cX8_init 179 = .ok (.bipush 52, 2) := by decide +kernel
theorem dX8_init_181 : decode cX8_init 181 = .ok (.iastore, 1) := by decide +kernel
theorem dX8_init_182 : decode cX8_init 182 = .ok (.aload_n 0, 1) := by decide +kernel
theorem dX8_init_183 : decode cX8_init 183 = .ok (.getfield 7, 3) := by decide +kernel
theorem dX8_init_186 : decode cX8_init 186 = .ok (.iconst 5, 1) := by decide +kernel
theorem dX8_init_187 : decode cX8_init 187 = .ok (.bipush 39, 2) := by decide +kernel
theorem dX8_init_189 : decode cX8_init 189 = .ok (.iastore, 1) := by decide +kernel
theorem dX8_init_190 : decode cX8_init 190 = .ok (.aload_n 0, 1) := by decide +kernel
theorem dX8_init_191 : decode cX8_init 191 = .ok (.getfield 7, 3) := by decide +kernel
theorem dX8_init_194 : decode cX8_init 194 = .ok (.bipush 6, 2) := by decide +kernel
theorem dX8_init_196 : decode cX8_init 196 = .ok (.bipush 33, 2) := by decide +kernel
theorem dX8_init_198 : decode cX8_init 198 = .ok (.iastore, 1) := by decide +kernel
theorem dX8_init_199 : decode cX8_init 199 = .ok (.aload_n 0, 1) := by decide +kernel
theorem dX8_init_200 : decode cX8_init 200 = .ok (.getfield 7, 3) := by decide +kernel
theorem dX8_init_203 : decode cX8_init 203 = .ok (.bipush 7, 2) := by decide +kernel
theorem dX8_init_205 : decode cX8_init 205 = .ok (.bipush 25, 2) := by decide +kernel
theorem dX8_init_207 : decode cX8_init 207 = .ok (.iastore, 1) := by decide +kernel
theorem dX8_init_208 : decode cX8_init 208 = .ok (.aload_n 0, 1) := by decide +kernel
theorem dX8_init_209 : decode cX8_init 209 = .ok (.getfield 7, 3) := by decide +kernel
theorem dX8_init_212 : decode cX8_init 212 = .ok (.bipush 8, 2) := by decide +kernel
theorem dX8_init_214 : decode cX8_init 214 = .ok (.bipush 16, 2) := by decide +kernel
theorem dX8_init_216 : decode cX8_init 216 = .ok (.iastore, 1) := by decide +kernel
theorem dX8_init_217 : decode cX8_init 217 = .ok (.aload_n 0, 1) := by decide +kernel
theorem dX8_init_218 : decode cX8_init 218 = .ok (.getfield 7, 3) := by decide +kernel
theorem dX8_init_221 : decode cX8_init 221 = .ok (.bipush 9, 2) := by decide +kernel
theorem dX8_init_223 : decode cX8_init 223 = .ok (.iconst 0, 1) := by decide +kernel
theorem dX8_init_224 : decode cX8_init 224 = .ok (.iastore, 1) := by decide +kernel
theorem dX8_init_225 : decode cX8_init 225 = .ok (.bipush 10, 2) := by decide +kernel
theorem dX8_init_227 : decode cX8_init 227 = .ok (.istore_n 1, 1) := by decide +kernel
theorem dX8_init_228 : decode cX8_init 228 = .ok (.iload_n 1, 1) := by decide +kernel
theorem dX8_init_229 : decode cX8_init 229 = .ok (.bipush 19, 2) := by decide +kernel
theorem dX8_init_231 : decode cX8_init 231 = .ok (.if_icmp .ge 25, 3) := by decide +kernel
theorem dX8_init_234 : decode cX8_init 234 = .ok (.aload_n 0, 1) := by decide +kernel
theorem dX8_init_235 : decode cX8_init 235 = .ok (.getfield 7, 3) := by decide +kernel
theorem dX8_init_238 : decode cX8_init 238 = .ok (.iload_n 1, 1) := by decide +kernel
theorem dX8_init_239 : decode cX8_init 239 = .ok (.aload_n 0, 1) := by decide +kernel
theorem dX8_init_240 : decode cX8_init 240 = .ok (.getfield 7, 3) := by decide +kernel
theorem dX8_init_243 : decode cX8_init 243 = .ok (.bipush 18, 2) := by decide +kernel
theorem dX8_init_245 : decode cX8_init 245 = .ok (.iload_n 1, 1) := by decide +kernel
theorem dX8_init_246 : decode cX8_init 246 = .ok (.isub, 1) := by decide +kernel
theorem dX8_init_247 : decode cX8_init 247 = .ok (.iaload, 1) := by decide +kernel
theorem dX8_init_248 : decode cX8_init 248 = .ok (.ineg, 1) := by decide +kernel
theorem dX8_init_249 : decode cX8_init 249 = .ok (.iastore, 1) := by decide +kernel
theorem dX8_init_250 : decode cX8_init 250 = .ok (.iinc 1 1, 3) := by decide +kernel
theorem dX8_init_253 : decode cX8_init 253 = .ok (.goto (-25), 3) := by decide +kernel
theorem dX8_init_256 : decode cX8_init 256 = .ok (.bipush 19, 2) := by decide +kernel
theorem dX8_init_258 : decode cX8_init 258 = .ok (.istore_n 1, 1) := by decide +kernel
theorem dX8_init_259 : decode cX8_init 259 = .ok (.iload_n 1, 1) := by decide +kernel
theorem dX8_init_260 : decode cX8_init 260 = .ok (.bipush 28, 2) := by decide +kernel
theorem dX8_init_262 : decode cX8_init 262 = .ok (.if_icmp .ge 25, 3) := by decide +kernel
theorem dX8_init_265 : decode cX8_init 265 = .ok (.aload_n 0, 1) := by decide +kernel
theorem dX8_init_266 : decode cX8_init 266 = .ok (.getfield 7, 3) := by decide +kernel
theorem dX8_init_269 : decode cX8_init 269 = .ok (.iload_n 1, 1) := by decide +kernel
theorem dX8_init_270 : decode cX8_init 270 = .ok (.aload_n 0, 1) := by decide +kernel
theorem dX8_init_271 : decode cX8_init 271 = .ok (.getfield 7, 3) := by decide +kernel
theorem dX8_init_274 : decode cX8_init 274 = .ok (.iload_n 1, 1) := by decide +kernel
theorem dX8_init_275 : decode cX8_init 275 = .ok (.bipush 18, 2) := by decide +kernel
theorem dX8_init_277 : decode cX8_init 277 = .ok (.isub, 1) := by decide +kernel
theorem dX8_init_278 : decode cX8_init 278 = .ok (.iaload, 1) := by decide +kernel
theorem dX8_init_279 : decode cX8_init 279 = .ok (.ineg, 1) := by decide +kernel
theorem dX8_init_280 : decode cX8_init 280 = .ok (.iastore, 1) := by decide +kernel
theorem dX8_init_281 : decode cX8_init 281 = .ok (.iinc 1 1, 3) := by decide +kernel
theorem dX8_init_284 : decode cX8_init 284 = .ok (.goto (-25), 3) := by decide +kernel
theorem dX8_init_287 : decode cX8_init 287 = .ok (.bipush 28, 2) := by decide +kernel
theorem dX8_init_289 : decode cX8_init 289 = .ok (.istore_n 1, 1) := by decide +kernel
theorem dX8_init_290 : decode cX8_init 290 = .ok (.iload_n 1, 1) := by decide +kernel
theorem dX8_init_291 : decode cX8_init 291 = .ok (.bipush 36, 2) := by decide +kernel
theorem dX8_init_293 : decode cX8_init 293 = .ok (.if_icmp .ge 24, 3) := by decide +kernel
theorem dX8_init_296 : decode cX8_init 296 = .ok (.aload_n 0, 1) := by decide +kernel
theorem dX8_init_297 : decode cX8_init 297 = .ok (.getfield 7, 3) := by decide +kernel
theorem dX8_init_300 : decode cX8_init 300 = .ok (.iload_n 1, 1) := by decide +kernel
theorem dX8_init_301 : decode cX8_init 301 = .ok (.aload_n 0, 1) := by decide +kernel
theorem dX8_init_302 : decode cX8_init 302 = .ok (.getfield 7, 3) := by decide +kernel
theorem dX8_init_305 : decode cX8_init 305 = .ok (.bipush 36, 2) := by decide +kernel
theorem dX8_init_307 : decode cX8_init 307 = .ok (.iload_n 1, 1) := by decide +kernel
theorem dX8_init_308 : decode cX8_init 308 = .ok (.isub, 1) := by decide +kernel
theorem dX8_init_309 : decode cX8_init 309 = .ok (.iaload, 1) := by decide +kernel
theorem dX8_init_310 : decode cX8_init 310 = .ok (.iastore, 1) := by decide +kernel
theorem dX8_init_311 : decode cX8_init 311 = .ok (.iinc 1 1, 3) := by decide +kernel
theorem dX8_init_314 : decode cX8_init 314 = .ok (.goto (-24), 3) := by decide +kernel
theorem dX8_init_317 : decode cX8_init 317 = .ok (.iconst 0, 1) := by decide +kernel
theorem dX8_init_318 : decode cX8_init 318 = .ok (.istore_n 1, 1) := by decide +kernel
theorem dX8_init_319 : decode cX8_init 319 = .ok (.iload_n 1, 1) := by decide +kernel
theorem dX8_init_320 : decode cX8_init 320 = .ok (.iconst 3, 1) := by decide +kernel
theorem dX8_init_321 : decode cX8_init 321 = .ok (.if_icmp .ge 25, 3) := by decide +kernel
theorem dX8_init_324 : decode cX8_init 324 = .ok (.aload_n 0, 1) := by decide +kernel
theorem dX8_init_325 : decode cX8_init 325 = .ok (.getfield 13, 3) := by decide +kernel
theorem dX8_init_328 : decode cX8_init 328 = .ok (.iload_n 1, 1) := by decide +kernel
theorem dX8_init_329 : decode cX8_init 329 = .ok (.bipush 100, 2) := by decide +kernel
theorem dX8_init_331 : decode cX8_init 331 = .ok (.iastore, 1) := by decide +kernel
theorem dX8_init_332 : decode cX8_init 332 = .ok (.aload_n 0, 1) := by decide +kernel
theorem dX8_init_333 : decode cX8_init 333 = .ok (.getfield 51, 3) := by decide +kernel
theorem dX8_init_336 : decode cX8_init 336 = .ok (.iload_n 1, 1) := by decide +kernel
theorem dX8_init_337 : decode cX8_init 337 = .ok (.bipush 35, 2) := by decide +kernel
theorem dX8_init_339 : decode cX8_init 339 = .ok (.iastore, 1) := by decide +kernel
theorem dX8_init_340 : decode cX8_init 340 = .ok (.iinc 1 1, 3) := by decide +kernel
theorem dX8_init_343 : decode cX8_init 343 = .ok (.goto (-24), 3) := by decide +kernel
theorem dX8_init_346 : decode cX8_init 346 = .ok (.iconst 0, 1) := by decide +kernel
theorem dX8_init_347 : decode cX8_init 347 = .ok (.istore_n 1, 1) := by decide +kernel
theorem dX8_init_348 : decode cX8_init 348 = .ok (.iload_n 1, 1) := by decide +kernel
theorem dX8_init_349 : decode cX8_init 349 = .ok (.iconst 4, 1) := by decide +kernel
theorem dX8_init_350 : decode cX8_init 350 = .ok (.if_icmp .ge 16, 3) := by decide +kernel
theorem dX8_init_353 : decode cX8_init 353 = .ok (.aload_n 0, 1) := by decide +kernel
theorem dX8_init_354 : decode cX8_init 354 = .ok (.getfield 54, 3) := by decide +kernel
theorem dX8_init_357 : decode cX8_init 357 = .ok (.iload_n 1, 1) := by decide +kernel
theorem dX8_init_358 : decode cX8_init 358 = .ok (.iconst (-1), 1) := by decide +kernel
theorem dX8_init_359 : decode cX8_init 359 = .ok (.iastore, 1) := by decide +kernel
theorem dX8_init_360 : decode cX8_init 360 = .ok (.iinc 1 1, 3) := by decide +kernel
theorem dX8_init_363 : decode cX8_init 363 = .ok (.goto (-15), 3) := by decide +kernel
theorem dX8_init_366 : decode cX8_init 366 = .ok (.return_, 1) := by decide +kernel
theorem dX8_in_0 : decode cX8_in 0 = .ok (.lload_n 0, 1) := by decide +kernel
theorem dX8_in_1 : decode cX8_in 1 = .ok (.lload_n 2, 1) := by decide +kernel
theorem dX8_in_2 : decode cX8_in 2 = .ok (.lcmp, 1) := by decide +kernel
theorem dX8_in_3 : decode cX8_in 3 = .ok (.ifCond .lt 14, 3) := by decide +kernel
theorem dX8_in_6 : decode cX8_in 6 = .ok (.lload_n 0, 1) := by decide +kernel
theorem dX8_in_7 : decode cX8_in 7 = .ok (.lload 4, 2) := by decide +kernel
theorem dX8_in_9 : decode cX8_in 9 = .ok (.lcmp, 1) := by decide +kernel
theorem dX8_in_10 : decode cX8_in 10 = .ok (.ifCond .gt 7, 3) := by decide +kernel
theorem dX8_in_13 : decode cX8_in 13 = .ok (.iconst 1, 1) := by decide +kernel
theorem dX8_in_14 : decode cX8_in 14 = .ok (.goto 4, 3) := by decide +kernel
theorem dX8_in_17 : decode cX8_in 17 = .ok (.iconst 0, 1) := by decide +kernel
theorem dX8_in_18 : decode cX8_in 18 = .ok (.ireturn, 1) := by decide +kernel
theorem dX8_no_0 : decode cX8_no 0 = .ok (.ldc2_w 66, 3) := by decide +kernel
theorem dX8_no_3 : decode cX8_no 3 = .ok (.iload_n 0, 1) := by decide +kernel
theorem dX8_no_4 : decode cX8_no 4 = .ok (.i2l, 1) := by decide +kernel
theorem dX8_no_5 : decode cX8_no 5 = .ok (.lsub, 1) := by decide +kernel
theorem dX8_no_6 : decode cX8_no 6 = .ok (.lreturn, 1) := by decide +kernel
theorem dX8_c_0 : decode cX8_c 0 = .ok (.aload_n 0, 1) := by decide +kernel
theorem dX8_c_1 : decode cX8_c 1 = .ok (.getfield 7, 3) := by decide +kernel
theorem dX8_c_4 : decode cX8_c 4 = .ok (.iload_n 1, 1) := by decide +kernel
theorem dX8_c_5 : decode cX8_c 5 = .ok (.bipush 36, 2) := by decide +kernel
theorem dX8_c_7 : decode cX8_c 7 = .ok (.irem, 1) := by decide +kernel
theorem dX8_c_8 : decode cX8_c 8 = .ok (.iaload, 1) := by decide +kernel
theorem dX8_c_9 : decode cX8_c 9 = .ok (.ireturn, 1) := by decide +kernel
theorem dX8_s_0 : decode cX8_s 0 = .ok (.aload_n 0, 1) := by decide +kernel
theorem dX8_s_1 : decode cX8_s 1 = .ok (.getfield 7, 3) := by decide +kernel
theorem dX8_s_4 : decode cX8_s 4 = .ok (.iload_n 1, 1) := by decide +kernel
theorem dX8_s_5 : decode cX8_s 5 = .ok (.bipush 27, 2) := by decide +kernel
theorem dX8_s_7 : decode cX8_s 7 = .ok (.iadd, 1) := by decide +kernel
theorem dX8_s_8 : decode cX8_s 8 = .ok (.bipush 36, 2) := by decide +kernel
theorem dX8_s_10 : decode cX8_s 10 = .ok (.irem, 1) := by decide +kernel
theorem dX8_s_11 : decode cX8_s 11 = .ok (.iaload, 1) := by decide +kernel
theorem dX8_s_12 : decode cX8_s 12 = .ok (.ireturn, 1) := by decide +kernel
theorem dX8_turn_0 : decode cX8_turn 0 = .ok (.iload_n 1, 1) := by decide +kernel
theorem dX8_turn_1 : decode cX8_turn 1 = .ok (.i2l, 1) := by decide +kernel
theorem dX8_turn_2 : decode cX8_turn 2 = .ok (.lconst 0, 1) := by decide +kernel
theorem dX8_turn_3 : decode cX8_turn 3 = .ok (.ldc2_w 68, 3) := by decide +kernel
theorem dX8_turn_6 : decode cX8_turn 6 = .ok (.invokestatic 70, 3) := by decide +kernel
theorem dX8_turn_9 : decode cX8_turn 9 = .ok (.ifCond .eq 13, 3) := by decide +kernel
theorem dX8_turn_12 : decode cX8_turn 12 = .ok (.iload_n 2, 1) := by decide +kernel
theorem dX8_turn_13 : decode cX8_turn 13 = .ok (.i2l, 1) := by decide +kernel
theorem dX8_turn_14 : decode cX8_turn 14 = .ok (.lconst 0, 1) := by decide +kernel
theorem dX8_turn_15 : decode cX8_turn 15 = .ok (.lconst 1, 1) := by decide +kernel
theorem dX8_turn_16 : decode cX8_turn 16 = .ok (.invokestatic 70, 3) := by decide +kernel
theorem dX8_turn_19 : decode cX8_turn 19 = .ok (.ifCond .ne 7, 3) := by decide +kernel
theorem dX8_turn_22 : decode cX8_turn 22 = .ok (.sipush (-1000), 3) := by decide +kernel
theorem dX8_turn_25 : decode cX8_turn 25 = .ok (.ireturn, 1) := by decide +kernel
theorem dX8_turn_26 : decode cX8_turn 26 = .ok (.iload_n 2, 1) := by decide +kernel
theorem dX8_turn_27 : decode cX8_turn 27 = .ok (.ifCond .ne 11, 3) := by decide +kernel
theorem dX8_turn_30 : decode cX8_turn 30 = .ok (.aload_n 0, 1) := by decide +kernel
theorem dX8_turn_31 : decode cX8_turn 31 = .ok (.iload_n 1, 1) := by decide +kernel
theorem dX8_turn_32 : decode cX8_turn 32 = .ok (.invokevirtual 74, 3) := by decide +kernel
theorem dX8_turn_35 : decode cX8_turn 35 = .ok (.goto 8, 3) := by decide +kernel
theorem dX8_turn_38 : decode cX8_turn 38 = .ok (.aload_n 0, 1) := by decide +kernel
theorem dX8_turn_39 : decode cX8_turn 39 = .ok (.iload_n 1, 1) := by decide +kernel
theorem dX8_turn_40 : decode cX8_turn 40 = .ok (.invokevirtual 78, 3) := by decide +kernel
theorem dX8_turn_43 : decode cX8_turn 43 = .ok (.ireturn, 1) := by decide +kernel
theorem dX8_length_0 : decode cX8_length 0 = .ok (.iload_n 1, 1) := by decide +kernel
theorem dX8_length_1 : decode cX8_length 1 = .ok (.i2l, 1) := by decide +kernel
theorem dX8_length_2 : decode cX8_length 2 = .ok (.lconst 0, 1) := by decide +kernel
theorem dX8_length_3 : decode cX8_length 3 = .ok (.ldc2_w 81, 3) := by decide +kernel
theorem dX8_length_6 : decode cX8_length 6 = .ok (.invokestatic 70, 3) := by decide +kernel
theorem dX8_length_9 : decode cX8_length 9 = .ok (.ifCond .eq 15, 3) := by decide +kernel
theorem dX8_length_12 : decode cX8_length 12 = .ok (.iload_n 2, 1) := by decide +kernel
theorem dX8_length_13 : decode cX8_length 13 = .ok (.i2l, 1) := by decide +kernel
theorem dX8_length_14 : decode cX8_length 14 = .ok (.lconst 1, 1) := by decide +kernel
theorem dX8_length_15 : decode cX8_length 15 = .ok (.ldc2_w 83, 3) := by decide +kernel
theorem dX8_length_18 : decode cX8_length 18 = .ok (.invokestatic 70, 3) := by decide +kernel
theorem dX8_length_21 : decode cX8_length 21 = .ok (.ifCond .ne 6, 3) := by decide +kernel
theorem dX8_length_24 : decode cX8_length 24 = .ok (.bipush (-2), 2) := by decide +kernel
theorem dX8_length_26 : decode cX8_length 26 = .ok (.ireturn, 1) := by decide +kernel
theorem dX8_length_27 : decode cX8_length 27 = .ok (.aload_n 0, 1) := by decide +kernel
theorem dX8_length_28 : decode cX8_length 28 = .ok (.getfield 13, 3) := by decide +kernel
theorem dX8_length_31 : decode cX8_length 31 = .ok (.iload_n 1, 1) := by decide +kernel
theorem dX8_length_32 : decode cX8_length 32 = .ok (.iaload, 1) := by decide +kernel
theorem dX8_length_33 : decode cX8_length 33 = .ok (.istore_n 3, 1) := by decide +kernel
theorem dX8_length_34 : decode cX8_length 34 = .ok (.aload_n 0, 1) := by decide +kernel
theorem dX8_length_35 : decode cX8_length 35 = .ok (.getfield 13, 3) := by decide +kernel
theorem dX8_length_38 : decode cX8_length 38 = .ok (.iload_n 1, 1) := by decide +kernel
theorem dX8_length_39 : decode cX8_length 39 = .ok (.iload_n 2, 1) := by decide +kernel
theorem dX8_length_40 : decode cX8_length 40 = .ok (.iastore, 1) := by decide +kernel
theorem dX8_length_41 : decode cX8_length 41 = .ok (.iload_n 3, 1) := by decide +kernel
theorem dX8_length_42 : decode cX8_length 42 = .ok (.ireturn, 1) := by decide +kernel
theorem dX8_posture_0 : decode cX8_posture 0 = .ok (.iload_n 1, 1) := by decide +kernel
theorem dX8_posture_1 : decode cX8_posture 1 = .ok (.i2l, 1) := by decide +kernel
theorem dX8_posture_2 : decode cX8_posture 2 = .ok (.lconst 0, 1) := by decide +kernel
theorem dX8_posture_3 : decode cX8_posture 3 = .ok (.ldc2_w 68, 3) := by decide +kernel
theorem dX8_posture_6 : decode cX8_posture 6 = .ok (.invokestatic 70, 3) := by decide +kernel
theorem dX8_posture_9 : decode cX8_posture 9 = .ok (.ifCond .eq 27, 3) := by decide +kernel
theorem dX8_posture_12 : decode cX8_posture 12 = .ok (.iload_n 2, 1) := by decide +kernel
theorem dX8_posture_13 : decode cX8_posture 13 = .ok (.i2l, 1) := by decide +kernel
theorem dX8_posture_14 : decode cX8_posture 14 = .ok (.lconst 0, 1) := by decide +kernel
theorem dX8_posture_15 : decode cX8_posture 15 = .ok (.ldc2_w 68, 3) := by decide +kernel
theorem dX8_posture_18 : decode cX8_posture 18 = .ok (.invokestatic 70, 3) := by decide +kernel
theorem dX8_posture_21 : decode cX8_posture 21 = .ok (.ifCond .eq 15, 3) := by decide +kernel
theorem dX8_posture_24 : decode cX8_posture 24 = .ok (.iload_n 3, 1) := by decide +kernel
theorem dX8_posture_25 : decode cX8_posture 25 = .ok (.i2l, 1) := by decide +kernel
theorem dX8_posture_26 : decode cX8_posture 26 = .ok (.lconst 0, 1) := by decide +kernel
theorem dX8_posture_27 : decode cX8_posture 27 = .ok (.ldc2_w 68, 3) := by decide +kernel
theorem dX8_posture_30 : decode cX8_posture 30 = .ok (.invokestatic 70, 3) := by decide +kernel
theorem dX8_posture_33 : decode cX8_posture 33 = .ok (.ifCond .ne 6, 3) := by decide +kernel
theorem dX8_posture_36 : decode cX8_posture 36 = .ok (.bipush (-2), 2) := by decide +kernel
theorem dX8_posture_38 : decode cX8_posture 38 = .ok (.ireturn, 1) := by decide +kernel
theorem dX8_posture_39 : decode cX8_posture 39 = .ok (.aload_n 0, 1) := by decide +kernel
theorem dX8_posture_40 : decode cX8_posture 40 = .ok (.getfield 85, 3) := by decide +kernel
theorem dX8_posture_43 : decode cX8_posture 43 = .ok (.bipush 20, 2) := by decide +kernel
theorem dX8_posture_45 : decode cX8_posture 45 = .ok (.if_icmp .ne 6, 3) := by decide +kernel
theorem dX8_posture_48 : decode cX8_posture 48 = .ok (.bipush (-4), 2) := by decide +kernel
theorem dX8_posture_50 : decode cX8_posture 50 = .ok (.ireturn, 1) := by decide +kernel
theorem dX8_posture_51 : decode cX8_posture 51 = .ok (.aload_n 0, 1) := by decide +kernel
theorem dX8_posture_52 : decode cX8_posture 52 = .ok (.getfield 16, 3) := by decide +kernel
theorem dX8_posture_55 : decode cX8_posture 55 = .ok (.iconst 3, 1) := by decide +kernel
theorem dX8_posture_56 : decode cX8_posture 56 = .ok (.aload_n 0, 1) := by decide +kernel
theorem dX8_posture_57 : decode cX8_posture 57 = .ok (.getfield 85, 3) := by decide +kernel
theorem dX8_posture_60 : decode cX8_posture 60 = .ok (.imul, 1) := by decide +kernel
theorem dX8_posture_61 : decode cX8_posture 61 = .ok (.iload_n 1, 1) := by decide +kernel
theorem dX8_posture_62 : decode cX8_posture 62 = .ok (.iastore, 1) := by decide +kernel
theorem dX8_posture_63 : decode cX8_posture 63 = .ok (.aload_n 0, 1) := by decide +kernel
theorem dX8_posture_64 : decode cX8_posture 64 = .ok (.getfield 16, 3) := by decide +kernel
theorem dX8_posture_67 : decode cX8_posture 67 = .ok (.iconst 3, 1) := by decide +kernel
theorem dX8_posture_68 : decode cX8_posture 68 = .ok (.aload_n 0, 1) := by decide +kernel
theorem dX8_posture_69 : decode cX8_posture 69 = .ok (.getfield 85, 3) := by decide +kernel
theorem dX8_posture_72 : decode cX8_posture 72 = .ok (.imul, 1) := by decide +kernel
theorem dX8_posture_73 : decode cX8_posture 73 = .ok (.iconst 1, 1) := by decide +kernel
theorem dX8_posture_74 : decode cX8_posture 74 = .ok (.iadd, 1) := by decide +kernel
theorem dX8_posture_75 : decode cX8_posture 75 = .ok (.iload_n 1, 1) := by decide +kernel
theorem dX8_posture_76 : decode cX8_posture 76 = .ok (.iload_n 2, 1) := by decide +kernel
theorem dX8_posture_77 : decode cX8_posture 77 = .ok (.iadd, 1) := by decide +kernel
theorem dX8_posture_78 : decode cX8_posture 78 = .ok (.bipush 36, 2) := by decide +kernel
theorem dX8_posture_80 : decode cX8_posture 80 = .ok (.irem, 1) := by decide +kernel
theorem dX8_posture_81 : decode cX8_posture 81 = .ok (.iastore, 1) := by decide +kernel
theorem dX8_posture_82 : decode cX8_posture 82 = .ok (.aload_n 0, 1) := by decide +kernel
theorem dX8_posture_83 : decode cX8_posture 83 = .ok (.getfield 16, 3) := by decide +kernel
theorem dX8_posture_86 : decode cX8_posture 86 = .ok (.iconst 3, 1) := by decide +kernel
theorem dX8_posture_87 : decode cX8_posture 87 = .ok (.aload_n 0, 1) := by decide +kernel
theorem dX8_posture_88 : decode cX8_posture 88 = .ok (.getfield 85, 3) := by decide +kernel
theorem dX8_posture_91 : decode cX8_posture 91 = .ok (.imul, 1) := by decide +kernel
theorem dX8_posture_92 : decode cX8_posture 92 = .ok (.iconst 2, 1) := by decide +kernel
theorem dX8_posture_93 : decode cX8_posture 93 = .ok (.iadd, 1) := by decide +kernel
theorem dX8_posture_94 : decode cX8_posture 94 = .ok (.iload_n 1, 1) := by decide +kernel
theorem dX8_posture_95 : decode cX8_posture 95 = .ok (.iload_n 2, 1) := by decide +kernel
theorem dX8_posture_96 : decode cX8_posture 96 = .ok (.iadd, 1) := by decide +kernel
theorem dX8_posture_97 : decode cX8_posture 97 = .ok (.iload_n 3, 1) := by decide +kernel
theorem dX8_posture_98 : decode cX8_posture 98 = .ok (.iadd, 1) := by decide +kernel
theorem dX8_posture_99 : decode cX8_posture 99 = .ok (.bipush 36, 2) := by decide +kernel
theorem dX8_posture_101 : decode cX8_posture 101 = .ok (.irem, 1) := by decide +kernel
theorem dX8_posture_102 : decode cX8_posture 102 = .ok (.iastore, 1) := by decide +kernel
theorem dX8_posture_103 : decode cX8_posture 103 = .ok (.aload_n 0, 1) := by decide +kernel
theorem dX8_posture_104 : decode cX8_posture 104 = .ok (.getfield 19, 3) := by decide +kernel
theorem dX8_posture_107 : decode cX8_posture 107 = .ok (.aload_n 0, 1) := by decide +kernel
theorem dX8_posture_108 : decode cX8_posture 108 = .ok (.getfield 85, 3) := by decide +kernel
theorem dX8_posture_111 : decode cX8_posture 111 = .ok (.iconst 0, 1) := by decide +kernel
theorem dX8_posture_112 : decode cX8_posture 112 = .ok (.bastore, 1) := by decide +kernel
theorem dX8_posture_113 : decode cX8_posture 113 = .ok (.aload_n 0, 1) := by decide +kernel
theorem dX8_posture_114 : decode cX8_posture 114 = .ok (.dup, 1) := by decide +kernel
theorem dX8_posture_115 : decode cX8_posture 115 = .ok (.getfield 85, 3) := by decide +kernel
theorem dX8_posture_118 : decode cX8_posture 118 = .ok (.iconst 1, 1) := by decide +kernel
theorem dX8_posture_119 : decode cX8_posture 119 = .ok (.iadd, 1) := by decide +kernel
theorem dX8_posture_120 : decode cX8_posture 120 = .ok (.putfield 85, 3) := by decide +kernel
theorem dX8_posture_123 : decode cX8_posture 123 = .ok (.aload_n 0, 1) := by decide +kernel
theorem dX8_posture_124 : decode cX8_posture 124 = .ok (.getfield 85, 3) := by decide +kernel
theorem dX8_posture_127 : decode cX8_posture 127 = .ok (.iconst 1, 1) := by decide +kernel
theorem dX8_posture_128 : decode cX8_posture 128 = .ok (.isub, 1) := by decide +kernel
theorem dX8_posture_129 : decode cX8_posture 129 = .ok (.ireturn, 1) := by decide +kernel
theorem dX8_clear_0 : decode cX8_clear 0 = .ok (.aload_n 0, 1) := by decide +kernel
theorem dX8_clear_1 : decode cX8_clear 1 = .ok (.getfield 85, 3) := by decide +kernel
theorem dX8_clear_4 : decode cX8_clear 4 = .ok (.istore_n 1, 1) := by decide +kernel
theorem dX8_clear_5 : decode cX8_clear 5 = .ok (.aload_n 0, 1) := by decide +kernel
theorem dX8_clear_6 : decode cX8_clear 6 = .ok (.iconst 0, 1) := by decide +kernel
theorem dX8_clear_7 : decode cX8_clear 7 = .ok (.putfield 85, 3) := by decide +kernel
theorem dX8_clear_10 : decode cX8_clear 10 = .ok (.iload_n 1, 1) := by decide +kernel
theorem dX8_clear_11 : decode cX8_clear 11 = .ok (.ireturn, 1) := by decide +kernel
theorem dX8_isPosture_0 : decode cX8_isPosture 0 = .ok (.iload_n 1, 1) := by decide +kernel
theorem dX8_isPosture_1 : decode cX8_isPosture 1 = .ok (.i2l, 1) := by decide +kernel
theorem dX8_isPosture_2 : decode cX8_isPosture 2 = .ok (.lconst 0, 1) := by decide +kernel
theorem dX8_isPosture_3 : decode cX8_isPosture 3 = .ok (.aload_n 0, 1) := by decide +kernel
theorem dX8_isPosture_4 : decode cX8_isPosture 4 = .ok (.getfield 85, 3) := by decide +kernel
theorem dX8_isPosture_7 : decode cX8_isPosture 7 = .ok (.iconst 1, 1) := by decide +kernel
theorem dX8_isPosture_8 : decode cX8_isPosture 8 = .ok (.isub, 1) := by decide +kernel
theorem dX8_isPosture_9 : decode cX8_isPosture 9 = .ok (.i2l, 1) := by decide +kernel
theorem dX8_isPosture_10 : decode cX8_isPosture 10 = .ok (.invokestatic 70, 3) := by decide +kernel
theorem dX8_isPosture_13 : decode cX8_isPosture 13 = .ok (.ireturn, 1) := by decide +kernel
theorem dX8_part_0 : decode cX8_part 0 = .ok (.aload_n 0, 1) := by decide +kernel
theorem dX8_part_1 : decode cX8_part 1 = .ok (.getfield 16, 3) := by decide +kernel
theorem dX8_part_4 : decode cX8_part 4 = .ok (.iconst 3, 1) := by decide +kernel
theorem dX8_part_5 : decode cX8_part 5 = .ok (.iload_n 1, 1) := by decide +kernel
theorem dX8_part_6 : decode cX8_part 6 = .ok (.imul, 1) := by decide +kernel
theorem dX8_part_7 : decode cX8_part 7 = .ok (.iload_n 2, 1) := by decide +kernel
theorem dX8_part_8 : decode cX8_part 8 = .ok (.iadd, 1) := by decide +kernel
theorem dX8_part_9 : decode cX8_part 9 = .ok (.iaload, 1) := by decide +kernel
theorem dX8_part_10 : decode cX8_part 10 = .ok (.istore 4, 2) := by decide +kernel
theorem dX8_part_12 : decode cX8_part 12 = .ok (.iload_n 3, 1) := by decide +kernel
theorem dX8_part_13 : decode cX8_part 13 = .ok (.ifCond .ne 12, 3) := by decide +kernel
theorem dX8_part_16 : decode cX8_part 16 = .ok (.aload_n 0, 1) := by decide +kernel
theorem dX8_part_17 : decode cX8_part 17 = .ok (.iload 4, 2) := by decide +kernel
theorem dX8_part_19 : decode cX8_part 19 = .ok (.invokevirtual 74, 3) := by decide +kernel
theorem dX8_part_22 : decode cX8_part 22 = .ok (.goto 9, 3) := by decide +kernel
theorem dX8_part_25 : decode cX8_part 25 = .ok (.aload_n 0, 1) := by decide +kernel
theorem dX8_part_26 : decode cX8_part 26 = .ok (.iload 4, 2) := by decide +kernel
theorem dX8_part_28 : decode cX8_part 28 = .ok (.invokevirtual 78, 3) := by decide +kernel
theorem dX8_part_31 : decode cX8_part 31 = .ok (.ireturn, 1) := by decide +kernel
theorem dX8_handOf_0 : decode cX8_handOf 0 = .ok (.aload_n 0, 1) := by decide +kernel
theorem dX8_handOf_1 : decode cX8_handOf 1 = .ok (.getfield 13, 3) := by decide +kernel
theorem dX8_handOf_4 : decode cX8_handOf 4 = .ok (.iconst 0, 1) := by decide +kernel
theorem dX8_handOf_5 : decode cX8_handOf 5 = .ok (.iaload, 1) := by decide +kernel
theorem dX8_handOf_6 : decode cX8_handOf 6 = .ok (.aload_n 0, 1) := by decide +kernel
theorem dX8_handOf_7 : decode cX8_handOf 7 = .ok (.iload_n 1, 1) := by decide +kernel
theorem dX8_handOf_8 : decode cX8_handOf 8 = .ok (.iconst 0, 1) := by decide +kernel
theorem dX8_handOf_9 : decode cX8_handOf 9 = .ok (.iload_n 2, 1) := by decide +kernel
theorem dX8_handOf_10 : decode cX8_handOf 10 = .ok (.invokevirtual 89, 3) := by decide +kernel
theorem dX8_handOf_13 : decode cX8_handOf 13 = .ok (.imul, 1) := by decide +kernel
theorem dX8_handOf_14 : decode cX8_handOf 14 = .ok (.aload_n 0, 1) := by decide +kernel
theorem dX8_handOf_15 : decode cX8_handOf 15 = .ok (.getfield 13, 3) := by decide +kernel
theorem dX8_handOf_18 : decode cX8_handOf 18 = .ok (.iconst 1, 1) := by decide +kernel
theorem dX8_handOf_19 : decode cX8_handOf 19 = .ok (.iaload, 1) := by decide +kernel
theorem dX8_handOf_20 : decode cX8_handOf 20 = .ok (.aload_n 0, 1) := by decide +kernel
theorem dX8_handOf_21 : decode cX8_handOf 21 = .ok (.iload_n 1, 1) := by decide +kernel
theorem dX8_handOf_22 : decode cX8_handOf 22 = .ok (.iconst 1, 1) := by decide +kernel
theorem dX8_handOf_23 : decode cX8_handOf 23 = .ok (.iload_n 2, 1) := by decide +kernel
theorem dX8_handOf_24 : decode cX8_handOf 24 = .ok (.invokevirtual 89, 3) := by decide +kernel
theorem dX8_handOf_27 : decode cX8_handOf 27 = .ok (.imul, 1) := by decide +kernel
theorem dX8_handOf_28 : decode cX8_handOf 28 = .ok (.iadd, 1) := by decide +kernel
theorem dX8_handOf_29 : decode cX8_handOf 29 = .ok (.aload_n 0, 1) := by decide +kernel
theorem dX8_handOf_30 : decode cX8_handOf 30 = .ok (.getfield 13, 3) := by decide +kernel
theorem dX8_handOf_33 : decode cX8_handOf 33 = .ok (.iconst 2, 1) := by decide +kernel
theorem dX8_handOf_34 : decode cX8_handOf 34 = .ok (.iaload, 1) := by decide +kernel
theorem dX8_handOf_35 : decode cX8_handOf 35 = .ok (.aload_n 0, 1) := by decide +kernel
theorem dX8_handOf_36 : decode cX8_handOf 36 = .ok (.iload_n 1, 1) := by decide +kernel
theorem dX8_handOf_37 : decode cX8_handOf 37 = .ok (.iconst 2, 1) := by decide +kernel
theorem dX8_handOf_38 : decode cX8_handOf 38 = .ok (.iload_n 2, 1) := by decide +kernel
theorem dX8_handOf_39 : decode cX8_handOf 39 = .ok (.invokevirtual 89, 3) := by decide +kernel
theorem dX8_handOf_42 : decode cX8_handOf 42 = .ok (.imul, 1) := by decide +kernel
theorem dX8_handOf_43 : decode cX8_handOf 43 = .ok (.iadd, 1) := by decide +kernel
theorem dX8_handOf_44 : decode cX8_handOf 44 = .ok (.ireturn, 1) := by decide +kernel
theorem dX8_hand_0 : decode cX8_hand 0 = .ok (.aload_n 0, 1) := by decide +kernel
theorem dX8_hand_1 : decode cX8_hand 1 = .ok (.iload_n 1, 1) := by decide +kernel
theorem dX8_hand_2 : decode cX8_hand 2 = .ok (.invokevirtual 93, 3) := by decide +kernel
theorem dX8_hand_5 : decode cX8_hand 5 = .ok (.ifCond .eq 22, 3) := by decide +kernel
theorem dX8_hand_8 : decode cX8_hand 8 = .ok (.iload_n 2, 1) := by decide +kernel
theorem dX8_hand_9 : decode cX8_hand 9 = .ok (.i2l, 1) := by decide +kernel
theorem dX8_hand_10 : decode cX8_hand 10 = .ok (.lconst 0, 1) := by decide +kernel
theorem dX8_hand_11 : decode cX8_hand 11 = .ok (.lconst 1, 1) := by decide +kernel
theorem dX8_hand_12 : decode cX8_hand 12 = .ok (.invokestatic 70, 3) := by decide +kernel
theorem dX8_hand_15 : decode cX8_hand 15 = .ok (.ifCond .eq 12, 3) := by decide +kernel
theorem dX8_hand_18 : decode cX8_hand 18 = .ok (.aload_n 0, 1) := by decide +kernel
theorem dX8_hand_19 : decode cX8_hand 19 = .ok (.iload_n 1, 1) := by decide +kernel
theorem dX8_hand_20 : decode cX8_hand 20 = .ok (.iload_n 2, 1) := by decide +kernel
theorem dX8_hand_21 : decode cX8_hand 21 = .ok (.invokevirtual 97, 3) := by decide +kernel
theorem dX8_hand_24 : decode cX8_hand 24 = .ok (.goto 5, 3) := by decide +kernel
theorem dX8_hand_27 : decode cX8_hand 27 = .ok (.ldc 101, 2) := by decide +kernel
theorem dX8_hand_29 : decode cX8_hand 29 = .ok (.ireturn, 1) := by decide +kernel
theorem dX8_item_0 : decode cX8_item 0 = .ok (.aload_n 0, 1) := by decide +kernel
theorem dX8_item_1 : decode cX8_item 1 = .ok (.getfield 54, 3) := by decide +kernel
theorem dX8_item_4 : decode cX8_item 4 = .ok (.iconst 0, 1) := by decide +kernel
theorem dX8_item_5 : decode cX8_item 5 = .ok (.iaload, 1) := by decide +kernel
theorem dX8_item_6 : decode cX8_item 6 = .ok (.ifCond .lt 13, 3) := by decide +kernel
theorem dX8_item_9 : decode cX8_item 9 = .ok (.iload_n 1, 1) := by decide +kernel
theorem dX8_item_10 : decode cX8_item 10 = .ok (.aload_n 0, 1) := by decide +kernel
theorem dX8_item_11 : decode cX8_item 11 = .ok (.getfield 57, 3) := by decide +kernel
theorem dX8_item_14 : decode cX8_item 14 = .ok (.iconst 0, 1) := by decide +kernel
theorem dX8_item_15 : decode cX8_item 15 = .ok (.iaload, 1) := by decide +kernel
theorem dX8_item_16 : decode cX8_item 16 = .ok (.if_icmp .lt 9, 3) := by decide +kernel
theorem dX8_item_19 : decode cX8_item 19 = .ok (.sipush (-10000), 3) := by decide +kernel
theorem dX8_item_22 : decode cX8_item 22 = .ok (.goto 9, 3) := by decide +kernel
theorem dX8_item_25 : decode cX8_item 25 = .ok (.aload_n 0, 1) := by decide +kernel
theorem dX8_item_26 : decode cX8_item 26 = .ok (.getfield 60, 3) := by decide +kernel
theorem dX8_item_29 : decode cX8_item 29 = .ok (.iload_n 1, 1) := by decide +kernel
theorem dX8_item_30 : decode cX8_item 30 = .ok (.iaload, 1) := by decide +kernel
theorem dX8_item_31 : decode cX8_item 31 = .ok (.ireturn, 1) := by decide +kernel
theorem dX8_hasMeasure_0 : decode cX8_hasMeasure 0 = .ok (.aload_n 0, 1) := by decide +kernel
theorem dX8_hasMeasure_1 : decode cX8_hasMeasure 1 = .ok (.iconst 2, 1) := by decide +kernel
theorem dX8_hasMeasure_2 : decode cX8_hasMeasure 2 = .ok (.iload_n 1, 1) := by decide +kernel
theorem dX8_hasMeasure_3 : decode cX8_hasMeasure 3 = .ok (.imul, 1) := by decide +kernel
theorem dX8_hasMeasure_4 : decode cX8_hasMeasure 4 = .ok (.invokevirtual 102, 3) := by decide +kernel
theorem dX8_hasMeasure_7 : decode cX8_hasMeasure 7 = .ok (.i2l, 1) := by decide +kernel
theorem dX8_hasMeasure_8 : decode cX8_hasMeasure 8 = .ok (.ldc2_w 105, 3) := by decide +kernel
theorem dX8_hasMeasure_11 : decode cX8_hasMeasure 11 = .ok (.ldc2_w 107, 3) := by decide +kernel
theorem dX8_hasMeasure_14 : decode cX8_hasMeasure 14 = .ok (.invokestatic 70, 3) := by decide +kernel
theorem dX8_hasMeasure_17 : decode cX8_hasMeasure 17 = .ok (.ifCond .eq 29, 3) := by decide +kernel
theorem dX8_hasMeasure_20 : decode cX8_hasMeasure 20 = .ok (.aload_n 0, 1) := by decide +kernel
theorem dX8_hasMeasure_21 : decode cX8_hasMeasure 21 = .ok (.iconst 2, 1) := by decide +kernel
theorem dX8_hasMeasure_22 : decode cX8_hasMeasure 22 = .ok (.iload_n 1, 1) := by decide +kernel
theorem dX8_hasMeasure_23 : decode cX8_hasMeasure 23 = .ok (.imul, 1) := by decide +kernel
theorem dX8_hasMeasure_24 : decode cX8_hasMeasure 24 = .ok (.iconst 1, 1) := by decide +kernel
theorem dX8_hasMeasure_25 : decode cX8_hasMeasure 25 = .ok (.iadd, 1) := by decide +kernel
theorem dX8_hasMeasure_26 : decode cX8_hasMeasure 26 = .ok (.invokevirtual 102, 3) := by decide +kernel
theorem dX8_hasMeasure_29 : decode cX8_hasMeasure 29 = .ok (.i2l, 1) := by decide +kernel
theorem dX8_hasMeasure_30 : decode cX8_hasMeasure 30 = .ok (.ldc2_w 105, 3) := by decide +kernel
theorem dX8_hasMeasure_33 : decode cX8_hasMeasure 33 = .ok (.ldc2_w 107, 3) := by decide +kernel
theorem dX8_hasMeasure_36 : decode cX8_hasMeasure 36 = .ok (.invokestatic 70, 3) := by decide +kernel
theorem dX8_hasMeasure_39 : decode cX8_hasMeasure 39 = .ok (.ifCond .eq 7, 3) := by decide +kernel
theorem dX8_hasMeasure_42 : decode cX8_hasMeasure 42 = .ok (.iconst 1, 1) := by decide +kernel
theorem dX8_hasMeasure_43 : decode cX8_hasMeasure 43 = .ok (.goto 4, 3) := by decide +kernel
theorem dX8_hasMeasure_46 : decode cX8_hasMeasure 46 = .ok (.iconst 0, 1) := by decide +kernel
theorem dX8_hasMeasure_47 : decode cX8_hasMeasure 47 = .ok (.ireturn, 1) := by decide +kernel
theorem dX8_measure_0 : decode cX8_measure 0 = .ok (.aload_n 0, 1) := by decide +kernel
theorem dX8_measure_1 : decode cX8_measure 1 = .ok (.iload_n 1, 1) := by decide +kernel
theorem dX8_measure_2 : decode cX8_measure 2 = .ok (.invokevirtual 93, 3) := by decide +kernel
theorem dX8_measure_5 : decode cX8_measure 5 = .ok (.ifCond .eq 13, 3) := by decide +kernel
theorem dX8_measure_8 : decode cX8_measure 8 = .ok (.iload_n 2, 1) := by decide +kernel
theorem dX8_measure_9 : decode cX8_measure 9 = .ok (.i2l, 1) := by decide +kernel
theorem dX8_measure_10 : decode cX8_measure 10 = .ok (.lconst 0, 1) := by decide +kernel
theorem dX8_measure_11 : decode cX8_measure 11 = .ok (.lconst 1, 1) := by decide +kernel
theorem dX8_measure_12 : decode cX8_measure 12 = .ok (.invokestatic 70, 3) := by decide +kernel
theorem dX8_measure_15 : decode cX8_measure 15 = .ok (.ifCond .ne 7, 3) := by decide +kernel
theorem dX8_measure_18 : decode cX8_measure 18 = .ok (.sipush (-10000), 3) := by decide +kernel
theorem dX8_measure_21 : decode cX8_measure 21 = .ok (.ireturn, 1) := by decide +kernel
theorem dX8_measure_22 : decode cX8_measure 22 = .ok (.aload_n 0, 1) := by decide +kernel
theorem dX8_measure_23 : decode cX8_measure 23 = .ok (.iload_n 1, 1) := by decide +kernel
theorem dX8_measure_24 : decode cX8_measure 24 = .ok (.invokevirtual 109, 3) := by decide +kernel
theorem dX8_measure_27 : decode cX8_measure 27 = .ok (.ifCond .eq 15, 3) := by decide +kernel
theorem dX8_measure_30 : decode cX8_measure 30 = .ok (.aload_n 0, 1) := by decide +kernel
theorem dX8_measure_31 : decode cX8_measure 31 = .ok (.iconst 2, 1) := by decide +kernel
theorem dX8_measure_32 : decode cX8_measure 32 = .ok (.iload_n 1, 1) := by decide +kernel
theorem dX8_measure_33 : decode cX8_measure 33 = .ok (.imul, 1) := by decide +kernel
theorem dX8_measure_34 : decode cX8_measure 34 = .ok (.iload_n 2, 1) := by decide +kernel
theorem dX8_measure_35 : decode cX8_measure 35 = .ok (.iadd, 1) := by decide +kernel
theorem dX8_measure_36 : decode cX8_measure 36 = .ok (.invokevirtual 102, 3) := by decide +kernel
theorem dX8_measure_39 : decode cX8_measure 39 = .ok (.goto 6, 3) := by decide +kernel
theorem dX8_measure_42 : decode cX8_measure 42 = .ok (.sipush (-10001), 3) := by decide +kernel
theorem dX8_measure_45 : decode cX8_measure 45 = .ok (.ireturn, 1) := by decide +kernel
theorem dX8_leave_0 : decode cX8_leave 0 = .ok (.aload_n 0, 1) := by decide +kernel
theorem dX8_leave_1 : decode cX8_leave 1 = .ok (.iload_n 1, 1) := by decide +kernel
theorem dX8_leave_2 : decode cX8_leave 2 = .ok (.invokevirtual 93, 3) := by decide +kernel
theorem dX8_leave_5 : decode cX8_leave 5 = .ok (.ifCond .ne 6, 3) := by decide +kernel
theorem dX8_leave_8 : decode cX8_leave 8 = .ok (.bipush (-2), 2) := by decide +kernel
theorem dX8_leave_10 : decode cX8_leave 10 = .ok (.ireturn, 1) := by decide +kernel
theorem dX8_leave_11 : decode cX8_leave 11 = .ok (.aload_n 0, 1) := by decide +kernel
theorem dX8_leave_12 : decode cX8_leave 12 = .ok (.getfield 19, 3) := by decide +kernel
theorem dX8_leave_15 : decode cX8_leave 15 = .ok (.iload_n 1, 1) := by decide +kernel
theorem dX8_leave_16 : decode cX8_leave 16 = .ok (.iload_n 2, 1) := by decide +kernel
theorem dX8_leave_17 : decode cX8_leave 17 = .ok (.bastore, 1) := by decide +kernel
theorem dX8_leave_18 : decode cX8_leave 18 = .ok (.iconst 1, 1) := by decide +kernel
theorem dX8_leave_19 : decode cX8_leave 19 = .ok (.ireturn, 1) := by decide +kernel
theorem dX8_findUsed_0 : decode cX8_findUsed 0 = .ok (.aload_n 0, 1) := by decide +kernel
theorem dX8_findUsed_1 : decode cX8_findUsed 1 = .ok (.iconst 0, 1) := by decide +kernel
theorem dX8_findUsed_2 : decode cX8_findUsed 2 = .ok (.putfield 112, 3) := by decide +kernel
theorem dX8_findUsed_5 : decode cX8_findUsed 5 = .ok (.iconst 0, 1) := by decide +kernel
theorem dX8_findUsed_6 : decode cX8_findUsed 6 = .ok (.istore_n 1, 1) := by decide +kernel
theorem dX8_findUsed_7 : decode cX8_findUsed 7 = .ok (.iload_n 1, 1) := by decide +kernel
theorem dX8_findUsed_8 : decode cX8_findUsed 8 = .ok (.aload_n 0, 1) := by decide +kernel
theorem dX8_findUsed_9 : decode cX8_findUsed 9 = .ok (.getfield 85, 3) := by decide +kernel
theorem dX8_findUsed_12 : decode cX8_findUsed 12 = .ok (.if_icmp .ge 55, 3) := by decide +kernel
theorem dX8_findUsed_15 : decode cX8_findUsed 15 = .ok (.aload_n 0, 1) := by decide +kernel
theorem dX8_findUsed_16 : decode cX8_findUsed 16 = .ok (.getfield 112, 3) := by decide +kernel
theorem dX8_findUsed_19 : decode cX8_findUsed 19 = .ok (.bipush 12, 2) := by decide +kernel
theorem dX8_findUsed_21 : decode cX8_findUsed 21 = .ok (.if_icmp .ge 46, 3) := by decide +kernel
theorem dX8_findUsed_24 : decode cX8_findUsed 24 = .ok (.aload_n 0, 1) := by decide +kernel
theorem dX8_findUsed_25 : decode cX8_findUsed 25 = .ok (.iload_n 1, 1) := by decide +kernel
theorem dX8_findUsed_26 : decode cX8_findUsed 26 = .ok (.invokevirtual 109, 3) := by decide +kernel
theorem dX8_findUsed_29 : decode cX8_findUsed 29 = .ok (.ifCond .eq 32, 3) := by decide +kernel
theorem dX8_findUsed_32 : decode cX8_findUsed 32 = .ok (.aload_n 0, 1) := by decide +kernel
theorem dX8_findUsed_33 : decode cX8_findUsed 33 = .ok (.getfield 19, 3) := by decide +kernel
theorem dX8_findUsed_36 : decode cX8_findUsed 36 = .ok (.iload_n 1, 1) := by decide +kernel
theorem dX8_findUsed_37 : decode cX8_findUsed 37 = .ok (.baload, 1) := by decide +kernel
theorem dX8_findUsed_38 : decode cX8_findUsed 38 = .ok (.ifCond .ne 23, 3) := by decide +kernel
theorem dX8_findUsed_41 : decode cX8_findUsed 41 = .ok (.aload_n 0, 1) := by decide +kernel
theorem dX8_findUsed_42 : decode cX8_findUsed 42 = .ok (.getfield 23, 3) := by decide +kernel
theorem dX8_findUsed_45 : decode cX8_findUsed 45 = .ok (.aload_n 0, 1) := by decide +kernel
theorem dX8_findUsed_46 : decode cX8_findUsed 46 = .ok (.getfield 112, 3) := by decide +kernel
theorem dX8_findUsed_49 : decode cX8_findUsed 49 = .ok (.iload_n 1, 1) := by decide +kernel
theorem dX8_findUsed_50 : decode cX8_findUsed 50 = .ok (.iastore, 1) := by decide +kernel
theorem dX8_findUsed_51 : decode cX8_findUsed 51 = .ok (.aload_n 0, 1) := by decide +kernel
theorem dX8_findUsed_52 : decode cX8_findUsed 52 = .ok (.dup, 1) := by decide +kernel
theorem dX8_findUsed_53 : decode cX8_findUsed 53 = .ok (.getfield 112, 3) := by decide +kernel
theorem dX8_findUsed_56 : decode cX8_findUsed 56 = .ok (.iconst 1, 1) := by decide +kernel
theorem dX8_findUsed_57 : decode cX8_findUsed 57 = .ok (.iadd, 1) := by decide +kernel
theorem dX8_findUsed_58 : decode cX8_findUsed 58 = .ok (.putfield 112, 3) := by decide +kernel
theorem dX8_findUsed_61 : decode cX8_findUsed 61 = .ok (.iinc 1 1, 3) := by decide +kernel
theorem dX8_findUsed_64 : decode cX8_findUsed 64 = .ok (.goto (-57), 3) := by decide +kernel
theorem dX8_findUsed_67 : decode cX8_findUsed 67 = .ok (.return_, 1) := by decide +kernel
theorem dX8_used_0 : decode cX8_used 0 = .ok (.aload_n 0, 1) := by decide +kernel
theorem dX8_used_1 : decode cX8_used 1 = .ok (.invokevirtual 115, 3) := by decide +kernel
theorem dX8_used_4 : decode cX8_used 4 = .ok (.aload_n 0, 1) := by decide +kernel
theorem dX8_used_5 : decode cX8_used 5 = .ok (.getfield 112, 3) := by decide +kernel
theorem dX8_used_8 : decode cX8_used 8 = .ok (.ireturn, 1) := by decide +kernel
theorem dX8_nothing_0 : decode cX8_nothing 0 = .ok (.iconst 0, 1) := by decide +kernel
theorem dX8_nothing_1 : decode cX8_nothing 1 = .ok (.istore_n 1, 1) := by decide +kernel
theorem dX8_nothing_2 : decode cX8_nothing 2 = .ok (.iload_n 1, 1) := by decide +kernel
theorem dX8_nothing_3 : decode cX8_nothing 3 = .ok (.bipush 9, 2) := by decide +kernel
theorem dX8_nothing_5 : decode cX8_nothing 5 = .ok (.if_icmp .ge 16, 3) := by decide +kernel
theorem dX8_nothing_8 : decode cX8_nothing 8 = .ok (.aload_n 0, 1) := by decide +kernel
theorem dX8_nothing_9 : decode cX8_nothing 9 = .ok (.getfield 26, 3) := by decide +kernel
theorem dX8_nothing_12 : decode cX8_nothing 12 = .ok (.iload_n 1, 1) := by decide +kernel
theorem dX8_nothing_13 : decode cX8_nothing 13 = .ok (.lconst 0, 1) := by decide +kernel
theorem dX8_nothing_14 : decode cX8_nothing 14 = .ok (.lastore, 1) := by decide +kernel
theorem dX8_nothing_15 : decode cX8_nothing 15 = .ok (.iinc 1 1, 3) := by decide +kernel
theorem dX8_nothing_18 : decode cX8_nothing 18 = .ok (.goto (-16), 3) := by decide +kernel
theorem dX8_nothing_21 : decode cX8_nothing 21 = .ok (.iconst 0, 1) := by decide +kernel
theorem dX8_nothing_22 : decode cX8_nothing 22 = .ok (.istore_n 1, 1) := by decide +kernel
theorem dX8_nothing_23 : decode cX8_nothing 23 = .ok (.iload_n 1, 1) := by decide +kernel
theorem dX8_nothing_24 : decode cX8_nothing 24 = .ok (.iconst 3, 1) := by decide +kernel
theorem dX8_nothing_25 : decode cX8_nothing 25 = .ok (.if_icmp .ge 16, 3) := by decide +kernel
theorem dX8_nothing_28 : decode cX8_nothing 28 = .ok (.aload_n 0, 1) := by decide +kernel
theorem dX8_nothing_29 : decode cX8_nothing 29 = .ok (.getfield 30, 3) := by decide +kernel
theorem dX8_nothing_32 : decode cX8_nothing 32 = .ok (.iload_n 1, 1) := by decide +kernel
theorem dX8_nothing_33 : decode cX8_nothing 33 = .ok (.lconst 0, 1) := by decide +kernel
theorem dX8_nothing_34 : decode cX8_nothing 34 = .ok (.lastore, 1) := by decide +kernel
theorem dX8_nothing_35 : decode cX8_nothing 35 = .ok (.iinc 1 1, 3) := by decide +kernel
theorem dX8_nothing_38 : decode cX8_nothing 38 = .ok (.goto (-15), 3) := by decide +kernel
theorem dX8_nothing_41 : decode cX8_nothing 41 = .ok (.return_, 1) := by decide +kernel
theorem dX8_adds_0 : decode cX8_adds 0 = .ok (.iconst 0, 1) := by decide +kernel
theorem dX8_adds_1 : decode cX8_adds 1 = .ok (.istore_n 2, 1) := by decide +kernel
theorem dX8_adds_2 : decode cX8_adds 2 = .ok (.iload_n 2, 1) := by decide +kernel
theorem dX8_adds_3 : decode cX8_adds 3 = .ok (.iconst 2, 1) := by decide +kernel
theorem dX8_adds_4 : decode cX8_adds 4 = .ok (.if_icmp .ge 69, 3) := by decide +kernel
theorem dX8_adds_7 : decode cX8_adds 7 = .ok (.iconst 0, 1) := by decide +kernel
theorem dX8_adds_8 : decode cX8_adds 8 = .ok (.istore_n 3, 1) := by decide +kernel
theorem dX8_adds_9 : decode cX8_adds 9 = .ok (.iload_n 3, 1) := by decide +kernel
theorem dX8_adds_10 : decode cX8_adds 10 = .ok (.iconst 3, 1) := by decide +kernel
theorem dX8_adds_11 : decode cX8_adds 11 = .ok (.if_icmp .ge 56, 3) := by decide +kernel
theorem dX8_adds_14 : decode cX8_adds 14 = .ok (.iconst 0, 1) := by decide +kernel
theorem dX8_adds_15 : decode cX8_adds 15 = .ok (.istore 4, 2) := by decide +kernel
theorem dX8_adds_17 : decode cX8_adds 17 = .ok (.iload 4, 2) := by decide +kernel
theorem dX8_adds_19 : decode cX8_adds 19 = .ok (.iconst 3, 1) := by decide +kernel
theorem dX8_adds_20 : decode cX8_adds 20 = .ok (.if_icmp .ge 41, 3) := by decide +kernel
theorem dX8_adds_23 : decode cX8_adds 23 = .ok (.aload_n 0, 1) := by decide +kernel
theorem dX8_adds_24 : decode cX8_adds 24 = .ok (.getfield 26, 3) := by decide +kernel
