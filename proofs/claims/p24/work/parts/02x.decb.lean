theorem dX5_queue_20 : decode cX5_queue 20 = .ok (.aload_n 3, 1) := by decide +kernel
theorem dX5_queue_21 : decode cX5_queue 21 = .ok (.getfield 108, 3) := by decide +kernel
theorem dX5_queue_24 : decode cX5_queue 24 = .ok (.if_icmp .lt 13, 3) := by decide +kernel
theorem dX5_queue_27 : decode cX5_queue 27 = .ok (.new 111, 3) := by decide +kernel
theorem dX5_queue_30 : decode cX5_queue 30 = .ok (.dup, 1) := by decide +kernel
theorem dX5_queue_31 : decode cX5_queue 31 = .ok (.ldc 113, 2) := by decide +kernel
theorem dX5_queue_33 : decode cX5_queue 33 = .ok (.invokespecial 115, 3) := by decide +kernel
theorem dX5_queue_36 : decode cX5_queue 36 = .ok (.athrow, 1) := by decide +kernel
theorem dX5_queue_37 : decode cX5_queue 37 = .ok (.aload_n 3, 1) := by decide +kernel
theorem dX5_queue_38 : decode cX5_queue 38 = .ok (.getfield 116, 3) := by decide +kernel
theorem dX5_queue_41 : decode cX5_queue 41 = .ok (.iload_n 2, 1) := by decide +kernel
theorem dX5_queue_42 : decode cX5_queue 42 = .ok (.iaload, 1) := by decide +kernel
theorem dX5_queue_43 : decode cX5_queue 43 = .ok (.ireturn, 1) := by decide +kernel
theorem dX5_helper_0 : decode cX5_helper 0 = .ok (.aload_n 0, 1) := by decide +kernel
theorem dX5_helper_1 : decode cX5_helper 1 = .ok (.iload_n 1, 1) := by decide +kernel
theorem dX5_helper_2 : decode cX5_helper 2 = .ok (.invokevirtual 51, 3) := by decide +kernel
theorem dX5_helper_5 : decode cX5_helper 5 = .ok (.iload_n 2, 1) := by decide +kernel
theorem dX5_helper_6 : decode cX5_helper 6 = .ok (.iconst 3, 1) := by decide +kernel
theorem dX5_helper_7 : decode cX5_helper 7 = .ok (.invokestatic 102, 3) := by decide +kernel
theorem dX5_helper_10 : decode cX5_helper 10 = .ok (.aload_n 0, 1) := by decide +kernel
theorem dX5_helper_11 : decode cX5_helper 11 = .ok (.getfield 10, 3) := by decide +kernel
theorem dX5_helper_14 : decode cX5_helper 14 = .ok (.getfield 58, 3) := by decide +kernel
theorem dX5_helper_17 : decode cX5_helper 17 = .ok (.iload_n 1, 1) := by decide +kernel
theorem dX5_helper_18 : decode cX5_helper 18 = .ok (.aaload, 1) := by decide +kernel
theorem dX5_helper_19 : decode cX5_helper 19 = .ok (.iload_n 2, 1) := by decide +kernel
theorem dX5_helper_20 : decode cX5_helper 20 = .ok (.invokevirtual 120, 3) := by decide +kernel
theorem dX5_helper_23 : decode cX5_helper 23 = .ok (.ireturn, 1) := by decide +kernel
theorem dX5_visitor_0 : decode cX5_visitor 0 = .ok (.aload_n 0, 1) := by decide +kernel
theorem dX5_visitor_1 : decode cX5_visitor 1 = .ok (.iload_n 1, 1) := by decide +kernel
theorem dX5_visitor_2 : decode cX5_visitor 2 = .ok (.invokevirtual 82, 3) := by decide +kernel
theorem dX5_visitor_5 : decode cX5_visitor 5 = .ok (.iload_n 2, 1) := by decide +kernel
theorem dX5_visitor_6 : decode cX5_visitor 6 = .ok (.bipush 8, 2) := by decide +kernel
theorem dX5_visitor_8 : decode cX5_visitor 8 = .ok (.invokestatic 102, 3) := by decide +kernel
theorem dX5_visitor_11 : decode cX5_visitor 11 = .ok (.aload_n 0, 1) := by decide +kernel
theorem dX5_visitor_12 : decode cX5_visitor 12 = .ok (.getfield 10, 3) := by decide +kernel
theorem dX5_visitor_15 : decode cX5_visitor 15 = .ok (.getfield 85, 3) := by decide +kernel
theorem dX5_visitor_18 : decode cX5_visitor 18 = .ok (.iload_n 1, 1) := by decide +kernel
theorem dX5_visitor_19 : decode cX5_visitor 19 = .ok (.aaload, 1) := by decide +kernel
theorem dX5_visitor_20 : decode cX5_visitor 20 = .ok (.iload_n 2, 1) := by decide +kernel
theorem dX5_visitor_21 : decode cX5_visitor 21 = .ok (.invokevirtual 123, 3) := by decide +kernel
theorem dX5_visitor_24 : decode cX5_visitor 24 = .ok (.ireturn, 1) := by decide +kernel
theorem dX5_practice_0 : decode cX5_practice 0 = .ok (.aload_n 0, 1) := by decide +kernel
theorem dX5_practice_1 : decode cX5_practice 1 = .ok (.iload_n 1, 1) := by decide +kernel
theorem dX5_practice_2 : decode cX5_practice 2 = .ok (.invokevirtual 82, 3) := by decide +kernel
theorem dX5_practice_5 : decode cX5_practice 5 = .ok (.aload_n 0, 1) := by decide +kernel
theorem dX5_practice_6 : decode cX5_practice 6 = .ok (.iload_n 2, 1) := by decide +kernel
theorem dX5_practice_7 : decode cX5_practice 7 = .ok (.invokevirtual 55, 3) := by decide +kernel
theorem dX5_practice_10 : decode cX5_practice 10 = .ok (.aload_n 0, 1) := by decide +kernel
theorem dX5_practice_11 : decode cX5_practice 11 = .ok (.getfield 10, 3) := by decide +kernel
theorem dX5_practice_14 : decode cX5_practice 14 = .ok (.getfield 85, 3) := by decide +kernel
theorem dX5_practice_17 : decode cX5_practice 17 = .ok (.iload_n 1, 1) := by decide +kernel
theorem dX5_practice_18 : decode cX5_practice 18 = .ok (.aaload, 1) := by decide +kernel
theorem dX5_practice_19 : decode cX5_practice 19 = .ok (.getfield 124, 3) := by decide +kernel
theorem dX5_practice_22 : decode cX5_practice 22 = .ok (.iload_n 2, 1) := by decide +kernel
theorem dX5_practice_23 : decode cX5_practice 23 = .ok (.iaload, 1) := by decide +kernel
theorem dX5_practice_24 : decode cX5_practice 24 = .ok (.ireturn, 1) := by decide +kernel
theorem dX5_board_0 : decode cX5_board 0 = .ok (.iload_n 1, 1) := by decide +kernel
theorem dX5_board_1 : decode cX5_board 1 = .ok (.ifCond .lt 17, 3) := by decide +kernel
theorem dX5_board_4 : decode cX5_board 4 = .ok (.iload_n 1, 1) := by decide +kernel
theorem dX5_board_5 : decode cX5_board 5 = .ok (.aload_n 0, 1) := by decide +kernel
theorem dX5_board_6 : decode cX5_board 6 = .ok (.getfield 10, 3) := by decide +kernel
theorem dX5_board_9 : decode cX5_board 9 = .ok (.getfield 127, 3) := by decide +kernel
theorem dX5_board_12 : decode cX5_board 12 = .ok (.getfield 131, 3) := by decide +kernel
theorem dX5_board_15 : decode cX5_board 15 = .ok (.if_icmp .lt 13, 3) := by decide +kernel
theorem dX5_board_18 : decode cX5_board 18 = .ok (.new 111, 3) := by decide +kernel
theorem dX5_board_21 : decode cX5_board 21 = .ok (.dup, 1) := by decide +kernel
theorem dX5_board_22 : decode cX5_board 22 = .ok (.ldc 136, 2) := by decide +kernel
theorem dX5_board_24 : decode cX5_board 24 = .ok (.invokespecial 115, 3) := by decide +kernel
theorem dX5_board_27 : decode cX5_board 27 = .ok (.athrow, 1) := by decide +kernel
theorem dX5_board_28 : decode cX5_board 28 = .ok (.iload_n 2, 1) := by decide +kernel
theorem dX5_board_29 : decode cX5_board 29 = .ok (.iconst 3, 1) := by decide +kernel
theorem dX5_board_30 : decode cX5_board 30 = .ok (.invokestatic 102, 3) := by decide +kernel
theorem dX5_board_33 : decode cX5_board 33 = .ok (.aload_n 0, 1) := by decide +kernel
theorem dX5_board_34 : decode cX5_board 34 = .ok (.getfield 10, 3) := by decide +kernel
theorem dX5_board_37 : decode cX5_board 37 = .ok (.getfield 127, 3) := by decide +kernel
theorem dX5_board_40 : decode cX5_board 40 = .ok (.iload_n 1, 1) := by decide +kernel
theorem dX5_board_41 : decode cX5_board 41 = .ok (.iload_n 2, 1) := by decide +kernel
theorem dX5_board_42 : decode cX5_board 42 = .ok (.invokevirtual 138, 3) := by decide +kernel
theorem dX5_board_45 : decode cX5_board 45 = .ok (.ireturn, 1) := by decide +kernel
theorem dX5_pass_0 : decode cX5_pass 0 = .ok (.iload_n 1, 1) := by decide +kernel
theorem dX5_pass_1 : decode cX5_pass 1 = .ok (.iconst 1, 1) := by decide +kernel
theorem dX5_pass_2 : decode cX5_pass 2 = .ok (.sipush 200, 3) := by decide +kernel
theorem dX5_pass_5 : decode cX5_pass 5 = .ok (.invokestatic 19, 3) := by decide +kernel
theorem dX5_pass_8 : decode cX5_pass 8 = .ok (.aload_n 0, 1) := by decide +kernel
theorem dX5_pass_9 : decode cX5_pass 9 = .ok (.getfield 10, 3) := by decide +kernel
theorem dX5_pass_12 : decode cX5_pass 12 = .ok (.iload_n 1, 1) := by decide +kernel
theorem dX5_pass_13 : decode cX5_pass 13 = .ok (.invokevirtual 140, 3) := by decide +kernel
theorem dX5_pass_16 : decode cX5_pass 16 = .ok (.ireturn, 1) := by decide +kernel
theorem dX5_count_0 : decode cX5_count 0 = .ok (.iload_n 1, 1) := by decide +kernel
theorem dX5_count_1 : decode cX5_count 1 = .ok (.bipush 11, 2) := by decide +kernel
theorem dX5_count_3 : decode cX5_count 3 = .ok (.invokestatic 102, 3) := by decide +kernel
theorem dX5_count_6 : decode cX5_count 6 = .ok (.aload_n 0, 1) := by decide +kernel
theorem dX5_count_7 : decode cX5_count 7 = .ok (.getfield 10, 3) := by decide +kernel
theorem dX5_count_10 : decode cX5_count 10 = .ok (.iload_n 1, 1) := by decide +kernel
theorem dX5_count_11 : decode cX5_count 11 = .ok (.invokevirtual 143, 3) := by decide +kernel
theorem dX5_count_14 : decode cX5_count 14 = .ok (.ireturn, 1) := by decide +kernel
theorem dX5_foresee_0 : decode cX5_foresee 0 = .ok (.aload_n 0, 1) := by decide +kernel
theorem dX5_foresee_1 : decode cX5_foresee 1 = .ok (.iload_n 1, 1) := by decide +kernel
theorem dX5_foresee_2 : decode cX5_foresee 2 = .ok (.invokevirtual 82, 3) := by decide +kernel
theorem dX5_foresee_5 : decode cX5_foresee 5 = .ok (.iload_n 3, 1) := by decide +kernel
theorem dX5_foresee_6 : decode cX5_foresee 6 = .ok (.iconst 3, 1) := by decide +kernel
theorem dX5_foresee_7 : decode cX5_foresee 7 = .ok (.invokestatic 102, 3) := by decide +kernel
theorem dX5_foresee_10 : decode cX5_foresee 10 = .ok (.iload_n 2, 1) := by decide +kernel
theorem dX5_foresee_11 : decode cX5_foresee 11 = .ok (.iconst 1, 1) := by decide +kernel
theorem dX5_foresee_12 : decode cX5_foresee 12 = .ok (.bipush 100, 2) := by decide +kernel
theorem dX5_foresee_14 : decode cX5_foresee 14 = .ok (.invokestatic 19, 3) := by decide +kernel
theorem dX5_foresee_17 : decode cX5_foresee 17 = .ok (.aload_n 0, 1) := by decide +kernel
theorem dX5_foresee_18 : decode cX5_foresee 18 = .ok (.getfield 16, 3) := by decide +kernel
theorem dX5_foresee_21 : decode cX5_foresee 21 = .ok (.aload_n 0, 1) := by decide +kernel
theorem dX5_foresee_22 : decode cX5_foresee 22 = .ok (.getfield 10, 3) := by decide +kernel
theorem dX5_foresee_25 : decode cX5_foresee 25 = .ok (.invokevirtual 146, 3) := by decide +kernel
theorem dX5_foresee_28 : decode cX5_foresee 28 = .ok (.aload_n 0, 1) := by decide +kernel
theorem dX5_foresee_29 : decode cX5_foresee 29 = .ok (.getfield 16, 3) := by decide +kernel
theorem dX5_foresee_32 : decode cX5_foresee 32 = .ok (.iload_n 2, 1) := by decide +kernel
theorem dX5_foresee_33 : decode cX5_foresee 33 = .ok (.invokevirtual 140, 3) := by decide +kernel
theorem dX5_foresee_36 : decode cX5_foresee 36 = .ok (.pop, 1) := by decide +kernel
theorem dX5_foresee_37 : decode cX5_foresee 37 = .ok (.aload_n 0, 1) := by decide +kernel
theorem dX5_foresee_38 : decode cX5_foresee 38 = .ok (.getfield 16, 3) := by decide +kernel
theorem dX5_foresee_41 : decode cX5_foresee 41 = .ok (.getfield 85, 3) := by decide +kernel
theorem dX5_foresee_44 : decode cX5_foresee 44 = .ok (.iload_n 1, 1) := by decide +kernel
theorem dX5_foresee_45 : decode cX5_foresee 45 = .ok (.aaload, 1) := by decide +kernel
theorem dX5_foresee_46 : decode cX5_foresee 46 = .ok (.iload_n 3, 1) := by decide +kernel
theorem dX5_foresee_47 : decode cX5_foresee 47 = .ok (.invokevirtual 150, 3) := by decide +kernel
theorem dX5_foresee_50 : decode cX5_foresee 50 = .ok (.ireturn, 1) := by decide +kernel
theorem dX5_luck_0 : decode cX5_luck 0 = .ok (.aload_n 0, 1) := by decide +kernel
theorem dX5_luck_1 : decode cX5_luck 1 = .ok (.getfield 10, 3) := by decide +kernel
theorem dX5_luck_4 : decode cX5_luck 4 = .ok (.invokevirtual 167, 3) := by decide +kernel
theorem dX5_luck_7 : decode cX5_luck 7 = .ok (.istore_n 1, 1) := by decide +kernel
theorem dX5_luck_8 : decode cX5_luck 8 = .ok (.iload_n 1, 1) := by decide +kernel
theorem dX5_luck_9 : decode cX5_luck 9 = .ok (.ifCond .ne 5, 3) := by decide +kernel
theorem dX5_luck_12 : decode cX5_luck 12 = .ok (.dconst 0, 1) := by decide +kernel
theorem dX5_luck_13 : decode cX5_luck 13 = .ok (.dreturn, 1) := by decide +kernel
theorem dX5_luck_14 : decode cX5_luck 14 = .ok (.aload_n 0, 1) := by decide +kernel
theorem dX5_luck_15 : decode cX5_luck 15 = .ok (.getfield 10, 3) := by decide +kernel
theorem dX5_luck_18 : decode cX5_luck 18 = .ok (.getfield 170, 3) := by decide +kernel
theorem dX5_luck_21 : decode cX5_luck 21 = .ok (.i2d, 1) := by decide +kernel
theorem dX5_luck_22 : decode cX5_luck 22 = .ok (.iload_n 1, 1) := by decide +kernel
theorem dX5_luck_23 : decode cX5_luck 23 = .ok (.i2d, 1) := by decide +kernel
theorem dX5_luck_24 : decode cX5_luck 24 = .ok (.ddiv, 1) := by decide +kernel
theorem dX5_luck_25 : decode cX5_luck 25 = .ok (.dreturn, 1) := by decide +kernel
theorem dX5_requireBooth_0 : decode cX5_requireBooth 0 = .ok (.aload_n 0, 1) := by decide +kernel
theorem dX5_requireBooth_1 : decode cX5_requireBooth 1 = .ok (.getfield 10, 3) := by decide +kernel
theorem dX5_requireBooth_4 : decode cX5_requireBooth 4 = .ok (.iload_n 1, 1) := by decide +kernel
theorem dX5_requireBooth_5 : decode cX5_requireBooth 5 = .ok (.invokevirtual 194, 3) := by decide +kernel
theorem dX5_requireBooth_8 : decode cX5_requireBooth 8 = .ok (.ifCond .ne 13, 3) := by decide +kernel
theorem dX5_requireBooth_11 : decode cX5_requireBooth 11 = .ok (.new 111, 3) := by decide +kernel
theorem dX5_requireBooth_14 : decode cX5_requireBooth 14 = .ok (.dup, 1) := by decide +kernel
theorem dX5_requireBooth_15 : decode cX5_requireBooth 15 = .ok (.ldc 198, 2) := by decide +kernel
theorem dX5_requireBooth_17 : decode cX5_requireBooth 17 = .ok (.invokespecial 115, 3) := by decide +kernel
theorem dX5_requireBooth_20 : decode cX5_requireBooth 20 = .ok (.athrow, 1) := by decide +kernel
theorem dX5_requireBooth_21 : decode cX5_requireBooth 21 = .ok (.return_, 1) := by decide +kernel
theorem dX5_requireHelper_0 : decode cX5_requireHelper 0 = .ok (.aload_n 0, 1) := by decide +kernel
theorem dX5_requireHelper_1 : decode cX5_requireHelper 1 = .ok (.getfield 10, 3) := by decide +kernel
theorem dX5_requireHelper_4 : decode cX5_requireHelper 4 = .ok (.iload_n 1, 1) := by decide +kernel
theorem dX5_requireHelper_5 : decode cX5_requireHelper 5 = .ok (.invokevirtual 200, 3) := by decide +kernel
theorem dX5_requireHelper_8 : decode cX5_requireHelper 8 = .ok (.ifCond .ne 13, 3) := by decide +kernel
theorem dX5_requireHelper_11 : decode cX5_requireHelper 11 = .ok (.new 111, 3) := by decide +kernel
theorem dX5_requireHelper_14 : decode cX5_requireHelper 14 = .ok (.dup, 1) := by decide +kernel
theorem dX5_requireHelper_15 : decode cX5_requireHelper 15 = .ok (.ldc 203, 2) := by decide +kernel
theorem dX5_requireHelper_17 : decode cX5_requireHelper 17 = .ok (.invokespecial 115, 3) := by decide +kernel
theorem dX5_requireHelper_20 : decode cX5_requireHelper 20 = .ok (.athrow, 1) := by decide +kernel
theorem dX5_requireHelper_21 : decode cX5_requireHelper 21 = .ok (.return_, 1) := by decide +kernel
theorem dX5_requireVisitor_0 : decode cX5_requireVisitor 0 = .ok (.aload_n 0, 1) := by decide +kernel
theorem dX5_requireVisitor_1 : decode cX5_requireVisitor 1 = .ok (.getfield 10, 3) := by decide +kernel
theorem dX5_requireVisitor_4 : decode cX5_requireVisitor 4 = .ok (.iload_n 1, 1) := by decide +kernel
theorem dX5_requireVisitor_5 : decode cX5_requireVisitor 5 = .ok (.invokevirtual 205, 3) := by decide +kernel
theorem dX5_requireVisitor_8 : decode cX5_requireVisitor 8 = .ok (.ifCond .ne 13, 3) := by decide +kernel
theorem dX5_requireVisitor_11 : decode cX5_requireVisitor 11 = .ok (.new 111, 3) := by decide +kernel
theorem dX5_requireVisitor_14 : decode cX5_requireVisitor 14 = .ok (.dup, 1) := by decide +kernel
theorem dX5_requireVisitor_15 : decode cX5_requireVisitor 15 = .ok (.ldc 208, 2) := by decide +kernel
theorem dX5_requireVisitor_17 : decode cX5_requireVisitor 17 = .ok (.invokespecial 115, 3) := by decide +kernel
theorem dX5_requireVisitor_20 : decode cX5_requireVisitor 20 = .ok (.athrow, 1) := by decide +kernel
theorem dX5_requireVisitor_21 : decode cX5_requireVisitor 21 = .ok (.return_, 1) := by decide +kernel
theorem dX5_requireFact_0 : decode cX5_requireFact 0 = .ok (.iload_n 0, 1) := by decide +kernel
theorem dX5_requireFact_1 : decode cX5_requireFact 1 = .ok (.ifCond .lt 8, 3) := by decide +kernel
theorem dX5_requireFact_4 : decode cX5_requireFact 4 = .ok (.iload_n 0, 1) := by decide +kernel
theorem dX5_requireFact_5 : decode cX5_requireFact 5 = .ok (.iload_n 1, 1) := by decide +kernel
theorem dX5_requireFact_6 : decode cX5_requireFact 6 = .ok (.if_icmp .lt 13, 3) := by decide +kernel
theorem dX5_requireFact_9 : decode cX5_requireFact 9 = .ok (.new 111, 3) := by decide +kernel
theorem dX5_requireFact_12 : decode cX5_requireFact 12 = .ok (.dup, 1) := by decide +kernel
theorem dX5_requireFact_13 : decode cX5_requireFact 13 = .ok (.ldc 210, 2) := by decide +kernel
theorem dX5_requireFact_15 : decode cX5_requireFact 15 = .ok (.invokespecial 115, 3) := by decide +kernel
theorem dX5_requireFact_18 : decode cX5_requireFact 18 = .ok (.athrow, 1) := by decide +kernel
theorem dX5_requireFact_19 : decode cX5_requireFact 19 = .ok (.return_, 1) := by decide +kernel
theorem dX5_requireRange_0 : decode cX5_requireRange 0 = .ok (.iload_n 0, 1) := by decide +kernel
theorem dX5_requireRange_1 : decode cX5_requireRange 1 = .ok (.iload_n 1, 1) := by decide +kernel
theorem dX5_requireRange_2 : decode cX5_requireRange 2 = .ok (.if_icmp .lt 8, 3) := by decide +kernel
theorem dX5_requireRange_5 : decode cX5_requireRange 5 = .ok (.iload_n 0, 1) := by decide +kernel
theorem dX5_requireRange_6 : decode cX5_requireRange 6 = .ok (.iload_n 2, 1) := by decide +kernel
theorem dX5_requireRange_7 : decode cX5_requireRange 7 = .ok (.if_icmp .le 13, 3) := by decide +kernel
theorem dX5_requireRange_10 : decode cX5_requireRange 10 = .ok (.new 212, 3) := by decide +kernel
theorem dX5_requireRange_13 : decode cX5_requireRange 13 = .ok (.dup, 1) := by decide +kernel
theorem dX5_requireRange_14 : decode cX5_requireRange 14 = .ok (.ldc 214, 2) := by decide +kernel
theorem dX5_requireRange_16 : decode cX5_requireRange 16 = .ok (.invokespecial 216, 3) := by decide +kernel
theorem dX5_requireRange_19 : decode cX5_requireRange 19 = .ok (.athrow, 1) := by decide +kernel
theorem dX5_requireRange_20 : decode cX5_requireRange 20 = .ok (.return_, 1) := by decide +kernel
theorem dX6_init_0 : decode cX6_init 0 = .ok (.aload_n 0, 1) := by decide +kernel
theorem dX6_init_1 : decode cX6_init 1 = .ok (.invokespecial 1, 3) := by decide +kernel
theorem dX6_init_4 : decode cX6_init 4 = .ok (.aload_n 0, 1) := by decide +kernel
theorem dX6_init_5 : decode cX6_init 5 = .ok (.iconst 1, 1) := by decide +kernel
theorem dX6_init_6 : decode cX6_init 6 = .ok (.putfield 7, 3) := by decide +kernel
theorem dX6_init_9 : decode cX6_init 9 = .ok (.aload_n 0, 1) := by decide +kernel
theorem dX6_init_10 : decode cX6_init 10 = .ok (.iconst (-1), 1) := by decide +kernel
theorem dX6_init_11 : decode cX6_init 11 = .ok (.putfield 13, 3) := by decide +kernel
theorem dX6_init_14 : decode cX6_init 14 = .ok (.aload_n 0, 1) := by decide +kernel
theorem dX6_init_15 : decode cX6_init 15 = .ok (.iconst 0, 1) := by decide +kernel
theorem dX6_init_16 : decode cX6_init 16 = .ok (.anewarray 16, 3) := by decide +kernel
theorem dX6_init_19 : decode cX6_init 19 = .ok (.putfield 18, 3) := by decide +kernel
theorem dX6_init_22 : decode cX6_init 22 = .ok (.aload_n 0, 1) := by decide +kernel
theorem dX6_init_23 : decode cX6_init 23 = .ok (.bipush 8, 2) := by decide +kernel
theorem dX6_init_25 : decode cX6_init 25 = .ok (.iconst 0, 1) := by decide +kernel
theorem dX6_init_26 : decode cX6_init 26 = .ok (.multianewarray 22 2, 4) := by decide +kernel
theorem dX6_init_30 : decode cX6_init 30 = .ok (.putfield 23, 3) := by decide +kernel
theorem dX6_init_33 : decode cX6_init 33 = .ok (.aload_n 0, 1) := by decide +kernel
theorem dX6_init_34 : decode cX6_init 34 = .ok (.iconst 0, 1) := by decide +kernel
theorem dX6_init_35 : decode cX6_init 35 = .ok (.anewarray 16, 3) := by decide +kernel
theorem dX6_init_38 : decode cX6_init 38 = .ok (.putfield 26, 3) := by decide +kernel
theorem dX6_init_41 : decode cX6_init 41 = .ok (.aload_n 0, 1) := by decide +kernel
theorem dX6_init_42 : decode cX6_init 42 = .ok (.iconst 0, 1) := by decide +kernel
theorem dX6_init_43 : decode cX6_init 43 = .ok (.anewarray 29, 3) := by decide +kernel
theorem dX6_init_46 : decode cX6_init 46 = .ok (.putfield 31, 3) := by decide +kernel
theorem dX6_init_49 : decode cX6_init 49 = .ok (.aload_n 0, 1) := by decide +kernel
theorem dX6_init_50 : decode cX6_init 50 = .ok (.iconst 0, 1) := by decide +kernel
theorem dX6_init_51 : decode cX6_init 51 = .ok (.anewarray 16, 3) := by decide +kernel
theorem dX6_init_54 : decode cX6_init 54 = .ok (.putfield 35, 3) := by decide +kernel
theorem dX6_init_57 : decode cX6_init 57 = .ok (.return_, 1) := by decide +kernel
theorem dX6_more_0 : decode cX6_more 0 = .ok (.aload_n 0, 1) := by decide +kernel
theorem dX6_more_1 : decode cX6_more 1 = .ok (.arraylength, 1) := by decide +kernel
theorem dX6_more_2 : decode cX6_more 2 = .ok (.iconst 1, 1) := by decide +kernel
theorem dX6_more_3 : decode cX6_more 3 = .ok (.iadd, 1) := by decide +kernel
theorem dX6_more_4 : decode cX6_more 4 = .ok (.anewarray 16, 3) := by decide +kernel
theorem dX6_more_7 : decode cX6_more 7 = .ok (.astore_n 2, 1) := by decide +kernel
theorem dX6_more_8 : decode cX6_more 8 = .ok (.iconst 0, 1) := by decide +kernel
theorem dX6_more_9 : decode cX6_more 9 = .ok (.istore_n 3, 1) := by decide +kernel
theorem dX6_more_10 : decode cX6_more 10 = .ok (.iload_n 3, 1) := by decide +kernel
theorem dX6_more_11 : decode cX6_more 11 = .ok (.aload_n 0, 1) := by decide +kernel
theorem dX6_more_12 : decode cX6_more 12 = .ok (.arraylength, 1) := by decide +kernel
theorem dX6_more_13 : decode cX6_more 13 = .ok (.if_icmp .ge 15, 3) := by decide +kernel
theorem dX6_more_16 : decode cX6_more 16 = .ok (.aload_n 2, 1) := by decide +kernel
theorem dX6_more_17 : decode cX6_more 17 = .ok (.iload_n 3, 1) := by decide +kernel
theorem dX6_more_18 : decode cX6_more 18 = .ok (.aload_n 0, 1) := by decide +kernel
theorem dX6_more_19 : decode cX6_more 19 = .ok (.iload_n 3, 1) := by decide +kernel
theorem dX6_more_20 : decode cX6_more 20 = .ok (.aaload, 1) := by decide +kernel
theorem dX6_more_21 : decode cX6_more 21 = .ok (.aastore, 1) := by decide +kernel
theorem dX6_more_22 : decode cX6_more 22 = .ok (.iinc 3 1, 3) := by decide +kernel
theorem dX6_more_25 : decode cX6_more 25 = .ok (.goto (-15), 3) := by decide +kernel
theorem dX6_more_28 : decode cX6_more 28 = .ok (.aload_n 2, 1) := by decide +kernel
theorem dX6_more_29 : decode cX6_more 29 = .ok (.aload_n 0, 1) := by decide +kernel
theorem dX6_more_30 : decode cX6_more 30 = .ok (.arraylength, 1) := by decide +kernel
theorem dX6_more_31 : decode cX6_more 31 = .ok (.aload_n 1, 1) := by decide +kernel
theorem dX6_more_32 : decode cX6_more 32 = .ok (.aastore, 1) := by decide +kernel
theorem dX6_more_33 : decode cX6_more 33 = .ok (.aload_n 2, 1) := by decide +kernel
theorem dX6_more_34 : decode cX6_more 34 = .ok (.areturn, 1) := by decide +kernel
theorem dX6_come_0 : decode cX6_come 0 = .ok (.aload_n 0, 1) := by decide +kernel
theorem dX6_come_1 : decode cX6_come 1 = .ok (.getfield 31, 3) := by decide +kernel
theorem dX6_come_4 : decode cX6_come 4 = .ok (.arraylength, 1) := by decide +kernel
theorem dX6_come_5 : decode cX6_come 5 = .ok (.iconst 1, 1) := by decide +kernel
theorem dX6_come_6 : decode cX6_come 6 = .ok (.iadd, 1) := by decide +kernel
theorem dX6_come_7 : decode cX6_come 7 = .ok (.anewarray 29, 3) := by decide +kernel
theorem dX6_come_10 : decode cX6_come 10 = .ok (.astore_n 3, 1) := by decide +kernel
theorem dX6_come_11 : decode cX6_come 11 = .ok (.iconst 0, 1) := by decide +kernel
theorem dX6_come_12 : decode cX6_come 12 = .ok (.istore 4, 2) := by decide +kernel
theorem dX6_come_14 : decode cX6_come 14 = .ok (.iload 4, 2) := by decide +kernel
theorem dX6_come_16 : decode cX6_come 16 = .ok (.aload_n 0, 1) := by decide +kernel
theorem dX6_come_17 : decode cX6_come 17 = .ok (.getfield 31, 3) := by decide +kernel
theorem dX6_come_20 : decode cX6_come 20 = .ok (.arraylength, 1) := by decide +kernel
theorem dX6_come_21 : decode cX6_come 21 = .ok (.if_icmp .ge 20, 3) := by decide +kernel
theorem dX6_come_24 : decode cX6_come 24 = .ok (.aload_n 3, 1) := by decide +kernel
theorem dX6_come_25 : decode cX6_come 25 = .ok (.iload 4, 2) := by decide +kernel
theorem dX6_come_27 : decode cX6_come 27 = .ok (.aload_n 0, 1) := by decide +kernel
theorem dX6_come_28 : decode cX6_come 28 = .ok (.getfield 31, 3) := by decide +kernel
theorem dX6_come_31 : decode cX6_come 31 = .ok (.iload 4, 2) := by decide +kernel
theorem dX6_come_33 : decode cX6_come 33 = .ok (.aaload, 1) := by decide +kernel
theorem dX6_come_34 : decode cX6_come 34 = .ok (.aastore, 1) := by decide +kernel
theorem dX6_come_35 : decode cX6_come 35 = .ok (.iinc 4 1, 3) := by decide +kernel
theorem dX6_come_38 : decode cX6_come 38 = .ok (.goto (-24), 3) := by decide +kernel
theorem dX6_come_41 : decode cX6_come 41 = .ok (.new 29, 3) := by decide +kernel
theorem dX6_come_44 : decode cX6_come 44 = .ok (.dup, 1) := by decide +kernel
theorem dX6_come_45 : decode cX6_come 45 = .ok (.invokespecial 53, 3) := by decide +kernel
theorem dX6_come_48 : decode cX6_come 48 = .ok (.astore 4, 2) := by decide +kernel
theorem dX6_come_50 : decode cX6_come 50 = .ok (.aload 4, 2) := by decide +kernel
theorem dX6_come_52 : decode cX6_come 52 = .ok (.iload_n 1, 1) := by decide +kernel
theorem dX6_come_53 : decode cX6_come 53 = .ok (.putfield 54, 3) := by decide +kernel
theorem dX6_come_56 : decode cX6_come 56 = .ok (.aload 4, 2) := by decide +kernel
theorem dX6_come_58 : decode cX6_come 58 = .ok (.iload_n 2, 1) := by decide +kernel
theorem dX6_come_59 : decode cX6_come 59 = .ok (.putfield 57, 3) := by decide +kernel
theorem dX6_come_62 : decode cX6_come 62 = .ok (.aload_n 3, 1) := by decide +kernel
theorem dX6_come_63 : decode cX6_come 63 = .ok (.aload_n 0, 1) := by decide +kernel
theorem dX6_come_64 : decode cX6_come 64 = .ok (.getfield 31, 3) := by decide +kernel
theorem dX6_come_67 : decode cX6_come 67 = .ok (.arraylength, 1) := by decide +kernel
theorem dX6_come_68 : decode cX6_come 68 = .ok (.aload 4, 2) := by decide +kernel
theorem dX6_come_70 : decode cX6_come 70 = .ok (.aastore, 1) := by decide +kernel
theorem dX6_come_71 : decode cX6_come 71 = .ok (.aload_n 0, 1) := by decide +kernel
theorem dX6_come_72 : decode cX6_come 72 = .ok (.aload_n 3, 1) := by decide +kernel
theorem dX6_come_73 : decode cX6_come 73 = .ok (.putfield 31, 3) := by decide +kernel
theorem dX6_come_76 : decode cX6_come 76 = .ok (.return_, 1) := by decide +kernel
theorem dX6_working_0 : decode cX6_working 0 = .ok (.iconst 0, 1) := by decide +kernel
theorem dX6_working_1 : decode cX6_working 1 = .ok (.istore_n 2, 1) := by decide +kernel
theorem dX6_working_2 : decode cX6_working 2 = .ok (.aload_n 0, 1) := by decide +kernel
theorem dX6_working_3 : decode cX6_working 3 = .ok (.getfield 26, 3) := by decide +kernel
theorem dX6_working_6 : decode cX6_working 6 = .ok (.astore_n 3, 1) := by decide +kernel
theorem dX6_working_7 : decode cX6_working 7 = .ok (.aload_n 3, 1) := by decide +kernel
theorem dX6_working_8 : decode cX6_working 8 = .ok (.arraylength, 1) := by decide +kernel
theorem dX6_working_9 : decode cX6_working 9 = .ok (.istore 4, 2) := by decide +kernel
theorem dX6_working_11 : decode cX6_working 11 = .ok (.iconst 0, 1) := by decide +kernel
theorem dX6_working_12 : decode cX6_working 12 = .ok (.istore 5, 2) := by decide +kernel
theorem dX6_working_14 : decode cX6_working 14 = .ok (.iload 5, 2) := by decide +kernel
theorem dX6_working_16 : decode cX6_working 16 = .ok (.iload 4, 2) := by decide +kernel
theorem dX6_working_18 : decode cX6_working 18 = .ok (.if_icmp .ge 31, 3) := by decide +kernel
theorem dX6_working_21 : decode cX6_working 21 = .ok (.aload_n 3, 1) := by decide +kernel
theorem dX6_working_22 : decode cX6_working 22 = .ok (.iload 5, 2) := by decide +kernel
theorem dX6_working_24 : decode cX6_working 24 = .ok (.aaload, 1) := by decide +kernel
theorem dX6_working_25 : decode cX6_working 25 = .ok (.astore 6, 2) := by decide +kernel
theorem dX6_working_27 : decode cX6_working 27 = .ok (.iload_n 2, 1) := by decide +kernel
theorem dX6_working_28 : decode cX6_working 28 = .ok (.aload 6, 2) := by decide +kernel
theorem dX6_working_30 : decode cX6_working 30 = .ok (.iconst 1, 1) := by decide +kernel
theorem dX6_working_31 : decode cX6_working 31 = .ok (.iaload, 1) := by decide +kernel
theorem dX6_working_32 : decode cX6_working 32 = .ok (.iload_n 1, 1) := by decide +kernel
theorem dX6_working_33 : decode cX6_working 33 = .ok (.if_icmp .ne 7, 3) := by decide +kernel
theorem dX6_working_36 : decode cX6_working 36 = .ok (.iconst 1, 1) := by decide +kernel
theorem dX6_working_37 : decode cX6_working 37 = .ok (.goto 4, 3) := by decide +kernel
theorem dX6_working_40 : decode cX6_working 40 = .ok (.iconst 0, 1) := by decide +kernel
theorem dX6_working_41 : decode cX6_working 41 = .ok (.iadd, 1) := by decide +kernel
theorem dX6_working_42 : decode cX6_working 42 = .ok (.istore_n 2, 1) := by decide +kernel
theorem dX6_working_43 : decode cX6_working 43 = .ok (.iinc 5 1, 3) := by decide +kernel
theorem dX6_working_46 : decode cX6_working 46 = .ok (.goto (-32), 3) := by decide +kernel
theorem dX6_working_49 : decode cX6_working 49 = .ok (.iload_n 2, 1) := by decide +kernel
theorem dX6_working_50 : decode cX6_working 50 = .ok (.ireturn, 1) := by decide +kernel
theorem dX6_isOpen_0 : decode cX6_isOpen 0 = .ok (.aload_n 0, 1) := by decide +kernel
theorem dX6_isOpen_1 : decode cX6_isOpen 1 = .ok (.iload_n 1, 1) := by decide +kernel
theorem dX6_isOpen_2 : decode cX6_isOpen 2 = .ok (.invokevirtual 60, 3) := by decide +kernel
theorem dX6_isOpen_5 : decode cX6_isOpen 5 = .ok (.aload_n 0, 1) := by decide +kernel
theorem dX6_isOpen_6 : decode cX6_isOpen 6 = .ok (.getfield 18, 3) := by decide +kernel
theorem dX6_isOpen_9 : decode cX6_isOpen 9 = .ok (.iload_n 1, 1) := by decide +kernel
theorem dX6_isOpen_10 : decode cX6_isOpen 10 = .ok (.aaload, 1) := by decide +kernel
theorem dX6_isOpen_11 : decode cX6_isOpen 11 = .ok (.iconst 3, 1) := by decide +kernel
theorem dX6_isOpen_12 : decode cX6_isOpen 12 = .ok (.iaload, 1) := by decide +kernel
theorem dX6_isOpen_13 : decode cX6_isOpen 13 = .ok (.if_icmp .lt 7, 3) := by decide +kernel
theorem dX6_isOpen_16 : decode cX6_isOpen 16 = .ok (.iconst 1, 1) := by decide +kernel
theorem dX6_isOpen_17 : decode cX6_isOpen 17 = .ok (.goto 4, 3) := by decide +kernel
theorem dX6_isOpen_20 : decode cX6_isOpen 20 = .ok (.iconst 0, 1) := by decide +kernel
theorem dX6_isOpen_21 : decode cX6_isOpen 21 = .ok (.ireturn, 1) := by decide +kernel
theorem dX6_cost_0 : decode cX6_cost 0 = .ok (.aload_n 0, 1) := by decide +kernel
theorem dX6_cost_1 : decode cX6_cost 1 = .ok (.getfield 13, 3) := by decide +kernel
theorem dX6_cost_4 : decode cX6_cost 4 = .ok (.iload_n 1, 1) := by decide +kernel
theorem dX6_cost_5 : decode cX6_cost 5 = .ok (.if_icmp .ne 16, 3) := by decide +kernel
theorem dX6_cost_8 : decode cX6_cost 8 = .ok (.aload_n 0, 1) := by decide +kernel
theorem dX6_cost_9 : decode cX6_cost 9 = .ok (.getfield 18, 3) := by decide +kernel
theorem dX6_cost_12 : decode cX6_cost 12 = .ok (.iload_n 1, 1) := by decide +kernel
theorem dX6_cost_13 : decode cX6_cost 13 = .ok (.aaload, 1) := by decide +kernel
theorem dX6_cost_14 : decode cX6_cost 14 = .ok (.iconst 0, 1) := by decide +kernel
theorem dX6_cost_15 : decode cX6_cost 15 = .ok (.iaload, 1) := by decide +kernel
theorem dX6_cost_16 : decode cX6_cost 16 = .ok (.iconst 1, 1) := by decide +kernel
theorem dX6_cost_17 : decode cX6_cost 17 = .ok (.isub, 1) := by decide +kernel
theorem dX6_cost_18 : decode cX6_cost 18 = .ok (.goto 11, 3) := by decide +kernel
theorem dX6_cost_21 : decode cX6_cost 21 = .ok (.aload_n 0, 1) := by decide +kernel
theorem dX6_cost_22 : decode cX6_cost 22 = .ok (.getfield 18, 3) := by decide +kernel
theorem dX6_cost_25 : decode cX6_cost 25 = .ok (.iload_n 1, 1) := by decide +kernel
theorem dX6_cost_26 : decode cX6_cost 26 = .ok (.aaload, 1) := by decide +kernel
theorem dX6_cost_27 : decode cX6_cost 27 = .ok (.iconst 0, 1) := by decide +kernel
theorem dX6_cost_28 : decode cX6_cost 28 = .ok (.iaload, 1) := by decide +kernel
theorem dX6_cost_29 : decode cX6_cost 29 = .ok (.ireturn, 1) := by decide +kernel
theorem dX6_enter_0 : decode cX6_enter 0 = .ok (.aload_n 0, 1) := by decide +kernel
theorem dX6_enter_1 : decode cX6_enter 1 = .ok (.getfield 23, 3) := by decide +kernel
theorem dX6_enter_4 : decode cX6_enter 4 = .ok (.iload_n 2, 1) := by decide +kernel
theorem dX6_enter_5 : decode cX6_enter 5 = .ok (.aaload, 1) := by decide +kernel
theorem dX6_enter_6 : decode cX6_enter 6 = .ok (.arraylength, 1) := by decide +kernel
theorem dX6_enter_7 : decode cX6_enter 7 = .ok (.iconst 1, 1) := by decide +kernel
theorem dX6_enter_8 : decode cX6_enter 8 = .ok (.iadd, 1) := by decide +kernel
theorem dX6_enter_9 : decode cX6_enter 9 = .ok (.newarray .int, 2) := by decide +kernel
theorem dX6_enter_11 : decode cX6_enter 11 = .ok (.astore_n 3, 1) := by decide +kernel
theorem dX6_enter_12 : decode cX6_enter 12 = .ok (.iconst 0, 1) := by decide +kernel
theorem dX6_enter_13 : decode cX6_enter 13 = .ok (.istore 4, 2) := by decide +kernel
theorem dX6_enter_15 : decode cX6_enter 15 = .ok (.iload 4, 2) := by decide +kernel
theorem dX6_enter_17 : decode cX6_enter 17 = .ok (.aload_n 0, 1) := by decide +kernel
theorem dX6_enter_18 : decode cX6_enter 18 = .ok (.getfield 23, 3) := by decide +kernel
theorem dX6_enter_21 : decode cX6_enter 21 = .ok (.iload_n 2, 1) := by decide +kernel
theorem dX6_enter_22 : decode cX6_enter 22 = .ok (.aaload, 1) := by decide +kernel
theorem dX6_enter_23 : decode cX6_enter 23 = .ok (.arraylength, 1) := by decide +kernel
theorem dX6_enter_24 : decode cX6_enter 24 = .ok (.if_icmp .ge 22, 3) := by decide +kernel
theorem dX6_enter_27 : decode cX6_enter 27 = .ok (.aload_n 3, 1) := by decide +kernel
theorem dX6_enter_28 : decode cX6_enter 28 = .ok (.iload 4, 2) := by decide +kernel
theorem dX6_enter_30 : decode cX6_enter 30 = .ok (.aload_n 0, 1) := by decide +kernel
theorem dX6_enter_31 : decode cX6_enter 31 = .ok (.getfield 23, 3) := by decide +kernel
theorem dX6_enter_34 : decode cX6_enter 34 = .ok (.iload_n 2, 1) := by decide +kernel
theorem dX6_enter_35 : decode cX6_enter 35 = .ok (.aaload, 1) := by decide +kernel
theorem dX6_enter_36 : decode cX6_enter 36 = .ok (.iload 4, 2) := by decide +kernel
theorem dX6_enter_38 : decode cX6_enter 38 = .ok (.iaload, 1) := by decide +kernel
theorem dX6_enter_39 : decode cX6_enter 39 = .ok (.iastore, 1) := by decide +kernel
theorem dX6_enter_40 : decode cX6_enter 40 = .ok (.iinc 4 1, 3) := by decide +kernel
theorem dX6_enter_43 : decode cX6_enter 43 = .ok (.goto (-28), 3) := by decide +kernel
theorem dX6_enter_46 : decode cX6_enter 46 = .ok (.aload_n 3, 1) := by decide +kernel
theorem dX6_enter_47 : decode cX6_enter 47 = .ok (.aload_n 0, 1) := by decide +kernel
theorem dX6_enter_48 : decode cX6_enter 48 = .ok (.getfield 23, 3) := by decide +kernel
theorem dX6_enter_51 : decode cX6_enter 51 = .ok (.iload_n 2, 1) := by decide +kernel
theorem dX6_enter_52 : decode cX6_enter 52 = .ok (.aaload, 1) := by decide +kernel
theorem dX6_enter_53 : decode cX6_enter 53 = .ok (.arraylength, 1) := by decide +kernel
theorem dX6_enter_54 : decode cX6_enter 54 = .ok (.iload_n 1, 1) := by decide +kernel
theorem dX6_enter_55 : decode cX6_enter 55 = .ok (.iastore, 1) := by decide +kernel
theorem dX6_enter_56 : decode cX6_enter 56 = .ok (.aload_n 0, 1) := by decide +kernel
theorem dX6_enter_57 : decode cX6_enter 57 = .ok (.getfield 23, 3) := by decide +kernel
theorem dX6_enter_60 : decode cX6_enter 60 = .ok (.iload_n 2, 1) := by decide +kernel
theorem dX6_enter_61 : decode cX6_enter 61 = .ok (.aload_n 3, 1) := by decide +kernel
theorem dX6_enter_62 : decode cX6_enter 62 = .ok (.aastore, 1) := by decide +kernel
theorem dX6_enter_63 : decode cX6_enter 63 = .ok (.aload_n 0, 1) := by decide +kernel
theorem dX6_enter_64 : decode cX6_enter 64 = .ok (.getfield 31, 3) := by decide +kernel
theorem dX6_enter_67 : decode cX6_enter 67 = .ok (.iload_n 1, 1) := by decide +kernel
theorem dX6_enter_68 : decode cX6_enter 68 = .ok (.aaload, 1) := by decide +kernel
theorem dX6_enter_69 : decode cX6_enter 69 = .ok (.iconst 1, 1) := by decide +kernel
theorem dX6_enter_70 : decode cX6_enter 70 = .ok (.putfield 64, 3) := by decide +kernel
theorem dX6_enter_73 : decode cX6_enter 73 = .ok (.aload_n 0, 1) := by decide +kernel
theorem dX6_enter_74 : decode cX6_enter 74 = .ok (.getfield 31, 3) := by decide +kernel
theorem dX6_enter_77 : decode cX6_enter 77 = .ok (.iload_n 1, 1) := by decide +kernel
theorem dX6_enter_78 : decode cX6_enter 78 = .ok (.aaload, 1) := by decide +kernel
theorem dX6_enter_79 : decode cX6_enter 79 = .ok (.iload_n 2, 1) := by decide +kernel
theorem dX6_enter_80 : decode cX6_enter 80 = .ok (.putfield 67, 3) := by decide +kernel
theorem dX6_enter_83 : decode cX6_enter 83 = .ok (.return_, 1) := by decide +kernel
theorem dX6_exit_0 : decode cX6_exit 0 = .ok (.aload_n 0, 1) := by decide +kernel
theorem dX6_exit_1 : decode cX6_exit 1 = .ok (.getfield 31, 3) := by decide +kernel
theorem dX6_exit_4 : decode cX6_exit 4 = .ok (.iload_n 1, 1) := by decide +kernel
theorem dX6_exit_5 : decode cX6_exit 5 = .ok (.aaload, 1) := by decide +kernel
theorem dX6_exit_6 : decode cX6_exit 6 = .ok (.getfield 67, 3) := by decide +kernel
theorem dX6_exit_9 : decode cX6_exit 9 = .ok (.istore_n 2, 1) := by decide +kernel
theorem dX6_exit_10 : decode cX6_exit 10 = .ok (.aload_n 0, 1) := by decide +kernel
theorem dX6_exit_11 : decode cX6_exit 11 = .ok (.getfield 23, 3) := by decide +kernel
theorem dX6_exit_14 : decode cX6_exit 14 = .ok (.iload_n 2, 1) := by decide +kernel
theorem dX6_exit_15 : decode cX6_exit 15 = .ok (.aaload, 1) := by decide +kernel
theorem dX6_exit_16 : decode cX6_exit 16 = .ok (.arraylength, 1) := by decide +kernel
theorem dX6_exit_17 : decode cX6_exit 17 = .ok (.iconst 1, 1) := by decide +kernel
theorem dX6_exit_18 : decode cX6_exit 18 = .ok (.isub, 1) := by decide +kernel
theorem dX6_exit_19 : decode cX6_exit 19 = .ok (.newarray .int, 2) := by decide +kernel
theorem dX6_exit_21 : decode cX6_exit 21 = .ok (.astore_n 3, 1) := by decide +kernel
theorem dX6_exit_22 : decode cX6_exit 22 = .ok (.iconst 0, 1) := by decide +kernel
theorem dX6_exit_23 : decode cX6_exit 23 = .ok (.istore 4, 2) := by decide +kernel
theorem dX6_exit_25 : decode cX6_exit 25 = .ok (.aload_n 0, 1) := by decide +kernel
theorem dX6_exit_26 : decode cX6_exit 26 = .ok (.getfield 23, 3) := by decide +kernel
theorem dX6_exit_29 : decode cX6_exit 29 = .ok (.iload_n 2, 1) := by decide +kernel
theorem dX6_exit_30 : decode cX6_exit 30 = .ok (.aaload, 1) := by decide +kernel
theorem dX6_exit_31 : decode cX6_exit 31 = .ok (.astore 5, 2) := by decide +kernel
theorem dX6_exit_33 : decode cX6_exit 33 = .ok (.aload 5, 2) := by decide +kernel
theorem dX6_exit_35 : decode cX6_exit 35 = .ok (.arraylength, 1) := by decide +kernel
theorem dX6_exit_36 : decode cX6_exit 36 = .ok (.istore 6, 2) := by decide +kernel
theorem dX6_exit_38 : decode cX6_exit 38 = .ok (.iconst 0, 1) := by decide +kernel
theorem dX6_exit_39 : decode cX6_exit 39 = .ok (.istore 7, 2) := by decide +kernel
theorem dX6_exit_41 : decode cX6_exit 41 = .ok (.iload 7, 2) := by decide +kernel
theorem dX6_exit_43 : decode cX6_exit 43 = .ok (.iload 6, 2) := by decide +kernel
theorem dX6_exit_45 : decode cX6_exit 45 = .ok (.if_icmp .ge 34, 3) := by decide +kernel
theorem dX6_exit_48 : decode cX6_exit 48 = .ok (.aload 5, 2) := by decide +kernel
theorem dX6_exit_50 : decode cX6_exit 50 = .ok (.iload 7, 2) := by decide +kernel
theorem dX6_exit_52 : decode cX6_exit 52 = .ok (.iaload, 1) := by decide +kernel
theorem dX6_exit_53 : decode cX6_exit 53 = .ok (.istore 8, 2) := by decide +kernel
theorem dX6_exit_55 : decode cX6_exit 55 = .ok (.iload 8, 2) := by decide +kernel
theorem dX6_exit_57 : decode cX6_exit 57 = .ok (.iload_n 1, 1) := by decide +kernel
theorem dX6_exit_58 : decode cX6_exit 58 = .ok (.if_icmp .ne 6, 3) := by decide +kernel
theorem dX6_exit_61 : decode cX6_exit 61 = .ok (.goto 12, 3) := by decide +kernel
theorem dX6_exit_64 : decode cX6_exit 64 = .ok (.aload_n 3, 1) := by decide +kernel
theorem dX6_exit_65 : decode cX6_exit 65 = .ok (.iload 4, 2) := by decide +kernel
theorem dX6_exit_67 : decode cX6_exit 67 = .ok (.iload 8, 2) := by decide +kernel
theorem dX6_exit_69 : decode cX6_exit 69 = .ok (.iastore, 1) := by decide +kernel
theorem dX6_exit_70 : decode cX6_exit 70 = .ok (.iinc 4 1, 3) := by decide +kernel
theorem dX6_exit_73 : decode cX6_exit 73 = .ok (.iinc 7 1, 3) := by decide +kernel
theorem dX6_exit_76 : decode cX6_exit 76 = .ok (.goto (-35), 3) := by decide +kernel
theorem dX6_exit_79 : decode cX6_exit 79 = .ok (.aload_n 0, 1) := by decide +kernel
theorem dX6_exit_80 : decode cX6_exit 80 = .ok (.getfield 23, 3) := by decide +kernel
theorem dX6_exit_83 : decode cX6_exit 83 = .ok (.iload_n 2, 1) := by decide +kernel
theorem dX6_exit_84 : decode cX6_exit 84 = .ok (.aload_n 3, 1) := by decide +kernel
theorem dX6_exit_85 : decode cX6_exit 85 = .ok (.aastore, 1) := by decide +kernel
theorem dX6_exit_86 : decode cX6_exit 86 = .ok (.aload_n 0, 1) := by decide +kernel
theorem dX6_exit_87 : decode cX6_exit 87 = .ok (.getfield 31, 3) := by decide +kernel
theorem dX6_exit_90 : decode cX6_exit 90 = .ok (.iload_n 1, 1) := by decide +kernel
theorem dX6_exit_91 : decode cX6_exit 91 = .ok (.aaload, 1) := by decide +kernel
theorem dX6_exit_92 : decode cX6_exit 92 = .ok (.iconst 0, 1) := by decide +kernel
theorem dX6_exit_93 : decode cX6_exit 93 = .ok (.putfield 64, 3) := by decide +kernel
theorem dX6_exit_96 : decode cX6_exit 96 = .ok (.aload_n 0, 1) := by decide +kernel
theorem dX6_exit_97 : decode cX6_exit 97 = .ok (.getfield 31, 3) := by decide +kernel
theorem dX6_exit_100 : decode cX6_exit 100 = .ok (.iload_n 1, 1) := by decide +kernel
theorem dX6_exit_101 : decode cX6_exit 101 = .ok (.aaload, 1) := by decide +kernel
theorem dX6_exit_102 : decode cX6_exit 102 = .ok (.iconst (-1), 1) := by decide +kernel
theorem dX6_exit_103 : decode cX6_exit 103 = .ok (.putfield 67, 3) := by decide +kernel
theorem dX6_exit_106 : decode cX6_exit 106 = .ok (.return_, 1) := by decide +kernel
theorem dX6_choose_0 : decode cX6_choose 0 = .ok (.aload_n 0, 1) := by decide +kernel
theorem dX6_choose_1 : decode cX6_choose 1 = .ok (.getfield 31, 3) := by decide +kernel
theorem dX6_choose_4 : decode cX6_choose 4 = .ok (.iload_n 1, 1) := by decide +kernel
theorem dX6_choose_5 : decode cX6_choose 5 = .ok (.aaload, 1) := by decide +kernel
theorem dX6_choose_6 : decode cX6_choose 6 = .ok (.astore_n 2, 1) := by decide +kernel
theorem dX6_choose_7 : decode cX6_choose 7 = .ok (.iconst (-1), 1) := by decide +kernel
theorem dX6_choose_8 : decode cX6_choose 8 = .ok (.istore_n 3, 1) := by decide +kernel
theorem dX6_choose_9 : decode cX6_choose 9 = .ok (.aload_n 0, 1) := by decide +kernel
theorem dX6_choose_10 : decode cX6_choose 10 = .ok (.getfield 18, 3) := by decide +kernel
theorem dX6_choose_13 : decode cX6_choose 13 = .ok (.arraylength, 1) := by decide +kernel
theorem dX6_choose_14 : decode cX6_choose 14 = .ok (.iconst 1, 1) := by decide +kernel
theorem dX6_choose_15 : decode cX6_choose 15 = .ok (.isub, 1) := by decide +kernel
theorem dX6_choose_16 : decode cX6_choose 16 = .ok (.istore 4, 2) := by decide +kernel
theorem dX6_choose_18 : decode cX6_choose 18 = .ok (.iload 4, 2) := by decide +kernel
theorem dX6_choose_20 : decode cX6_choose 20 = .ok (.ifCond .lt 115, 3) := by decide +kernel
theorem dX6_choose_23 : decode cX6_choose 23 = .ok (.aload_n 0, 1) := by decide +kernel
theorem dX6_choose_24 : decode cX6_choose 24 = .ok (.iload 4, 2) := by decide +kernel
theorem dX6_choose_26 : decode cX6_choose 26 = .ok (.invokevirtual 70, 3) := by decide +kernel
theorem dX6_choose_29 : decode cX6_choose 29 = .ok (.ifCond .eq 100, 3) := by decide +kernel
theorem dX6_choose_32 : decode cX6_choose 32 = .ok (.aload_n 0, 1) := by decide +kernel
theorem dX6_choose_33 : decode cX6_choose 33 = .ok (.getfield 18, 3) := by decide +kernel
theorem dX6_choose_36 : decode cX6_choose 36 = .ok (.iload 4, 2) := by decide +kernel
theorem dX6_choose_38 : decode cX6_choose 38 = .ok (.aaload, 1) := by decide +kernel
theorem dX6_choose_39 : decode cX6_choose 39 = .ok (.iconst 2, 1) := by decide +kernel
theorem dX6_choose_40 : decode cX6_choose 40 = .ok (.iaload, 1) := by decide +kernel
theorem dX6_choose_41 : decode cX6_choose 41 = .ok (.ifCond .eq 88, 3) := by decide +kernel
theorem dX6_choose_44 : decode cX6_choose 44 = .ok (.aload_n 0, 1) := by decide +kernel
theorem dX6_choose_45 : decode cX6_choose 45 = .ok (.iload 4, 2) := by decide +kernel
theorem dX6_choose_47 : decode cX6_choose 47 = .ok (.invokevirtual 74, 3) := by decide +kernel
theorem dX6_choose_50 : decode cX6_choose 50 = .ok (.aload_n 2, 1) := by decide +kernel
theorem dX6_choose_51 : decode cX6_choose 51 = .ok (.getfield 54, 3) := by decide +kernel
theorem dX6_choose_54 : decode cX6_choose 54 = .ok (.if_icmp .le 6, 3) := by decide +kernel
theorem dX6_choose_57 : decode cX6_choose 57 = .ok (.goto 72, 3) := by decide +kernel
theorem dX6_choose_60 : decode cX6_choose 60 = .ok (.iload_n 3, 1) := by decide +kernel
theorem dX6_choose_61 : decode cX6_choose 61 = .ok (.ifCond .lt 24, 3) := by decide +kernel
theorem dX6_choose_64 : decode cX6_choose 64 = .ok (.aload_n 0, 1) := by decide +kernel
theorem dX6_choose_65 : decode cX6_choose 65 = .ok (.getfield 23, 3) := by decide +kernel
theorem dX6_choose_68 : decode cX6_choose 68 = .ok (.iload 4, 2) := by decide +kernel
theorem dX6_choose_70 : decode cX6_choose 70 = .ok (.aaload, 1) := by decide +kernel
theorem dX6_choose_71 : decode cX6_choose 71 = .ok (.arraylength, 1) := by decide +kernel
theorem dX6_choose_72 : decode cX6_choose 72 = .ok (.aload_n 0, 1) := by decide +kernel
theorem dX6_choose_73 : decode cX6_choose 73 = .ok (.getfield 23, 3) := by decide +kernel
theorem dX6_choose_76 : decode cX6_choose 76 = .ok (.iload_n 3, 1) := by decide +kernel
theorem dX6_choose_77 : decode cX6_choose 77 = .ok (.aaload, 1) := by decide +kernel
theorem dX6_choose_78 : decode cX6_choose 78 = .ok (.arraylength, 1) := by decide +kernel
theorem dX6_choose_79 : decode cX6_choose 79 = .ok (.if_icmp .le 6, 3) := by decide +kernel
theorem dX6_choose_82 : decode cX6_choose 82 = .ok (.goto 47, 3) := by decide +kernel
theorem dX6_choose_85 : decode cX6_choose 85 = .ok (.iload_n 3, 1) := by decide +kernel
theorem dX6_choose_86 : decode cX6_choose 86 = .ok (.ifCond .lt 40, 3) := by decide +kernel
theorem dX6_choose_89 : decode cX6_choose 89 = .ok (.aload_n 0, 1) := by decide +kernel
theorem dX6_choose_90 : decode cX6_choose 90 = .ok (.getfield 23, 3) := by decide +kernel
theorem dX6_choose_93 : decode cX6_choose 93 = .ok (.iload 4, 2) := by decide +kernel
theorem dX6_choose_95 : decode cX6_choose 95 = .ok (.aaload, 1) := by decide +kernel
theorem dX6_choose_96 : decode cX6_choose 96 = .ok (.arraylength, 1) := by decide +kernel
theorem dX6_choose_97 : decode cX6_choose 97 = .ok (.aload_n 0, 1) := by decide +kernel
theorem dX6_choose_98 : decode cX6_choose 98 = .ok (.getfield 23, 3) := by decide +kernel
theorem dX6_choose_101 : decode cX6_choose 101 = .ok (.iload_n 3, 1) := by decide +kernel
theorem dX6_choose_102 : decode cX6_choose 102 = .ok (.aaload, 1) := by decide +kernel
theorem dX6_choose_103 : decode cX6_choose 103 = .ok (.arraylength, 1) := by decide +kernel
theorem dX6_choose_104 : decode cX6_choose 104 = .ok (.if_icmp .ne 22, 3) := by decide +kernel
theorem dX6_choose_107 : decode cX6_choose 107 = .ok (.aload_n 2, 1) := by decide +kernel
theorem dX6_choose_108 : decode cX6_choose 108 = .ok (.getfield 77, 3) := by decide +kernel
theorem dX6_choose_111 : decode cX6_choose 111 = .ok (.iload 4, 2) := by decide +kernel
theorem dX6_choose_113 : decode cX6_choose 113 = .ok (.iaload, 1) := by decide +kernel
theorem dX6_choose_114 : decode cX6_choose 114 = .ok (.aload_n 2, 1) := by decide +kernel
theorem dX6_choose_115 : decode cX6_choose 115 = .ok (.getfield 77, 3) := by decide +kernel
theorem dX6_choose_118 : decode cX6_choose 118 = .ok (.iload_n 3, 1) := by decide +kernel
theorem dX6_choose_119 : decode cX6_choose 119 = .ok (.iaload, 1) := by decide +kernel
theorem dX6_choose_120 : decode cX6_choose 120 = .ok (.if_icmp .ge 6, 3) := by decide +kernel
theorem dX6_choose_123 : decode cX6_choose 123 = .ok (.goto 6, 3) := by decide +kernel
theorem dX6_choose_126 : decode cX6_choose 126 = .ok (.iload 4, 2) := by decide +kernel
theorem dX6_choose_128 : decode cX6_choose 128 = .ok (.istore_n 3, 1) := by decide +kernel
theorem dX6_choose_129 : decode cX6_choose 129 = .ok (.iinc 4 (-1), 3) := by decide +kernel
theorem dX6_choose_132 : decode cX6_choose 132 = .ok (.goto (-114), 3) := by decide +kernel
theorem dX6_choose_135 : decode cX6_choose 135 = .ok (.iload_n 3, 1) := by decide +kernel
theorem dX6_choose_136 : decode cX6_choose 136 = .ok (.ifCond .lt 12, 3) := by decide +kernel
theorem dX6_choose_139 : decode cX6_choose 139 = .ok (.aload_n 0, 1) := by decide +kernel
theorem dX6_choose_140 : decode cX6_choose 140 = .ok (.iload_n 1, 1) := by decide +kernel
theorem dX6_choose_141 : decode cX6_choose 141 = .ok (.iload_n 3, 1) := by decide +kernel
theorem dX6_choose_142 : decode cX6_choose 142 = .ok (.invokevirtual 80, 3) := by decide +kernel
theorem dX6_choose_145 : decode cX6_choose 145 = .ok (.goto 15, 3) := by decide +kernel
theorem dX6_choose_148 : decode cX6_choose 148 = .ok (.aload_n 2, 1) := by decide +kernel
theorem dX6_choose_149 : decode cX6_choose 149 = .ok (.getfield 54, 3) := by decide +kernel
theorem dX6_choose_152 : decode cX6_choose 152 = .ok (.ifCond .ne 8, 3) := by decide +kernel
theorem dX6_choose_155 : decode cX6_choose 155 = .ok (.aload_n 2, 1) := by decide +kernel
theorem dX6_choose_156 : decode cX6_choose 156 = .ok (.iconst 2, 1) := by decide +kernel
theorem dX6_choose_157 : decode cX6_choose 157 = .ok (.putfield 64, 3) := by decide +kernel
theorem dX6_choose_160 : decode cX6_choose 160 = .ok (.return_, 1) := by decide +kernel
theorem dX6_write_0 : decode cX6_write 0 = .ok (.iconst 0, 1) := by decide +kernel
theorem dX6_write_1 : decode cX6_write 1 = .ok (.anewarray 16, 3) := by decide +kernel
theorem dX6_write_4 : decode cX6_write 4 = .ok (.astore 4, 2) := by decide +kernel
theorem dX6_write_6 : decode cX6_write 6 = .ok (.iconst 0, 1) := by decide +kernel
theorem dX6_write_7 : decode cX6_write 7 = .ok (.istore 5, 2) := by decide +kernel
theorem dX6_write_9 : decode cX6_write 9 = .ok (.aload_n 0, 1) := by decide +kernel
theorem dX6_write_10 : decode cX6_write 10 = .ok (.getfield 35, 3) := by decide +kernel
theorem dX6_write_13 : decode cX6_write 13 = .ok (.astore 6, 2) := by decide +kernel
theorem dX6_write_15 : decode cX6_write 15 = .ok (.aload 6, 2) := by decide +kernel
theorem dX6_write_17 : decode cX6_write 17 = .ok (.arraylength, 1) := by decide +kernel
theorem dX6_write_18 : decode cX6_write 18 = .ok (.istore 7, 2) := by decide +kernel
theorem dX6_write_20 : decode cX6_write 20 = .ok (.iconst 0, 1) := by decide +kernel
theorem dX6_write_21 : decode cX6_write 21 = .ok (.istore 8, 2) := by decide +kernel
theorem dX6_write_23 : decode cX6_write 23 = .ok (.iload 8, 2) := by decide +kernel
theorem dX6_write_25 : decode cX6_write 25 = .ok (.iload 7, 2) := by decide +kernel
theorem dX6_write_27 : decode cX6_write 27 = .ok (.if_icmp .ge 63, 3) := by decide +kernel
theorem dX6_write_30 : decode cX6_write 30 = .ok (.aload 6, 2) := by decide +kernel
theorem dX6_write_32 : decode cX6_write 32 = .ok (.iload 8, 2) := by decide +kernel
theorem dX6_write_34 : decode cX6_write 34 = .ok (.aaload, 1) := by decide +kernel
theorem dX6_write_35 : decode cX6_write 35 = .ok (.astore 9, 2) := by decide +kernel
theorem dX6_write_37 : decode cX6_write 37 = .ok (.iload 5, 2) := by decide +kernel
theorem dX6_write_39 : decode cX6_write 39 = .ok (.ifCond .ne 36, 3) := by decide +kernel
theorem dX6_write_42 : decode cX6_write 42 = .ok (.aload 9, 2) := by decide +kernel
theorem dX6_write_44 : decode cX6_write 44 = .ok (.iconst 2, 1) := by decide +kernel
theorem dX6_write_45 : decode cX6_write 45 = .ok (.iaload, 1) := by decide +kernel
theorem dX6_write_46 : decode cX6_write 46 = .ok (.iload_n 3, 1) := by decide +kernel
theorem dX6_write_47 : decode cX6_write 47 = .ok (.if_icmp .ge 28, 3) := by decide +kernel
theorem dX6_write_50 : decode cX6_write 50 = .ok (.aload 4, 2) := by decide +kernel
theorem dX6_write_52 : decode cX6_write 52 = .ok (.iconst 3, 1) := by decide +kernel
theorem dX6_write_53 : decode cX6_write 53 = .ok (.newarray .int, 2) := by decide +kernel
theorem dX6_write_55 : decode cX6_write 55 = .ok (.dup, 1) := by decide +kernel
theorem dX6_write_56 : decode cX6_write 56 = .ok (.iconst 0, 1) := by decide +kernel
theorem dX6_write_57 : decode cX6_write 57 = .ok (.iload_n 1, 1) := by decide +kernel
theorem dX6_write_58 : decode cX6_write 58 = .ok (.iastore, 1) := by decide +kernel
theorem dX6_write_59 : decode cX6_write 59 = .ok (.dup, 1) := by decide +kernel
theorem dX6_write_60 : decode cX6_write 60 = .ok (.iconst 1, 1) := by decide +kernel
theorem dX6_write_61 : decode cX6_write 61 = .ok (.iload_n 2, 1) := by decide +kernel
theorem dX6_write_62 : decode cX6_write 62 = .ok (.iastore, 1) := by decide +kernel
theorem dX6_write_63 : decode cX6_write 63 = .ok (.dup, 1) := by decide +kernel
theorem dX6_write_64 : decode cX6_write 64 = .ok (.iconst 2, 1) := by decide +kernel
theorem dX6_write_65 : decode cX6_write 65 = .ok (.iload_n 3, 1) := by decide +kernel
theorem dX6_write_66 : decode cX6_write 66 = .ok (.iastore, 1) := by decide +kernel
theorem dX6_write_67 : decode cX6_write 67 = .ok (.invokestatic 84, 3) := by decide +kernel
theorem dX6_write_70 : decode cX6_write 70 = .ok (.astore 4, 2) := by decide +kernel
theorem dX6_write_72 : decode cX6_write 72 = .ok (.iconst 1, 1) := by decide +kernel
theorem dX6_write_73 : decode cX6_write 73 = .ok (.istore 5, 2) := by decide +kernel
theorem dX6_write_75 : decode cX6_write 75 = .ok (.aload 4, 2) := by decide +kernel
theorem dX6_write_77 : decode cX6_write 77 = .ok (.aload 9, 2) := by decide +kernel
theorem dX6_write_79 : decode cX6_write 79 = .ok (.invokestatic 84, 3) := by decide +kernel
theorem dX6_write_82 : decode cX6_write 82 = .ok (.astore 4, 2) := by decide +kernel
theorem dX6_write_84 : decode cX6_write 84 = .ok (.iinc 8 1, 3) := by decide +kernel
theorem dX6_write_87 : decode cX6_write 87 = .ok (.goto (-64), 3) := by decide +kernel
theorem dX6_write_90 : decode cX6_write 90 = .ok (.iload 5, 2) := by decide +kernel
theorem dX6_write_92 : decode cX6_write 92 = .ok (.ifCond .ne 25, 3) := by decide +kernel
theorem dX6_write_95 : decode cX6_write 95 = .ok (.aload 4, 2) := by decide +kernel
theorem dX6_write_97 : decode cX6_write 97 = .ok (.iconst 3, 1) := by decide +kernel
theorem dX6_write_98 : decode cX6_write 98 = .ok (.newarray .int, 2) := by decide +kernel
theorem dX6_write_100 : decode cX6_write 100 = .ok (.dup, 1) := by decide +kernel
theorem dX6_write_101 : decode cX6_write 101 = .ok (.iconst 0, 1) := by decide +kernel
theorem dX6_write_102 : decode cX6_write 102 = .ok (.iload_n 1, 1) := by decide +kernel
theorem dX6_write_103 : decode cX6_write 103 = .ok (.iastore, 1) := by decide +kernel
theorem dX6_write_104 : decode cX6_write 104 = .ok (.dup, 1) := by decide +kernel
theorem dX6_write_105 : decode cX6_write 105 = .ok (.iconst 1, 1) := by decide +kernel
theorem dX6_write_106 : decode cX6_write 106 = .ok (.iload_n 2, 1) := by decide +kernel
theorem dX6_write_107 : decode cX6_write 107 = .ok (.iastore, 1) := by decide +kernel
theorem dX6_write_108 : decode cX6_write 108 = .ok (.dup, 1) := by decide +kernel
theorem dX6_write_109 : decode cX6_write 109 = .ok (.iconst 2, 1) := by decide +kernel
theorem dX6_write_110 : decode cX6_write 110 = .ok (.iload_n 3, 1) := by decide +kernel
theorem dX6_write_111 : decode cX6_write 111 = .ok (.iastore, 1) := by decide +kernel
theorem dX6_write_112 : decode cX6_write 112 = .ok (.invokestatic 84, 3) := by decide +kernel
theorem dX6_write_115 : decode cX6_write 115 = .ok (.astore 4, 2) := by decide +kernel
theorem dX6_write_117 : decode cX6_write 117 = .ok (.iconst 3, 1) := by decide +kernel
theorem dX6_write_118 : decode cX6_write 118 = .ok (.aload 4, 2) := by decide +kernel
theorem dX6_write_120 : decode cX6_write 120 = .ok (.arraylength, 1) := by decide +kernel
theorem dX6_write_121 : decode cX6_write 121 = .ok (.invokestatic 88, 3) := by decide +kernel
theorem dX6_write_124 : decode cX6_write 124 = .ok (.istore 6, 2) := by decide +kernel
theorem dX6_write_126 : decode cX6_write 126 = .ok (.aload_n 0, 1) := by decide +kernel
theorem dX6_write_127 : decode cX6_write 127 = .ok (.iload 6, 2) := by decide +kernel
theorem dX6_write_129 : decode cX6_write 129 = .ok (.anewarray 16, 3) := by decide +kernel
theorem dX6_write_132 : decode cX6_write 132 = .ok (.putfield 35, 3) := by decide +kernel
theorem dX6_write_135 : decode cX6_write 135 = .ok (.iconst 0, 1) := by decide +kernel
theorem dX6_write_136 : decode cX6_write 136 = .ok (.istore 7, 2) := by decide +kernel
theorem dX6_write_138 : decode cX6_write 138 = .ok (.iload 7, 2) := by decide +kernel
theorem dX6_write_140 : decode cX6_write 140 = .ok (.iload 6, 2) := by decide +kernel
theorem dX6_write_142 : decode cX6_write 142 = .ok (.if_icmp .ge 21, 3) := by decide +kernel
theorem dX6_write_145 : decode cX6_write 145 = .ok (.aload_n 0, 1) := by decide +kernel
theorem dX6_write_146 : decode cX6_write 146 = .ok (.getfield 35, 3) := by decide +kernel
theorem dX6_write_149 : decode cX6_write 149 = .ok (.iload 7, 2) := by decide +kernel
theorem dX6_write_151 : decode cX6_write 151 = .ok (.aload 4, 2) := by decide +kernel
theorem dX6_write_153 : decode cX6_write 153 = .ok (.iload 7, 2) := by decide +kernel
theorem dX6_write_155 : decode cX6_write 155 = .ok (.aaload, 1) := by decide +kernel
theorem dX6_write_156 : decode cX6_write 156 = .ok (.aastore, 1) := by decide +kernel
theorem dX6_write_157 : decode cX6_write 157 = .ok (.iinc 7 1, 3) := by decide +kernel
theorem dX6_write_160 : decode cX6_write 160 = .ok (.goto (-22), 3) := by decide +kernel
theorem dX6_write_163 : decode cX6_write 163 = .ok (.return_, 1) := by decide +kernel
theorem dX6_pass_0 : decode cX6_pass 0 = .ok (.iconst 0, 1) := by decide +kernel
theorem dX6_pass_1 : decode cX6_pass 1 = .ok (.istore_n 1, 1) := by decide +kernel
theorem dX6_pass_2 : decode cX6_pass 2 = .ok (.aload_n 0, 1) := by decide +kernel
theorem dX6_pass_3 : decode cX6_pass 3 = .ok (.getfield 39, 3) := by decide +kernel
theorem dX6_pass_6 : decode cX6_pass 6 = .ok (.bipush 12, 2) := by decide +kernel
theorem dX6_pass_8 : decode cX6_pass 8 = .ok (.irem, 1) := by decide +kernel
theorem dX6_pass_9 : decode cX6_pass 9 = .ok (.ifCond .ne 46, 3) := by decide +kernel
theorem dX6_pass_12 : decode cX6_pass 12 = .ok (.aload_n 0, 1) := by decide +kernel
theorem dX6_pass_13 : decode cX6_pass 13 = .ok (.bipush 75, 2) := by decide +kernel
theorem dX6_pass_15 : decode cX6_pass 15 = .ok (.aload_n 0, 1) := by decide +kernel
theorem dX6_pass_16 : decode cX6_pass 16 = .ok (.getfield 7, 3) := by decide +kernel
theorem dX6_pass_19 : decode cX6_pass 19 = .ok (.imul, 1) := by decide +kernel
theorem dX6_pass_20 : decode cX6_pass 20 = .ok (.bipush 74, 2) := by decide +kernel
theorem dX6_pass_22 : decode cX6_pass 22 = .ok (.iadd, 1) := by decide +kernel
theorem dX6_pass_23 : decode cX6_pass 23 = .ok (.ldc 94, 2) := by decide +kernel
theorem dX6_pass_25 : decode cX6_pass 25 = .ok (.irem, 1) := by decide +kernel
theorem dX6_pass_26 : decode cX6_pass 26 = .ok (.putfield 7, 3) := by decide +kernel
theorem dX6_pass_29 : decode cX6_pass 29 = .ok (.aload_n 0, 1) := by decide +kernel
theorem dX6_pass_30 : decode cX6_pass 30 = .ok (.aload_n 0, 1) := by decide +kernel
theorem dX6_pass_31 : decode cX6_pass 31 = .ok (.getfield 18, 3) := by decide +kernel
theorem dX6_pass_34 : decode cX6_pass 34 = .ok (.arraylength, 1) := by decide +kernel
theorem dX6_pass_35 : decode cX6_pass 35 = .ok (.ifCond .ne 7, 3) := by decide +kernel
theorem dX6_pass_38 : decode cX6_pass 38 = .ok (.iconst (-1), 1) := by decide +kernel
theorem dX6_pass_39 : decode cX6_pass 39 = .ok (.goto 13, 3) := by decide +kernel
theorem dX6_pass_42 : decode cX6_pass 42 = .ok (.aload_n 0, 1) := by decide +kernel
theorem dX6_pass_43 : decode cX6_pass 43 = .ok (.getfield 7, 3) := by decide +kernel
theorem dX6_pass_46 : decode cX6_pass 46 = .ok (.aload_n 0, 1) := by decide +kernel
theorem dX6_pass_47 : decode cX6_pass 47 = .ok (.getfield 18, 3) := by decide +kernel
theorem dX6_pass_50 : decode cX6_pass 50 = .ok (.arraylength, 1) := by decide +kernel
theorem dX6_pass_51 : decode cX6_pass 51 = .ok (.irem, 1) := by decide +kernel
theorem dX6_pass_52 : decode cX6_pass 52 = .ok (.putfield 13, 3) := by decide +kernel
theorem dX6_pass_55 : decode cX6_pass 55 = .ok (.iconst 0, 1) := by decide +kernel
theorem dX6_pass_56 : decode cX6_pass 56 = .ok (.istore_n 2, 1) := by decide +kernel
theorem dX6_pass_57 : decode cX6_pass 57 = .ok (.iload_n 2, 1) := by decide +kernel
theorem dX6_pass_58 : decode cX6_pass 58 = .ok (.aload_n 0, 1) := by decide +kernel
theorem dX6_pass_59 : decode cX6_pass 59 = .ok (.getfield 31, 3) := by decide +kernel
theorem dX6_pass_62 : decode cX6_pass 62 = .ok (.arraylength, 1) := by decide +kernel
theorem dX6_pass_63 : decode cX6_pass 63 = .ok (.if_icmp .ge 26, 3) := by decide +kernel
theorem dX6_pass_66 : decode cX6_pass 66 = .ok (.aload_n 0, 1) := by decide +kernel
theorem dX6_pass_67 : decode cX6_pass 67 = .ok (.getfield 31, 3) := by decide +kernel
theorem dX6_pass_70 : decode cX6_pass 70 = .ok (.iload_n 2, 1) := by decide +kernel
theorem dX6_pass_71 : decode cX6_pass 71 = .ok (.aaload, 1) := by decide +kernel
theorem dX6_pass_72 : decode cX6_pass 72 = .ok (.getfield 64, 3) := by decide +kernel
theorem dX6_pass_75 : decode cX6_pass 75 = .ok (.ifCond .ne 8, 3) := by decide +kernel
theorem dX6_pass_78 : decode cX6_pass 78 = .ok (.aload_n 0, 1) := by decide +kernel
theorem dX6_pass_79 : decode cX6_pass 79 = .ok (.iload_n 2, 1) := by decide +kernel
theorem dX6_pass_80 : decode cX6_pass 80 = .ok (.invokevirtual 95, 3) := by decide +kernel
theorem dX6_pass_83 : decode cX6_pass 83 = .ok (.iinc 2 1, 3) := by decide +kernel
theorem dX6_pass_86 : decode cX6_pass 86 = .ok (.goto (-29), 3) := by decide +kernel
theorem dX6_pass_89 : decode cX6_pass 89 = .ok (.iconst 0, 1) := by decide +kernel
theorem dX6_pass_90 : decode cX6_pass 90 = .ok (.istore_n 2, 1) := by decide +kernel
theorem dX6_pass_91 : decode cX6_pass 91 = .ok (.iload_n 2, 1) := by decide +kernel
theorem dX6_pass_92 : decode cX6_pass 92 = .ok (.aload_n 0, 1) := by decide +kernel
theorem dX6_pass_93 : decode cX6_pass 93 = .ok (.getfield 18, 3) := by decide +kernel
theorem dX6_pass_96 : decode cX6_pass 96 = .ok (.arraylength, 1) := by decide +kernel
theorem dX6_pass_97 : decode cX6_pass 97 = .ok (.if_icmp .ge 299, 3) := by decide +kernel
theorem dX6_pass_100 : decode cX6_pass 100 = .ok (.aload_n 0, 1) := by decide +kernel
theorem dX6_pass_101 : decode cX6_pass 101 = .ok (.iload_n 2, 1) := by decide +kernel
theorem dX6_pass_102 : decode cX6_pass 102 = .ok (.invokevirtual 70, 3) := by decide +kernel
theorem dX6_pass_105 : decode cX6_pass 105 = .ok (.ifCond .eq 11, 3) := by decide +kernel
theorem dX6_pass_108 : decode cX6_pass 108 = .ok (.aload_n 0, 1) := by decide +kernel
theorem dX6_pass_109 : decode cX6_pass 109 = .ok (.iload_n 2, 1) := by decide +kernel
theorem dX6_pass_110 : decode cX6_pass 110 = .ok (.invokevirtual 60, 3) := by decide +kernel
theorem dX6_pass_113 : decode cX6_pass 113 = .ok (.goto 4, 3) := by decide +kernel
theorem dX6_pass_116 : decode cX6_pass 116 = .ok (.iconst 0, 1) := by decide +kernel
theorem dX6_pass_117 : decode cX6_pass 117 = .ok (.istore_n 3, 1) := by decide +kernel
theorem dX6_pass_118 : decode cX6_pass 118 = .ok (.iconst 0, 1) := by decide +kernel
theorem dX6_pass_119 : decode cX6_pass 119 = .ok (.istore 4, 2) := by decide +kernel
theorem dX6_pass_121 : decode cX6_pass 121 = .ok (.iload 4, 2) := by decide +kernel
theorem dX6_pass_123 : decode cX6_pass 123 = .ok (.iload_n 3, 1) := by decide +kernel
theorem dX6_pass_124 : decode cX6_pass 124 = .ok (.if_icmp .ge 266, 3) := by decide +kernel
theorem dX6_pass_127 : decode cX6_pass 127 = .ok (.aload_n 0, 1) := by decide +kernel
theorem dX6_pass_128 : decode cX6_pass 128 = .ok (.getfield 23, 3) := by decide +kernel
theorem dX6_pass_131 : decode cX6_pass 131 = .ok (.iload_n 2, 1) := by decide +kernel
theorem dX6_pass_132 : decode cX6_pass 132 = .ok (.aaload, 1) := by decide +kernel
theorem dX6_pass_133 : decode cX6_pass 133 = .ok (.arraylength, 1) := by decide +kernel
theorem dX6_pass_134 : decode cX6_pass 134 = .ok (.ifCond .le 256, 3) := by decide +kernel
theorem dX6_pass_137 : decode cX6_pass 137 = .ok (.aload_n 0, 1) := by decide +kernel
theorem dX6_pass_138 : decode cX6_pass 138 = .ok (.getfield 23, 3) := by decide +kernel
theorem dX6_pass_141 : decode cX6_pass 141 = .ok (.iload_n 2, 1) := by decide +kernel
theorem dX6_pass_142 : decode cX6_pass 142 = .ok (.aaload, 1) := by decide +kernel
theorem dX6_pass_143 : decode cX6_pass 143 = .ok (.iconst 0, 1) := by decide +kernel
theorem dX6_pass_144 : decode cX6_pass 144 = .ok (.iaload, 1) := by decide +kernel
theorem dX6_pass_145 : decode cX6_pass 145 = .ok (.istore 5, 2) := by decide +kernel
theorem dX6_pass_147 : decode cX6_pass 147 = .ok (.aload_n 0, 1) := by decide +kernel
theorem dX6_pass_148 : decode cX6_pass 148 = .ok (.getfield 31, 3) := by decide +kernel
theorem dX6_pass_151 : decode cX6_pass 151 = .ok (.iload 5, 2) := by decide +kernel
theorem dX6_pass_153 : decode cX6_pass 153 = .ok (.aaload, 1) := by decide +kernel
theorem dX6_pass_154 : decode cX6_pass 154 = .ok (.astore 6, 2) := by decide +kernel
theorem dX6_pass_156 : decode cX6_pass 156 = .ok (.aload_n 0, 1) := by decide +kernel
theorem dX6_pass_157 : decode cX6_pass 157 = .ok (.iload 5, 2) := by decide +kernel
theorem dX6_pass_159 : decode cX6_pass 159 = .ok (.invokevirtual 99, 3) := by decide +kernel
theorem dX6_pass_162 : decode cX6_pass 162 = .ok (.aload 6, 2) := by decide +kernel
theorem dX6_pass_164 : decode cX6_pass 164 = .ok (.getfield 54, 3) := by decide +kernel
theorem dX6_pass_167 : decode cX6_pass 167 = .ok (.aload_n 0, 1) := by decide +kernel
theorem dX6_pass_168 : decode cX6_pass 168 = .ok (.iload_n 2, 1) := by decide +kernel
theorem dX6_pass_169 : decode cX6_pass 169 = .ok (.invokevirtual 74, 3) := by decide +kernel
theorem dX6_pass_172 : decode cX6_pass 172 = .ok (.if_icmp .ge 6, 3) := by decide +kernel
theorem dX6_pass_175 : decode cX6_pass 175 = .ok (.goto 209, 3) := by decide +kernel
theorem dX6_pass_178 : decode cX6_pass 178 = .ok (.aload 6, 2) := by decide +kernel
theorem dX6_pass_180 : decode cX6_pass 180 = .ok (.dup, 1) := by decide +kernel
theorem dX6_pass_181 : decode cX6_pass 181 = .ok (.getfield 54, 3) := by decide +kernel
theorem dX6_pass_184 : decode cX6_pass 184 = .ok (.aload_n 0, 1) := by decide +kernel
theorem dX6_pass_185 : decode cX6_pass 185 = .ok (.iload_n 2, 1) := by decide +kernel
theorem dX6_pass_186 : decode cX6_pass 186 = .ok (.invokevirtual 74, 3) := by decide +kernel
theorem dX6_pass_189 : decode cX6_pass 189 = .ok (.isub, 1) := by decide +kernel
theorem dX6_pass_190 : decode cX6_pass 190 = .ok (.putfield 54, 3) := by decide +kernel
theorem dX6_pass_193 : decode cX6_pass 193 = .ok (.aload_n 0, 1) := by decide +kernel
theorem dX6_pass_194 : decode cX6_pass 194 = .ok (.getfield 18, 3) := by decide +kernel
theorem dX6_pass_197 : decode cX6_pass 197 = .ok (.iload_n 2, 1) := by decide +kernel
theorem dX6_pass_198 : decode cX6_pass 198 = .ok (.aaload, 1) := by decide +kernel
theorem dX6_pass_199 : decode cX6_pass 199 = .ok (.iconst 5, 1) := by decide +kernel
theorem dX6_pass_200 : decode cX6_pass 200 = .ok (.dup2, 1) := by decide +kernel
theorem dX6_pass_201 : decode cX6_pass 201 = .ok (.iaload, 1) := by decide +kernel
theorem dX6_pass_202 : decode cX6_pass 202 = .ok (.aload_n 0, 1) := by decide +kernel
theorem dX6_pass_203 : decode cX6_pass 203 = .ok (.iload_n 2, 1) := by decide +kernel
theorem dX6_pass_204 : decode cX6_pass 204 = .ok (.invokevirtual 74, 3) := by decide +kernel
theorem dX6_pass_207 : decode cX6_pass 207 = .ok (.iadd, 1) := by decide +kernel
theorem dX6_pass_208 : decode cX6_pass 208 = .ok (.iastore, 1) := by decide +kernel
theorem dX6_pass_209 : decode cX6_pass 209 = .ok (.aload_n 0, 1) := by decide +kernel
theorem dX6_pass_210 : decode cX6_pass 210 = .ok (.getfield 18, 3) := by decide +kernel
theorem dX6_pass_213 : decode cX6_pass 213 = .ok (.iload_n 2, 1) := by decide +kernel
theorem dX6_pass_214 : decode cX6_pass 214 = .ok (.aaload, 1) := by decide +kernel
theorem dX6_pass_215 : decode cX6_pass 215 = .ok (.iconst 4, 1) := by decide +kernel
theorem dX6_pass_216 : decode cX6_pass 216 = .ok (.dup2, 1) := by decide +kernel
theorem dX6_pass_217 : decode cX6_pass 217 = .ok (.iaload, 1) := by decide +kernel
theorem dX6_pass_218 : decode cX6_pass 218 = .ok (.iconst 1, 1) := by decide +kernel
theorem dX6_pass_219 : decode cX6_pass 219 = .ok (.iadd, 1) := by decide +kernel
theorem dX6_pass_220 : decode cX6_pass 220 = .ok (.iastore, 1) := by decide +kernel
theorem dX6_pass_221 : decode cX6_pass 221 = .ok (.aload 6, 2) := by decide +kernel
theorem dX6_pass_223 : decode cX6_pass 223 = .ok (.getfield 57, 3) := by decide +kernel
theorem dX6_pass_226 : decode cX6_pass 226 = .ok (.iconst 3, 1) := by decide +kernel
theorem dX6_pass_227 : decode cX6_pass 227 = .ok (.aload 6, 2) := by decide +kernel
theorem dX6_pass_229 : decode cX6_pass 229 = .ok (.getfield 77, 3) := by decide +kernel
theorem dX6_pass_232 : decode cX6_pass 232 = .ok (.iload_n 2, 1) := by decide +kernel
theorem dX6_pass_233 : decode cX6_pass 233 = .ok (.iaload, 1) := by decide +kernel
theorem dX6_pass_234 : decode cX6_pass 234 = .ok (.imul, 1) := by decide +kernel
theorem dX6_pass_235 : decode cX6_pass 235 = .ok (.iadd, 1) := by decide +kernel
theorem dX6_pass_236 : decode cX6_pass 236 = .ok (.iconst 5, 1) := by decide +kernel
theorem dX6_pass_237 : decode cX6_pass 237 = .ok (.aload_n 0, 1) := by decide +kernel
theorem dX6_pass_238 : decode cX6_pass 238 = .ok (.iload_n 2, 1) := by decide +kernel
theorem dX6_pass_239 : decode cX6_pass 239 = .ok (.invokevirtual 60, 3) := by decide +kernel
theorem dX6_pass_242 : decode cX6_pass 242 = .ok (.aload_n 0, 1) := by decide +kernel
theorem dX6_pass_243 : decode cX6_pass 243 = .ok (.getfield 18, 3) := by decide +kernel
theorem dX6_pass_246 : decode cX6_pass 246 = .ok (.iload_n 2, 1) := by decide +kernel
theorem dX6_pass_247 : decode cX6_pass 247 = .ok (.aaload, 1) := by decide +kernel
theorem dX6_pass_248 : decode cX6_pass 248 = .ok (.iconst 3, 1) := by decide +kernel
theorem dX6_pass_249 : decode cX6_pass 249 = .ok (.iaload, 1) := by decide +kernel
theorem dX6_pass_250 : decode cX6_pass 250 = .ok (.isub, 1) := by decide +kernel
theorem dX6_pass_251 : decode cX6_pass 251 = .ok (.imul, 1) := by decide +kernel
theorem dX6_pass_252 : decode cX6_pass 252 = .ok (.iadd, 1) := by decide +kernel
theorem dX6_pass_253 : decode cX6_pass 253 = .ok (.istore 7, 2) := by decide +kernel
theorem dX6_pass_255 : decode cX6_pass 255 = .ok (.iload 7, 2) := by decide +kernel
theorem dX6_pass_257 : decode cX6_pass 257 = .ok (.aload_n 0, 1) := by decide +kernel
theorem dX6_pass_258 : decode cX6_pass 258 = .ok (.getfield 13, 3) := by decide +kernel
theorem dX6_pass_261 : decode cX6_pass 261 = .ok (.iload_n 2, 1) := by decide +kernel
theorem dX6_pass_262 : decode cX6_pass 262 = .ok (.if_icmp .ne 7, 3) := by decide +kernel
theorem dX6_pass_265 : decode cX6_pass 265 = .ok (.iconst 2, 1) := by decide +kernel
theorem dX6_pass_266 : decode cX6_pass 266 = .ok (.goto 4, 3) := by decide +kernel
theorem dX6_pass_269 : decode cX6_pass 269 = .ok (.iconst 1, 1) := by decide +kernel
theorem dX6_pass_270 : decode cX6_pass 270 = .ok (.imul, 1) := by decide +kernel
theorem dX6_pass_271 : decode cX6_pass 271 = .ok (.istore 7, 2) := by decide +kernel
theorem dX6_pass_273 : decode cX6_pass 273 = .ok (.aload_n 0, 1) := by decide +kernel
theorem dX6_pass_274 : decode cX6_pass 274 = .ok (.iload 5, 2) := by decide +kernel
theorem dX6_pass_276 : decode cX6_pass 276 = .ok (.iload_n 2, 1) := by decide +kernel
theorem dX6_pass_277 : decode cX6_pass 277 = .ok (.iload 7, 2) := by decide +kernel
theorem dX6_pass_279 : decode cX6_pass 279 = .ok (.invokevirtual 102, 3) := by decide +kernel
theorem dX6_pass_282 : decode cX6_pass 282 = .ok (.aload 6, 2) := by decide +kernel
theorem dX6_pass_284 : decode cX6_pass 284 = .ok (.getfield 77, 3) := by decide +kernel
theorem dX6_pass_287 : decode cX6_pass 287 = .ok (.iload_n 2, 1) := by decide +kernel
theorem dX6_pass_288 : decode cX6_pass 288 = .ok (.iaload, 1) := by decide +kernel
theorem dX6_pass_289 : decode cX6_pass 289 = .ok (.bipush 9, 2) := by decide +kernel
theorem dX6_pass_291 : decode cX6_pass 291 = .ok (.if_icmp .ge 14, 3) := by decide +kernel
theorem dX6_pass_294 : decode cX6_pass 294 = .ok (.aload 6, 2) := by decide +kernel
theorem dX6_pass_296 : decode cX6_pass 296 = .ok (.getfield 77, 3) := by decide +kernel
theorem dX6_pass_299 : decode cX6_pass 299 = .ok (.iload_n 2, 1) := by decide +kernel
theorem dX6_pass_300 : decode cX6_pass 300 = .ok (.dup2, 1) := by decide +kernel
theorem dX6_pass_301 : decode cX6_pass 301 = .ok (.iaload, 1) := by decide +kernel
theorem dX6_pass_302 : decode cX6_pass 302 = .ok (.iconst 1, 1) := by decide +kernel
theorem dX6_pass_303 : decode cX6_pass 303 = .ok (.iadd, 1) := by decide +kernel
theorem dX6_pass_304 : decode cX6_pass 304 = .ok (.iastore, 1) := by decide +kernel
theorem dX6_pass_305 : decode cX6_pass 305 = .ok (.aload 6, 2) := by decide +kernel
theorem dX6_pass_307 : decode cX6_pass 307 = .ok (.dup, 1) := by decide +kernel
theorem dX6_pass_308 : decode cX6_pass 308 = .ok (.getfield 106, 3) := by decide +kernel
theorem dX6_pass_311 : decode cX6_pass 311 = .ok (.iconst 1, 1) := by decide +kernel
theorem dX6_pass_312 : decode cX6_pass 312 = .ok (.iadd, 1) := by decide +kernel
theorem dX6_pass_313 : decode cX6_pass 313 = .ok (.putfield 106, 3) := by decide +kernel
theorem dX6_pass_316 : decode cX6_pass 316 = .ok (.aload 6, 2) := by decide +kernel
theorem dX6_pass_318 : decode cX6_pass 318 = .ok (.aload 6, 2) := by decide +kernel
theorem dX6_pass_320 : decode cX6_pass 320 = .ok (.getfield 109, 3) := by decide +kernel
theorem dX6_pass_323 : decode cX6_pass 323 = .ok (.iload 7, 2) := by decide +kernel
theorem dX6_pass_325 : decode cX6_pass 325 = .ok (.invokestatic 112, 3) := by decide +kernel
theorem dX6_pass_328 : decode cX6_pass 328 = .ok (.putfield 109, 3) := by decide +kernel
theorem dX6_pass_331 : decode cX6_pass 331 = .ok (.iload 7, 2) := by decide +kernel
theorem dX6_pass_333 : decode cX6_pass 333 = .ok (.aload_n 0, 1) := by decide +kernel
theorem dX6_pass_334 : decode cX6_pass 334 = .ok (.getfield 18, 3) := by decide +kernel
theorem dX6_pass_337 : decode cX6_pass 337 = .ok (.iload_n 2, 1) := by decide +kernel
theorem dX6_pass_338 : decode cX6_pass 338 = .ok (.aaload, 1) := by decide +kernel
theorem dX6_pass_339 : decode cX6_pass 339 = .ok (.iconst 1, 1) := by decide +kernel
theorem dX6_pass_340 : decode cX6_pass 340 = .ok (.iaload, 1) := by decide +kernel
theorem dX6_pass_341 : decode cX6_pass 341 = .ok (.if_icmp .lt 43, 3) := by decide +kernel
theorem dX6_pass_344 : decode cX6_pass 344 = .ok (.aload_n 0, 1) := by decide +kernel
theorem dX6_pass_345 : decode cX6_pass 345 = .ok (.getfield 18, 3) := by decide +kernel
theorem dX6_pass_348 : decode cX6_pass 348 = .ok (.iload_n 2, 1) := by decide +kernel
theorem dX6_pass_349 : decode cX6_pass 349 = .ok (.aaload, 1) := by decide +kernel
theorem dX6_pass_350 : decode cX6_pass 350 = .ok (.iconst 2, 1) := by decide +kernel
theorem dX6_pass_351 : decode cX6_pass 351 = .ok (.iaload, 1) := by decide +kernel
theorem dX6_pass_352 : decode cX6_pass 352 = .ok (.ifCond .ne 6, 3) := by decide +kernel
theorem dX6_pass_355 : decode cX6_pass 355 = .ok (.goto 29, 3) := by decide +kernel
theorem dX6_pass_358 : decode cX6_pass 358 = .ok (.aload_n 0, 1) := by decide +kernel
theorem dX6_pass_359 : decode cX6_pass 359 = .ok (.getfield 18, 3) := by decide +kernel
theorem dX6_pass_362 : decode cX6_pass 362 = .ok (.iload_n 2, 1) := by decide +kernel
theorem dX6_pass_363 : decode cX6_pass 363 = .ok (.aaload, 1) := by decide +kernel
theorem dX6_pass_364 : decode cX6_pass 364 = .ok (.iconst 2, 1) := by decide +kernel
theorem dX6_pass_365 : decode cX6_pass 365 = .ok (.dup2, 1) := by decide +kernel
theorem dX6_pass_366 : decode cX6_pass 366 = .ok (.iaload, 1) := by decide +kernel
theorem dX6_pass_367 : decode cX6_pass 367 = .ok (.iconst 1, 1) := by decide +kernel
theorem dX6_pass_368 : decode cX6_pass 368 = .ok (.isub, 1) := by decide +kernel
theorem dX6_pass_369 : decode cX6_pass 369 = .ok (.iastore, 1) := by decide +kernel
theorem dX6_pass_370 : decode cX6_pass 370 = .ok (.aload 6, 2) := by decide +kernel
theorem dX6_pass_372 : decode cX6_pass 372 = .ok (.dup, 1) := by decide +kernel
theorem dX6_pass_373 : decode cX6_pass 373 = .ok (.getfield 115, 3) := by decide +kernel
theorem dX6_pass_376 : decode cX6_pass 376 = .ok (.iconst 1, 1) := by decide +kernel
theorem dX6_pass_377 : decode cX6_pass 377 = .ok (.iadd, 1) := by decide +kernel
theorem dX6_pass_378 : decode cX6_pass 378 = .ok (.putfield 115, 3) := by decide +kernel
theorem dX6_pass_381 : decode cX6_pass 381 = .ok (.iinc 1 1, 3) := by decide +kernel
theorem dX6_pass_384 : decode cX6_pass 384 = .ok (.iinc 4 1, 3) := by decide +kernel
theorem dX6_pass_387 : decode cX6_pass 387 = .ok (.goto (-266), 3) := by decide +kernel
theorem dX6_pass_390 : decode cX6_pass 390 = .ok (.iinc 2 1, 3) := by decide +kernel
theorem dX6_pass_393 : decode cX6_pass 393 = .ok (.goto (-302), 3) := by decide +kernel
theorem dX6_pass_396 : decode cX6_pass 396 = .ok (.aload_n 0, 1) := by decide +kernel
theorem dX6_pass_397 : decode cX6_pass 397 = .ok (.getfield 26, 3) := by decide +kernel
theorem dX6_pass_400 : decode cX6_pass 400 = .ok (.astore_n 2, 1) := by decide +kernel
theorem dX6_pass_401 : decode cX6_pass 401 = .ok (.aload_n 2, 1) := by decide +kernel
theorem dX6_pass_402 : decode cX6_pass 402 = .ok (.arraylength, 1) := by decide +kernel
theorem dX6_pass_403 : decode cX6_pass 403 = .ok (.istore_n 3, 1) := by decide +kernel
theorem dX6_pass_404 : decode cX6_pass 404 = .ok (.iconst 0, 1) := by decide +kernel
theorem dX6_pass_405 : decode cX6_pass 405 = .ok (.istore 4, 2) := by decide +kernel
theorem dX6_pass_407 : decode cX6_pass 407 = .ok (.iload 4, 2) := by decide +kernel
theorem dX6_pass_409 : decode cX6_pass 409 = .ok (.iload_n 3, 1) := by decide +kernel
theorem dX6_pass_410 : decode cX6_pass 410 = .ok (.if_icmp .ge 72, 3) := by decide +kernel
theorem dX6_pass_413 : decode cX6_pass 413 = .ok (.aload_n 2, 1) := by decide +kernel
theorem dX6_pass_414 : decode cX6_pass 414 = .ok (.iload 4, 2) := by decide +kernel
theorem dX6_pass_416 : decode cX6_pass 416 = .ok (.aaload, 1) := by decide +kernel
theorem dX6_pass_417 : decode cX6_pass 417 = .ok (.astore 5, 2) := by decide +kernel
theorem dX6_pass_419 : decode cX6_pass 419 = .ok (.aload 5, 2) := by decide +kernel
theorem dX6_pass_421 : decode cX6_pass 421 = .ok (.iconst 1, 1) := by decide +kernel
theorem dX6_pass_422 : decode cX6_pass 422 = .ok (.iaload, 1) := by decide +kernel
theorem dX6_pass_423 : decode cX6_pass 423 = .ok (.ifCond .lt 31, 3) := by decide +kernel
theorem dX6_pass_426 : decode cX6_pass 426 = .ok (.aload 5, 2) := by decide +kernel
theorem dX6_pass_428 : decode cX6_pass 428 = .ok (.iconst 0, 1) := by decide +kernel
theorem dX6_pass_429 : decode cX6_pass 429 = .ok (.dup2, 1) := by decide +kernel
theorem dX6_pass_430 : decode cX6_pass 430 = .ok (.iaload, 1) := by decide +kernel
theorem dX6_pass_431 : decode cX6_pass 431 = .ok (.iconst 1, 1) := by decide +kernel
theorem dX6_pass_432 : decode cX6_pass 432 = .ok (.isub, 1) := by decide +kernel
theorem dX6_pass_433 : decode cX6_pass 433 = .ok (.iastore, 1) := by decide +kernel
theorem dX6_pass_434 : decode cX6_pass 434 = .ok (.aload 5, 2) := by decide +kernel
theorem dX6_pass_436 : decode cX6_pass 436 = .ok (.iconst 2, 1) := by decide +kernel
theorem dX6_pass_437 : decode cX6_pass 437 = .ok (.dup2, 1) := by decide +kernel
theorem dX6_pass_438 : decode cX6_pass 438 = .ok (.iaload, 1) := by decide +kernel
theorem dX6_pass_439 : decode cX6_pass 439 = .ok (.iconst 1, 1) := by decide +kernel
theorem dX6_pass_440 : decode cX6_pass 440 = .ok (.iadd, 1) := by decide +kernel
theorem dX6_pass_441 : decode cX6_pass 441 = .ok (.iastore, 1) := by decide +kernel
theorem dX6_pass_442 : decode cX6_pass 442 = .ok (.aload 5, 2) := by decide +kernel
theorem dX6_pass_444 : decode cX6_pass 444 = .ok (.iconst 0, 1) := by decide +kernel
theorem dX6_pass_445 : decode cX6_pass 445 = .ok (.iaload, 1) := by decide +kernel
theorem dX6_pass_446 : decode cX6_pass 446 = .ok (.ifCond .ne 8, 3) := by decide +kernel
theorem dX6_pass_449 : decode cX6_pass 449 = .ok (.aload 5, 2) := by decide +kernel
theorem dX6_pass_451 : decode cX6_pass 451 = .ok (.iconst 1, 1) := by decide +kernel
theorem dX6_pass_452 : decode cX6_pass 452 = .ok (.iconst (-1), 1) := by decide +kernel
theorem dX6_pass_453 : decode cX6_pass 453 = .ok (.iastore, 1) := by decide +kernel
theorem dX6_pass_454 : decode cX6_pass 454 = .ok (.aload 5, 2) := by decide +kernel
theorem dX6_pass_456 : decode cX6_pass 456 = .ok (.iconst 1, 1) := by decide +kernel
theorem dX6_pass_457 : decode cX6_pass 457 = .ok (.iaload, 1) := by decide +kernel
theorem dX6_pass_458 : decode cX6_pass 458 = .ok (.ifCond .ge 18, 3) := by decide +kernel
theorem dX6_pass_461 : decode cX6_pass 461 = .ok (.aload 5, 2) := by decide +kernel
theorem dX6_pass_463 : decode cX6_pass 463 = .ok (.iconst 0, 1) := by decide +kernel
theorem dX6_pass_464 : decode cX6_pass 464 = .ok (.bipush 24, 2) := by decide +kernel
theorem dX6_pass_466 : decode cX6_pass 466 = .ok (.aload 5, 2) := by decide +kernel
theorem dX6_pass_468 : decode cX6_pass 468 = .ok (.iconst 0, 1) := by decide +kernel
theorem dX6_pass_469 : decode cX6_pass 469 = .ok (.iaload, 1) := by decide +kernel
theorem dX6_pass_470 : decode cX6_pass 470 = .ok (.iconst 2, 1) := by decide +kernel
theorem dX6_pass_471 : decode cX6_pass 471 = .ok (.iadd, 1) := by decide +kernel
theorem dX6_pass_472 : decode cX6_pass 472 = .ok (.invokestatic 88, 3) := by decide +kernel
theorem dX6_pass_475 : decode cX6_pass 475 = .ok (.iastore, 1) := by decide +kernel
theorem dX6_pass_476 : decode cX6_pass 476 = .ok (.iinc 4 1, 3) := by decide +kernel
theorem dX6_pass_479 : decode cX6_pass 479 = .ok (.goto (-72), 3) := by decide +kernel
theorem dX6_pass_482 : decode cX6_pass 482 = .ok (.aload_n 0, 1) := by decide +kernel
theorem dX6_pass_483 : decode cX6_pass 483 = .ok (.getfield 39, 3) := by decide +kernel
theorem dX6_pass_486 : decode cX6_pass 486 = .ok (.bipush 12, 2) := by decide +kernel
theorem dX6_pass_488 : decode cX6_pass 488 = .ok (.irem, 1) := by decide +kernel
theorem dX6_pass_489 : decode cX6_pass 489 = .ok (.bipush 11, 2) := by decide +kernel
theorem dX6_pass_491 : decode cX6_pass 491 = .ok (.if_icmp .ne 132, 3) := by decide +kernel
theorem dX6_pass_494 : decode cX6_pass 494 = .ok (.iconst 0, 1) := by decide +kernel
theorem dX6_pass_495 : decode cX6_pass 495 = .ok (.istore_n 2, 1) := by decide +kernel
theorem dX6_pass_496 : decode cX6_pass 496 = .ok (.iload_n 2, 1) := by decide +kernel
theorem dX6_pass_497 : decode cX6_pass 497 = .ok (.aload_n 0, 1) := by decide +kernel
theorem dX6_pass_498 : decode cX6_pass 498 = .ok (.getfield 35, 3) := by decide +kernel
theorem dX6_pass_501 : decode cX6_pass 501 = .ok (.arraylength, 1) := by decide +kernel
theorem dX6_pass_502 : decode cX6_pass 502 = .ok (.if_icmp .ge 33, 3) := by decide +kernel
theorem dX6_pass_505 : decode cX6_pass 505 = .ok (.aload_n 0, 1) := by decide +kernel
theorem dX6_pass_506 : decode cX6_pass 506 = .ok (.getfield 31, 3) := by decide +kernel
theorem dX6_pass_509 : decode cX6_pass 509 = .ok (.aload_n 0, 1) := by decide +kernel
theorem dX6_pass_510 : decode cX6_pass 510 = .ok (.getfield 35, 3) := by decide +kernel
theorem dX6_pass_513 : decode cX6_pass 513 = .ok (.iload_n 2, 1) := by decide +kernel
theorem dX6_pass_514 : decode cX6_pass 514 = .ok (.aaload, 1) := by decide +kernel
theorem dX6_pass_515 : decode cX6_pass 515 = .ok (.iconst 0, 1) := by decide +kernel
theorem dX6_pass_516 : decode cX6_pass 516 = .ok (.iaload, 1) := by decide +kernel
theorem dX6_pass_517 : decode cX6_pass 517 = .ok (.aaload, 1) := by decide +kernel
theorem dX6_pass_518 : decode cX6_pass 518 = .ok (.dup, 1) := by decide +kernel
theorem dX6_pass_519 : decode cX6_pass 519 = .ok (.getfield 118, 3) := by decide +kernel
theorem dX6_pass_522 : decode cX6_pass 522 = .ok (.iconst 3, 1) := by decide +kernel
theorem dX6_pass_523 : decode cX6_pass 523 = .ok (.iload_n 2, 1) := by decide +kernel
theorem dX6_pass_524 : decode cX6_pass 524 = .ok (.isub, 1) := by decide +kernel
theorem dX6_pass_525 : decode cX6_pass 525 = .ok (.iadd, 1) := by decide +kernel
theorem dX6_pass_526 : decode cX6_pass 526 = .ok (.putfield 118, 3) := by decide +kernel
theorem dX6_pass_529 : decode cX6_pass 529 = .ok (.iinc 2 1, 3) := by decide +kernel
theorem dX6_pass_532 : decode cX6_pass 532 = .ok (.goto (-36), 3) := by decide +kernel
theorem dX6_pass_535 : decode cX6_pass 535 = .ok (.aload_n 0, 1) := by decide +kernel
theorem dX6_pass_536 : decode cX6_pass 536 = .ok (.getfield 35, 3) := by decide +kernel
theorem dX6_pass_539 : decode cX6_pass 539 = .ok (.arraylength, 1) := by decide +kernel
theorem dX6_pass_540 : decode cX6_pass 540 = .ok (.ifCond .le 25, 3) := by decide +kernel
theorem dX6_pass_543 : decode cX6_pass 543 = .ok (.aload_n 0, 1) := by decide +kernel
theorem dX6_pass_544 : decode cX6_pass 544 = .ok (.getfield 31, 3) := by decide +kernel
theorem dX6_pass_547 : decode cX6_pass 547 = .ok (.aload_n 0, 1) := by decide +kernel
theorem dX6_pass_548 : decode cX6_pass 548 = .ok (.getfield 35, 3) := by decide +kernel
theorem dX6_pass_551 : decode cX6_pass 551 = .ok (.iconst 0, 1) := by decide +kernel
theorem dX6_pass_552 : decode cX6_pass 552 = .ok (.aaload, 1) := by decide +kernel
theorem dX6_pass_553 : decode cX6_pass 553 = .ok (.iconst 0, 1) := by decide +kernel
theorem dX6_pass_554 : decode cX6_pass 554 = .ok (.iaload, 1) := by decide +kernel
theorem dX6_pass_555 : decode cX6_pass 555 = .ok (.aaload, 1) := by decide +kernel
theorem dX6_pass_556 : decode cX6_pass 556 = .ok (.dup, 1) := by decide +kernel
theorem dX6_pass_557 : decode cX6_pass 557 = .ok (.getfield 54, 3) := by decide +kernel
theorem dX6_pass_560 : decode cX6_pass 560 = .ok (.iconst 5, 1) := by decide +kernel
theorem dX6_pass_561 : decode cX6_pass 561 = .ok (.iadd, 1) := by decide +kernel
theorem dX6_pass_562 : decode cX6_pass 562 = .ok (.putfield 54, 3) := by decide +kernel
theorem dX6_pass_565 : decode cX6_pass 565 = .ok (.aload_n 0, 1) := by decide +kernel
theorem dX6_pass_566 : decode cX6_pass 566 = .ok (.iconst 0, 1) := by decide +kernel
theorem dX6_pass_567 : decode cX6_pass 567 = .ok (.anewarray 16, 3) := by decide +kernel
theorem dX6_pass_570 : decode cX6_pass 570 = .ok (.putfield 35, 3) := by decide +kernel
theorem dX6_pass_573 : decode cX6_pass 573 = .ok (.iconst 0, 1) := by decide +kernel
theorem dX6_pass_574 : decode cX6_pass 574 = .ok (.istore_n 2, 1) := by decide +kernel
theorem dX6_pass_575 : decode cX6_pass 575 = .ok (.iload_n 2, 1) := by decide +kernel
theorem dX6_pass_576 : decode cX6_pass 576 = .ok (.aload_n 0, 1) := by decide +kernel
theorem dX6_pass_577 : decode cX6_pass 577 = .ok (.getfield 18, 3) := by decide +kernel
theorem dX6_pass_580 : decode cX6_pass 580 = .ok (.arraylength, 1) := by decide +kernel
theorem dX6_pass_581 : decode cX6_pass 581 = .ok (.if_icmp .ge 42, 3) := by decide +kernel
theorem dX6_pass_584 : decode cX6_pass 584 = .ok (.aload_n 0, 1) := by decide +kernel
theorem dX6_pass_585 : decode cX6_pass 585 = .ok (.iload_n 2, 1) := by decide +kernel
theorem dX6_pass_586 : decode cX6_pass 586 = .ok (.invokevirtual 70, 3) := by decide +kernel
theorem dX6_pass_589 : decode cX6_pass 589 = .ok (.ifCond .ne 28, 3) := by decide +kernel
theorem dX6_pass_592 : decode cX6_pass 592 = .ok (.aload_n 0, 1) := by decide +kernel
theorem dX6_pass_593 : decode cX6_pass 593 = .ok (.getfield 23, 3) := by decide +kernel
theorem dX6_pass_596 : decode cX6_pass 596 = .ok (.iload_n 2, 1) := by decide +kernel
theorem dX6_pass_597 : decode cX6_pass 597 = .ok (.aaload, 1) := by decide +kernel
theorem dX6_pass_598 : decode cX6_pass 598 = .ok (.arraylength, 1) := by decide +kernel
theorem dX6_pass_599 : decode cX6_pass 599 = .ok (.ifCond .le 18, 3) := by decide +kernel
theorem dX6_pass_602 : decode cX6_pass 602 = .ok (.aload_n 0, 1) := by decide +kernel
theorem dX6_pass_603 : decode cX6_pass 603 = .ok (.aload_n 0, 1) := by decide +kernel
theorem dX6_pass_604 : decode cX6_pass 604 = .ok (.getfield 23, 3) := by decide +kernel
theorem dX6_pass_607 : decode cX6_pass 607 = .ok (.iload_n 2, 1) := by decide +kernel
theorem dX6_pass_608 : decode cX6_pass 608 = .ok (.aaload, 1) := by decide +kernel
theorem dX6_pass_609 : decode cX6_pass 609 = .ok (.iconst 0, 1) := by decide +kernel
theorem dX6_pass_610 : decode cX6_pass 610 = .ok (.iaload, 1) := by decide +kernel
theorem dX6_pass_611 : decode cX6_pass 611 = .ok (.invokevirtual 99, 3) := by decide +kernel
theorem dX6_pass_614 : decode cX6_pass 614 = .ok (.goto (-30), 3) := by decide +kernel
theorem dX6_pass_617 : decode cX6_pass 617 = .ok (.iinc 2 1, 3) := by decide +kernel
theorem dX6_pass_620 : decode cX6_pass 620 = .ok (.goto (-45), 3) := by decide +kernel
theorem dX6_pass_623 : decode cX6_pass 623 = .ok (.aload_n 0, 1) := by decide +kernel
theorem dX6_pass_624 : decode cX6_pass 624 = .ok (.dup, 1) := by decide +kernel
theorem dX6_pass_625 : decode cX6_pass 625 = .ok (.getfield 39, 3) := by decide +kernel
theorem dX6_pass_628 : decode cX6_pass 628 = .ok (.iconst 1, 1) := by decide +kernel
theorem dX6_pass_629 : decode cX6_pass 629 = .ok (.iadd, 1) := by decide +kernel
theorem dX6_pass_630 : decode cX6_pass 630 = .ok (.putfield 39, 3) := by decide +kernel
theorem dX6_pass_633 : decode cX6_pass 633 = .ok (.aload_n 0, 1) := by decide +kernel
theorem dX6_pass_634 : decode cX6_pass 634 = .ok (.dup, 1) := by decide +kernel
theorem dX6_pass_635 : decode cX6_pass 635 = .ok (.getfield 42, 3) := by decide +kernel
theorem dX6_pass_638 : decode cX6_pass 638 = .ok (.iload_n 1, 1) := by decide +kernel
theorem dX6_pass_639 : decode cX6_pass 639 = .ok (.iadd, 1) := by decide +kernel
theorem dX6_pass_640 : decode cX6_pass 640 = .ok (.putfield 42, 3) := by decide +kernel
theorem dX6_pass_643 : decode cX6_pass 643 = .ok (.iload_n 1, 1) := by decide +kernel
theorem dX6_pass_644 : decode cX6_pass 644 = .ok (.ireturn, 1) := by decide +kernel
theorem dX6_isSame_0 : decode cX6_isSame 0 = .ok (.iconst 0, 1) := by decide +kernel
theorem dX6_isSame_1 : decode cX6_isSame 1 = .ok (.istore_n 2, 1) := by decide +kernel
theorem dX6_isSame_2 : decode cX6_isSame 2 = .ok (.iconst 0, 1) := by decide +kernel
theorem dX6_isSame_3 : decode cX6_isSame 3 = .ok (.istore_n 3, 1) := by decide +kernel
theorem dX6_isSame_4 : decode cX6_isSame 4 = .ok (.iconst 0, 1) := by decide +kernel
theorem dX6_isSame_5 : decode cX6_isSame 5 = .ok (.istore 4, 2) := by decide +kernel
theorem dX6_isSame_7 : decode cX6_isSame 7 = .ok (.iconst 0, 1) := by decide +kernel
theorem dX6_isSame_8 : decode cX6_isSame 8 = .ok (.istore 5, 2) := by decide +kernel
theorem dX6_isSame_10 : decode cX6_isSame 10 = .ok (.iconst 0, 1) := by decide +kernel
theorem dX6_isSame_11 : decode cX6_isSame 11 = .ok (.istore 6, 2) := by decide +kernel
theorem dX6_isSame_13 : decode cX6_isSame 13 = .ok (.iconst 0, 1) := by decide +kernel
theorem dX6_isSame_14 : decode cX6_isSame 14 = .ok (.istore 7, 2) := by decide +kernel
theorem dX6_isSame_16 : decode cX6_isSame 16 = .ok (.iload 7, 2) := by decide +kernel
theorem dX6_isSame_18 : decode cX6_isSame 18 = .ok (.aload_n 0, 1) := by decide +kernel
theorem dX6_isSame_19 : decode cX6_isSame 19 = .ok (.getfield 18, 3) := by decide +kernel
theorem dX6_isSame_22 : decode cX6_isSame 22 = .ok (.arraylength, 1) := by decide +kernel
theorem dX6_isSame_23 : decode cX6_isSame 23 = .ok (.if_icmp .ge 230, 3) := by decide +kernel
theorem dX6_isSame_26 : decode cX6_isSame 26 = .ok (.aload_n 0, 1) := by decide +kernel
theorem dX6_isSame_27 : decode cX6_isSame 27 = .ok (.getfield 18, 3) := by decide +kernel
theorem dX6_isSame_30 : decode cX6_isSame 30 = .ok (.iload 7, 2) := by decide +kernel
theorem dX6_isSame_32 : decode cX6_isSame 32 = .ok (.aaload, 1) := by decide +kernel
theorem dX6_isSame_33 : decode cX6_isSame 33 = .ok (.astore 8, 2) := by decide +kernel
theorem dX6_isSame_35 : decode cX6_isSame 35 = .ok (.bipush 10, 2) := by decide +kernel
theorem dX6_isSame_37 : decode cX6_isSame 37 = .ok (.newarray .int, 2) := by decide +kernel
theorem dX6_isSame_39 : decode cX6_isSame 39 = .ok (.dup, 1) := by decide +kernel
theorem dX6_isSame_40 : decode cX6_isSame 40 = .ok (.iconst 0, 1) := by decide +kernel
theorem dX6_isSame_41 : decode cX6_isSame 41 = .ok (.aload_n 0, 1) := by decide +kernel
theorem dX6_isSame_42 : decode cX6_isSame 42 = .ok (.iload 7, 2) := by decide +kernel
theorem dX6_isSame_44 : decode cX6_isSame 44 = .ok (.invokevirtual 74, 3) := by decide +kernel
theorem dX6_isSame_47 : decode cX6_isSame 47 = .ok (.iastore, 1) := by decide +kernel
theorem dX6_isSame_48 : decode cX6_isSame 48 = .ok (.dup, 1) := by decide +kernel
theorem dX6_isSame_49 : decode cX6_isSame 49 = .ok (.iconst 1, 1) := by decide +kernel
theorem dX6_isSame_50 : decode cX6_isSame 50 = .ok (.aload 8, 2) := by decide +kernel
theorem dX6_isSame_52 : decode cX6_isSame 52 = .ok (.iconst 1, 1) := by decide +kernel
theorem dX6_isSame_53 : decode cX6_isSame 53 = .ok (.iaload, 1) := by decide +kernel
theorem dX6_isSame_54 : decode cX6_isSame 54 = .ok (.iastore, 1) := by decide +kernel
theorem dX6_isSame_55 : decode cX6_isSame 55 = .ok (.dup, 1) := by decide +kernel
theorem dX6_isSame_56 : decode cX6_isSame 56 = .ok (.iconst 2, 1) := by decide +kernel
theorem dX6_isSame_57 : decode cX6_isSame 57 = .ok (.aload 8, 2) := by decide +kernel
theorem dX6_isSame_59 : decode cX6_isSame 59 = .ok (.iconst 2, 1) := by decide +kernel
theorem dX6_isSame_60 : decode cX6_isSame 60 = .ok (.iaload, 1) := by decide +kernel
theorem dX6_isSame_61 : decode cX6_isSame 61 = .ok (.iastore, 1) := by decide +kernel
theorem dX6_isSame_62 : decode cX6_isSame 62 = .ok (.dup, 1) := by decide +kernel
theorem dX6_isSame_63 : decode cX6_isSame 63 = .ok (.iconst 3, 1) := by decide +kernel
theorem dX6_isSame_64 : decode cX6_isSame 64 = .ok (.aload 8, 2) := by decide +kernel
theorem dX6_isSame_66 : decode cX6_isSame 66 = .ok (.iconst 3, 1) := by decide +kernel
theorem dX6_isSame_67 : decode cX6_isSame 67 = .ok (.iaload, 1) := by decide +kernel
theorem dX6_isSame_68 : decode cX6_isSame 68 = .ok (.iastore, 1) := by decide +kernel
theorem dX6_isSame_69 : decode cX6_isSame 69 = .ok (.dup, 1) := by decide +kernel
theorem dX6_isSame_70 : decode cX6_isSame 70 = .ok (.iconst 4, 1) := by decide +kernel
theorem dX6_isSame_71 : decode cX6_isSame 71 = .ok (.aload_n 0, 1) := by decide +kernel
theorem dX6_isSame_72 : decode cX6_isSame 72 = .ok (.iload 7, 2) := by decide +kernel
theorem dX6_isSame_74 : decode cX6_isSame 74 = .ok (.invokevirtual 60, 3) := by decide +kernel
theorem dX6_isSame_77 : decode cX6_isSame 77 = .ok (.iastore, 1) := by decide +kernel
theorem dX6_isSame_78 : decode cX6_isSame 78 = .ok (.dup, 1) := by decide +kernel
theorem dX6_isSame_79 : decode cX6_isSame 79 = .ok (.iconst 5, 1) := by decide +kernel
theorem dX6_isSame_80 : decode cX6_isSame 80 = .ok (.aload_n 0, 1) := by decide +kernel
theorem dX6_isSame_81 : decode cX6_isSame 81 = .ok (.iload 7, 2) := by decide +kernel
theorem dX6_isSame_83 : decode cX6_isSame 83 = .ok (.invokevirtual 70, 3) := by decide +kernel
theorem dX6_isSame_86 : decode cX6_isSame 86 = .ok (.ifCond .eq 7, 3) := by decide +kernel
theorem dX6_isSame_89 : decode cX6_isSame 89 = .ok (.iconst 1, 1) := by decide +kernel
theorem dX6_isSame_90 : decode cX6_isSame 90 = .ok (.goto 4, 3) := by decide +kernel
theorem dX6_isSame_93 : decode cX6_isSame 93 = .ok (.iconst 0, 1) := by decide +kernel
theorem dX6_isSame_94 : decode cX6_isSame 94 = .ok (.iastore, 1) := by decide +kernel
theorem dX6_isSame_95 : decode cX6_isSame 95 = .ok (.dup, 1) := by decide +kernel
theorem dX6_isSame_96 : decode cX6_isSame 96 = .ok (.bipush 6, 2) := by decide +kernel
theorem dX6_isSame_98 : decode cX6_isSame 98 = .ok (.aload_n 0, 1) := by decide +kernel
theorem dX6_isSame_99 : decode cX6_isSame 99 = .ok (.getfield 13, 3) := by decide +kernel
theorem dX6_isSame_102 : decode cX6_isSame 102 = .ok (.iload 7, 2) := by decide +kernel
theorem dX6_isSame_104 : decode cX6_isSame 104 = .ok (.if_icmp .ne 7, 3) := by decide +kernel
theorem dX6_isSame_107 : decode cX6_isSame 107 = .ok (.iconst 1, 1) := by decide +kernel
theorem dX6_isSame_108 : decode cX6_isSame 108 = .ok (.goto 4, 3) := by decide +kernel
theorem dX6_isSame_111 : decode cX6_isSame 111 = .ok (.iconst 0, 1) := by decide +kernel
theorem dX6_isSame_112 : decode cX6_isSame 112 = .ok (.iastore, 1) := by decide +kernel
theorem dX6_isSame_113 : decode cX6_isSame 113 = .ok (.dup, 1) := by decide +kernel
theorem dX6_isSame_114 : decode cX6_isSame 114 = .ok (.bipush 7, 2) := by decide +kernel
theorem dX6_isSame_116 : decode cX6_isSame 116 = .ok (.aload_n 0, 1) := by decide +kernel
theorem dX6_isSame_117 : decode cX6_isSame 117 = .ok (.getfield 23, 3) := by decide +kernel
theorem dX6_isSame_120 : decode cX6_isSame 120 = .ok (.iload 7, 2) := by decide +kernel
theorem dX6_isSame_122 : decode cX6_isSame 122 = .ok (.aaload, 1) := by decide +kernel
theorem dX6_isSame_123 : decode cX6_isSame 123 = .ok (.arraylength, 1) := by decide +kernel
theorem dX6_isSame_124 : decode cX6_isSame 124 = .ok (.iastore, 1) := by decide +kernel
theorem dX6_isSame_125 : decode cX6_isSame 125 = .ok (.dup, 1) := by decide +kernel
theorem dX6_isSame_126 : decode cX6_isSame 126 = .ok (.bipush 8, 2) := by decide +kernel
theorem dX6_isSame_128 : decode cX6_isSame 128 = .ok (.aload 8, 2) := by decide +kernel
theorem dX6_isSame_130 : decode cX6_isSame 130 = .ok (.iconst 4, 1) := by decide +kernel
theorem dX6_isSame_131 : decode cX6_isSame 131 = .ok (.iaload, 1) := by decide +kernel
theorem dX6_isSame_132 : decode cX6_isSame 132 = .ok (.iastore, 1) := by decide +kernel
theorem dX6_isSame_133 : decode cX6_isSame 133 = .ok (.dup, 1) := by decide +kernel
theorem dX6_isSame_134 : decode cX6_isSame 134 = .ok (.bipush 9, 2) := by decide +kernel
theorem dX6_isSame_136 : decode cX6_isSame 136 = .ok (.aload 8, 2) := by decide +kernel
theorem dX6_isSame_138 : decode cX6_isSame 138 = .ok (.iconst 5, 1) := by decide +kernel
theorem dX6_isSame_139 : decode cX6_isSame 139 = .ok (.iaload, 1) := by decide +kernel
theorem dX6_isSame_140 : decode cX6_isSame 140 = .ok (.iastore, 1) := by decide +kernel
theorem dX6_isSame_141 : decode cX6_isSame 141 = .ok (.astore 9, 2) := by decide +kernel
theorem dX6_isSame_143 : decode cX6_isSame 143 = .ok (.iconst 0, 1) := by decide +kernel
theorem dX6_isSame_144 : decode cX6_isSame 144 = .ok (.istore 10, 2) := by decide +kernel
theorem dX6_isSame_146 : decode cX6_isSame 146 = .ok (.iload 10, 2) := by decide +kernel
theorem dX6_isSame_148 : decode cX6_isSame 148 = .ok (.bipush 10, 2) := by decide +kernel
theorem dX6_isSame_150 : decode cX6_isSame 150 = .ok (.if_icmp .ge 27, 3) := by decide +kernel
theorem dX6_isSame_153 : decode cX6_isSame 153 = .ok (.aload_n 1, 1) := by decide +kernel
theorem dX6_isSame_154 : decode cX6_isSame 154 = .ok (.iload 7, 2) := by decide +kernel
theorem dX6_isSame_156 : decode cX6_isSame 156 = .ok (.iload 10, 2) := by decide +kernel
theorem dX6_isSame_158 : decode cX6_isSame 158 = .ok (.invokevirtual 121, 3) := by decide +kernel
theorem dX6_isSame_161 : decode cX6_isSame 161 = .ok (.aload 9, 2) := by decide +kernel
theorem dX6_isSame_163 : decode cX6_isSame 163 = .ok (.iload 10, 2) := by decide +kernel
theorem dX6_isSame_165 : decode cX6_isSame 165 = .ok (.iaload, 1) := by decide +kernel
theorem dX6_isSame_166 : decode cX6_isSame 166 = .ok (.if_icmp .eq 5, 3) := by decide +kernel
theorem dX6_isSame_169 : decode cX6_isSame 169 = .ok (.iconst 0, 1) := by decide +kernel
theorem dX6_isSame_170 : decode cX6_isSame 170 = .ok (.ireturn, 1) := by decide +kernel
theorem dX6_isSame_171 : decode cX6_isSame 171 = .ok (.iinc 10 1, 3) := by decide +kernel
theorem dX6_isSame_174 : decode cX6_isSame 174 = .ok (.goto (-28), 3) := by decide +kernel
theorem dX6_isSame_177 : decode cX6_isSame 177 = .ok (.iconst 0, 1) := by decide +kernel
theorem dX6_isSame_178 : decode cX6_isSame 178 = .ok (.istore 10, 2) := by decide +kernel
theorem dX6_isSame_180 : decode cX6_isSame 180 = .ok (.iload 10, 2) := by decide +kernel
theorem dX6_isSame_182 : decode cX6_isSame 182 = .ok (.aload_n 0, 1) := by decide +kernel
theorem dX6_isSame_183 : decode cX6_isSame 183 = .ok (.getfield 23, 3) := by decide +kernel
theorem dX6_isSame_186 : decode cX6_isSame 186 = .ok (.iload 7, 2) := by decide +kernel
theorem dX6_isSame_188 : decode cX6_isSame 188 = .ok (.aaload, 1) := by decide +kernel
theorem dX6_isSame_189 : decode cX6_isSame 189 = .ok (.arraylength, 1) := by decide +kernel
theorem dX6_isSame_190 : decode cX6_isSame 190 = .ok (.if_icmp .ge 32, 3) := by decide +kernel
theorem dX6_isSame_193 : decode cX6_isSame 193 = .ok (.aload_n 1, 1) := by decide +kernel
theorem dX6_isSame_194 : decode cX6_isSame 194 = .ok (.iload 7, 2) := by decide +kernel
theorem dX6_isSame_196 : decode cX6_isSame 196 = .ok (.iload 10, 2) := by decide +kernel
theorem dX6_isSame_198 : decode cX6_isSame 198 = .ok (.invokevirtual 125, 3) := by decide +kernel
theorem dX6_isSame_201 : decode cX6_isSame 201 = .ok (.aload_n 0, 1) := by decide +kernel
theorem dX6_isSame_202 : decode cX6_isSame 202 = .ok (.getfield 23, 3) := by decide +kernel
theorem dX6_isSame_205 : decode cX6_isSame 205 = .ok (.iload 7, 2) := by decide +kernel
theorem dX6_isSame_207 : decode cX6_isSame 207 = .ok (.aaload, 1) := by decide +kernel
theorem dX6_isSame_208 : decode cX6_isSame 208 = .ok (.iload 10, 2) := by decide +kernel
theorem dX6_isSame_210 : decode cX6_isSame 210 = .ok (.iaload, 1) := by decide +kernel
theorem dX6_isSame_211 : decode cX6_isSame 211 = .ok (.if_icmp .eq 5, 3) := by decide +kernel
theorem dX6_isSame_214 : decode cX6_isSame 214 = .ok (.iconst 0, 1) := by decide +kernel
theorem dX6_isSame_215 : decode cX6_isSame 215 = .ok (.ireturn, 1) := by decide +kernel
theorem dX6_isSame_216 : decode cX6_isSame 216 = .ok (.iinc 10 1, 3) := by decide +kernel
theorem dX6_isSame_219 : decode cX6_isSame 219 = .ok (.goto (-39), 3) := by decide +kernel
theorem dX6_isSame_222 : decode cX6_isSame 222 = .ok (.iload_n 2, 1) := by decide +kernel
theorem dX6_isSame_223 : decode cX6_isSame 223 = .ok (.aload 9, 2) := by decide +kernel
theorem dX6_isSame_225 : decode cX6_isSame 225 = .ok (.iconst 5, 1) := by decide +kernel
theorem dX6_isSame_226 : decode cX6_isSame 226 = .ok (.iaload, 1) := by decide +kernel
theorem dX6_isSame_227 : decode cX6_isSame 227 = .ok (.iadd, 1) := by decide +kernel
theorem dX6_isSame_228 : decode cX6_isSame 228 = .ok (.istore_n 2, 1) := by decide +kernel
theorem dX6_isSame_229 : decode cX6_isSame 229 = .ok (.iload 5, 2) := by decide +kernel
theorem dX6_isSame_231 : decode cX6_isSame 231 = .ok (.aload 8, 2) := by decide +kernel
theorem dX6_isSame_233 : decode cX6_isSame 233 = .ok (.iconst 2, 1) := by decide +kernel
theorem dX6_isSame_234 : decode cX6_isSame 234 = .ok (.iaload, 1) := by decide +kernel
theorem dX6_isSame_235 : decode cX6_isSame 235 = .ok (.iadd, 1) := by decide +kernel
theorem dX6_isSame_236 : decode cX6_isSame 236 = .ok (.istore 5, 2) := by decide +kernel
theorem dX6_isSame_238 : decode cX6_isSame 238 = .ok (.iload 6, 2) := by decide +kernel
theorem dX6_isSame_240 : decode cX6_isSame 240 = .ok (.aload 8, 2) := by decide +kernel
theorem dX6_isSame_242 : decode cX6_isSame 242 = .ok (.iconst 4, 1) := by decide +kernel
theorem dX6_isSame_243 : decode cX6_isSame 243 = .ok (.iaload, 1) := by decide +kernel
theorem dX6_isSame_244 : decode cX6_isSame 244 = .ok (.iadd, 1) := by decide +kernel
theorem dX6_isSame_245 : decode cX6_isSame 245 = .ok (.istore 6, 2) := by decide +kernel
theorem dX6_isSame_247 : decode cX6_isSame 247 = .ok (.iinc 7 1, 3) := by decide +kernel
theorem dX6_isSame_250 : decode cX6_isSame 250 = .ok (.goto (-234), 3) := by decide +kernel
theorem dX6_isSame_253 : decode cX6_isSame 253 = .ok (.iconst 0, 1) := by decide +kernel
theorem dX6_isSame_254 : decode cX6_isSame 254 = .ok (.istore 7, 2) := by decide +kernel
theorem dX6_isSame_256 : decode cX6_isSame 256 = .ok (.iload 7, 2) := by decide +kernel
theorem dX6_isSame_258 : decode cX6_isSame 258 = .ok (.aload_n 0, 1) := by decide +kernel
theorem dX6_isSame_259 : decode cX6_isSame 259 = .ok (.getfield 26, 3) := by decide +kernel
theorem dX6_isSame_262 : decode cX6_isSame 262 = .ok (.arraylength, 1) := by decide +kernel
theorem dX6_isSame_263 : decode cX6_isSame 263 = .ok (.if_icmp .ge 47, 3) := by decide +kernel
theorem dX6_isSame_266 : decode cX6_isSame 266 = .ok (.iconst 0, 1) := by decide +kernel
theorem dX6_isSame_267 : decode cX6_isSame 267 = .ok (.istore 8, 2) := by decide +kernel
theorem dX6_isSame_269 : decode cX6_isSame 269 = .ok (.iload 8, 2) := by decide +kernel
theorem dX6_isSame_271 : decode cX6_isSame 271 = .ok (.iconst 3, 1) := by decide +kernel
theorem dX6_isSame_272 : decode cX6_isSame 272 = .ok (.if_icmp .ge 32, 3) := by decide +kernel
theorem dX6_isSame_275 : decode cX6_isSame 275 = .ok (.aload_n 1, 1) := by decide +kernel
theorem dX6_isSame_276 : decode cX6_isSame 276 = .ok (.iload 7, 2) := by decide +kernel
theorem dX6_isSame_278 : decode cX6_isSame 278 = .ok (.iload 8, 2) := by decide +kernel
theorem dX6_isSame_280 : decode cX6_isSame 280 = .ok (.invokevirtual 128, 3) := by decide +kernel
theorem dX6_isSame_283 : decode cX6_isSame 283 = .ok (.aload_n 0, 1) := by decide +kernel
theorem dX6_isSame_284 : decode cX6_isSame 284 = .ok (.getfield 26, 3) := by decide +kernel
theorem dX6_isSame_287 : decode cX6_isSame 287 = .ok (.iload 7, 2) := by decide +kernel
theorem dX6_isSame_289 : decode cX6_isSame 289 = .ok (.aaload, 1) := by decide +kernel
theorem dX6_isSame_290 : decode cX6_isSame 290 = .ok (.iload 8, 2) := by decide +kernel
theorem dX6_isSame_292 : decode cX6_isSame 292 = .ok (.iaload, 1) := by decide +kernel
theorem dX6_isSame_293 : decode cX6_isSame 293 = .ok (.if_icmp .eq 5, 3) := by decide +kernel
theorem dX6_isSame_296 : decode cX6_isSame 296 = .ok (.iconst 0, 1) := by decide +kernel
theorem dX6_isSame_297 : decode cX6_isSame 297 = .ok (.ireturn, 1) := by decide +kernel
theorem dX6_isSame_298 : decode cX6_isSame 298 = .ok (.iinc 8 1, 3) := by decide +kernel
theorem dX6_isSame_301 : decode cX6_isSame 301 = .ok (.goto (-32), 3) := by decide +kernel
theorem dX6_isSame_304 : decode cX6_isSame 304 = .ok (.iinc 7 1, 3) := by decide +kernel
theorem dX6_isSame_307 : decode cX6_isSame 307 = .ok (.goto (-51), 3) := by decide +kernel
theorem dX6_isSame_310 : decode cX6_isSame 310 = .ok (.iconst 0, 1) := by decide +kernel
theorem dX6_isSame_311 : decode cX6_isSame 311 = .ok (.istore 7, 2) := by decide +kernel
theorem dX6_isSame_313 : decode cX6_isSame 313 = .ok (.iload 7, 2) := by decide +kernel
theorem dX6_isSame_315 : decode cX6_isSame 315 = .ok (.aload_n 0, 1) := by decide +kernel
theorem dX6_isSame_316 : decode cX6_isSame 316 = .ok (.getfield 31, 3) := by decide +kernel
theorem dX6_isSame_319 : decode cX6_isSame 319 = .ok (.arraylength, 1) := by decide +kernel
theorem dX6_isSame_320 : decode cX6_isSame 320 = .ok (.if_icmp .ge 200, 3) := by decide +kernel
theorem dX6_isSame_323 : decode cX6_isSame 323 = .ok (.aload_n 0, 1) := by decide +kernel
theorem dX6_isSame_324 : decode cX6_isSame 324 = .ok (.getfield 31, 3) := by decide +kernel
theorem dX6_isSame_327 : decode cX6_isSame 327 = .ok (.iload 7, 2) := by decide +kernel
theorem dX6_isSame_329 : decode cX6_isSame 329 = .ok (.aaload, 1) := by decide +kernel
theorem dX6_isSame_330 : decode cX6_isSame 330 = .ok (.astore 8, 2) := by decide +kernel
theorem dX6_isSame_332 : decode cX6_isSame 332 = .ok (.bipush 8, 2) := by decide +kernel
theorem dX6_isSame_334 : decode cX6_isSame 334 = .ok (.newarray .int, 2) := by decide +kernel
theorem dX6_isSame_336 : decode cX6_isSame 336 = .ok (.dup, 1) := by decide +kernel
theorem dX6_isSame_337 : decode cX6_isSame 337 = .ok (.iconst 0, 1) := by decide +kernel
theorem dX6_isSame_338 : decode cX6_isSame 338 = .ok (.aload 8, 2) := by decide +kernel
theorem dX6_isSame_340 : decode cX6_isSame 340 = .ok (.getfield 54, 3) := by decide +kernel
theorem dX6_isSame_343 : decode cX6_isSame 343 = .ok (.iastore, 1) := by decide +kernel
theorem dX6_isSame_344 : decode cX6_isSame 344 = .ok (.dup, 1) := by decide +kernel
theorem dX6_isSame_345 : decode cX6_isSame 345 = .ok (.iconst 1, 1) := by decide +kernel
theorem dX6_isSame_346 : decode cX6_isSame 346 = .ok (.aload 8, 2) := by decide +kernel
theorem dX6_isSame_348 : decode cX6_isSame 348 = .ok (.getfield 57, 3) := by decide +kernel
theorem dX6_isSame_351 : decode cX6_isSame 351 = .ok (.iastore, 1) := by decide +kernel
theorem dX6_isSame_352 : decode cX6_isSame 352 = .ok (.dup, 1) := by decide +kernel
theorem dX6_isSame_353 : decode cX6_isSame 353 = .ok (.iconst 2, 1) := by decide +kernel
theorem dX6_isSame_354 : decode cX6_isSame 354 = .ok (.aload 8, 2) := by decide +kernel
theorem dX6_isSame_356 : decode cX6_isSame 356 = .ok (.getfield 64, 3) := by decide +kernel
theorem dX6_isSame_359 : decode cX6_isSame 359 = .ok (.iastore, 1) := by decide +kernel
theorem dX6_isSame_360 : decode cX6_isSame 360 = .ok (.dup, 1) := by decide +kernel
theorem dX6_isSame_361 : decode cX6_isSame 361 = .ok (.iconst 3, 1) := by decide +kernel
theorem dX6_isSame_362 : decode cX6_isSame 362 = .ok (.aload 8, 2) := by decide +kernel
theorem dX6_isSame_364 : decode cX6_isSame 364 = .ok (.getfield 67, 3) := by decide +kernel
theorem dX6_isSame_367 : decode cX6_isSame 367 = .ok (.iastore, 1) := by decide +kernel
theorem dX6_isSame_368 : decode cX6_isSame 368 = .ok (.dup, 1) := by decide +kernel
theorem dX6_isSame_369 : decode cX6_isSame 369 = .ok (.iconst 4, 1) := by decide +kernel
theorem dX6_isSame_370 : decode cX6_isSame 370 = .ok (.aload 8, 2) := by decide +kernel
theorem dX6_isSame_372 : decode cX6_isSame 372 = .ok (.getfield 115, 3) := by decide +kernel
theorem dX6_isSame_375 : decode cX6_isSame 375 = .ok (.iastore, 1) := by decide +kernel
theorem dX6_isSame_376 : decode cX6_isSame 376 = .ok (.dup, 1) := by decide +kernel
theorem dX6_isSame_377 : decode cX6_isSame 377 = .ok (.iconst 5, 1) := by decide +kernel
theorem dX6_isSame_378 : decode cX6_isSame 378 = .ok (.aload 8, 2) := by decide +kernel
theorem dX6_isSame_380 : decode cX6_isSame 380 = .ok (.getfield 118, 3) := by decide +kernel
theorem dX6_isSame_383 : decode cX6_isSame 383 = .ok (.iastore, 1) := by decide +kernel
theorem dX6_isSame_384 : decode cX6_isSame 384 = .ok (.dup, 1) := by decide +kernel
theorem dX6_isSame_385 : decode cX6_isSame 385 = .ok (.bipush 6, 2) := by decide +kernel
theorem dX6_isSame_387 : decode cX6_isSame 387 = .ok (.aload 8, 2) := by decide +kernel
theorem dX6_isSame_389 : decode cX6_isSame 389 = .ok (.getfield 106, 3) := by decide +kernel
theorem dX6_isSame_392 : decode cX6_isSame 392 = .ok (.iastore, 1) := by decide +kernel
theorem dX6_isSame_393 : decode cX6_isSame 393 = .ok (.dup, 1) := by decide +kernel
theorem dX6_isSame_394 : decode cX6_isSame 394 = .ok (.bipush 7, 2) := by decide +kernel
theorem dX6_isSame_396 : decode cX6_isSame 396 = .ok (.aload 8, 2) := by decide +kernel
theorem dX6_isSame_398 : decode cX6_isSame 398 = .ok (.getfield 109, 3) := by decide +kernel
theorem dX6_isSame_401 : decode cX6_isSame 401 = .ok (.iastore, 1) := by decide +kernel
theorem dX6_isSame_402 : decode cX6_isSame 402 = .ok (.astore 9, 2) := by decide +kernel
theorem dX6_isSame_404 : decode cX6_isSame 404 = .ok (.iconst 0, 1) := by decide +kernel
theorem dX6_isSame_405 : decode cX6_isSame 405 = .ok (.istore 10, 2) := by decide +kernel
theorem dX6_isSame_407 : decode cX6_isSame 407 = .ok (.iload 10, 2) := by decide +kernel
theorem dX6_isSame_409 : decode cX6_isSame 409 = .ok (.bipush 8, 2) := by decide +kernel
theorem dX6_isSame_411 : decode cX6_isSame 411 = .ok (.if_icmp .ge 27, 3) := by decide +kernel
theorem dX6_isSame_414 : decode cX6_isSame 414 = .ok (.aload_n 1, 1) := by decide +kernel
theorem dX6_isSame_415 : decode cX6_isSame 415 = .ok (.iload 7, 2) := by decide +kernel
theorem dX6_isSame_417 : decode cX6_isSame 417 = .ok (.iload 10, 2) := by decide +kernel
theorem dX6_isSame_419 : decode cX6_isSame 419 = .ok (.invokevirtual 131, 3) := by decide +kernel
theorem dX6_isSame_422 : decode cX6_isSame 422 = .ok (.aload 9, 2) := by decide +kernel
theorem dX6_isSame_424 : decode cX6_isSame 424 = .ok (.iload 10, 2) := by decide +kernel
theorem dX6_isSame_426 : decode cX6_isSame 426 = .ok (.iaload, 1) := by decide +kernel
theorem dX6_isSame_427 : decode cX6_isSame 427 = .ok (.if_icmp .eq 5, 3) := by decide +kernel
theorem dX6_isSame_430 : decode cX6_isSame 430 = .ok (.iconst 0, 1) := by decide +kernel
theorem dX6_isSame_431 : decode cX6_isSame 431 = .ok (.ireturn, 1) := by decide +kernel
theorem dX6_isSame_432 : decode cX6_isSame 432 = .ok (.iinc 10 1, 3) := by decide +kernel
theorem dX6_isSame_435 : decode cX6_isSame 435 = .ok (.goto (-28), 3) := by decide +kernel
theorem dX6_isSame_438 : decode cX6_isSame 438 = .ok (.iconst 0, 1) := by decide +kernel
theorem dX6_isSame_439 : decode cX6_isSame 439 = .ok (.istore 10, 2) := by decide +kernel
theorem dX6_isSame_441 : decode cX6_isSame 441 = .ok (.iload 10, 2) := by decide +kernel
theorem dX6_isSame_443 : decode cX6_isSame 443 = .ok (.aload_n 0, 1) := by decide +kernel
theorem dX6_isSame_444 : decode cX6_isSame 444 = .ok (.getfield 18, 3) := by decide +kernel
theorem dX6_isSame_447 : decode cX6_isSame 447 = .ok (.arraylength, 1) := by decide +kernel
theorem dX6_isSame_448 : decode cX6_isSame 448 = .ok (.if_icmp .ge 30, 3) := by decide +kernel
theorem dX6_isSame_451 : decode cX6_isSame 451 = .ok (.aload_n 1, 1) := by decide +kernel
theorem dX6_isSame_452 : decode cX6_isSame 452 = .ok (.iload 7, 2) := by decide +kernel
theorem dX6_isSame_454 : decode cX6_isSame 454 = .ok (.iload 10, 2) := by decide +kernel
theorem dX6_isSame_456 : decode cX6_isSame 456 = .ok (.invokevirtual 134, 3) := by decide +kernel
theorem dX6_isSame_459 : decode cX6_isSame 459 = .ok (.aload 8, 2) := by decide +kernel
theorem dX6_isSame_461 : decode cX6_isSame 461 = .ok (.getfield 77, 3) := by decide +kernel
theorem dX6_isSame_464 : decode cX6_isSame 464 = .ok (.iload 10, 2) := by decide +kernel
theorem dX6_isSame_466 : decode cX6_isSame 466 = .ok (.iaload, 1) := by decide +kernel
theorem dX6_isSame_467 : decode cX6_isSame 467 = .ok (.if_icmp .eq 5, 3) := by decide +kernel
theorem dX6_isSame_470 : decode cX6_isSame 470 = .ok (.iconst 0, 1) := by decide +kernel
theorem dX6_isSame_471 : decode cX6_isSame 471 = .ok (.ireturn, 1) := by decide +kernel
theorem dX6_isSame_472 : decode cX6_isSame 472 = .ok (.iinc 10 1, 3) := by decide +kernel
theorem dX6_isSame_475 : decode cX6_isSame 475 = .ok (.goto (-34), 3) := by decide +kernel
theorem dX6_isSame_478 : decode cX6_isSame 478 = .ok (.iload_n 3, 1) := by decide +kernel
theorem dX6_isSame_479 : decode cX6_isSame 479 = .ok (.aload 8, 2) := by decide +kernel
theorem dX6_isSame_481 : decode cX6_isSame 481 = .ok (.getfield 64, 3) := by decide +kernel
theorem dX6_isSame_484 : decode cX6_isSame 484 = .ok (.iconst 1, 1) := by decide +kernel
theorem dX6_isSame_485 : decode cX6_isSame 485 = .ok (.if_icmp .ne 7, 3) := by decide +kernel
theorem dX6_isSame_488 : decode cX6_isSame 488 = .ok (.iconst 1, 1) := by decide +kernel
theorem dX6_isSame_489 : decode cX6_isSame 489 = .ok (.goto 4, 3) := by decide +kernel
theorem dX6_isSame_492 : decode cX6_isSame 492 = .ok (.iconst 0, 1) := by decide +kernel
theorem dX6_isSame_493 : decode cX6_isSame 493 = .ok (.iadd, 1) := by decide +kernel
theorem dX6_isSame_494 : decode cX6_isSame 494 = .ok (.istore_n 3, 1) := by decide +kernel
theorem dX6_isSame_495 : decode cX6_isSame 495 = .ok (.iload 4, 2) := by decide +kernel
theorem dX6_isSame_497 : decode cX6_isSame 497 = .ok (.aload 8, 2) := by decide +kernel
theorem dX6_isSame_499 : decode cX6_isSame 499 = .ok (.getfield 64, 3) := by decide +kernel
theorem dX6_isSame_502 : decode cX6_isSame 502 = .ok (.iconst 2, 1) := by decide +kernel
theorem dX6_isSame_503 : decode cX6_isSame 503 = .ok (.if_icmp .ne 7, 3) := by decide +kernel
theorem dX6_isSame_506 : decode cX6_isSame 506 = .ok (.iconst 1, 1) := by decide +kernel
theorem dX6_isSame_507 : decode cX6_isSame 507 = .ok (.goto 4, 3) := by decide +kernel
theorem dX6_isSame_510 : decode cX6_isSame 510 = .ok (.iconst 0, 1) := by decide +kernel
theorem dX6_isSame_511 : decode cX6_isSame 511 = .ok (.iadd, 1) := by decide +kernel
theorem dX6_isSame_512 : decode cX6_isSame 512 = .ok (.istore 4, 2) := by decide +kernel
theorem dX6_isSame_514 : decode cX6_isSame 514 = .ok (.iinc 7 1, 3) := by decide +kernel
theorem dX6_isSame_517 : decode cX6_isSame 517 = .ok (.goto (-204), 3) := by decide +kernel
theorem dX6_isSame_520 : decode cX6_isSame 520 = .ok (.iconst 0, 1) := by decide +kernel
theorem dX6_isSame_521 : decode cX6_isSame 521 = .ok (.istore 7, 2) := by decide +kernel
theorem dX6_isSame_523 : decode cX6_isSame 523 = .ok (.iload 7, 2) := by decide +kernel
theorem dX6_isSame_525 : decode cX6_isSame 525 = .ok (.aload_n 0, 1) := by decide +kernel
theorem dX6_isSame_526 : decode cX6_isSame 526 = .ok (.getfield 35, 3) := by decide +kernel
theorem dX6_isSame_529 : decode cX6_isSame 529 = .ok (.arraylength, 1) := by decide +kernel
theorem dX6_isSame_530 : decode cX6_isSame 530 = .ok (.if_icmp .ge 47, 3) := by decide +kernel
theorem dX6_isSame_533 : decode cX6_isSame 533 = .ok (.iconst 0, 1) := by decide +kernel
theorem dX6_isSame_534 : decode cX6_isSame 534 = .ok (.istore 8, 2) := by decide +kernel
theorem dX6_isSame_536 : decode cX6_isSame 536 = .ok (.iload 8, 2) := by decide +kernel
theorem dX6_isSame_538 : decode cX6_isSame 538 = .ok (.iconst 3, 1) := by decide +kernel
theorem dX6_isSame_539 : decode cX6_isSame 539 = .ok (.if_icmp .ge 32, 3) := by decide +kernel
theorem dX6_isSame_542 : decode cX6_isSame 542 = .ok (.aload_n 1, 1) := by decide +kernel
theorem dX6_isSame_543 : decode cX6_isSame 543 = .ok (.iload 7, 2) := by decide +kernel
theorem dX6_isSame_545 : decode cX6_isSame 545 = .ok (.iload 8, 2) := by decide +kernel
theorem dX6_isSame_547 : decode cX6_isSame 547 = .ok (.invokevirtual 136, 3) := by decide +kernel
theorem dX6_isSame_550 : decode cX6_isSame 550 = .ok (.aload_n 0, 1) := by decide +kernel
theorem dX6_isSame_551 : decode cX6_isSame 551 = .ok (.getfield 35, 3) := by decide +kernel
theorem dX6_isSame_554 : decode cX6_isSame 554 = .ok (.iload 7, 2) := by decide +kernel
theorem dX6_isSame_556 : decode cX6_isSame 556 = .ok (.aaload, 1) := by decide +kernel
theorem dX6_isSame_557 : decode cX6_isSame 557 = .ok (.iload 8, 2) := by decide +kernel
theorem dX6_isSame_559 : decode cX6_isSame 559 = .ok (.iaload, 1) := by decide +kernel
theorem dX6_isSame_560 : decode cX6_isSame 560 = .ok (.if_icmp .eq 5, 3) := by decide +kernel
theorem dX6_isSame_563 : decode cX6_isSame 563 = .ok (.iconst 0, 1) := by decide +kernel
theorem dX6_isSame_564 : decode cX6_isSame 564 = .ok (.ireturn, 1) := by decide +kernel
theorem dX6_isSame_565 : decode cX6_isSame 565 = .ok (.iinc 8 1, 3) := by decide +kernel
theorem dX6_isSame_568 : decode cX6_isSame 568 = .ok (.goto (-32), 3) := by decide +kernel
theorem dX6_isSame_571 : decode cX6_isSame 571 = .ok (.iinc 7 1, 3) := by decide +kernel
theorem dX6_isSame_574 : decode cX6_isSame 574 = .ok (.goto (-51), 3) := by decide +kernel
theorem dX6_isSame_577 : decode cX6_isSame 577 = .ok (.bipush 11, 2) := by decide +kernel
theorem dX6_isSame_579 : decode cX6_isSame 579 = .ok (.newarray .int, 2) := by decide +kernel
theorem dX6_isSame_581 : decode cX6_isSame 581 = .ok (.dup, 1) := by decide +kernel
theorem dX6_isSame_582 : decode cX6_isSame 582 = .ok (.iconst 0, 1) := by decide +kernel
theorem dX6_isSame_583 : decode cX6_isSame 583 = .ok (.aload_n 0, 1) := by decide +kernel
theorem dX6_isSame_584 : decode cX6_isSame 584 = .ok (.getfield 39, 3) := by decide +kernel
theorem dX6_isSame_587 : decode cX6_isSame 587 = .ok (.iastore, 1) := by decide +kernel
theorem dX6_isSame_588 : decode cX6_isSame 588 = .ok (.dup, 1) := by decide +kernel
theorem dX6_isSame_589 : decode cX6_isSame 589 = .ok (.iconst 1, 1) := by decide +kernel
theorem dX6_isSame_590 : decode cX6_isSame 590 = .ok (.aload_n 0, 1) := by decide +kernel
theorem dX6_isSame_591 : decode cX6_isSame 591 = .ok (.getfield 18, 3) := by decide +kernel
theorem dX6_isSame_594 : decode cX6_isSame 594 = .ok (.arraylength, 1) := by decide +kernel
theorem dX6_isSame_595 : decode cX6_isSame 595 = .ok (.iastore, 1) := by decide +kernel
theorem dX6_isSame_596 : decode cX6_isSame 596 = .ok (.dup, 1) := by decide +kernel
theorem dX6_isSame_597 : decode cX6_isSame 597 = .ok (.iconst 2, 1) := by decide +kernel
theorem dX6_isSame_598 : decode cX6_isSame 598 = .ok (.aload_n 0, 1) := by decide +kernel
theorem dX6_isSame_599 : decode cX6_isSame 599 = .ok (.getfield 26, 3) := by decide +kernel
theorem dX6_isSame_602 : decode cX6_isSame 602 = .ok (.arraylength, 1) := by decide +kernel
theorem dX6_isSame_603 : decode cX6_isSame 603 = .ok (.iastore, 1) := by decide +kernel
theorem dX6_isSame_604 : decode cX6_isSame 604 = .ok (.dup, 1) := by decide +kernel
theorem dX6_isSame_605 : decode cX6_isSame 605 = .ok (.iconst 3, 1) := by decide +kernel
theorem dX6_isSame_606 : decode cX6_isSame 606 = .ok (.aload_n 0, 1) := by decide +kernel
theorem dX6_isSame_607 : decode cX6_isSame 607 = .ok (.getfield 31, 3) := by decide +kernel
theorem dX6_isSame_610 : decode cX6_isSame 610 = .ok (.arraylength, 1) := by decide +kernel
theorem dX6_isSame_611 : decode cX6_isSame 611 = .ok (.iastore, 1) := by decide +kernel
theorem dX6_isSame_612 : decode cX6_isSame 612 = .ok (.dup, 1) := by decide +kernel
theorem dX6_isSame_613 : decode cX6_isSame 613 = .ok (.iconst 4, 1) := by decide +kernel
theorem dX6_isSame_614 : decode cX6_isSame 614 = .ok (.iload_n 2, 1) := by decide +kernel
theorem dX6_isSame_615 : decode cX6_isSame 615 = .ok (.iastore, 1) := by decide +kernel
theorem dX6_isSame_616 : decode cX6_isSame 616 = .ok (.dup, 1) := by decide +kernel
theorem dX6_isSame_617 : decode cX6_isSame 617 = .ok (.iconst 5, 1) := by decide +kernel
theorem dX6_isSame_618 : decode cX6_isSame 618 = .ok (.iload_n 3, 1) := by decide +kernel
theorem dX6_isSame_619 : decode cX6_isSame 619 = .ok (.iastore, 1) := by decide +kernel
theorem dX6_isSame_620 : decode cX6_isSame 620 = .ok (.dup, 1) := by decide +kernel
theorem dX6_isSame_621 : decode cX6_isSame 621 = .ok (.bipush 6, 2) := by decide +kernel
theorem dX6_isSame_623 : decode cX6_isSame 623 = .ok (.iload 4, 2) := by decide +kernel
theorem dX6_isSame_625 : decode cX6_isSame 625 = .ok (.iastore, 1) := by decide +kernel
theorem dX6_isSame_626 : decode cX6_isSame 626 = .ok (.dup, 1) := by decide +kernel
theorem dX6_isSame_627 : decode cX6_isSame 627 = .ok (.bipush 7, 2) := by decide +kernel
theorem dX6_isSame_629 : decode cX6_isSame 629 = .ok (.iload 5, 2) := by decide +kernel
theorem dX6_isSame_631 : decode cX6_isSame 631 = .ok (.iastore, 1) := by decide +kernel
theorem dX6_isSame_632 : decode cX6_isSame 632 = .ok (.dup, 1) := by decide +kernel
theorem dX6_isSame_633 : decode cX6_isSame 633 = .ok (.bipush 8, 2) := by decide +kernel
theorem dX6_isSame_635 : decode cX6_isSame 635 = .ok (.aload_n 0, 1) := by decide +kernel
theorem dX6_isSame_636 : decode cX6_isSame 636 = .ok (.getfield 42, 3) := by decide +kernel
theorem dX6_isSame_639 : decode cX6_isSame 639 = .ok (.iastore, 1) := by decide +kernel
theorem dX6_isSame_640 : decode cX6_isSame 640 = .ok (.dup, 1) := by decide +kernel
theorem dX6_isSame_641 : decode cX6_isSame 641 = .ok (.bipush 9, 2) := by decide +kernel
theorem dX6_isSame_643 : decode cX6_isSame 643 = .ok (.aload_n 0, 1) := by decide +kernel
theorem dX6_isSame_644 : decode cX6_isSame 644 = .ok (.getfield 35, 3) := by decide +kernel
theorem dX6_isSame_647 : decode cX6_isSame 647 = .ok (.arraylength, 1) := by decide +kernel
theorem dX6_isSame_648 : decode cX6_isSame 648 = .ok (.iastore, 1) := by decide +kernel
theorem dX6_isSame_649 : decode cX6_isSame 649 = .ok (.dup, 1) := by decide +kernel
theorem dX6_isSame_650 : decode cX6_isSame 650 = .ok (.bipush 10, 2) := by decide +kernel
theorem dX6_isSame_652 : decode cX6_isSame 652 = .ok (.aload_n 0, 1) := by decide +kernel
theorem dX6_isSame_653 : decode cX6_isSame 653 = .ok (.getfield 7, 3) := by decide +kernel
theorem dX6_isSame_656 : decode cX6_isSame 656 = .ok (.iastore, 1) := by decide +kernel
theorem dX6_isSame_657 : decode cX6_isSame 657 = .ok (.astore 7, 2) := by decide +kernel
theorem dX6_isSame_659 : decode cX6_isSame 659 = .ok (.iconst 0, 1) := by decide +kernel
theorem dX6_isSame_660 : decode cX6_isSame 660 = .ok (.istore 8, 2) := by decide +kernel
theorem dX6_isSame_662 : decode cX6_isSame 662 = .ok (.iload 8, 2) := by decide +kernel
theorem dX6_isSame_664 : decode cX6_isSame 664 = .ok (.bipush 11, 2) := by decide +kernel
theorem dX6_isSame_666 : decode cX6_isSame 666 = .ok (.if_icmp .ge 25, 3) := by decide +kernel
theorem dX6_isSame_669 : decode cX6_isSame 669 = .ok (.aload_n 1, 1) := by decide +kernel
theorem dX6_isSame_670 : decode cX6_isSame 670 = .ok (.iload 8, 2) := by decide +kernel
theorem dX6_isSame_672 : decode cX6_isSame 672 = .ok (.invokevirtual 138, 3) := by decide +kernel
theorem dX6_isSame_675 : decode cX6_isSame 675 = .ok (.aload 7, 2) := by decide +kernel
theorem dX6_isSame_677 : decode cX6_isSame 677 = .ok (.iload 8, 2) := by decide +kernel
theorem dX6_isSame_679 : decode cX6_isSame 679 = .ok (.iaload, 1) := by decide +kernel
theorem dX6_isSame_680 : decode cX6_isSame 680 = .ok (.if_icmp .eq 5, 3) := by decide +kernel
theorem dX6_isSame_683 : decode cX6_isSame 683 = .ok (.iconst 0, 1) := by decide +kernel
theorem dX6_isSame_684 : decode cX6_isSame 684 = .ok (.ireturn, 1) := by decide +kernel
theorem dX6_isSame_685 : decode cX6_isSame 685 = .ok (.iinc 8 1, 3) := by decide +kernel
theorem dX6_isSame_688 : decode cX6_isSame 688 = .ok (.goto (-26), 3) := by decide +kernel
theorem dX6_isSame_691 : decode cX6_isSame 691 = .ok (.aload_n 1, 1) := by decide +kernel
theorem dX6_isSame_692 : decode cX6_isSame 692 = .ok (.invokevirtual 141, 3) := by decide +kernel
theorem dX6_isSame_695 : decode cX6_isSame 695 = .ok (.iload 6, 2) := by decide +kernel
theorem dX6_isSame_697 : decode cX6_isSame 697 = .ok (.ifCond .ne 7, 3) := by decide +kernel
theorem dX6_isSame_700 : decode cX6_isSame 700 = .ok (.dconst 0, 1) := by decide +kernel
theorem dX6_isSame_701 : decode cX6_isSame 701 = .ok (.goto 12, 3) := by decide +kernel
theorem dX6_isSame_704 : decode cX6_isSame 704 = .ok (.aload_n 0, 1) := by decide +kernel
theorem dX6_isSame_705 : decode cX6_isSame 705 = .ok (.getfield 42, 3) := by decide +kernel
theorem dX6_isSame_708 : decode cX6_isSame 708 = .ok (.i2d, 1) := by decide +kernel
theorem dX6_isSame_709 : decode cX6_isSame 709 = .ok (.iload 6, 2) := by decide +kernel
theorem dX6_isSame_711 : decode cX6_isSame 711 = .ok (.i2d, 1) := by decide +kernel
theorem dX6_isSame_712 : decode cX6_isSame 712 = .ok (.ddiv, 1) := by decide +kernel
theorem dX6_isSame_713 : decode cX6_isSame 713 = .ok (.dcmp .l, 1) := by decide +kernel
theorem dX6_isSame_714 : decode cX6_isSame 714 = .ok (.ifCond .ne 7, 3) := by decide +kernel
theorem dX6_isSame_717 : decode cX6_isSame 717 = .ok (.iconst 1, 1) := by decide +kernel
theorem dX6_isSame_718 : decode cX6_isSame 718 = .ok (.goto 4, 3) := by decide +kernel
theorem dX6_isSame_721 : decode cX6_isSame 721 = .ok (.iconst 0, 1) := by decide +kernel
theorem dX6_isSame_722 : decode cX6_isSame 722 = .ok (.ireturn, 1) := by decide +kernel
theorem dX7_init_0 : decode cX7_init 0 = .ok (.aload_n 0, 1) := by decide +kernel
theorem dX7_init_1 : decode cX7_init 1 = .ok (.invokespecial 1, 3) := by decide +kernel
theorem dX7_init_4 : decode cX7_init 4 = .ok (.aload_n 0, 1) := by decide +kernel
theorem dX7_init_5 : decode cX7_init 5 = .ok (.iconst (-1), 1) := by decide +kernel
theorem dX7_init_6 : decode cX7_init 6 = .ok (.putfield 7, 3) := by decide +kernel
theorem dX7_init_9 : decode cX7_init 9 = .ok (.aload_n 0, 1) := by decide +kernel
theorem dX7_init_10 : decode cX7_init 10 = .ok (.bipush 8, 2) := by decide +kernel
theorem dX7_init_12 : decode cX7_init 12 = .ok (.newarray .int, 2) := by decide +kernel
theorem dX7_init_14 : decode cX7_init 14 = .ok (.putfield 13, 3) := by decide +kernel
theorem dX7_init_17 : decode cX7_init 17 = .ok (.return_, 1) := by decide +kernel
theorem dJ9_max_7cf53_0 : decode cJ9_max_7cf53 0 = .ok (.iload_n 0, 1) := by decide +kernel
theorem dJ9_max_7cf53_1 : decode cJ9_max_7cf53 1 = .ok (.iload_n 1, 1) := by decide +kernel
theorem dJ9_max_7cf53_2 : decode cJ9_max_7cf53 2 = .ok (.if_icmp .lt 7, 3) := by decide +kernel
theorem dJ9_max_7cf53_5 : decode cJ9_max_7cf53 5 = .ok (.iload_n 0, 1) := by decide +kernel
theorem dJ9_max_7cf53_6 : decode cJ9_max_7cf53 6 = .ok (.goto 4, 3) := by decide +kernel
theorem dJ9_max_7cf53_9 : decode cJ9_max_7cf53 9 = .ok (.iload_n 1, 1) := by decide +kernel
theorem dJ9_max_7cf53_10 : decode cJ9_max_7cf53 10 = .ok (.ireturn, 1) := by decide +kernel
theorem dJ9_min_7cf53_0 : decode cJ9_min_7cf53 0 = .ok (.iload_n 0, 1) := by decide +kernel
theorem dJ9_min_7cf53_1 : decode cJ9_min_7cf53 1 = .ok (.iload_n 1, 1) := by decide +kernel
theorem dJ9_min_7cf53_2 : decode cJ9_min_7cf53 2 = .ok (.if_icmp .gt 7, 3) := by decide +kernel
theorem dJ9_min_7cf53_5 : decode cJ9_min_7cf53 5 = .ok (.iload_n 0, 1) := by decide +kernel
theorem dJ9_min_7cf53_6 : decode cJ9_min_7cf53 6 = .ok (.goto 4, 3) := by decide +kernel
theorem dJ9_min_7cf53_9 : decode cJ9_min_7cf53 9 = .ok (.iload_n 1, 1) := by decide +kernel
theorem dJ9_min_7cf53_10 : decode cJ9_min_7cf53 10 = .ok (.ireturn, 1) := by decide +kernel
theorem dL_below_0 : decode cL_below 0 = .ok (.iload_n 0, 1) := by decide +kernel
theorem dL_below_1 : decode cL_below 1 = .ok (.ldc 7, 2) := by decide +kernel
theorem dL_below_3 : decode cL_below 3 = .ok (.iand, 1) := by decide +kernel
theorem dL_below_4 : decode cL_below 4 = .ok (.iload_n 1, 1) := by decide +kernel
theorem dL_below_5 : decode cL_below 5 = .ok (.irem, 1) := by decide +kernel
theorem dL_below_6 : decode cL_below 6 = .ok (.ireturn, 1) := by decide +kernel
theorem dL_cell_0 : decode cL_cell 0 = .ok (.iload_n 1, 1) := by decide +kernel
theorem dL_cell_1 : decode cL_cell 1 = .ok (.aload_n 0, 1) := by decide +kernel
theorem dL_cell_2 : decode cL_cell 2 = .ok (.arraylength, 1) := by decide +kernel
theorem dL_cell_3 : decode cL_cell 3 = .ok (.if_icmp .ge 9, 3) := by decide +kernel
theorem dL_cell_6 : decode cL_cell 6 = .ok (.aload_n 0, 1) := by decide +kernel
theorem dL_cell_7 : decode cL_cell 7 = .ok (.iload_n 1, 1) := by decide +kernel
theorem dL_cell_8 : decode cL_cell 8 = .ok (.iaload, 1) := by decide +kernel
theorem dL_cell_9 : decode cL_cell 9 = .ok (.goto 9, 3) := by decide +kernel
theorem dL_cell_12 : decode cL_cell 12 = .ok (.ldc 8, 2) := by decide +kernel
theorem dL_cell_14 : decode cL_cell 14 = .ok (.iload_n 1, 1) := by decide +kernel
theorem dL_cell_15 : decode cL_cell 15 = .ok (.iconst 3, 1) := by decide +kernel
theorem dL_cell_16 : decode cL_cell 16 = .ok (.iadd, 1) := by decide +kernel
theorem dL_cell_17 : decode cL_cell 17 = .ok (.imul, 1) := by decide +kernel
theorem dL_cell_18 : decode cL_cell 18 = .ok (.ireturn, 1) := by decide +kernel
theorem dL_build_0 : decode cL_build 0 = .ok (.new 9, 3) := by decide +kernel
theorem dL_build_3 : decode cL_build 3 = .ok (.dup, 1) := by decide +kernel
theorem dL_build_4 : decode cL_build 4 = .ok (.invokespecial 11, 3) := by decide +kernel
theorem dL_build_7 : decode cL_build 7 = .ok (.astore_n 2, 1) := by decide +kernel
theorem dL_build_8 : decode cL_build 8 = .ok (.iconst 1, 1) := by decide +kernel
theorem dL_build_9 : decode cL_build 9 = .ok (.aload_n 1, 1) := by decide +kernel
theorem dL_build_10 : decode cL_build 10 = .ok (.iconst 0, 1) := by decide +kernel
theorem dL_build_11 : decode cL_build 11 = .ok (.invokestatic 12, 3) := by decide +kernel
theorem dL_build_14 : decode cL_build 14 = .ok (.bipush 7, 2) := by decide +kernel
theorem dL_build_16 : decode cL_build 16 = .ok (.invokestatic 18, 3) := by decide +kernel
theorem dL_build_19 : decode cL_build 19 = .ok (.iadd, 1) := by decide +kernel
theorem dL_build_20 : decode cL_build 20 = .ok (.istore_n 3, 1) := by decide +kernel
theorem dL_build_21 : decode cL_build 21 = .ok (.iconst 0, 1) := by decide +kernel
theorem dL_build_22 : decode cL_build 22 = .ok (.istore 4, 2) := by decide +kernel
theorem dL_build_24 : decode cL_build 24 = .ok (.iload 4, 2) := by decide +kernel
theorem dL_build_26 : decode cL_build 26 = .ok (.iload_n 3, 1) := by decide +kernel
theorem dL_build_27 : decode cL_build 27 = .ok (.if_icmp .ge 180, 3) := by decide +kernel
theorem dL_build_30 : decode cL_build 30 = .ok (.aload_n 1, 1) := by decide +kernel
theorem dL_build_31 : decode cL_build 31 = .ok (.iconst 1, 1) := by decide +kernel
theorem dL_build_32 : decode cL_build 32 = .ok (.iload 4, 2) := by decide +kernel
theorem dL_build_34 : decode cL_build 34 = .ok (.iconst 3, 1) := by decide +kernel
theorem dL_build_35 : decode cL_build 35 = .ok (.irem, 1) := by decide +kernel
theorem dL_build_36 : decode cL_build 36 = .ok (.iadd, 1) := by decide +kernel
theorem dL_build_37 : decode cL_build 37 = .ok (.invokestatic 12, 3) := by decide +kernel
theorem dL_build_40 : decode cL_build 40 = .ok (.iload 4, 2) := by decide +kernel
theorem dL_build_42 : decode cL_build 42 = .ok (.ishr, 1) := by decide +kernel
theorem dL_build_43 : decode cL_build 43 = .ok (.bipush 31, 2) := by decide +kernel
theorem dL_build_45 : decode cL_build 45 = .ok (.iload 4, 2) := by decide +kernel
theorem dL_build_47 : decode cL_build 47 = .ok (.imul, 1) := by decide +kernel
theorem dL_build_48 : decode cL_build 48 = .ok (.iadd, 1) := by decide +kernel
theorem dL_build_49 : decode cL_build 49 = .ok (.istore 5, 2) := by decide +kernel
theorem dL_build_51 : decode cL_build 51 = .ok (.iconst 1, 1) := by decide +kernel
theorem dL_build_52 : decode cL_build 52 = .ok (.iload 5, 2) := by decide +kernel
theorem dL_build_54 : decode cL_build 54 = .ok (.iload 5, 2) := by decide +kernel
theorem dL_build_56 : decode cL_build 56 = .ok (.bipush 7, 2) := by decide +kernel
theorem dL_build_58 : decode cL_build 58 = .ok (.ishr, 1) := by decide +kernel
theorem dL_build_59 : decode cL_build 59 = .ok (.iconst 2, 1) := by decide +kernel
theorem dL_build_60 : decode cL_build 60 = .ok (.invokestatic 18, 3) := by decide +kernel
theorem dL_build_63 : decode cL_build 63 = .ok (.ifCond .ne 8, 3) := by decide +kernel
theorem dL_build_66 : decode cL_build 66 = .ok (.bipush 9, 2) := by decide +kernel
theorem dL_build_68 : decode cL_build 68 = .ok (.goto 4, 3) := by decide +kernel
theorem dL_build_71 : decode cL_build 71 = .ok (.iconst 3, 1) := by decide +kernel
theorem dL_build_72 : decode cL_build 72 = .ok (.invokestatic 18, 3) := by decide +kernel
theorem dL_build_75 : decode cL_build 75 = .ok (.iadd, 1) := by decide +kernel
theorem dL_build_76 : decode cL_build 76 = .ok (.istore 6, 2) := by decide +kernel
theorem dL_build_78 : decode cL_build 78 = .ok (.iload 5, 2) := by decide +kernel
theorem dL_build_80 : decode cL_build 80 = .ok (.iconst 2, 1) := by decide +kernel
theorem dL_build_81 : decode cL_build 81 = .ok (.ishr, 1) := by decide +kernel
theorem dL_build_82 : decode cL_build 82 = .ok (.bipush 61, 2) := by decide +kernel
theorem dL_build_84 : decode cL_build 84 = .ok (.invokestatic 18, 3) := by decide +kernel
theorem dL_build_87 : decode cL_build 87 = .ok (.istore 7, 2) := by decide +kernel
theorem dL_build_89 : decode cL_build 89 = .ok (.iload 5, 2) := by decide +kernel
theorem dL_build_91 : decode cL_build 91 = .ok (.iconst 4, 1) := by decide +kernel
theorem dL_build_92 : decode cL_build 92 = .ok (.ishr, 1) := by decide +kernel
theorem dL_build_93 : decode cL_build 93 = .ok (.iload 5, 2) := by decide +kernel
theorem dL_build_95 : decode cL_build 95 = .ok (.bipush 8, 2) := by decide +kernel
theorem dL_build_97 : decode cL_build 97 = .ok (.ishr, 1) := by decide +kernel
theorem dL_build_98 : decode cL_build 98 = .ok (.iconst 2, 1) := by decide +kernel
theorem dL_build_99 : decode cL_build 99 = .ok (.invokestatic 18, 3) := by decide +kernel
theorem dL_build_102 : decode cL_build 102 = .ok (.ifCond .ne 8, 3) := by decide +kernel
theorem dL_build_105 : decode cL_build 105 = .ok (.bipush 100, 2) := by decide +kernel
theorem dL_build_107 : decode cL_build 107 = .ok (.goto 5, 3) := by decide +kernel
theorem dL_build_110 : decode cL_build 110 = .ok (.bipush 8, 2) := by decide +kernel
theorem dL_build_112 : decode cL_build 112 = .ok (.invokestatic 18, 3) := by decide +kernel
theorem dL_build_115 : decode cL_build 115 = .ok (.istore 8, 2) := by decide +kernel
theorem dL_build_117 : decode cL_build 117 = .ok (.iconst 1, 1) := by decide +kernel
theorem dL_build_118 : decode cL_build 118 = .ok (.iload 5, 2) := by decide +kernel
theorem dL_build_120 : decode cL_build 120 = .ok (.iconst 5, 1) := by decide +kernel
theorem dL_build_121 : decode cL_build 121 = .ok (.ishr, 1) := by decide +kernel
theorem dL_build_122 : decode cL_build 122 = .ok (.iconst 3, 1) := by decide +kernel
theorem dL_build_123 : decode cL_build 123 = .ok (.invokestatic 18, 3) := by decide +kernel
theorem dL_build_126 : decode cL_build 126 = .ok (.iload 5, 2) := by decide +kernel
theorem dL_build_128 : decode cL_build 128 = .ok (.bipush 6, 2) := by decide +kernel
theorem dL_build_130 : decode cL_build 130 = .ok (.ishr, 1) := by decide +kernel
theorem dL_build_131 : decode cL_build 131 = .ok (.iconst 2, 1) := by decide +kernel
theorem dL_build_132 : decode cL_build 132 = .ok (.invokestatic 18, 3) := by decide +kernel
theorem dL_build_135 : decode cL_build 135 = .ok (.imul, 1) := by decide +kernel
theorem dL_build_136 : decode cL_build 136 = .ok (.iadd, 1) := by decide +kernel
theorem dL_build_137 : decode cL_build 137 = .ok (.istore 9, 2) := by decide +kernel
theorem dL_build_139 : decode cL_build 139 = .ok (.aload_n 0, 1) := by decide +kernel
theorem dL_build_140 : decode cL_build 140 = .ok (.iload 6, 2) := by decide +kernel
theorem dL_build_142 : decode cL_build 142 = .ok (.iload 7, 2) := by decide +kernel
theorem dL_build_144 : decode cL_build 144 = .ok (.iload 8, 2) := by decide +kernel
theorem dL_build_146 : decode cL_build 146 = .ok (.iload 9, 2) := by decide +kernel
theorem dL_build_148 : decode cL_build 148 = .ok (.invokevirtual 22, 3) := by decide +kernel
theorem dL_build_151 : decode cL_build 151 = .ok (.iload 4, 2) := by decide +kernel
theorem dL_build_153 : decode cL_build 153 = .ok (.if_icmp .eq 5, 3) := by decide +kernel
theorem dL_build_156 : decode cL_build 156 = .ok (.aconst_null, 1) := by decide +kernel
theorem dL_build_157 : decode cL_build 157 = .ok (.areturn, 1) := by decide +kernel
theorem dL_build_158 : decode cL_build 158 = .ok (.aload_n 2, 1) := by decide +kernel
theorem dL_build_159 : decode cL_build 159 = .ok (.aload_n 2, 1) := by decide +kernel
theorem dL_build_160 : decode cL_build 160 = .ok (.getfield 28, 3) := by decide +kernel
theorem dL_build_163 : decode cL_build 163 = .ok (.bipush 6, 2) := by decide +kernel
theorem dL_build_165 : decode cL_build 165 = .ok (.newarray .int, 2) := by decide +kernel
theorem dL_build_167 : decode cL_build 167 = .ok (.dup, 1) := by decide +kernel
theorem dL_build_168 : decode cL_build 168 = .ok (.iconst 0, 1) := by decide +kernel
theorem dL_build_169 : decode cL_build 169 = .ok (.iload 6, 2) := by decide +kernel
theorem dL_build_171 : decode cL_build 171 = .ok (.iastore, 1) := by decide +kernel
theorem dL_build_172 : decode cL_build 172 = .ok (.dup, 1) := by decide +kernel
theorem dL_build_173 : decode cL_build 173 = .ok (.iconst 1, 1) := by decide +kernel
theorem dL_build_174 : decode cL_build 174 = .ok (.iload 7, 2) := by decide +kernel
theorem dL_build_176 : decode cL_build 176 = .ok (.iastore, 1) := by decide +kernel
theorem dL_build_177 : decode cL_build 177 = .ok (.dup, 1) := by decide +kernel
theorem dL_build_178 : decode cL_build 178 = .ok (.iconst 2, 1) := by decide +kernel
theorem dL_build_179 : decode cL_build 179 = .ok (.iload 8, 2) := by decide +kernel
theorem dL_build_181 : decode cL_build 181 = .ok (.iastore, 1) := by decide +kernel
theorem dL_build_182 : decode cL_build 182 = .ok (.dup, 1) := by decide +kernel
theorem dL_build_183 : decode cL_build 183 = .ok (.iconst 3, 1) := by decide +kernel
theorem dL_build_184 : decode cL_build 184 = .ok (.iload 9, 2) := by decide +kernel
theorem dL_build_186 : decode cL_build 186 = .ok (.iastore, 1) := by decide +kernel
theorem dL_build_187 : decode cL_build 187 = .ok (.dup, 1) := by decide +kernel
theorem dL_build_188 : decode cL_build 188 = .ok (.iconst 4, 1) := by decide +kernel
theorem dL_build_189 : decode cL_build 189 = .ok (.iconst 0, 1) := by decide +kernel
theorem dL_build_190 : decode cL_build 190 = .ok (.iastore, 1) := by decide +kernel
theorem dL_build_191 : decode cL_build 191 = .ok (.dup, 1) := by decide +kernel
theorem dL_build_192 : decode cL_build 192 = .ok (.iconst 5, 1) := by decide +kernel
theorem dL_build_193 : decode cL_build 193 = .ok (.iconst 0, 1) := by decide +kernel
theorem dL_build_194 : decode cL_build 194 = .ok (.iastore, 1) := by decide +kernel
theorem dL_build_195 : decode cL_build 195 = .ok (.invokestatic 32, 3) := by decide +kernel
theorem dL_build_198 : decode cL_build 198 = .ok (.putfield 28, 3) := by decide +kernel
theorem dL_build_201 : decode cL_build 201 = .ok (.iinc 4 1, 3) := by decide +kernel
theorem dL_build_204 : decode cL_build 204 = .ok (.goto (-180), 3) := by decide +kernel
theorem dL_build_207 : decode cL_build 207 = .ok (.iconst 1, 1) := by decide +kernel
theorem dL_build_208 : decode cL_build 208 = .ok (.aload_n 1, 1) := by decide +kernel
theorem dL_build_209 : decode cL_build 209 = .ok (.iconst 4, 1) := by decide +kernel
theorem dL_build_210 : decode cL_build 210 = .ok (.invokestatic 12, 3) := by decide +kernel
theorem dL_build_213 : decode cL_build 213 = .ok (.bipush 11, 2) := by decide +kernel
theorem dL_build_215 : decode cL_build 215 = .ok (.invokestatic 18, 3) := by decide +kernel
theorem dL_build_218 : decode cL_build 218 = .ok (.iadd, 1) := by decide +kernel
theorem dL_build_219 : decode cL_build 219 = .ok (.istore 4, 2) := by decide +kernel
theorem dL_build_221 : decode cL_build 221 = .ok (.iconst 0, 1) := by decide +kernel
theorem dL_build_222 : decode cL_build 222 = .ok (.istore 5, 2) := by decide +kernel
theorem dL_build_224 : decode cL_build 224 = .ok (.iload 5, 2) := by decide +kernel
theorem dL_build_226 : decode cL_build 226 = .ok (.iload 4, 2) := by decide +kernel
theorem dL_build_228 : decode cL_build 228 = .ok (.if_icmp .ge 80, 3) := by decide +kernel
theorem dL_build_231 : decode cL_build 231 = .ok (.aload_n 1, 1) := by decide +kernel
theorem dL_build_232 : decode cL_build 232 = .ok (.iconst 5, 1) := by decide +kernel
theorem dL_build_233 : decode cL_build 233 = .ok (.invokestatic 12, 3) := by decide +kernel
theorem dL_build_236 : decode cL_build 236 = .ok (.iconst 2, 1) := by decide +kernel
theorem dL_build_237 : decode cL_build 237 = .ok (.iload 5, 2) := by decide +kernel
theorem dL_build_239 : decode cL_build 239 = .ok (.imul, 1) := by decide +kernel
theorem dL_build_240 : decode cL_build 240 = .ok (.ishr, 1) := by decide +kernel
theorem dL_build_241 : decode cL_build 241 = .ok (.iload_n 3, 1) := by decide +kernel
theorem dL_build_242 : decode cL_build 242 = .ok (.iconst 1, 1) := by decide +kernel
theorem dL_build_243 : decode cL_build 243 = .ok (.iadd, 1) := by decide +kernel
theorem dL_build_244 : decode cL_build 244 = .ok (.invokestatic 18, 3) := by decide +kernel
theorem dL_build_247 : decode cL_build 247 = .ok (.iconst 1, 1) := by decide +kernel
theorem dL_build_248 : decode cL_build 248 = .ok (.isub, 1) := by decide +kernel
theorem dL_build_249 : decode cL_build 249 = .ok (.istore 6, 2) := by decide +kernel
theorem dL_build_251 : decode cL_build 251 = .ok (.aload_n 0, 1) := by decide +kernel
theorem dL_build_252 : decode cL_build 252 = .ok (.invokevirtual 36, 3) := by decide +kernel
theorem dL_build_255 : decode cL_build 255 = .ok (.iload 5, 2) := by decide +kernel
theorem dL_build_257 : decode cL_build 257 = .ok (.if_icmp .ne 15, 3) := by decide +kernel
theorem dL_build_260 : decode cL_build 260 = .ok (.aload_n 0, 1) := by decide +kernel
theorem dL_build_261 : decode cL_build 261 = .ok (.iload 5, 2) := by decide +kernel
theorem dL_build_263 : decode cL_build 263 = .ok (.iload 6, 2) := by decide +kernel
theorem dL_build_265 : decode cL_build 265 = .ok (.invokevirtual 40, 3) := by decide +kernel
theorem dL_build_268 : decode cL_build 268 = .ok (.iconst (-1), 1) := by decide +kernel
theorem dL_build_269 : decode cL_build 269 = .ok (.if_icmp .eq 5, 3) := by decide +kernel
theorem dL_build_272 : decode cL_build 272 = .ok (.aconst_null, 1) := by decide +kernel
theorem dL_build_273 : decode cL_build 273 = .ok (.areturn, 1) := by decide +kernel
theorem dL_build_274 : decode cL_build 274 = .ok (.aload_n 2, 1) := by decide +kernel
theorem dL_build_275 : decode cL_build 275 = .ok (.aload_n 2, 1) := by decide +kernel
theorem dL_build_276 : decode cL_build 276 = .ok (.getfield 43, 3) := by decide +kernel
theorem dL_build_279 : decode cL_build 279 = .ok (.iconst 3, 1) := by decide +kernel
theorem dL_build_280 : decode cL_build 280 = .ok (.newarray .int, 2) := by decide +kernel
theorem dL_build_282 : decode cL_build 282 = .ok (.dup, 1) := by decide +kernel
theorem dL_build_283 : decode cL_build 283 = .ok (.iconst 0, 1) := by decide +kernel
theorem dL_build_284 : decode cL_build 284 = .ok (.bipush 24, 2) := by decide +kernel
theorem dL_build_286 : decode cL_build 286 = .ok (.iastore, 1) := by decide +kernel
theorem dL_build_287 : decode cL_build 287 = .ok (.dup, 1) := by decide +kernel
theorem dL_build_288 : decode cL_build 288 = .ok (.iconst 1, 1) := by decide +kernel
theorem dL_build_289 : decode cL_build 289 = .ok (.iload 6, 2) := by decide +kernel
theorem dL_build_291 : decode cL_build 291 = .ok (.iastore, 1) := by decide +kernel
theorem dL_build_292 : decode cL_build 292 = .ok (.dup, 1) := by decide +kernel
theorem dL_build_293 : decode cL_build 293 = .ok (.iconst 2, 1) := by decide +kernel
theorem dL_build_294 : decode cL_build 294 = .ok (.iconst 0, 1) := by decide +kernel
theorem dL_build_295 : decode cL_build 295 = .ok (.iastore, 1) := by decide +kernel
theorem dL_build_296 : decode cL_build 296 = .ok (.invokestatic 32, 3) := by decide +kernel
theorem dL_build_299 : decode cL_build 299 = .ok (.putfield 43, 3) := by decide +kernel
theorem dL_build_302 : decode cL_build 302 = .ok (.iinc 5 1, 3) := by decide +kernel
theorem dL_build_305 : decode cL_build 305 = .ok (.goto (-81), 3) := by decide +kernel
theorem dL_build_308 : decode cL_build 308 = .ok (.iconst 1, 1) := by decide +kernel
theorem dL_build_309 : decode cL_build 309 = .ok (.aload_n 1, 1) := by decide +kernel
theorem dL_build_310 : decode cL_build 310 = .ok (.bipush 6, 2) := by decide +kernel
theorem dL_build_312 : decode cL_build 312 = .ok (.invokestatic 12, 3) := by decide +kernel
theorem dL_build_315 : decode cL_build 315 = .ok (.bipush 14, 2) := by decide +kernel
theorem dL_build_317 : decode cL_build 317 = .ok (.invokestatic 18, 3) := by decide +kernel
theorem dL_build_320 : decode cL_build 320 = .ok (.iadd, 1) := by decide +kernel
theorem dL_build_321 : decode cL_build 321 = .ok (.istore 5, 2) := by decide +kernel
theorem dL_build_323 : decode cL_build 323 = .ok (.iconst 0, 1) := by decide +kernel
