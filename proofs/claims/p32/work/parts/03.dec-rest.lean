theorem dX0_init_0 : decode cX0_init 0 = .ok (.aload_n 0, 1) := by decide +kernel
theorem dX0_init_1 : decode cX0_init 1 = .ok (.invokespecial 5, 3) := by decide +kernel
theorem dX0_init_4 : decode cX0_init 4 = .ok (.aload_n 0, 1) := by decide +kernel
theorem dX0_init_5 : decode cX0_init 5 = .ok (.iconst 5, 1) := by decide +kernel
theorem dX0_init_6 : decode cX0_init 6 = .ok (.anewarray 11, 3) := by decide +kernel
theorem dX0_init_9 : decode cX0_init 9 = .ok (.putfield 13, 3) := by decide +kernel
theorem dX0_init_12 : decode cX0_init 12 = .ok (.aload_n 0, 1) := by decide +kernel
theorem dX0_init_13 : decode cX0_init 13 = .ok (.iconst 0, 1) := by decide +kernel
theorem dX0_init_14 : decode cX0_init 14 = .ok (.putfield 17, 3) := by decide +kernel
theorem dX0_init_17 : decode cX0_init 17 = .ok (.aload_n 0, 1) := by decide +kernel
theorem dX0_init_18 : decode cX0_init 18 = .ok (.iconst 0, 1) := by decide +kernel
theorem dX0_init_19 : decode cX0_init 19 = .ok (.putfield 21, 3) := by decide +kernel
theorem dX0_init_22 : decode cX0_init 22 = .ok (.iconst 0, 1) := by decide +kernel
theorem dX0_init_23 : decode cX0_init 23 = .ok (.istore_n 1, 1) := by decide +kernel
theorem dX0_init_24 : decode cX0_init 24 = .ok (.iload_n 1, 1) := by decide +kernel
theorem dX0_init_25 : decode cX0_init 25 = .ok (.iconst 5, 1) := by decide +kernel
theorem dX0_init_26 : decode cX0_init 26 = .ok (.if_icmp .ge 22, 3) := by decide +kernel
theorem dX0_init_29 : decode cX0_init 29 = .ok (.aload_n 0, 1) := by decide +kernel
theorem dX0_init_30 : decode cX0_init 30 = .ok (.getfield 13, 3) := by decide +kernel
theorem dX0_init_33 : decode cX0_init 33 = .ok (.iload_n 1, 1) := by decide +kernel
theorem dX0_init_34 : decode cX0_init 34 = .ok (.new 11, 3) := by decide +kernel
theorem dX0_init_37 : decode cX0_init 37 = .ok (.dup, 1) := by decide +kernel
theorem dX0_init_38 : decode cX0_init 38 = .ok (.invokespecial 24, 3) := by decide +kernel
theorem dX0_init_41 : decode cX0_init 41 = .ok (.aastore, 1) := by decide +kernel
theorem dX0_init_42 : decode cX0_init 42 = .ok (.iinc 1 1, 3) := by decide +kernel
theorem dX0_init_45 : decode cX0_init 45 = .ok (.goto (-21), 3) := by decide +kernel
theorem dX0_init_48 : decode cX0_init 48 = .ok (.return_, 1) := by decide +kernel
theorem dX0_states_0 : decode cX0_states 0 = .ok (.aload_n 0, 1) := by decide +kernel
theorem dX0_states_1 : decode cX0_states 1 = .ok (.getfield 21, 3) := by decide +kernel
theorem dX0_states_4 : decode cX0_states 4 = .ok (.ireturn, 1) := by decide +kernel
theorem dX0_behindLatest_0 : decode cX0_behindLatest 0 = .ok (.aload_n 0, 1) := by decide +kernel
theorem dX0_behindLatest_1 : decode cX0_behindLatest 1 = .ok (.getfield 13, 3) := by decide +kernel
theorem dX0_behindLatest_4 : decode cX0_behindLatest 4 = .ok (.aload_n 0, 1) := by decide +kernel
theorem dX0_behindLatest_5 : decode cX0_behindLatest 5 = .ok (.getfield 17, 3) := by decide +kernel
theorem dX0_behindLatest_8 : decode cX0_behindLatest 8 = .ok (.aload_n 0, 1) := by decide +kernel
theorem dX0_behindLatest_9 : decode cX0_behindLatest 9 = .ok (.getfield 21, 3) := by decide +kernel
theorem dX0_behindLatest_12 : decode cX0_behindLatest 12 = .ok (.iadd, 1) := by decide +kernel
theorem dX0_behindLatest_13 : decode cX0_behindLatest 13 = .ok (.iconst 5, 1) := by decide +kernel
theorem dX0_behindLatest_14 : decode cX0_behindLatest 14 = .ok (.irem, 1) := by decide +kernel
theorem dX0_behindLatest_15 : decode cX0_behindLatest 15 = .ok (.aaload, 1) := by decide +kernel
theorem dX0_behindLatest_16 : decode cX0_behindLatest 16 = .ok (.areturn, 1) := by decide +kernel
theorem dX0_prepare_0 : decode cX0_prepare 0 = .ok (.aload_n 0, 1) := by decide +kernel
theorem dX0_prepare_1 : decode cX0_prepare 1 = .ok (.invokevirtual 25, 3) := by decide +kernel
theorem dX0_prepare_4 : decode cX0_prepare 4 = .ok (.aload_n 1, 1) := by decide +kernel
theorem dX0_prepare_5 : decode cX0_prepare 5 = .ok (.invokevirtual 29, 3) := by decide +kernel
theorem dX0_prepare_8 : decode cX0_prepare 8 = .ok (.return_, 1) := by decide +kernel
theorem dX0_settle_0 : decode cX0_settle 0 = .ok (.iload_n 1, 1) := by decide +kernel
theorem dX0_settle_1 : decode cX0_settle 1 = .ok (.ifCond .lt 36, 3) := by decide +kernel
theorem dX0_settle_4 : decode cX0_settle 4 = .ok (.aload_n 0, 1) := by decide +kernel
theorem dX0_settle_5 : decode cX0_settle 5 = .ok (.getfield 21, 3) := by decide +kernel
theorem dX0_settle_8 : decode cX0_settle 8 = .ok (.iconst 4, 1) := by decide +kernel
theorem dX0_settle_9 : decode cX0_settle 9 = .ok (.if_icmp .ge 16, 3) := by decide +kernel
theorem dX0_settle_12 : decode cX0_settle 12 = .ok (.aload_n 0, 1) := by decide +kernel
theorem dX0_settle_13 : decode cX0_settle 13 = .ok (.dup, 1) := by decide +kernel
theorem dX0_settle_14 : decode cX0_settle 14 = .ok (.getfield 21, 3) := by decide +kernel
theorem dX0_settle_17 : decode cX0_settle 17 = .ok (.iconst 1, 1) := by decide +kernel
theorem dX0_settle_18 : decode cX0_settle 18 = .ok (.iadd, 1) := by decide +kernel
theorem dX0_settle_19 : decode cX0_settle 19 = .ok (.putfield 21, 3) := by decide +kernel
theorem dX0_settle_22 : decode cX0_settle 22 = .ok (.goto 15, 3) := by decide +kernel
theorem dX0_settle_25 : decode cX0_settle 25 = .ok (.aload_n 0, 1) := by decide +kernel
theorem dX0_settle_26 : decode cX0_settle 26 = .ok (.aload_n 0, 1) := by decide +kernel
theorem dX0_settle_27 : decode cX0_settle 27 = .ok (.getfield 17, 3) := by decide +kernel
theorem dX0_settle_30 : decode cX0_settle 30 = .ok (.iconst 1, 1) := by decide +kernel
theorem dX0_settle_31 : decode cX0_settle 31 = .ok (.iadd, 1) := by decide +kernel
theorem dX0_settle_32 : decode cX0_settle 32 = .ok (.iconst 5, 1) := by decide +kernel
theorem dX0_settle_33 : decode cX0_settle 33 = .ok (.irem, 1) := by decide +kernel
theorem dX0_settle_34 : decode cX0_settle 34 = .ok (.putfield 17, 3) := by decide +kernel
theorem dX0_settle_37 : decode cX0_settle 37 = .ok (.iload_n 1, 1) := by decide +kernel
theorem dX0_settle_38 : decode cX0_settle 38 = .ok (.ireturn, 1) := by decide +kernel
theorem dX0_takeBack_0 : decode cX0_takeBack 0 = .ok (.aload_n 1, 1) := by decide +kernel
theorem dX0_takeBack_1 : decode cX0_takeBack 1 = .ok (.aload_n 0, 1) := by decide +kernel
theorem dX0_takeBack_2 : decode cX0_takeBack 2 = .ok (.invokevirtual 25, 3) := by decide +kernel
theorem dX0_takeBack_5 : decode cX0_takeBack 5 = .ok (.invokevirtual 29, 3) := by decide +kernel
theorem dX0_takeBack_8 : decode cX0_takeBack 8 = .ok (.return_, 1) := by decide +kernel
theorem dX0_stepBack_0 : decode cX0_stepBack 0 = .ok (.aload_n 0, 1) := by decide +kernel
theorem dX0_stepBack_1 : decode cX0_stepBack 1 = .ok (.getfield 21, 3) := by decide +kernel
theorem dX0_stepBack_4 : decode cX0_stepBack 4 = .ok (.ifCond .ne 6, 3) := by decide +kernel
theorem dX0_stepBack_7 : decode cX0_stepBack 7 = .ok (.bipush (-5), 2) := by decide +kernel
theorem dX0_stepBack_9 : decode cX0_stepBack 9 = .ok (.ireturn, 1) := by decide +kernel
theorem dX0_stepBack_10 : decode cX0_stepBack 10 = .ok (.aload_n 0, 1) := by decide +kernel
theorem dX0_stepBack_11 : decode cX0_stepBack 11 = .ok (.dup, 1) := by decide +kernel
theorem dX0_stepBack_12 : decode cX0_stepBack 12 = .ok (.getfield 21, 3) := by decide +kernel
theorem dX0_stepBack_15 : decode cX0_stepBack 15 = .ok (.iconst 1, 1) := by decide +kernel
theorem dX0_stepBack_16 : decode cX0_stepBack 16 = .ok (.isub, 1) := by decide +kernel
theorem dX0_stepBack_17 : decode cX0_stepBack 17 = .ok (.putfield 21, 3) := by decide +kernel
theorem dX0_stepBack_20 : decode cX0_stepBack 20 = .ok (.aload_n 0, 1) := by decide +kernel
theorem dX0_stepBack_21 : decode cX0_stepBack 21 = .ok (.aload_n 1, 1) := by decide +kernel
theorem dX0_stepBack_22 : decode cX0_stepBack 22 = .ok (.invokevirtual 33, 3) := by decide +kernel
theorem dX0_stepBack_25 : decode cX0_stepBack 25 = .ok (.aload_n 0, 1) := by decide +kernel
theorem dX0_stepBack_26 : decode cX0_stepBack 26 = .ok (.getfield 21, 3) := by decide +kernel
theorem dX0_stepBack_29 : decode cX0_stepBack 29 = .ok (.ireturn, 1) := by decide +kernel
theorem dX1_init_0 : decode cX1_init 0 = .ok (.aload_n 0, 1) := by decide +kernel
theorem dX1_init_1 : decode cX1_init 1 = .ok (.invokespecial 5, 3) := by decide +kernel
theorem dX1_init_4 : decode cX1_init 4 = .ok (.aload_n 0, 1) := by decide +kernel
theorem dX1_init_5 : decode cX1_init 5 = .ok (.bipush 60, 2) := by decide +kernel
theorem dX1_init_7 : decode cX1_init 7 = .ok (.newarray .char, 2) := by decide +kernel
theorem dX1_init_9 : decode cX1_init 9 = .ok (.putfield 11, 3) := by decide +kernel
theorem dX1_init_12 : decode cX1_init 12 = .ok (.aload_n 0, 1) := by decide +kernel
theorem dX1_init_13 : decode cX1_init 13 = .ok (.iconst 0, 1) := by decide +kernel
theorem dX1_init_14 : decode cX1_init 14 = .ok (.putfield 15, 3) := by decide +kernel
theorem dX1_init_17 : decode cX1_init 17 = .ok (.aload_n 0, 1) := by decide +kernel
theorem dX1_init_18 : decode cX1_init 18 = .ok (.iconst 0, 1) := by decide +kernel
theorem dX1_init_19 : decode cX1_init 19 = .ok (.putfield 19, 3) := by decide +kernel
theorem dX1_init_22 : decode cX1_init 22 = .ok (.aload_n 0, 1) := by decide +kernel
theorem dX1_init_23 : decode cX1_init 23 = .ok (.bipush 20, 2) := by decide +kernel
theorem dX1_init_25 : decode cX1_init 25 = .ok (.newarray .char, 2) := by decide +kernel
theorem dX1_init_27 : decode cX1_init 27 = .ok (.putfield 22, 3) := by decide +kernel
theorem dX1_init_30 : decode cX1_init 30 = .ok (.aload_n 0, 1) := by decide +kernel
theorem dX1_init_31 : decode cX1_init 31 = .ok (.bipush 20, 2) := by decide +kernel
theorem dX1_init_33 : decode cX1_init 33 = .ok (.newarray .int, 2) := by decide +kernel
theorem dX1_init_35 : decode cX1_init 35 = .ok (.putfield 25, 3) := by decide +kernel
theorem dX1_init_38 : decode cX1_init 38 = .ok (.aload_n 0, 1) := by decide +kernel
theorem dX1_init_39 : decode cX1_init 39 = .ok (.bipush 20, 2) := by decide +kernel
theorem dX1_init_41 : decode cX1_init 41 = .ok (.newarray .int, 2) := by decide +kernel
theorem dX1_init_43 : decode cX1_init 43 = .ok (.putfield 29, 3) := by decide +kernel
theorem dX1_init_46 : decode cX1_init 46 = .ok (.aload_n 0, 1) := by decide +kernel
theorem dX1_init_47 : decode cX1_init 47 = .ok (.iconst 0, 1) := by decide +kernel
theorem dX1_init_48 : decode cX1_init 48 = .ok (.putfield 32, 3) := by decide +kernel
theorem dX1_init_51 : decode cX1_init 51 = .ok (.return_, 1) := by decide +kernel
theorem dX1_length_0 : decode cX1_length 0 = .ok (.aload_n 0, 1) := by decide +kernel
theorem dX1_length_1 : decode cX1_length 1 = .ok (.getfield 15, 3) := by decide +kernel
theorem dX1_length_4 : decode cX1_length 4 = .ok (.ireturn, 1) := by decide +kernel
theorem dX3_init_0 : decode cX3_init 0 = .ok (.aload_n 0, 1) := by decide +kernel
theorem dX3_init_1 : decode cX3_init 1 = .ok (.invokespecial 1, 3) := by decide +kernel
theorem dX3_init_4 : decode cX3_init 4 = .ok (.aload_n 0, 1) := by decide +kernel
theorem dX3_init_5 : decode cX3_init 5 = .ok (.new 7, 3) := by decide +kernel
theorem dX3_init_8 : decode cX3_init 8 = .ok (.dup, 1) := by decide +kernel
theorem dX3_init_9 : decode cX3_init 9 = .ok (.invokespecial 9, 3) := by decide +kernel
theorem dX3_init_12 : decode cX3_init 12 = .ok (.putfield 10, 3) := by decide +kernel
theorem dX3_init_15 : decode cX3_init 15 = .ok (.aload_n 0, 1) := by decide +kernel
theorem dX3_init_16 : decode cX3_init 16 = .ok (.new 7, 3) := by decide +kernel
theorem dX3_init_19 : decode cX3_init 19 = .ok (.dup, 1) := by decide +kernel
theorem dX3_init_20 : decode cX3_init 20 = .ok (.invokespecial 9, 3) := by decide +kernel
theorem dX3_init_23 : decode cX3_init 23 = .ok (.putfield 16, 3) := by decide +kernel
theorem dX3_init_26 : decode cX3_init 26 = .ok (.aload_n 0, 1) := by decide +kernel
theorem dX3_init_27 : decode cX3_init 27 = .ok (.iconst 0, 1) := by decide +kernel
theorem dX3_init_28 : decode cX3_init 28 = .ok (.putfield 19, 3) := by decide +kernel
theorem dX3_init_31 : decode cX3_init 31 = .ok (.aload_n 0, 1) := by decide +kernel
theorem dX3_init_32 : decode cX3_init 32 = .ok (.new 23, 3) := by decide +kernel
theorem dX3_init_35 : decode cX3_init 35 = .ok (.dup, 1) := by decide +kernel
theorem dX3_init_36 : decode cX3_init 36 = .ok (.invokespecial 25, 3) := by decide +kernel
theorem dX3_init_39 : decode cX3_init 39 = .ok (.putfield 26, 3) := by decide +kernel
theorem dX3_init_42 : decode cX3_init 42 = .ok (.aload_n 0, 1) := by decide +kernel
theorem dX3_init_43 : decode cX3_init 43 = .ok (.new 30, 3) := by decide +kernel
theorem dX3_init_46 : decode cX3_init 46 = .ok (.dup, 1) := by decide +kernel
theorem dX3_init_47 : decode cX3_init 47 = .ok (.invokespecial 32, 3) := by decide +kernel
theorem dX3_init_50 : decode cX3_init 50 = .ok (.putfield 33, 3) := by decide +kernel
theorem dX3_init_53 : decode cX3_init 53 = .ok (.aload_n 0, 1) := by decide +kernel
theorem dX3_init_54 : decode cX3_init 54 = .ok (.bipush (-5), 2) := by decide +kernel
theorem dX3_init_56 : decode cX3_init 56 = .ok (.putfield 37, 3) := by decide +kernel
theorem dX3_init_59 : decode cX3_init 59 = .ok (.aload_n 0, 1) := by decide +kernel
theorem dX3_init_60 : decode cX3_init 60 = .ok (.bipush (-5), 2) := by decide +kernel
theorem dX3_init_62 : decode cX3_init 62 = .ok (.putfield 41, 3) := by decide +kernel
theorem dX3_init_65 : decode cX3_init 65 = .ok (.return_, 1) := by decide +kernel
theorem dX3_come_0 : decode cX3_come 0 = .ok (.aload_n 0, 1) := by decide +kernel
theorem dX3_come_1 : decode cX3_come 1 = .ok (.getfield 26, 3) := by decide +kernel
theorem dX3_come_4 : decode cX3_come 4 = .ok (.aload_n 0, 1) := by decide +kernel
theorem dX3_come_5 : decode cX3_come 5 = .ok (.getfield 10, 3) := by decide +kernel
theorem dX3_come_8 : decode cX3_come 8 = .ok (.invokevirtual 44, 3) := by decide +kernel
theorem dX3_come_11 : decode cX3_come 11 = .ok (.aload_n 0, 1) := by decide +kernel
theorem dX3_come_12 : decode cX3_come 12 = .ok (.getfield 26, 3) := by decide +kernel
theorem dX3_come_15 : decode cX3_come 15 = .ok (.aload_n 0, 1) := by decide +kernel
theorem dX3_come_16 : decode cX3_come 16 = .ok (.getfield 10, 3) := by decide +kernel
theorem dX3_come_19 : decode cX3_come 19 = .ok (.iload_n 1, 1) := by decide +kernel
theorem dX3_come_20 : decode cX3_come 20 = .ok (.iload_n 2, 1) := by decide +kernel
theorem dX3_come_21 : decode cX3_come 21 = .ok (.iload_n 3, 1) := by decide +kernel
theorem dX3_come_22 : decode cX3_come 22 = .ok (.iload 4, 2) := by decide +kernel
theorem dX3_come_24 : decode cX3_come 24 = .ok (.invokevirtual 48, 3) := by decide +kernel
theorem dX3_come_27 : decode cX3_come 27 = .ok (.invokevirtual 52, 3) := by decide +kernel
theorem dX3_come_30 : decode cX3_come 30 = .ok (.ireturn, 1) := by decide +kernel
theorem dX3_goAway_0 : decode cX3_goAway 0 = .ok (.aload_n 0, 1) := by decide +kernel
theorem dX3_goAway_1 : decode cX3_goAway 1 = .ok (.getfield 26, 3) := by decide +kernel
theorem dX3_goAway_4 : decode cX3_goAway 4 = .ok (.aload_n 0, 1) := by decide +kernel
theorem dX3_goAway_5 : decode cX3_goAway 5 = .ok (.getfield 10, 3) := by decide +kernel
theorem dX3_goAway_8 : decode cX3_goAway 8 = .ok (.invokevirtual 44, 3) := by decide +kernel
theorem dX3_goAway_11 : decode cX3_goAway 11 = .ok (.aload_n 0, 1) := by decide +kernel
theorem dX3_goAway_12 : decode cX3_goAway 12 = .ok (.getfield 26, 3) := by decide +kernel
theorem dX3_goAway_15 : decode cX3_goAway 15 = .ok (.aload_n 0, 1) := by decide +kernel
theorem dX3_goAway_16 : decode cX3_goAway 16 = .ok (.getfield 10, 3) := by decide +kernel
theorem dX3_goAway_19 : decode cX3_goAway 19 = .ok (.iload_n 1, 1) := by decide +kernel
theorem dX3_goAway_20 : decode cX3_goAway 20 = .ok (.invokevirtual 56, 3) := by decide +kernel
theorem dX3_goAway_23 : decode cX3_goAway 23 = .ok (.invokevirtual 52, 3) := by decide +kernel
theorem dX3_goAway_26 : decode cX3_goAway 26 = .ok (.ireturn, 1) := by decide +kernel
theorem dX3_setCradles_0 : decode cX3_setCradles 0 = .ok (.aload_n 0, 1) := by decide +kernel
theorem dX3_setCradles_1 : decode cX3_setCradles 1 = .ok (.getfield 26, 3) := by decide +kernel
theorem dX3_setCradles_4 : decode cX3_setCradles 4 = .ok (.aload_n 0, 1) := by decide +kernel
theorem dX3_setCradles_5 : decode cX3_setCradles 5 = .ok (.getfield 10, 3) := by decide +kernel
theorem dX3_setCradles_8 : decode cX3_setCradles 8 = .ok (.invokevirtual 44, 3) := by decide +kernel
theorem dX3_setCradles_11 : decode cX3_setCradles 11 = .ok (.aload_n 0, 1) := by decide +kernel
theorem dX3_setCradles_12 : decode cX3_setCradles 12 = .ok (.getfield 26, 3) := by decide +kernel
theorem dX3_setCradles_15 : decode cX3_setCradles 15 = .ok (.aload_n 0, 1) := by decide +kernel
theorem dX3_setCradles_16 : decode cX3_setCradles 16 = .ok (.getfield 10, 3) := by decide +kernel
theorem dX3_setCradles_19 : decode cX3_setCradles 19 = .ok (.iload_n 1, 1) := by decide +kernel
theorem dX3_setCradles_20 : decode cX3_setCradles 20 = .ok (.iload_n 2, 1) := by decide +kernel
theorem dX3_setCradles_21 : decode cX3_setCradles 21 = .ok (.invokevirtual 59, 3) := by decide +kernel
theorem dX3_setCradles_24 : decode cX3_setCradles 24 = .ok (.invokevirtual 52, 3) := by decide +kernel
theorem dX3_setCradles_27 : decode cX3_setCradles 27 = .ok (.ireturn, 1) := by decide +kernel
theorem dX3_setRow_0 : decode cX3_setRow 0 = .ok (.aload_n 0, 1) := by decide +kernel
theorem dX3_setRow_1 : decode cX3_setRow 1 = .ok (.getfield 26, 3) := by decide +kernel
theorem dX3_setRow_4 : decode cX3_setRow 4 = .ok (.aload_n 0, 1) := by decide +kernel
theorem dX3_setRow_5 : decode cX3_setRow 5 = .ok (.getfield 10, 3) := by decide +kernel
theorem dX3_setRow_8 : decode cX3_setRow 8 = .ok (.invokevirtual 44, 3) := by decide +kernel
theorem dX3_setRow_11 : decode cX3_setRow 11 = .ok (.aload_n 0, 1) := by decide +kernel
theorem dX3_setRow_12 : decode cX3_setRow 12 = .ok (.getfield 26, 3) := by decide +kernel
theorem dX3_setRow_15 : decode cX3_setRow 15 = .ok (.aload_n 0, 1) := by decide +kernel
theorem dX3_setRow_16 : decode cX3_setRow 16 = .ok (.getfield 10, 3) := by decide +kernel
theorem dX3_setRow_19 : decode cX3_setRow 19 = .ok (.iload_n 1, 1) := by decide +kernel
theorem dX3_setRow_20 : decode cX3_setRow 20 = .ok (.iload_n 2, 1) := by decide +kernel
theorem dX3_setRow_21 : decode cX3_setRow 21 = .ok (.invokevirtual 63, 3) := by decide +kernel
theorem dX3_setRow_24 : decode cX3_setRow 24 = .ok (.invokevirtual 52, 3) := by decide +kernel
theorem dX3_setRow_27 : decode cX3_setRow 27 = .ok (.ireturn, 1) := by decide +kernel
theorem dX3_set_0 : decode cX3_set 0 = .ok (.aload_n 0, 1) := by decide +kernel
theorem dX3_set_1 : decode cX3_set 1 = .ok (.getfield 26, 3) := by decide +kernel
theorem dX3_set_4 : decode cX3_set 4 = .ok (.aload_n 0, 1) := by decide +kernel
theorem dX3_set_5 : decode cX3_set 5 = .ok (.getfield 10, 3) := by decide +kernel
theorem dX3_set_8 : decode cX3_set 8 = .ok (.invokevirtual 44, 3) := by decide +kernel
theorem dX3_set_11 : decode cX3_set 11 = .ok (.aload_n 0, 1) := by decide +kernel
theorem dX3_set_12 : decode cX3_set 12 = .ok (.getfield 26, 3) := by decide +kernel
theorem dX3_set_15 : decode cX3_set 15 = .ok (.aload_n 0, 1) := by decide +kernel
theorem dX3_set_16 : decode cX3_set 16 = .ok (.getfield 10, 3) := by decide +kernel
theorem dX3_set_19 : decode cX3_set 19 = .ok (.iload_n 1, 1) := by decide +kernel
theorem dX3_set_20 : decode cX3_set 20 = .ok (.iload_n 2, 1) := by decide +kernel
theorem dX3_set_21 : decode cX3_set 21 = .ok (.invokevirtual 66, 3) := by decide +kernel
theorem dX3_set_24 : decode cX3_set 24 = .ok (.invokevirtual 52, 3) := by decide +kernel
theorem dX3_set_27 : decode cX3_set 27 = .ok (.ireturn, 1) := by decide +kernel
theorem dX3_lift_0 : decode cX3_lift 0 = .ok (.aload_n 0, 1) := by decide +kernel
theorem dX3_lift_1 : decode cX3_lift 1 = .ok (.getfield 26, 3) := by decide +kernel
theorem dX3_lift_4 : decode cX3_lift 4 = .ok (.aload_n 0, 1) := by decide +kernel
theorem dX3_lift_5 : decode cX3_lift 5 = .ok (.getfield 10, 3) := by decide +kernel
theorem dX3_lift_8 : decode cX3_lift 8 = .ok (.invokevirtual 44, 3) := by decide +kernel
theorem dX3_lift_11 : decode cX3_lift 11 = .ok (.aload_n 0, 1) := by decide +kernel
theorem dX3_lift_12 : decode cX3_lift 12 = .ok (.getfield 26, 3) := by decide +kernel
theorem dX3_lift_15 : decode cX3_lift 15 = .ok (.aload_n 0, 1) := by decide +kernel
theorem dX3_lift_16 : decode cX3_lift 16 = .ok (.getfield 10, 3) := by decide +kernel
theorem dX3_lift_19 : decode cX3_lift 19 = .ok (.iload_n 1, 1) := by decide +kernel
theorem dX3_lift_20 : decode cX3_lift 20 = .ok (.iload_n 2, 1) := by decide +kernel
theorem dX3_lift_21 : decode cX3_lift 21 = .ok (.invokevirtual 69, 3) := by decide +kernel
theorem dX3_lift_24 : decode cX3_lift 24 = .ok (.invokevirtual 52, 3) := by decide +kernel
theorem dX3_lift_27 : decode cX3_lift 27 = .ok (.ireturn, 1) := by decide +kernel
theorem dX3_launch_0 : decode cX3_launch 0 = .ok (.aload_n 0, 1) := by decide +kernel
theorem dX3_launch_1 : decode cX3_launch 1 = .ok (.getfield 26, 3) := by decide +kernel
theorem dX3_launch_4 : decode cX3_launch 4 = .ok (.aload_n 0, 1) := by decide +kernel
theorem dX3_launch_5 : decode cX3_launch 5 = .ok (.getfield 10, 3) := by decide +kernel
theorem dX3_launch_8 : decode cX3_launch 8 = .ok (.invokevirtual 44, 3) := by decide +kernel
theorem dX3_launch_11 : decode cX3_launch 11 = .ok (.aload_n 0, 1) := by decide +kernel
theorem dX3_launch_12 : decode cX3_launch 12 = .ok (.getfield 26, 3) := by decide +kernel
theorem dX3_launch_15 : decode cX3_launch 15 = .ok (.aload_n 0, 1) := by decide +kernel
theorem dX3_launch_16 : decode cX3_launch 16 = .ok (.getfield 10, 3) := by decide +kernel
theorem dX3_launch_19 : decode cX3_launch 19 = .ok (.iload_n 1, 1) := by decide +kernel
theorem dX3_launch_20 : decode cX3_launch 20 = .ok (.invokevirtual 72, 3) := by decide +kernel
theorem dX3_launch_23 : decode cX3_launch 23 = .ok (.invokevirtual 52, 3) := by decide +kernel
theorem dX3_launch_26 : decode cX3_launch 26 = .ok (.ireturn, 1) := by decide +kernel
theorem dX3_move_0 : decode cX3_move 0 = .ok (.aload_n 0, 1) := by decide +kernel
theorem dX3_move_1 : decode cX3_move 1 = .ok (.getfield 26, 3) := by decide +kernel
theorem dX3_move_4 : decode cX3_move 4 = .ok (.aload_n 0, 1) := by decide +kernel
theorem dX3_move_5 : decode cX3_move 5 = .ok (.getfield 10, 3) := by decide +kernel
theorem dX3_move_8 : decode cX3_move 8 = .ok (.invokevirtual 44, 3) := by decide +kernel
theorem dX3_move_11 : decode cX3_move 11 = .ok (.aload_n 0, 1) := by decide +kernel
theorem dX3_move_12 : decode cX3_move 12 = .ok (.getfield 26, 3) := by decide +kernel
theorem dX3_move_15 : decode cX3_move 15 = .ok (.aload_n 0, 1) := by decide +kernel
theorem dX3_move_16 : decode cX3_move 16 = .ok (.getfield 10, 3) := by decide +kernel
theorem dX3_move_19 : decode cX3_move 19 = .ok (.iload_n 1, 1) := by decide +kernel
theorem dX3_move_20 : decode cX3_move 20 = .ok (.iload_n 2, 1) := by decide +kernel
theorem dX3_move_21 : decode cX3_move 21 = .ok (.invokevirtual 75, 3) := by decide +kernel
theorem dX3_move_24 : decode cX3_move 24 = .ok (.invokevirtual 52, 3) := by decide +kernel
theorem dX3_move_27 : decode cX3_move 27 = .ok (.ireturn, 1) := by decide +kernel
theorem dX3_mast_0 : decode cX3_mast 0 = .ok (.aload_n 0, 1) := by decide +kernel
theorem dX3_mast_1 : decode cX3_mast 1 = .ok (.getfield 26, 3) := by decide +kernel
theorem dX3_mast_4 : decode cX3_mast 4 = .ok (.aload_n 0, 1) := by decide +kernel
theorem dX3_mast_5 : decode cX3_mast 5 = .ok (.getfield 10, 3) := by decide +kernel
theorem dX3_mast_8 : decode cX3_mast 8 = .ok (.invokevirtual 44, 3) := by decide +kernel
theorem dX3_mast_11 : decode cX3_mast 11 = .ok (.aload_n 0, 1) := by decide +kernel
theorem dX3_mast_12 : decode cX3_mast 12 = .ok (.getfield 26, 3) := by decide +kernel
theorem dX3_mast_15 : decode cX3_mast 15 = .ok (.iload_n 2, 1) := by decide +kernel
theorem dX3_mast_16 : decode cX3_mast 16 = .ok (.ifCond .eq 14, 3) := by decide +kernel
theorem dX3_mast_19 : decode cX3_mast 19 = .ok (.aload_n 0, 1) := by decide +kernel
theorem dX3_mast_20 : decode cX3_mast 20 = .ok (.getfield 10, 3) := by decide +kernel
theorem dX3_mast_23 : decode cX3_mast 23 = .ok (.iload_n 1, 1) := by decide +kernel
theorem dX3_mast_24 : decode cX3_mast 24 = .ok (.invokevirtual 78, 3) := by decide +kernel
theorem dX3_mast_27 : decode cX3_mast 27 = .ok (.goto 11, 3) := by decide +kernel
theorem dX3_mast_30 : decode cX3_mast 30 = .ok (.aload_n 0, 1) := by decide +kernel
theorem dX3_mast_31 : decode cX3_mast 31 = .ok (.getfield 10, 3) := by decide +kernel
theorem dX3_mast_34 : decode cX3_mast 34 = .ok (.iload_n 1, 1) := by decide +kernel
theorem dX3_mast_35 : decode cX3_mast 35 = .ok (.invokevirtual 81, 3) := by decide +kernel
theorem dX3_mast_38 : decode cX3_mast 38 = .ok (.invokevirtual 52, 3) := by decide +kernel
theorem dX3_mast_41 : decode cX3_mast 41 = .ok (.ireturn, 1) := by decide +kernel
theorem dX3_work_0 : decode cX3_work 0 = .ok (.aload_n 0, 1) := by decide +kernel
theorem dX3_work_1 : decode cX3_work 1 = .ok (.getfield 26, 3) := by decide +kernel
theorem dX3_work_4 : decode cX3_work 4 = .ok (.aload_n 0, 1) := by decide +kernel
theorem dX3_work_5 : decode cX3_work 5 = .ok (.getfield 10, 3) := by decide +kernel
theorem dX3_work_8 : decode cX3_work 8 = .ok (.invokevirtual 44, 3) := by decide +kernel
theorem dX3_work_11 : decode cX3_work 11 = .ok (.aload_n 0, 1) := by decide +kernel
theorem dX3_work_12 : decode cX3_work 12 = .ok (.getfield 26, 3) := by decide +kernel
theorem dX3_work_15 : decode cX3_work 15 = .ok (.aload_n 0, 1) := by decide +kernel
theorem dX3_work_16 : decode cX3_work 16 = .ok (.getfield 10, 3) := by decide +kernel
theorem dX3_work_19 : decode cX3_work 19 = .ok (.iload_n 1, 1) := by decide +kernel
theorem dX3_work_20 : decode cX3_work 20 = .ok (.iload_n 2, 1) := by decide +kernel
theorem dX3_work_21 : decode cX3_work 21 = .ok (.invokevirtual 84, 3) := by decide +kernel
theorem dX3_work_24 : decode cX3_work 24 = .ok (.invokevirtual 52, 3) := by decide +kernel
theorem dX3_work_27 : decode cX3_work 27 = .ok (.ireturn, 1) := by decide +kernel
theorem dX3_pass_0 : decode cX3_pass 0 = .ok (.aload_n 0, 1) := by decide +kernel
theorem dX3_pass_1 : decode cX3_pass 1 = .ok (.getfield 26, 3) := by decide +kernel
theorem dX3_pass_4 : decode cX3_pass 4 = .ok (.aload_n 0, 1) := by decide +kernel
theorem dX3_pass_5 : decode cX3_pass 5 = .ok (.getfield 10, 3) := by decide +kernel
theorem dX3_pass_8 : decode cX3_pass 8 = .ok (.invokevirtual 44, 3) := by decide +kernel
theorem dX3_pass_11 : decode cX3_pass 11 = .ok (.aload_n 0, 1) := by decide +kernel
theorem dX3_pass_12 : decode cX3_pass 12 = .ok (.getfield 26, 3) := by decide +kernel
theorem dX3_pass_15 : decode cX3_pass 15 = .ok (.aload_n 0, 1) := by decide +kernel
theorem dX3_pass_16 : decode cX3_pass 16 = .ok (.getfield 10, 3) := by decide +kernel
theorem dX3_pass_19 : decode cX3_pass 19 = .ok (.iload_n 1, 1) := by decide +kernel
theorem dX3_pass_20 : decode cX3_pass 20 = .ok (.invokevirtual 87, 3) := by decide +kernel
theorem dX3_pass_23 : decode cX3_pass 23 = .ok (.invokevirtual 52, 3) := by decide +kernel
theorem dX3_pass_26 : decode cX3_pass 26 = .ok (.ireturn, 1) := by decide +kernel
theorem dX3_stopped_0 : decode cX3_stopped 0 = .ok (.iload_n 1, 1) := by decide +kernel
theorem dX3_stopped_1 : decode cX3_stopped 1 = .ok (.ifCond .ne 8, 3) := by decide +kernel
theorem dX3_stopped_4 : decode cX3_stopped 4 = .ok (.aload_n 0, 1) := by decide +kernel
theorem dX3_stopped_5 : decode cX3_stopped 5 = .ok (.getfield 37, 3) := by decide +kernel
theorem dX3_stopped_8 : decode cX3_stopped 8 = .ok (.ireturn, 1) := by decide +kernel
theorem dX3_stopped_9 : decode cX3_stopped 9 = .ok (.iload_n 1, 1) := by decide +kernel
theorem dX3_stopped_10 : decode cX3_stopped 10 = .ok (.iconst 1, 1) := by decide +kernel
theorem dX3_stopped_11 : decode cX3_stopped 11 = .ok (.if_icmp .ne 8, 3) := by decide +kernel
theorem dX3_stopped_14 : decode cX3_stopped 14 = .ok (.aload_n 0, 1) := by decide +kernel
theorem dX3_stopped_15 : decode cX3_stopped 15 = .ok (.getfield 41, 3) := by decide +kernel
theorem dX3_stopped_18 : decode cX3_stopped 18 = .ok (.ireturn, 1) := by decide +kernel
theorem dX3_stopped_19 : decode cX3_stopped 19 = .ok (.bipush (-2), 2) := by decide +kernel
theorem dX3_stopped_21 : decode cX3_stopped 21 = .ok (.ireturn, 1) := by decide +kernel
theorem dX3_undo_0 : decode cX3_undo 0 = .ok (.aload_n 0, 1) := by decide +kernel
theorem dX3_undo_1 : decode cX3_undo 1 = .ok (.getfield 26, 3) := by decide +kernel
theorem dX3_undo_4 : decode cX3_undo 4 = .ok (.aload_n 0, 1) := by decide +kernel
theorem dX3_undo_5 : decode cX3_undo 5 = .ok (.getfield 10, 3) := by decide +kernel
theorem dX3_undo_8 : decode cX3_undo 8 = .ok (.invokevirtual 121, 3) := by decide +kernel
theorem dX3_undo_11 : decode cX3_undo 11 = .ok (.ireturn, 1) := by decide +kernel
theorem dX3_restore_0 : decode cX3_restore 0 = .ok (.aload_n 0, 1) := by decide +kernel
theorem dX3_restore_1 : decode cX3_restore 1 = .ok (.getfield 19, 3) := by decide +kernel
theorem dX3_restore_4 : decode cX3_restore 4 = .ok (.ifCond .ne 6, 3) := by decide +kernel
theorem dX3_restore_7 : decode cX3_restore 7 = .ok (.bipush (-5), 2) := by decide +kernel
theorem dX3_restore_9 : decode cX3_restore 9 = .ok (.ireturn, 1) := by decide +kernel
theorem dX3_restore_10 : decode cX3_restore 10 = .ok (.aload_n 0, 1) := by decide +kernel
theorem dX3_restore_11 : decode cX3_restore 11 = .ok (.getfield 26, 3) := by decide +kernel
theorem dX3_restore_14 : decode cX3_restore 14 = .ok (.aload_n 0, 1) := by decide +kernel
theorem dX3_restore_15 : decode cX3_restore 15 = .ok (.getfield 10, 3) := by decide +kernel
theorem dX3_restore_18 : decode cX3_restore 18 = .ok (.invokevirtual 44, 3) := by decide +kernel
theorem dX3_restore_21 : decode cX3_restore 21 = .ok (.aload_n 0, 1) := by decide +kernel
theorem dX3_restore_22 : decode cX3_restore 22 = .ok (.getfield 10, 3) := by decide +kernel
theorem dX3_restore_25 : decode cX3_restore 25 = .ok (.aload_n 0, 1) := by decide +kernel
theorem dX3_restore_26 : decode cX3_restore 26 = .ok (.getfield 16, 3) := by decide +kernel
theorem dX3_restore_29 : decode cX3_restore 29 = .ok (.invokevirtual 125, 3) := by decide +kernel
theorem dX3_restore_32 : decode cX3_restore 32 = .ok (.aload_n 0, 1) := by decide +kernel
theorem dX3_restore_33 : decode cX3_restore 33 = .ok (.getfield 26, 3) := by decide +kernel
theorem dX3_restore_36 : decode cX3_restore 36 = .ok (.aload_n 0, 1) := by decide +kernel
theorem dX3_restore_37 : decode cX3_restore 37 = .ok (.getfield 10, 3) := by decide +kernel
theorem dX3_restore_40 : decode cX3_restore 40 = .ok (.invokevirtual 128, 3) := by decide +kernel
theorem dX3_restore_43 : decode cX3_restore 43 = .ok (.invokevirtual 52, 3) := by decide +kernel
theorem dX3_restore_46 : decode cX3_restore 46 = .ok (.ireturn, 1) := by decide +kernel
theorem dX3_boat_0 : decode cX3_boat 0 = .ok (.aload_n 0, 1) := by decide +kernel
theorem dX3_boat_1 : decode cX3_boat 1 = .ok (.getfield 10, 3) := by decide +kernel
theorem dX3_boat_4 : decode cX3_boat 4 = .ok (.iload_n 1, 1) := by decide +kernel
theorem dX3_boat_5 : decode cX3_boat 5 = .ok (.invokevirtual 131, 3) := by decide +kernel
theorem dX3_boat_8 : decode cX3_boat 8 = .ok (.ifCond .ne 5, 3) := by decide +kernel
theorem dX3_boat_11 : decode cX3_boat 11 = .ok (.iconst (-1), 1) := by decide +kernel
theorem dX3_boat_12 : decode cX3_boat 12 = .ok (.ireturn, 1) := by decide +kernel
theorem dX3_boat_13 : decode cX3_boat 13 = .ok (.iload_n 2, 1) := by decide +kernel
theorem dX3_boat_14 : decode cX3_boat 14 = .ok (.invokestatic 135, 3) := by decide +kernel
theorem dX3_boat_17 : decode cX3_boat 17 = .ok (.ifCond .eq 15, 3) := by decide +kernel
theorem dX3_boat_20 : decode cX3_boat 20 = .ok (.aload_n 0, 1) := by decide +kernel
theorem dX3_boat_21 : decode cX3_boat 21 = .ok (.getfield 10, 3) := by decide +kernel
theorem dX3_boat_24 : decode cX3_boat 24 = .ok (.iload_n 1, 1) := by decide +kernel
theorem dX3_boat_25 : decode cX3_boat 25 = .ok (.iload_n 2, 1) := by decide +kernel
theorem dX3_boat_26 : decode cX3_boat 26 = .ok (.invokevirtual 138, 3) := by decide +kernel
theorem dX3_boat_29 : decode cX3_boat 29 = .ok (.goto 5, 3) := by decide +kernel
theorem dX3_boat_32 : decode cX3_boat 32 = .ok (.bipush (-2), 2) := by decide +kernel
theorem dX3_boat_34 : decode cX3_boat 34 = .ok (.ireturn, 1) := by decide +kernel
theorem dX3_row_0 : decode cX3_row 0 = .ok (.iload_n 1, 1) := by decide +kernel
theorem dX3_row_1 : decode cX3_row 1 = .ok (.invokestatic 141, 3) := by decide +kernel
theorem dX3_row_4 : decode cX3_row 4 = .ok (.ifCond .ne 5, 3) := by decide +kernel
theorem dX3_row_7 : decode cX3_row 7 = .ok (.iconst (-1), 1) := by decide +kernel
theorem dX3_row_8 : decode cX3_row 8 = .ok (.ireturn, 1) := by decide +kernel
theorem dX3_row_9 : decode cX3_row 9 = .ok (.iload_n 2, 1) := by decide +kernel
theorem dX3_row_10 : decode cX3_row 10 = .ok (.tableswitch 76 0 3 #[30, 39, 48, 57], 30) := by decide +kernel
theorem dX3_row_40 : decode cX3_row 40 = .ok (.aload_n 0, 1) := by decide +kernel
theorem dX3_row_41 : decode cX3_row 41 = .ok (.getfield 10, 3) := by decide +kernel
theorem dX3_row_44 : decode cX3_row 44 = .ok (.iload_n 1, 1) := by decide +kernel
theorem dX3_row_45 : decode cX3_row 45 = .ok (.invokevirtual 144, 3) := by decide +kernel
theorem dX3_row_48 : decode cX3_row 48 = .ok (.ireturn, 1) := by decide +kernel
theorem dX3_row_49 : decode cX3_row 49 = .ok (.aload_n 0, 1) := by decide +kernel
theorem dX3_row_50 : decode cX3_row 50 = .ok (.getfield 10, 3) := by decide +kernel
theorem dX3_row_53 : decode cX3_row 53 = .ok (.iload_n 1, 1) := by decide +kernel
theorem dX3_row_54 : decode cX3_row 54 = .ok (.invokevirtual 147, 3) := by decide +kernel
theorem dX3_row_57 : decode cX3_row 57 = .ok (.ireturn, 1) := by decide +kernel
theorem dX3_row_58 : decode cX3_row 58 = .ok (.aload_n 0, 1) := by decide +kernel
theorem dX3_row_59 : decode cX3_row 59 = .ok (.getfield 10, 3) := by decide +kernel
theorem dX3_row_62 : decode cX3_row 62 = .ok (.iload_n 1, 1) := by decide +kernel
theorem dX3_row_63 : decode cX3_row 63 = .ok (.invokevirtual 150, 3) := by decide +kernel
theorem dX3_row_66 : decode cX3_row 66 = .ok (.ireturn, 1) := by decide +kernel
theorem dX3_row_67 : decode cX3_row 67 = .ok (.aload_n 0, 1) := by decide +kernel
theorem dX3_row_68 : decode cX3_row 68 = .ok (.getfield 10, 3) := by decide +kernel
theorem dX3_row_71 : decode cX3_row 71 = .ok (.iload_n 1, 1) := by decide +kernel
theorem dX3_row_72 : decode cX3_row 72 = .ok (.aload_n 0, 1) := by decide +kernel
theorem dX3_row_73 : decode cX3_row 73 = .ok (.getfield 10, 3) := by decide +kernel
theorem dX3_row_76 : decode cX3_row 76 = .ok (.iload_n 1, 1) := by decide +kernel
theorem dX3_row_77 : decode cX3_row 77 = .ok (.invokevirtual 150, 3) := by decide +kernel
theorem dX3_row_80 : decode cX3_row 80 = .ok (.iconst 1, 1) := by decide +kernel
theorem dX3_row_81 : decode cX3_row 81 = .ok (.isub, 1) := by decide +kernel
theorem dX3_row_82 : decode cX3_row 82 = .ok (.invokevirtual 153, 3) := by decide +kernel
theorem dX3_row_85 : decode cX3_row 85 = .ok (.ireturn, 1) := by decide +kernel
theorem dX3_row_86 : decode cX3_row 86 = .ok (.bipush (-2), 2) := by decide +kernel
theorem dX3_row_88 : decode cX3_row 88 = .ok (.ireturn, 1) := by decide +kernel
theorem dX3_stands_0 : decode cX3_stands 0 = .ok (.iload_n 1, 1) := by decide +kernel
theorem dX3_stands_1 : decode cX3_stands 1 = .ok (.invokestatic 141, 3) := by decide +kernel
theorem dX3_stands_4 : decode cX3_stands 4 = .ok (.ifCond .ne 5, 3) := by decide +kernel
theorem dX3_stands_7 : decode cX3_stands 7 = .ok (.iconst (-1), 1) := by decide +kernel
theorem dX3_stands_8 : decode cX3_stands 8 = .ok (.ireturn, 1) := by decide +kernel
theorem dX3_stands_9 : decode cX3_stands 9 = .ok (.iload_n 2, 1) := by decide +kernel
theorem dX3_stands_10 : decode cX3_stands 10 = .ok (.ifCond .ge 8, 3) := by decide +kernel
theorem dX3_stands_13 : decode cX3_stands 13 = .ok (.bipush (-2), 2) := by decide +kernel
theorem dX3_stands_15 : decode cX3_stands 15 = .ok (.goto 12, 3) := by decide +kernel
theorem dX3_stands_18 : decode cX3_stands 18 = .ok (.aload_n 0, 1) := by decide +kernel
theorem dX3_stands_19 : decode cX3_stands 19 = .ok (.getfield 10, 3) := by decide +kernel
theorem dX3_stands_22 : decode cX3_stands 22 = .ok (.iload_n 1, 1) := by decide +kernel
theorem dX3_stands_23 : decode cX3_stands 23 = .ok (.iload_n 2, 1) := by decide +kernel
theorem dX3_stands_24 : decode cX3_stands 24 = .ok (.invokevirtual 153, 3) := by decide +kernel
theorem dX3_stands_27 : decode cX3_stands 27 = .ok (.ireturn, 1) := by decide +kernel
theorem dX3_cradle_0 : decode cX3_cradle 0 = .ok (.iload_n 1, 1) := by decide +kernel
theorem dX3_cradle_1 : decode cX3_cradle 1 = .ok (.invokestatic 156, 3) := by decide +kernel
theorem dX3_cradle_4 : decode cX3_cradle 4 = .ok (.ifCond .ne 5, 3) := by decide +kernel
theorem dX3_cradle_7 : decode cX3_cradle 7 = .ok (.iconst (-1), 1) := by decide +kernel
theorem dX3_cradle_8 : decode cX3_cradle 8 = .ok (.ireturn, 1) := by decide +kernel
theorem dX3_cradle_9 : decode cX3_cradle 9 = .ok (.iload_n 2, 1) := by decide +kernel
theorem dX3_cradle_10 : decode cX3_cradle 10 = .ok (.tableswitch 49 0 2 #[26, 35, 44], 26) := by decide +kernel
theorem dX3_cradle_36 : decode cX3_cradle 36 = .ok (.aload_n 0, 1) := by decide +kernel
theorem dX3_cradle_37 : decode cX3_cradle 37 = .ok (.getfield 10, 3) := by decide +kernel
theorem dX3_cradle_40 : decode cX3_cradle 40 = .ok (.iload_n 1, 1) := by decide +kernel
theorem dX3_cradle_41 : decode cX3_cradle 41 = .ok (.invokevirtual 159, 3) := by decide +kernel
theorem dX3_cradle_44 : decode cX3_cradle 44 = .ok (.ireturn, 1) := by decide +kernel
theorem dX3_cradle_45 : decode cX3_cradle 45 = .ok (.aload_n 0, 1) := by decide +kernel
theorem dX3_cradle_46 : decode cX3_cradle 46 = .ok (.getfield 10, 3) := by decide +kernel
theorem dX3_cradle_49 : decode cX3_cradle 49 = .ok (.iload_n 1, 1) := by decide +kernel
theorem dX3_cradle_50 : decode cX3_cradle 50 = .ok (.invokevirtual 162, 3) := by decide +kernel
theorem dX3_cradle_53 : decode cX3_cradle 53 = .ok (.ireturn, 1) := by decide +kernel
theorem dX3_cradle_54 : decode cX3_cradle 54 = .ok (.iload_n 1, 1) := by decide +kernel
theorem dX3_cradle_55 : decode cX3_cradle 55 = .ok (.invokestatic 165, 3) := by decide +kernel
theorem dX3_cradle_58 : decode cX3_cradle 58 = .ok (.ireturn, 1) := by decide +kernel
theorem dX3_cradle_59 : decode cX3_cradle 59 = .ok (.bipush (-2), 2) := by decide +kernel
theorem dX3_cradle_61 : decode cX3_cradle 61 = .ok (.ireturn, 1) := by decide +kernel
theorem dX3_tide_0 : decode cX3_tide 0 = .ok (.iload_n 1, 1) := by decide +kernel
theorem dX3_tide_1 : decode cX3_tide 1 = .ok (.iconst 0, 1) := by decide +kernel
theorem dX3_tide_2 : decode cX3_tide 2 = .ok (.sipush 9999, 3) := by decide +kernel
theorem dX3_tide_5 : decode cX3_tide 5 = .ok (.invokestatic 168, 3) := by decide +kernel
theorem dX3_tide_8 : decode cX3_tide 8 = .ok (.ifCond .eq 14, 3) := by decide +kernel
theorem dX3_tide_11 : decode cX3_tide 11 = .ok (.aload_n 0, 1) := by decide +kernel
theorem dX3_tide_12 : decode cX3_tide 12 = .ok (.getfield 10, 3) := by decide +kernel
theorem dX3_tide_15 : decode cX3_tide 15 = .ok (.iload_n 1, 1) := by decide +kernel
theorem dX3_tide_16 : decode cX3_tide 16 = .ok (.invokevirtual 172, 3) := by decide +kernel
theorem dX3_tide_19 : decode cX3_tide 19 = .ok (.goto 5, 3) := by decide +kernel
theorem dX3_tide_22 : decode cX3_tide 22 = .ok (.bipush (-2), 2) := by decide +kernel
theorem dX3_tide_24 : decode cX3_tide 24 = .ok (.ireturn, 1) := by decide +kernel
theorem dX3_liftReason_0 : decode cX3_liftReason 0 = .ok (.aload_n 0, 1) := by decide +kernel
theorem dX3_liftReason_1 : decode cX3_liftReason 1 = .ok (.getfield 10, 3) := by decide +kernel
theorem dX3_liftReason_4 : decode cX3_liftReason 4 = .ok (.iload_n 1, 1) := by decide +kernel
theorem dX3_liftReason_5 : decode cX3_liftReason 5 = .ok (.invokevirtual 131, 3) := by decide +kernel
theorem dX3_liftReason_8 : decode cX3_liftReason 8 = .ok (.ifCond .eq 22, 3) := by decide +kernel
theorem dX3_liftReason_11 : decode cX3_liftReason 11 = .ok (.iload_n 2, 1) := by decide +kernel
theorem dX3_liftReason_12 : decode cX3_liftReason 12 = .ok (.invokestatic 141, 3) := by decide +kernel
theorem dX3_liftReason_15 : decode cX3_liftReason 15 = .ok (.ifCond .eq 15, 3) := by decide +kernel
theorem dX3_liftReason_18 : decode cX3_liftReason 18 = .ok (.aload_n 0, 1) := by decide +kernel
theorem dX3_liftReason_19 : decode cX3_liftReason 19 = .ok (.getfield 10, 3) := by decide +kernel
theorem dX3_liftReason_22 : decode cX3_liftReason 22 = .ok (.iload_n 1, 1) := by decide +kernel
theorem dX3_liftReason_23 : decode cX3_liftReason 23 = .ok (.iload_n 2, 1) := by decide +kernel
theorem dX3_liftReason_24 : decode cX3_liftReason 24 = .ok (.invokevirtual 175, 3) := by decide +kernel
theorem dX3_liftReason_27 : decode cX3_liftReason 27 = .ok (.goto 4, 3) := by decide +kernel
theorem dX3_liftReason_30 : decode cX3_liftReason 30 = .ok (.iconst (-1), 1) := by decide +kernel
theorem dX3_liftReason_31 : decode cX3_liftReason 31 = .ok (.ireturn, 1) := by decide +kernel
theorem dX3_launchReason_0 : decode cX3_launchReason 0 = .ok (.aload_n 0, 1) := by decide +kernel
theorem dX3_launchReason_1 : decode cX3_launchReason 1 = .ok (.getfield 10, 3) := by decide +kernel
theorem dX3_launchReason_4 : decode cX3_launchReason 4 = .ok (.iload_n 1, 1) := by decide +kernel
theorem dX3_launchReason_5 : decode cX3_launchReason 5 = .ok (.invokevirtual 131, 3) := by decide +kernel
theorem dX3_launchReason_8 : decode cX3_launchReason 8 = .ok (.ifCond .eq 14, 3) := by decide +kernel
theorem dX3_launchReason_11 : decode cX3_launchReason 11 = .ok (.aload_n 0, 1) := by decide +kernel
theorem dX3_launchReason_12 : decode cX3_launchReason 12 = .ok (.getfield 10, 3) := by decide +kernel
theorem dX3_launchReason_15 : decode cX3_launchReason 15 = .ok (.iload_n 1, 1) := by decide +kernel
theorem dX3_launchReason_16 : decode cX3_launchReason 16 = .ok (.invokevirtual 178, 3) := by decide +kernel
theorem dX3_launchReason_19 : decode cX3_launchReason 19 = .ok (.goto 4, 3) := by decide +kernel
theorem dX3_launchReason_22 : decode cX3_launchReason 22 = .ok (.iconst (-1), 1) := by decide +kernel
theorem dX3_launchReason_23 : decode cX3_launchReason 23 = .ok (.ireturn, 1) := by decide +kernel
theorem dX3_blockers_0 : decode cX3_blockers 0 = .ok (.aload_n 0, 1) := by decide +kernel
theorem dX3_blockers_1 : decode cX3_blockers 1 = .ok (.getfield 10, 3) := by decide +kernel
theorem dX3_blockers_4 : decode cX3_blockers 4 = .ok (.iload_n 1, 1) := by decide +kernel
theorem dX3_blockers_5 : decode cX3_blockers 5 = .ok (.invokevirtual 131, 3) := by decide +kernel
theorem dX3_blockers_8 : decode cX3_blockers 8 = .ok (.ifCond .ne 5, 3) := by decide +kernel
theorem dX3_blockers_11 : decode cX3_blockers 11 = .ok (.iconst (-1), 1) := by decide +kernel
theorem dX3_blockers_12 : decode cX3_blockers 12 = .ok (.ireturn, 1) := by decide +kernel
theorem dX3_blockers_13 : decode cX3_blockers 13 = .ok (.aload_n 0, 1) := by decide +kernel
theorem dX3_blockers_14 : decode cX3_blockers 14 = .ok (.getfield 10, 3) := by decide +kernel
theorem dX3_blockers_17 : decode cX3_blockers 17 = .ok (.iload_n 1, 1) := by decide +kernel
theorem dX3_blockers_18 : decode cX3_blockers 18 = .ok (.invokevirtual 181, 3) := by decide +kernel
theorem dX3_blockers_21 : decode cX3_blockers 21 = .ok (.ifCond .eq 14, 3) := by decide +kernel
theorem dX3_blockers_24 : decode cX3_blockers 24 = .ok (.aload_n 0, 1) := by decide +kernel
theorem dX3_blockers_25 : decode cX3_blockers 25 = .ok (.getfield 10, 3) := by decide +kernel
theorem dX3_blockers_28 : decode cX3_blockers 28 = .ok (.iload_n 1, 1) := by decide +kernel
theorem dX3_blockers_29 : decode cX3_blockers 29 = .ok (.invokevirtual 184, 3) := by decide +kernel
theorem dX3_blockers_32 : decode cX3_blockers 32 = .ok (.goto 5, 3) := by decide +kernel
theorem dX3_blockers_35 : decode cX3_blockers 35 = .ok (.bipush (-5), 2) := by decide +kernel
theorem dX3_blockers_37 : decode cX3_blockers 37 = .ok (.ireturn, 1) := by decide +kernel
theorem dX3_launchDay_0 : decode cX3_launchDay 0 = .ok (.aload_n 0, 1) := by decide +kernel
theorem dX3_launchDay_1 : decode cX3_launchDay 1 = .ok (.getfield 10, 3) := by decide +kernel
theorem dX3_launchDay_4 : decode cX3_launchDay 4 = .ok (.iload_n 1, 1) := by decide +kernel
theorem dX3_launchDay_5 : decode cX3_launchDay 5 = .ok (.invokevirtual 131, 3) := by decide +kernel
theorem dX3_launchDay_8 : decode cX3_launchDay 8 = .ok (.ifCond .ne 5, 3) := by decide +kernel
theorem dX3_launchDay_11 : decode cX3_launchDay 11 = .ok (.iconst (-1), 1) := by decide +kernel
theorem dX3_launchDay_12 : decode cX3_launchDay 12 = .ok (.ireturn, 1) := by decide +kernel
theorem dX3_launchDay_13 : decode cX3_launchDay 13 = .ok (.aload_n 0, 1) := by decide +kernel
theorem dX3_launchDay_14 : decode cX3_launchDay 14 = .ok (.getfield 10, 3) := by decide +kernel
theorem dX3_launchDay_17 : decode cX3_launchDay 17 = .ok (.iload_n 1, 1) := by decide +kernel
theorem dX3_launchDay_18 : decode cX3_launchDay 18 = .ok (.invokevirtual 181, 3) := by decide +kernel
theorem dX3_launchDay_21 : decode cX3_launchDay 21 = .ok (.ifCond .eq 14, 3) := by decide +kernel
theorem dX3_launchDay_24 : decode cX3_launchDay 24 = .ok (.aload_n 0, 1) := by decide +kernel
theorem dX3_launchDay_25 : decode cX3_launchDay 25 = .ok (.getfield 10, 3) := by decide +kernel
theorem dX3_launchDay_28 : decode cX3_launchDay 28 = .ok (.iload_n 1, 1) := by decide +kernel
theorem dX3_launchDay_29 : decode cX3_launchDay 29 = .ok (.invokevirtual 187, 3) := by decide +kernel
theorem dX3_launchDay_32 : decode cX3_launchDay 32 = .ok (.goto 5, 3) := by decide +kernel
theorem dX3_launchDay_35 : decode cX3_launchDay 35 = .ok (.bipush (-5), 2) := by decide +kernel
theorem dX3_launchDay_37 : decode cX3_launchDay 37 = .ok (.ireturn, 1) := by decide +kernel
theorem dX3_bestRow_0 : decode cX3_bestRow 0 = .ok (.aload_n 0, 1) := by decide +kernel
theorem dX3_bestRow_1 : decode cX3_bestRow 1 = .ok (.getfield 10, 3) := by decide +kernel
theorem dX3_bestRow_4 : decode cX3_bestRow 4 = .ok (.iload_n 1, 1) := by decide +kernel
theorem dX3_bestRow_5 : decode cX3_bestRow 5 = .ok (.invokevirtual 131, 3) := by decide +kernel
theorem dX3_bestRow_8 : decode cX3_bestRow 8 = .ok (.ifCond .eq 14, 3) := by decide +kernel
theorem dX3_bestRow_11 : decode cX3_bestRow 11 = .ok (.aload_n 0, 1) := by decide +kernel
theorem dX3_bestRow_12 : decode cX3_bestRow 12 = .ok (.getfield 10, 3) := by decide +kernel
theorem dX3_bestRow_15 : decode cX3_bestRow 15 = .ok (.iload_n 1, 1) := by decide +kernel
theorem dX3_bestRow_16 : decode cX3_bestRow 16 = .ok (.invokevirtual 190, 3) := by decide +kernel
theorem dX3_bestRow_19 : decode cX3_bestRow 19 = .ok (.goto 4, 3) := by decide +kernel
theorem dX3_bestRow_22 : decode cX3_bestRow 22 = .ok (.iconst (-1), 1) := by decide +kernel
theorem dX3_bestRow_23 : decode cX3_bestRow 23 = .ok (.ireturn, 1) := by decide +kernel
theorem dX3_count_0 : decode cX3_count 0 = .ok (.iload_n 1, 1) := by decide +kernel
theorem dX3_count_1 : decode cX3_count 1 = .ok (.tableswitch 207 0 14 #[75, 83, 98, 106, 114, 122, 130, 138, 146, 155, 164, 173, 182, 191, 199], 75) := by decide +kernel
theorem dX3_count_76 : decode cX3_count 76 = .ok (.aload_n 0, 1) := by decide +kernel
theorem dX3_count_77 : decode cX3_count 77 = .ok (.getfield 10, 3) := by decide +kernel
theorem dX3_count_80 : decode cX3_count 80 = .ok (.invokevirtual 193, 3) := by decide +kernel
theorem dX3_count_83 : decode cX3_count 83 = .ok (.ireturn, 1) := by decide +kernel
theorem dX3_count_84 : decode cX3_count 84 = .ok (.aload_n 0, 1) := by decide +kernel
theorem dX3_count_85 : decode cX3_count 85 = .ok (.getfield 10, 3) := by decide +kernel
theorem dX3_count_88 : decode cX3_count 88 = .ok (.aload_n 0, 1) := by decide +kernel
theorem dX3_count_89 : decode cX3_count 89 = .ok (.getfield 10, 3) := by decide +kernel
theorem dX3_count_92 : decode cX3_count 92 = .ok (.invokevirtual 193, 3) := by decide +kernel
theorem dX3_count_95 : decode cX3_count 95 = .ok (.invokevirtual 172, 3) := by decide +kernel
theorem dX3_count_98 : decode cX3_count 98 = .ok (.ireturn, 1) := by decide +kernel
theorem dX3_count_99 : decode cX3_count 99 = .ok (.aload_n 0, 1) := by decide +kernel
theorem dX3_count_100 : decode cX3_count 100 = .ok (.getfield 10, 3) := by decide +kernel
theorem dX3_count_103 : decode cX3_count 103 = .ok (.invokevirtual 196, 3) := by decide +kernel
theorem dX3_count_106 : decode cX3_count 106 = .ok (.ireturn, 1) := by decide +kernel
theorem dX3_count_107 : decode cX3_count 107 = .ok (.aload_n 0, 1) := by decide +kernel
theorem dX3_count_108 : decode cX3_count 108 = .ok (.getfield 10, 3) := by decide +kernel
theorem dX3_count_111 : decode cX3_count 111 = .ok (.invokevirtual 128, 3) := by decide +kernel
theorem dX3_count_114 : decode cX3_count 114 = .ok (.ireturn, 1) := by decide +kernel
theorem dX3_count_115 : decode cX3_count 115 = .ok (.aload_n 0, 1) := by decide +kernel
theorem dX3_count_116 : decode cX3_count 116 = .ok (.getfield 10, 3) := by decide +kernel
theorem dX3_count_119 : decode cX3_count 119 = .ok (.invokevirtual 199, 3) := by decide +kernel
theorem dX3_count_122 : decode cX3_count 122 = .ok (.ireturn, 1) := by decide +kernel
theorem dX3_count_123 : decode cX3_count 123 = .ok (.aload_n 0, 1) := by decide +kernel
theorem dX3_count_124 : decode cX3_count 124 = .ok (.getfield 10, 3) := by decide +kernel
theorem dX3_count_127 : decode cX3_count 127 = .ok (.invokevirtual 202, 3) := by decide +kernel
theorem dX3_count_130 : decode cX3_count 130 = .ok (.ireturn, 1) := by decide +kernel
theorem dX3_count_131 : decode cX3_count 131 = .ok (.aload_n 0, 1) := by decide +kernel
theorem dX3_count_132 : decode cX3_count 132 = .ok (.getfield 10, 3) := by decide +kernel
theorem dX3_count_135 : decode cX3_count 135 = .ok (.invokevirtual 205, 3) := by decide +kernel
theorem dX3_count_138 : decode cX3_count 138 = .ok (.ireturn, 1) := by decide +kernel
theorem dX3_count_139 : decode cX3_count 139 = .ok (.aload_n 0, 1) := by decide +kernel
theorem dX3_count_140 : decode cX3_count 140 = .ok (.getfield 10, 3) := by decide +kernel
theorem dX3_count_143 : decode cX3_count 143 = .ok (.invokevirtual 208, 3) := by decide +kernel
theorem dX3_count_146 : decode cX3_count 146 = .ok (.ireturn, 1) := by decide +kernel
theorem dX3_count_147 : decode cX3_count 147 = .ok (.aload_n 0, 1) := by decide +kernel
theorem dX3_count_148 : decode cX3_count 148 = .ok (.getfield 10, 3) := by decide +kernel
theorem dX3_count_151 : decode cX3_count 151 = .ok (.iconst 0, 1) := by decide +kernel
theorem dX3_count_152 : decode cX3_count 152 = .ok (.invokevirtual 211, 3) := by decide +kernel
theorem dX3_count_155 : decode cX3_count 155 = .ok (.ireturn, 1) := by decide +kernel
theorem dX3_count_156 : decode cX3_count 156 = .ok (.aload_n 0, 1) := by decide +kernel
theorem dX3_count_157 : decode cX3_count 157 = .ok (.getfield 10, 3) := by decide +kernel
theorem dX3_count_160 : decode cX3_count 160 = .ok (.iconst 1, 1) := by decide +kernel
theorem dX3_count_161 : decode cX3_count 161 = .ok (.invokevirtual 211, 3) := by decide +kernel
theorem dX3_count_164 : decode cX3_count 164 = .ok (.ireturn, 1) := by decide +kernel
theorem dX3_count_165 : decode cX3_count 165 = .ok (.aload_n 0, 1) := by decide +kernel
theorem dX3_count_166 : decode cX3_count 166 = .ok (.getfield 10, 3) := by decide +kernel
theorem dX3_count_169 : decode cX3_count 169 = .ok (.iconst 0, 1) := by decide +kernel
theorem dX3_count_170 : decode cX3_count 170 = .ok (.invokevirtual 214, 3) := by decide +kernel
theorem dX3_count_173 : decode cX3_count 173 = .ok (.ireturn, 1) := by decide +kernel
theorem dX3_count_174 : decode cX3_count 174 = .ok (.aload_n 0, 1) := by decide +kernel
theorem dX3_count_175 : decode cX3_count 175 = .ok (.getfield 10, 3) := by decide +kernel
theorem dX3_count_178 : decode cX3_count 178 = .ok (.iconst 1, 1) := by decide +kernel
theorem dX3_count_179 : decode cX3_count 179 = .ok (.invokevirtual 214, 3) := by decide +kernel
theorem dX3_count_182 : decode cX3_count 182 = .ok (.ireturn, 1) := by decide +kernel
theorem dX3_count_183 : decode cX3_count 183 = .ok (.aload_n 0, 1) := by decide +kernel
theorem dX3_count_184 : decode cX3_count 184 = .ok (.getfield 10, 3) := by decide +kernel
theorem dX3_count_187 : decode cX3_count 187 = .ok (.iconst 2, 1) := by decide +kernel
theorem dX3_count_188 : decode cX3_count 188 = .ok (.invokevirtual 214, 3) := by decide +kernel
theorem dX3_count_191 : decode cX3_count 191 = .ok (.ireturn, 1) := by decide +kernel
theorem dX3_count_192 : decode cX3_count 192 = .ok (.aload_n 0, 1) := by decide +kernel
theorem dX3_count_193 : decode cX3_count 193 = .ok (.getfield 26, 3) := by decide +kernel
theorem dX3_count_196 : decode cX3_count 196 = .ok (.invokevirtual 217, 3) := by decide +kernel
theorem dX3_count_199 : decode cX3_count 199 = .ok (.ireturn, 1) := by decide +kernel
theorem dX3_count_200 : decode cX3_count 200 = .ok (.aload_n 0, 1) := by decide +kernel
theorem dX3_count_201 : decode cX3_count 201 = .ok (.getfield 33, 3) := by decide +kernel
theorem dX3_count_204 : decode cX3_count 204 = .ok (.invokevirtual 220, 3) := by decide +kernel
theorem dX3_count_207 : decode cX3_count 207 = .ok (.ireturn, 1) := by decide +kernel
theorem dX3_count_208 : decode cX3_count 208 = .ok (.bipush (-2), 2) := by decide +kernel
theorem dX3_count_210 : decode cX3_count 210 = .ok (.ireturn, 1) := by decide +kernel
theorem dX3_within_0 : decode cX3_within 0 = .ok (.iload_n 0, 1) := by decide +kernel
theorem dX3_within_1 : decode cX3_within 1 = .ok (.iload_n 1, 1) := by decide +kernel
theorem dX3_within_2 : decode cX3_within 2 = .ok (.if_icmp .lt 12, 3) := by decide +kernel
theorem dX3_within_5 : decode cX3_within 5 = .ok (.iload_n 0, 1) := by decide +kernel
theorem dX3_within_6 : decode cX3_within 6 = .ok (.iload_n 2, 1) := by decide +kernel
theorem dX3_within_7 : decode cX3_within 7 = .ok (.if_icmp .gt 7, 3) := by decide +kernel
theorem dX3_within_10 : decode cX3_within 10 = .ok (.iconst 1, 1) := by decide +kernel
theorem dX3_within_11 : decode cX3_within 11 = .ok (.goto 4, 3) := by decide +kernel
theorem dX3_within_14 : decode cX3_within 14 = .ok (.iconst 0, 1) := by decide +kernel
theorem dX3_within_15 : decode cX3_within 15 = .ok (.ireturn, 1) := by decide +kernel
