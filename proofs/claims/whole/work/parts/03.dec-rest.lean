theorem dX0_init_0 : decode cX0_init 0 = .ok (.aload_n 0, 1) := by decide +kernel
theorem dX0_init_1 : decode cX0_init 1 = .ok (.invokespecial 5, 3) := by decide +kernel
theorem dX0_init_4 : decode cX0_init 4 = .ok (.aload_n 0, 1) := by decide +kernel
theorem dX0_init_5 : decode cX0_init 5 = .ok (.iconst 5, 1) := by decide +kernel
theorem dX0_init_6 : decode cX0_init 6 = .ok (.anewarray 11, 3) := by decide +kernel
theorem dX0_init_9 : decode cX0_init 9 = .ok (.putfield 13, 3) := by decide +kernel
theorem dX0_init_12 : decode cX0_init 12 = .ok (.aload_n 0, 1) := by decide +kernel
theorem dX0_init_13 : decode cX0_init 13 = .ok (.iconst 0, 1) := by decide +kernel
theorem dX0_init_14 : decode cX0_init 14 = .ok (.putfield 17, 3) := by decide +kernel
theorem dX0_init_17 : decode cX0_init 17 = .ok (.aload_n 0, 1) := by decide +kernel
theorem dX0_init_18 : decode cX0_init 18 = .ok (.iconst 0, 1) := by decide +kernel
theorem dX0_init_19 : decode cX0_init 19 = .ok (.putfield 21, 3) := by decide +kernel
theorem dX0_init_22 : decode cX0_init 22 = .ok (.iconst 0, 1) := by decide +kernel
theorem dX0_init_23 : decode cX0_init 23 = .ok (.istore_n 1, 1) := by decide +kernel
theorem dX0_init_24 : decode cX0_init 24 = .ok (.iload_n 1, 1) := by decide +kernel
theorem dX0_init_25 : decode cX0_init 25 = .ok (.iconst 5, 1) := by decide +kernel
theorem dX0_init_26 : decode cX0_init 26 = .ok (.if_icmp .ge 22, 3) := by decide +kernel
theorem dX0_init_29 : decode cX0_init 29 = .ok (.aload_n 0, 1) := by decide +kernel
theorem dX0_init_30 : decode cX0_init 30 = .ok (.getfield 13, 3) := by decide +kernel
theorem dX0_init_33 : decode cX0_init 33 = .ok (.iload_n 1, 1) := by decide +kernel
theorem dX0_init_34 : decode cX0_init 34 = .ok (.new 11, 3) := by decide +kernel
theorem dX0_init_37 : decode cX0_init 37 = .ok (.dup, 1) := by decide +kernel
theorem dX0_init_38 : decode cX0_init 38 = .ok (.invokespecial 24, 3) := by decide +kernel
theorem dX0_init_41 : decode cX0_init 41 = .ok (.aastore, 1) := by decide +kernel
theorem dX0_init_42 : decode cX0_init 42 = .ok (.iinc 1 1, 3) := by decide +kernel
theorem dX0_init_45 : decode cX0_init 45 = .ok (.goto (-21), 3) := by decide +kernel
theorem dX0_init_48 : decode cX0_init 48 = .ok (.return_, 1) := by decide +kernel
theorem dX0_states_0 : decode cX0_states 0 = .ok (.aload_n 0, 1) := by decide +kernel
theorem dX0_states_1 : decode cX0_states 1 = .ok (.getfield 21, 3) := by decide +kernel
theorem dX0_states_4 : decode cX0_states 4 = .ok (.ireturn, 1) := by decide +kernel
theorem dX0_behindLatest_0 : decode cX0_behindLatest 0 = .ok (.aload_n 0, 1) := by decide +kernel
theorem dX0_behindLatest_1 : decode cX0_behindLatest 1 = .ok (.getfield 13, 3) := by decide +kernel
theorem dX0_behindLatest_4 : decode cX0_behindLatest 4 = .ok (.aload_n 0, 1) := by decide +kernel
theorem dX0_behindLatest_5 : decode cX0_behindLatest 5 = .ok (.getfield 17, 3) := by decide +kernel
theorem dX0_behindLatest_8 : decode cX0_behindLatest 8 = .ok (.aload_n 0, 1) := by decide +kernel
theorem dX0_behindLatest_9 : decode cX0_behindLatest 9 = .ok (.getfield 21, 3) := by decide +kernel
theorem dX0_behindLatest_12 : decode cX0_behindLatest 12 = .ok (.iadd, 1) := by decide +kernel
theorem dX0_behindLatest_13 : decode cX0_behindLatest 13 = .ok (.iconst 5, 1) := by decide +kernel
theorem dX0_behindLatest_14 : decode cX0_behindLatest 14 = .ok (.irem, 1) := by decide +kernel
theorem dX0_behindLatest_15 : decode cX0_behindLatest 15 = .ok (.aaload, 1) := by decide +kernel
theorem dX0_behindLatest_16 : decode cX0_behindLatest 16 = .ok (.areturn, 1) := by decide +kernel
theorem dX0_prepare_0 : decode cX0_prepare 0 = .ok (.aload_n 0, 1) := by decide +kernel
theorem dX0_prepare_1 : decode cX0_prepare 1 = .ok (.invokevirtual 25, 3) := by decide +kernel
theorem dX0_prepare_4 : decode cX0_prepare 4 = .ok (.aload_n 1, 1) := by decide +kernel
theorem dX0_prepare_5 : decode cX0_prepare 5 = .ok (.invokevirtual 29, 3) := by decide +kernel
theorem dX0_prepare_8 : decode cX0_prepare 8 = .ok (.return_, 1) := by decide +kernel
theorem dX0_settle_0 : decode cX0_settle 0 = .ok (.iload_n 1, 1) := by decide +kernel
theorem dX0_settle_1 : decode cX0_settle 1 = .ok (.ifCond .lt 36, 3) := by decide +kernel
theorem dX0_settle_4 : decode cX0_settle 4 = .ok (.aload_n 0, 1) := by decide +kernel
theorem dX0_settle_5 : decode cX0_settle 5 = .ok (.getfield 21, 3) := by decide +kernel
theorem dX0_settle_8 : decode cX0_settle 8 = .ok (.iconst 4, 1) := by decide +kernel
theorem dX0_settle_9 : decode cX0_settle 9 = .ok (.if_icmp .ge 16, 3) := by decide +kernel
theorem dX0_settle_12 : decode cX0_settle 12 = .ok (.aload_n 0, 1) := by decide +kernel
theorem dX0_settle_13 : decode cX0_settle 13 = .ok (.dup, 1) := by decide +kernel
theorem dX0_settle_14 : decode cX0_settle 14 = .ok (.getfield 21, 3) := by decide +kernel
theorem dX0_settle_17 : decode cX0_settle 17 = .ok (.iconst 1, 1) := by decide +kernel
theorem dX0_settle_18 : decode cX0_settle 18 = .ok (.iadd, 1) := by decide +kernel
theorem dX0_settle_19 : decode cX0_settle 19 = .ok (.putfield 21, 3) := by decide +kernel
theorem dX0_settle_22 : decode cX0_settle 22 = .ok (.goto 15, 3) := by decide +kernel
theorem dX0_settle_25 : decode cX0_settle 25 = .ok (.aload_n 0, 1) := by decide +kernel
theorem dX0_settle_26 : decode cX0_settle 26 = .ok (.aload_n 0, 1) := by decide +kernel
theorem dX0_settle_27 : decode cX0_settle 27 = .ok (.getfield 17, 3) := by decide +kernel
theorem dX0_settle_30 : decode cX0_settle 30 = .ok (.iconst 1, 1) := by decide +kernel
theorem dX0_settle_31 : decode cX0_settle 31 = .ok (.iadd, 1) := by decide +kernel
theorem dX0_settle_32 : decode cX0_settle 32 = .ok (.iconst 5, 1) := by decide +kernel
theorem dX0_settle_33 : decode cX0_settle 33 = .ok (.irem, 1) := by decide +kernel
theorem dX0_settle_34 : decode cX0_settle 34 = .ok (.putfield 17, 3) := by decide +kernel
theorem dX0_settle_37 : decode cX0_settle 37 = .ok (.iload_n 1, 1) := by decide +kernel
theorem dX0_settle_38 : decode cX0_settle 38 = .ok (.ireturn, 1) := by decide +kernel
theorem dX0_takeBack_0 : decode cX0_takeBack 0 = .ok (.aload_n 1, 1) := by decide +kernel
theorem dX0_takeBack_1 : decode cX0_takeBack 1 = .ok (.aload_n 0, 1) := by decide +kernel
theorem dX0_takeBack_2 : decode cX0_takeBack 2 = .ok (.invokevirtual 25, 3) := by decide +kernel
theorem dX0_takeBack_5 : decode cX0_takeBack 5 = .ok (.invokevirtual 29, 3) := by decide +kernel
theorem dX0_takeBack_8 : decode cX0_takeBack 8 = .ok (.return_, 1) := by decide +kernel
theorem dX0_stepBack_0 : decode cX0_stepBack 0 = .ok (.aload_n 0, 1) := by decide +kernel
theorem dX0_stepBack_1 : decode cX0_stepBack 1 = .ok (.getfield 21, 3) := by decide +kernel
theorem dX0_stepBack_4 : decode cX0_stepBack 4 = .ok (.ifCond .ne 6, 3) := by decide +kernel
theorem dX0_stepBack_7 : decode cX0_stepBack 7 = .ok (.bipush (-5), 2) := by decide +kernel
theorem dX0_stepBack_9 : decode cX0_stepBack 9 = .ok (.ireturn, 1) := by decide +kernel
theorem dX0_stepBack_10 : decode cX0_stepBack 10 = .ok (.aload_n 0, 1) := by decide +kernel
theorem dX0_stepBack_11 : decode cX0_stepBack 11 = .ok (.dup, 1) := by decide +kernel
theorem dX0_stepBack_12 : decode cX0_stepBack 12 = .ok (.getfield 21, 3) := by decide +kernel
theorem dX0_stepBack_15 : decode cX0_stepBack 15 = .ok (.iconst 1, 1) := by decide +kernel
theorem dX0_stepBack_16 : decode cX0_stepBack 16 = .ok (.isub, 1) := by decide +kernel
theorem dX0_stepBack_17 : decode cX0_stepBack 17 = .ok (.putfield 21, 3) := by decide +kernel
theorem dX0_stepBack_20 : decode cX0_stepBack 20 = .ok (.aload_n 0, 1) := by decide +kernel
theorem dX0_stepBack_21 : decode cX0_stepBack 21 = .ok (.aload_n 1, 1) := by decide +kernel
theorem dX0_stepBack_22 : decode cX0_stepBack 22 = .ok (.invokevirtual 33, 3) := by decide +kernel
theorem dX0_stepBack_25 : decode cX0_stepBack 25 = .ok (.aload_n 0, 1) := by decide +kernel
theorem dX0_stepBack_26 : decode cX0_stepBack 26 = .ok (.getfield 21, 3) := by decide +kernel
theorem dX0_stepBack_29 : decode cX0_stepBack 29 = .ok (.ireturn, 1) := by decide +kernel
theorem dX1_init_0 : decode cX1_init 0 = .ok (.aload_n 0, 1) := by decide +kernel
theorem dX1_init_1 : decode cX1_init 1 = .ok (.invokespecial 5, 3) := by decide +kernel
theorem dX1_init_4 : decode cX1_init 4 = .ok (.aload_n 0, 1) := by decide +kernel
theorem dX1_init_5 : decode cX1_init 5 = .ok (.bipush 60, 2) := by decide +kernel
theorem dX1_init_7 : decode cX1_init 7 = .ok (.newarray .char, 2) := by decide +kernel
theorem dX1_init_9 : decode cX1_init 9 = .ok (.putfield 11, 3) := by decide +kernel
theorem dX1_init_12 : decode cX1_init 12 = .ok (.aload_n 0, 1) := by decide +kernel
theorem dX1_init_13 : decode cX1_init 13 = .ok (.iconst 0, 1) := by decide +kernel
theorem dX1_init_14 : decode cX1_init 14 = .ok (.putfield 15, 3) := by decide +kernel
theorem dX1_init_17 : decode cX1_init 17 = .ok (.aload_n 0, 1) := by decide +kernel
theorem dX1_init_18 : decode cX1_init 18 = .ok (.iconst 0, 1) := by decide +kernel
theorem dX1_init_19 : decode cX1_init 19 = .ok (.putfield 19, 3) := by decide +kernel
theorem dX1_init_22 : decode cX1_init 22 = .ok (.aload_n 0, 1) := by decide +kernel
theorem dX1_init_23 : decode cX1_init 23 = .ok (.bipush 20, 2) := by decide +kernel
theorem dX1_init_25 : decode cX1_init 25 = .ok (.newarray .char, 2) := by decide +kernel
theorem dX1_init_27 : decode cX1_init 27 = .ok (.putfield 22, 3) := by decide +kernel
theorem dX1_init_30 : decode cX1_init 30 = .ok (.aload_n 0, 1) := by decide +kernel
theorem dX1_init_31 : decode cX1_init 31 = .ok (.bipush 20, 2) := by decide +kernel
theorem dX1_init_33 : decode cX1_init 33 = .ok (.newarray .int, 2) := by decide +kernel
theorem dX1_init_35 : decode cX1_init 35 = .ok (.putfield 25, 3) := by decide +kernel
theorem dX1_init_38 : decode cX1_init 38 = .ok (.aload_n 0, 1) := by decide +kernel
theorem dX1_init_39 : decode cX1_init 39 = .ok (.bipush 20, 2) := by decide +kernel
theorem dX1_init_41 : decode cX1_init 41 = .ok (.newarray .int, 2) := by decide +kernel
theorem dX1_init_43 : decode cX1_init 43 = .ok (.putfield 29, 3) := by decide +kernel
theorem dX1_init_46 : decode cX1_init 46 = .ok (.aload_n 0, 1) := by decide +kernel
theorem dX1_init_47 : decode cX1_init 47 = .ok (.iconst 0, 1) := by decide +kernel
theorem dX1_init_48 : decode cX1_init 48 = .ok (.putfield 32, 3) := by decide +kernel
theorem dX1_init_51 : decode cX1_init 51 = .ok (.return_, 1) := by decide +kernel
theorem dX1_length_0 : decode cX1_length 0 = .ok (.aload_n 0, 1) := by decide +kernel
theorem dX1_length_1 : decode cX1_length 1 = .ok (.getfield 15, 3) := by decide +kernel
theorem dX1_length_4 : decode cX1_length 4 = .ok (.ireturn, 1) := by decide +kernel
theorem dX1_append_0 : decode cX1_append 0 = .ok (.aload_n 0, 1) := by decide +kernel
theorem dX1_append_1 : decode cX1_append 1 = .ok (.getfield 15, 3) := by decide +kernel
theorem dX1_append_4 : decode cX1_append 4 = .ok (.bipush 60, 2) := by decide +kernel
theorem dX1_append_6 : decode cX1_append 6 = .ok (.if_icmp .lt 6, 3) := by decide +kernel
theorem dX1_append_9 : decode cX1_append 9 = .ok (.bipush (-3), 2) := by decide +kernel
theorem dX1_append_11 : decode cX1_append 11 = .ok (.ireturn, 1) := by decide +kernel
theorem dX1_append_12 : decode cX1_append 12 = .ok (.aload_n 0, 1) := by decide +kernel
theorem dX1_append_13 : decode cX1_append 13 = .ok (.getfield 11, 3) := by decide +kernel
theorem dX1_append_16 : decode cX1_append 16 = .ok (.aload_n 0, 1) := by decide +kernel
theorem dX1_append_17 : decode cX1_append 17 = .ok (.getfield 15, 3) := by decide +kernel
theorem dX1_append_20 : decode cX1_append 20 = .ok (.iload_n 1, 1) := by decide +kernel
theorem dX1_append_21 : decode cX1_append 21 = .ok (.castore, 1) := by decide +kernel
theorem dX1_append_22 : decode cX1_append 22 = .ok (.aload_n 0, 1) := by decide +kernel
theorem dX1_append_23 : decode cX1_append 23 = .ok (.dup, 1) := by decide +kernel
theorem dX1_append_24 : decode cX1_append 24 = .ok (.getfield 15, 3) := by decide +kernel
theorem dX1_append_27 : decode cX1_append 27 = .ok (.iconst 1, 1) := by decide +kernel
theorem dX1_append_28 : decode cX1_append 28 = .ok (.iadd, 1) := by decide +kernel
theorem dX1_append_29 : decode cX1_append 29 = .ok (.putfield 15, 3) := by decide +kernel
theorem dX1_append_32 : decode cX1_append 32 = .ok (.aload_n 0, 1) := by decide +kernel
theorem dX1_append_33 : decode cX1_append 33 = .ok (.getfield 15, 3) := by decide +kernel
theorem dX1_append_36 : decode cX1_append 36 = .ok (.ireturn, 1) := by decide +kernel
theorem dX1_empty_0 : decode cX1_empty 0 = .ok (.aload_n 0, 1) := by decide +kernel
theorem dX1_empty_1 : decode cX1_empty 1 = .ok (.getfield 15, 3) := by decide +kernel
theorem dX1_empty_4 : decode cX1_empty 4 = .ok (.istore_n 1, 1) := by decide +kernel
theorem dX1_empty_5 : decode cX1_empty 5 = .ok (.aload_n 0, 1) := by decide +kernel
theorem dX1_empty_6 : decode cX1_empty 6 = .ok (.iconst 0, 1) := by decide +kernel
theorem dX1_empty_7 : decode cX1_empty 7 = .ok (.putfield 15, 3) := by decide +kernel
theorem dX1_empty_10 : decode cX1_empty 10 = .ok (.iload_n 1, 1) := by decide +kernel
theorem dX1_empty_11 : decode cX1_empty 11 = .ok (.ireturn, 1) := by decide +kernel
theorem dX1_things_0 : decode cX1_things 0 = .ok (.aload_n 0, 1) := by decide +kernel
theorem dX1_things_1 : decode cX1_things 1 = .ok (.getfield 32, 3) := by decide +kernel
theorem dX1_things_4 : decode cX1_things 4 = .ok (.ireturn, 1) := by decide +kernel
theorem dX1_has_0 : decode cX1_has 0 = .ok (.iload_n 1, 1) := by decide +kernel
theorem dX1_has_1 : decode cX1_has 1 = .ok (.ifCond .lt 15, 3) := by decide +kernel
theorem dX1_has_4 : decode cX1_has 4 = .ok (.iload_n 1, 1) := by decide +kernel
theorem dX1_has_5 : decode cX1_has 5 = .ok (.aload_n 0, 1) := by decide +kernel
theorem dX1_has_6 : decode cX1_has 6 = .ok (.getfield 32, 3) := by decide +kernel
theorem dX1_has_9 : decode cX1_has 9 = .ok (.if_icmp .ge 7, 3) := by decide +kernel
theorem dX1_has_12 : decode cX1_has 12 = .ok (.iconst 1, 1) := by decide +kernel
theorem dX1_has_13 : decode cX1_has 13 = .ok (.goto 4, 3) := by decide +kernel
theorem dX1_has_16 : decode cX1_has 16 = .ok (.iconst 0, 1) := by decide +kernel
theorem dX1_has_17 : decode cX1_has 17 = .ok (.ireturn, 1) := by decide +kernel
theorem dX1_sign_0 : decode cX1_sign 0 = .ok (.aload_n 0, 1) := by decide +kernel
theorem dX1_sign_1 : decode cX1_sign 1 = .ok (.iload_n 1, 1) := by decide +kernel
theorem dX1_sign_2 : decode cX1_sign 2 = .ok (.invokevirtual 35, 3) := by decide +kernel
theorem dX1_sign_5 : decode cX1_sign 5 = .ok (.ifCond .eq 12, 3) := by decide +kernel
theorem dX1_sign_8 : decode cX1_sign 8 = .ok (.aload_n 0, 1) := by decide +kernel
theorem dX1_sign_9 : decode cX1_sign 9 = .ok (.getfield 22, 3) := by decide +kernel
theorem dX1_sign_12 : decode cX1_sign 12 = .ok (.iload_n 1, 1) := by decide +kernel
theorem dX1_sign_13 : decode cX1_sign 13 = .ok (.caload, 1) := by decide +kernel
theorem dX1_sign_14 : decode cX1_sign 14 = .ok (.goto 5, 3) := by decide +kernel
theorem dX1_sign_17 : decode cX1_sign 17 = .ok (.bipush 32, 2) := by decide +kernel
theorem dX1_sign_19 : decode cX1_sign 19 = .ok (.ireturn, 1) := by decide +kernel
theorem dX1_first_0 : decode cX1_first 0 = .ok (.aload_n 0, 1) := by decide +kernel
theorem dX1_first_1 : decode cX1_first 1 = .ok (.iload_n 1, 1) := by decide +kernel
theorem dX1_first_2 : decode cX1_first 2 = .ok (.invokevirtual 35, 3) := by decide +kernel
theorem dX1_first_5 : decode cX1_first 5 = .ok (.ifCond .eq 12, 3) := by decide +kernel
theorem dX1_first_8 : decode cX1_first 8 = .ok (.aload_n 0, 1) := by decide +kernel
theorem dX1_first_9 : decode cX1_first 9 = .ok (.getfield 25, 3) := by decide +kernel
theorem dX1_first_12 : decode cX1_first 12 = .ok (.iload_n 1, 1) := by decide +kernel
theorem dX1_first_13 : decode cX1_first 13 = .ok (.iaload, 1) := by decide +kernel
theorem dX1_first_14 : decode cX1_first 14 = .ok (.goto 5, 3) := by decide +kernel
theorem dX1_first_17 : decode cX1_first 17 = .ok (.bipush (-5), 2) := by decide +kernel
theorem dX1_first_19 : decode cX1_first 19 = .ok (.ireturn, 1) := by decide +kernel
theorem dX1_second_0 : decode cX1_second 0 = .ok (.aload_n 0, 1) := by decide +kernel
theorem dX1_second_1 : decode cX1_second 1 = .ok (.iload_n 1, 1) := by decide +kernel
theorem dX1_second_2 : decode cX1_second 2 = .ok (.invokevirtual 35, 3) := by decide +kernel
theorem dX1_second_5 : decode cX1_second 5 = .ok (.ifCond .eq 12, 3) := by decide +kernel
theorem dX1_second_8 : decode cX1_second 8 = .ok (.aload_n 0, 1) := by decide +kernel
theorem dX1_second_9 : decode cX1_second 9 = .ok (.getfield 29, 3) := by decide +kernel
theorem dX1_second_12 : decode cX1_second 12 = .ok (.iload_n 1, 1) := by decide +kernel
theorem dX1_second_13 : decode cX1_second 13 = .ok (.iaload, 1) := by decide +kernel
theorem dX1_second_14 : decode cX1_second 14 = .ok (.goto 5, 3) := by decide +kernel
theorem dX1_second_17 : decode cX1_second 17 = .ok (.bipush (-5), 2) := by decide +kernel
theorem dX1_second_19 : decode cX1_second 19 = .ok (.ireturn, 1) := by decide +kernel
theorem dX1_read_0 : decode cX1_read 0 = .ok (.aload_n 0, 1) := by decide +kernel
theorem dX1_read_1 : decode cX1_read 1 = .ok (.iconst 0, 1) := by decide +kernel
theorem dX1_read_2 : decode cX1_read 2 = .ok (.putfield 19, 3) := by decide +kernel
theorem dX1_read_5 : decode cX1_read 5 = .ok (.aload_n 0, 1) := by decide +kernel
theorem dX1_read_6 : decode cX1_read 6 = .ok (.iconst 0, 1) := by decide +kernel
theorem dX1_read_7 : decode cX1_read 7 = .ok (.putfield 32, 3) := by decide +kernel
theorem dX1_read_10 : decode cX1_read 10 = .ok (.iconst 0, 1) := by decide +kernel
theorem dX1_read_11 : decode cX1_read 11 = .ok (.istore_n 1, 1) := by decide +kernel
theorem dX1_read_12 : decode cX1_read 12 = .ok (.iload_n 1, 1) := by decide +kernel
theorem dX1_read_13 : decode cX1_read 13 = .ok (.bipush 20, 2) := by decide +kernel
theorem dX1_read_15 : decode cX1_read 15 = .ok (.if_icmp .ge 44, 3) := by decide +kernel
theorem dX1_read_18 : decode cX1_read 18 = .ok (.aload_n 0, 1) := by decide +kernel
theorem dX1_read_19 : decode cX1_read 19 = .ok (.invokevirtual 39, 3) := by decide +kernel
theorem dX1_read_22 : decode cX1_read 22 = .ok (.ifCond .eq 37, 3) := by decide +kernel
theorem dX1_read_25 : decode cX1_read 25 = .ok (.aload_n 0, 1) := by decide +kernel
theorem dX1_read_26 : decode cX1_read 26 = .ok (.getfield 19, 3) := by decide +kernel
theorem dX1_read_29 : decode cX1_read 29 = .ok (.aload_n 0, 1) := by decide +kernel
theorem dX1_read_30 : decode cX1_read 30 = .ok (.getfield 15, 3) := by decide +kernel
theorem dX1_read_33 : decode cX1_read 33 = .ok (.if_icmp .ne 6, 3) := by decide +kernel
theorem dX1_read_36 : decode cX1_read 36 = .ok (.bipush (-5), 2) := by decide +kernel
theorem dX1_read_38 : decode cX1_read 38 = .ok (.ireturn, 1) := by decide +kernel
theorem dX1_read_39 : decode cX1_read 39 = .ok (.aload_n 0, 1) := by decide +kernel
theorem dX1_read_40 : decode cX1_read 40 = .ok (.bipush 59, 2) := by decide +kernel
theorem dX1_read_42 : decode cX1_read 42 = .ok (.invokevirtual 43, 3) := by decide +kernel
theorem dX1_read_45 : decode cX1_read 45 = .ok (.ifCond .ne 8, 3) := by decide +kernel
theorem dX1_read_48 : decode cX1_read 48 = .ok (.aload_n 0, 1) := by decide +kernel
theorem dX1_read_49 : decode cX1_read 49 = .ok (.getfield 19, 3) := by decide +kernel
theorem dX1_read_52 : decode cX1_read 52 = .ok (.ireturn, 1) := by decide +kernel
theorem dX1_read_53 : decode cX1_read 53 = .ok (.iinc 1 1, 3) := by decide +kernel
theorem dX1_read_56 : decode cX1_read 56 = .ok (.goto (-44), 3) := by decide +kernel
theorem dX1_read_59 : decode cX1_read 59 = .ok (.aload_n 0, 1) := by decide +kernel
theorem dX1_read_60 : decode cX1_read 60 = .ok (.getfield 19, 3) := by decide +kernel
theorem dX1_read_63 : decode cX1_read 63 = .ok (.ireturn, 1) := by decide +kernel
theorem dX1_readThing_0 : decode cX1_readThing 0 = .ok (.aload_n 0, 1) := by decide +kernel
theorem dX1_readThing_1 : decode cX1_readThing 1 = .ok (.getfield 19, 3) := by decide +kernel
theorem dX1_readThing_4 : decode cX1_readThing 4 = .ok (.aload_n 0, 1) := by decide +kernel
theorem dX1_readThing_5 : decode cX1_readThing 5 = .ok (.getfield 15, 3) := by decide +kernel
theorem dX1_readThing_8 : decode cX1_readThing 8 = .ok (.if_icmp .lt 5, 3) := by decide +kernel
theorem dX1_readThing_11 : decode cX1_readThing 11 = .ok (.iconst 0, 1) := by decide +kernel
theorem dX1_readThing_12 : decode cX1_readThing 12 = .ok (.ireturn, 1) := by decide +kernel
theorem dX1_readThing_13 : decode cX1_readThing 13 = .ok (.aload_n 0, 1) := by decide +kernel
theorem dX1_readThing_14 : decode cX1_readThing 14 = .ok (.getfield 11, 3) := by decide +kernel
theorem dX1_readThing_17 : decode cX1_readThing 17 = .ok (.aload_n 0, 1) := by decide +kernel
theorem dX1_readThing_18 : decode cX1_readThing 18 = .ok (.getfield 19, 3) := by decide +kernel
theorem dX1_readThing_21 : decode cX1_readThing 21 = .ok (.caload, 1) := by decide +kernel
theorem dX1_readThing_22 : decode cX1_readThing 22 = .ok (.istore_n 1, 1) := by decide +kernel
theorem dX1_readThing_23 : decode cX1_readThing 23 = .ok (.bipush (-5), 2) := by decide +kernel
theorem dX1_readThing_25 : decode cX1_readThing 25 = .ok (.istore_n 3, 1) := by decide +kernel
theorem dX1_readThing_26 : decode cX1_readThing 26 = .ok (.iload_n 1, 1) := by decide +kernel
theorem dX1_readThing_27 : decode cX1_readThing 27 = .ok (.lookupswitch 149 #[(43, 107), (45, 107), (46, 128), (100, 107), (109, 57), (117, 57)], 57) := by decide +kernel
theorem dX1_readThing_84 : decode cX1_readThing 84 = .ok (.aload_n 0, 1) := by decide +kernel
theorem dX1_readThing_85 : decode cX1_readThing 85 = .ok (.dup, 1) := by decide +kernel
theorem dX1_readThing_86 : decode cX1_readThing 86 = .ok (.getfield 19, 3) := by decide +kernel
theorem dX1_readThing_89 : decode cX1_readThing 89 = .ok (.iconst 1, 1) := by decide +kernel
theorem dX1_readThing_90 : decode cX1_readThing 90 = .ok (.iadd, 1) := by decide +kernel
theorem dX1_readThing_91 : decode cX1_readThing 91 = .ok (.putfield 19, 3) := by decide +kernel
theorem dX1_readThing_94 : decode cX1_readThing 94 = .ok (.aload_n 0, 1) := by decide +kernel
theorem dX1_readThing_95 : decode cX1_readThing 95 = .ok (.iconst 0, 1) := by decide +kernel
theorem dX1_readThing_96 : decode cX1_readThing 96 = .ok (.bipush 19, 2) := by decide +kernel
theorem dX1_readThing_98 : decode cX1_readThing 98 = .ok (.invokevirtual 47, 3) := by decide +kernel
theorem dX1_readThing_101 : decode cX1_readThing 101 = .ok (.istore_n 2, 1) := by decide +kernel
theorem dX1_readThing_102 : decode cX1_readThing 102 = .ok (.iload_n 2, 1) := by decide +kernel
theorem dX1_readThing_103 : decode cX1_readThing 103 = .ok (.bipush (-5), 2) := by decide +kernel
theorem dX1_readThing_105 : decode cX1_readThing 105 = .ok (.if_icmp .eq 12, 3) := by decide +kernel
theorem dX1_readThing_108 : decode cX1_readThing 108 = .ok (.aload_n 0, 1) := by decide +kernel
theorem dX1_readThing_109 : decode cX1_readThing 109 = .ok (.bipush 58, 2) := by decide +kernel
theorem dX1_readThing_111 : decode cX1_readThing 111 = .ok (.invokevirtual 43, 3) := by decide +kernel
theorem dX1_readThing_114 : decode cX1_readThing 114 = .ok (.ifCond .ne 5, 3) := by decide +kernel
theorem dX1_readThing_117 : decode cX1_readThing 117 = .ok (.iconst 0, 1) := by decide +kernel
theorem dX1_readThing_118 : decode cX1_readThing 118 = .ok (.ireturn, 1) := by decide +kernel
theorem dX1_readThing_119 : decode cX1_readThing 119 = .ok (.aload_n 0, 1) := by decide +kernel
theorem dX1_readThing_120 : decode cX1_readThing 120 = .ok (.iconst 0, 1) := by decide +kernel
theorem dX1_readThing_121 : decode cX1_readThing 121 = .ok (.iconst 3, 1) := by decide +kernel
theorem dX1_readThing_122 : decode cX1_readThing 122 = .ok (.invokevirtual 47, 3) := by decide +kernel
theorem dX1_readThing_125 : decode cX1_readThing 125 = .ok (.istore_n 3, 1) := by decide +kernel
theorem dX1_readThing_126 : decode cX1_readThing 126 = .ok (.iload_n 3, 1) := by decide +kernel
theorem dX1_readThing_127 : decode cX1_readThing 127 = .ok (.bipush (-5), 2) := by decide +kernel
theorem dX1_readThing_129 : decode cX1_readThing 129 = .ok (.if_icmp .ne 49, 3) := by decide +kernel
theorem dX1_readThing_132 : decode cX1_readThing 132 = .ok (.iconst 0, 1) := by decide +kernel
theorem dX1_readThing_133 : decode cX1_readThing 133 = .ok (.ireturn, 1) := by decide +kernel
theorem dX1_readThing_134 : decode cX1_readThing 134 = .ok (.aload_n 0, 1) := by decide +kernel
theorem dX1_readThing_135 : decode cX1_readThing 135 = .ok (.dup, 1) := by decide +kernel
theorem dX1_readThing_136 : decode cX1_readThing 136 = .ok (.getfield 19, 3) := by decide +kernel
theorem dX1_readThing_139 : decode cX1_readThing 139 = .ok (.iconst 1, 1) := by decide +kernel
theorem dX1_readThing_140 : decode cX1_readThing 140 = .ok (.iadd, 1) := by decide +kernel
theorem dX1_readThing_141 : decode cX1_readThing 141 = .ok (.putfield 19, 3) := by decide +kernel
theorem dX1_readThing_144 : decode cX1_readThing 144 = .ok (.aload_n 0, 1) := by decide +kernel
theorem dX1_readThing_145 : decode cX1_readThing 145 = .ok (.iconst 0, 1) := by decide +kernel
theorem dX1_readThing_146 : decode cX1_readThing 146 = .ok (.bipush 19, 2) := by decide +kernel
theorem dX1_readThing_148 : decode cX1_readThing 148 = .ok (.invokevirtual 47, 3) := by decide +kernel
theorem dX1_readThing_151 : decode cX1_readThing 151 = .ok (.istore_n 2, 1) := by decide +kernel
theorem dX1_readThing_152 : decode cX1_readThing 152 = .ok (.goto 26, 3) := by decide +kernel
theorem dX1_readThing_155 : decode cX1_readThing 155 = .ok (.aload_n 0, 1) := by decide +kernel
theorem dX1_readThing_156 : decode cX1_readThing 156 = .ok (.dup, 1) := by decide +kernel
theorem dX1_readThing_157 : decode cX1_readThing 157 = .ok (.getfield 19, 3) := by decide +kernel
theorem dX1_readThing_160 : decode cX1_readThing 160 = .ok (.iconst 1, 1) := by decide +kernel
theorem dX1_readThing_161 : decode cX1_readThing 161 = .ok (.iadd, 1) := by decide +kernel
theorem dX1_readThing_162 : decode cX1_readThing 162 = .ok (.putfield 19, 3) := by decide +kernel
theorem dX1_readThing_165 : decode cX1_readThing 165 = .ok (.aload_n 0, 1) := by decide +kernel
theorem dX1_readThing_166 : decode cX1_readThing 166 = .ok (.iconst 1, 1) := by decide +kernel
theorem dX1_readThing_167 : decode cX1_readThing 167 = .ok (.bipush 99, 2) := by decide +kernel
theorem dX1_readThing_169 : decode cX1_readThing 169 = .ok (.invokevirtual 47, 3) := by decide +kernel
theorem dX1_readThing_172 : decode cX1_readThing 172 = .ok (.istore_n 2, 1) := by decide +kernel
theorem dX1_readThing_173 : decode cX1_readThing 173 = .ok (.goto 5, 3) := by decide +kernel
theorem dX1_readThing_176 : decode cX1_readThing 176 = .ok (.iconst 0, 1) := by decide +kernel
theorem dX1_readThing_177 : decode cX1_readThing 177 = .ok (.ireturn, 1) := by decide +kernel
theorem dX1_readThing_178 : decode cX1_readThing 178 = .ok (.iload_n 2, 1) := by decide +kernel
theorem dX1_readThing_179 : decode cX1_readThing 179 = .ok (.bipush (-5), 2) := by decide +kernel
theorem dX1_readThing_181 : decode cX1_readThing 181 = .ok (.if_icmp .eq 17, 3) := by decide +kernel
theorem dX1_readThing_184 : decode cX1_readThing 184 = .ok (.aload_n 0, 1) := by decide +kernel
theorem dX1_readThing_185 : decode cX1_readThing 185 = .ok (.iload_n 1, 1) := by decide +kernel
theorem dX1_readThing_186 : decode cX1_readThing 186 = .ok (.iload_n 2, 1) := by decide +kernel
theorem dX1_readThing_187 : decode cX1_readThing 187 = .ok (.iload_n 3, 1) := by decide +kernel
theorem dX1_readThing_188 : decode cX1_readThing 188 = .ok (.invokevirtual 51, 3) := by decide +kernel
theorem dX1_readThing_191 : decode cX1_readThing 191 = .ok (.ifCond .eq 7, 3) := by decide +kernel
theorem dX1_readThing_194 : decode cX1_readThing 194 = .ok (.iconst 1, 1) := by decide +kernel
theorem dX1_readThing_195 : decode cX1_readThing 195 = .ok (.goto 4, 3) := by decide +kernel
theorem dX1_readThing_198 : decode cX1_readThing 198 = .ok (.iconst 0, 1) := by decide +kernel
theorem dX1_readThing_199 : decode cX1_readThing 199 = .ok (.ireturn, 1) := by decide +kernel
theorem dX1_add_0 : decode cX1_add 0 = .ok (.aload_n 0, 1) := by decide +kernel
theorem dX1_add_1 : decode cX1_add 1 = .ok (.getfield 32, 3) := by decide +kernel
theorem dX1_add_4 : decode cX1_add 4 = .ok (.bipush 20, 2) := by decide +kernel
theorem dX1_add_6 : decode cX1_add 6 = .ok (.if_icmp .lt 5, 3) := by decide +kernel
theorem dX1_add_9 : decode cX1_add 9 = .ok (.iconst 0, 1) := by decide +kernel
theorem dX1_add_10 : decode cX1_add 10 = .ok (.ireturn, 1) := by decide +kernel
theorem dX1_add_11 : decode cX1_add 11 = .ok (.aload_n 0, 1) := by decide +kernel
theorem dX1_add_12 : decode cX1_add 12 = .ok (.getfield 22, 3) := by decide +kernel
theorem dX1_add_15 : decode cX1_add 15 = .ok (.aload_n 0, 1) := by decide +kernel
theorem dX1_add_16 : decode cX1_add 16 = .ok (.getfield 32, 3) := by decide +kernel
theorem dX1_add_19 : decode cX1_add 19 = .ok (.iload_n 1, 1) := by decide +kernel
theorem dX1_add_20 : decode cX1_add 20 = .ok (.castore, 1) := by decide +kernel
theorem dX1_add_21 : decode cX1_add 21 = .ok (.aload_n 0, 1) := by decide +kernel
theorem dX1_add_22 : decode cX1_add 22 = .ok (.getfield 25, 3) := by decide +kernel
theorem dX1_add_25 : decode cX1_add 25 = .ok (.aload_n 0, 1) := by decide +kernel
theorem dX1_add_26 : decode cX1_add 26 = .ok (.getfield 32, 3) := by decide +kernel
theorem dX1_add_29 : decode cX1_add 29 = .ok (.iload_n 2, 1) := by decide +kernel
theorem dX1_add_30 : decode cX1_add 30 = .ok (.iastore, 1) := by decide +kernel
theorem dX1_add_31 : decode cX1_add 31 = .ok (.aload_n 0, 1) := by decide +kernel
theorem dX1_add_32 : decode cX1_add 32 = .ok (.getfield 29, 3) := by decide +kernel
theorem dX1_add_35 : decode cX1_add 35 = .ok (.aload_n 0, 1) := by decide +kernel
theorem dX1_add_36 : decode cX1_add 36 = .ok (.getfield 32, 3) := by decide +kernel
theorem dX1_add_39 : decode cX1_add 39 = .ok (.iload_n 3, 1) := by decide +kernel
theorem dX1_add_40 : decode cX1_add 40 = .ok (.iastore, 1) := by decide +kernel
theorem dX1_add_41 : decode cX1_add 41 = .ok (.aload_n 0, 1) := by decide +kernel
theorem dX1_add_42 : decode cX1_add 42 = .ok (.dup, 1) := by decide +kernel
theorem dX1_add_43 : decode cX1_add 43 = .ok (.getfield 32, 3) := by decide +kernel
theorem dX1_add_46 : decode cX1_add 46 = .ok (.iconst 1, 1) := by decide +kernel
theorem dX1_add_47 : decode cX1_add 47 = .ok (.iadd, 1) := by decide +kernel
theorem dX1_add_48 : decode cX1_add 48 = .ok (.putfield 32, 3) := by decide +kernel
theorem dX1_add_51 : decode cX1_add 51 = .ok (.iconst 1, 1) := by decide +kernel
theorem dX1_add_52 : decode cX1_add 52 = .ok (.ireturn, 1) := by decide +kernel
theorem dX1_readCharacter_0 : decode cX1_readCharacter 0 = .ok (.aload_n 0, 1) := by decide +kernel
theorem dX1_readCharacter_1 : decode cX1_readCharacter 1 = .ok (.getfield 19, 3) := by decide +kernel
theorem dX1_readCharacter_4 : decode cX1_readCharacter 4 = .ok (.aload_n 0, 1) := by decide +kernel
theorem dX1_readCharacter_5 : decode cX1_readCharacter 5 = .ok (.getfield 15, 3) := by decide +kernel
theorem dX1_readCharacter_8 : decode cX1_readCharacter 8 = .ok (.if_icmp .ge 16, 3) := by decide +kernel
theorem dX1_readCharacter_11 : decode cX1_readCharacter 11 = .ok (.aload_n 0, 1) := by decide +kernel
theorem dX1_readCharacter_12 : decode cX1_readCharacter 12 = .ok (.getfield 11, 3) := by decide +kernel
theorem dX1_readCharacter_15 : decode cX1_readCharacter 15 = .ok (.aload_n 0, 1) := by decide +kernel
theorem dX1_readCharacter_16 : decode cX1_readCharacter 16 = .ok (.getfield 19, 3) := by decide +kernel
theorem dX1_readCharacter_19 : decode cX1_readCharacter 19 = .ok (.caload, 1) := by decide +kernel
theorem dX1_readCharacter_20 : decode cX1_readCharacter 20 = .ok (.iload_n 1, 1) := by decide +kernel
theorem dX1_readCharacter_21 : decode cX1_readCharacter 21 = .ok (.if_icmp .eq 5, 3) := by decide +kernel
theorem dX1_readCharacter_24 : decode cX1_readCharacter 24 = .ok (.iconst 0, 1) := by decide +kernel
theorem dX1_readCharacter_25 : decode cX1_readCharacter 25 = .ok (.ireturn, 1) := by decide +kernel
theorem dX1_readCharacter_26 : decode cX1_readCharacter 26 = .ok (.aload_n 0, 1) := by decide +kernel
theorem dX1_readCharacter_27 : decode cX1_readCharacter 27 = .ok (.dup, 1) := by decide +kernel
theorem dX1_readCharacter_28 : decode cX1_readCharacter 28 = .ok (.getfield 19, 3) := by decide +kernel
theorem dX1_readCharacter_31 : decode cX1_readCharacter 31 = .ok (.iconst 1, 1) := by decide +kernel
theorem dX1_readCharacter_32 : decode cX1_readCharacter 32 = .ok (.iadd, 1) := by decide +kernel
theorem dX1_readCharacter_33 : decode cX1_readCharacter 33 = .ok (.putfield 19, 3) := by decide +kernel
theorem dX1_readCharacter_36 : decode cX1_readCharacter 36 = .ok (.iconst 1, 1) := by decide +kernel
theorem dX1_readCharacter_37 : decode cX1_readCharacter 37 = .ok (.ireturn, 1) := by decide +kernel
theorem dX1_readNumber_0 : decode cX1_readNumber 0 = .ok (.aload_n 0, 1) := by decide +kernel
theorem dX1_readNumber_1 : decode cX1_readNumber 1 = .ok (.invokevirtual 55, 3) := by decide +kernel
theorem dX1_readNumber_4 : decode cX1_readNumber 4 = .ok (.istore_n 3, 1) := by decide +kernel
theorem dX1_readNumber_5 : decode cX1_readNumber 5 = .ok (.iload_n 3, 1) := by decide +kernel
theorem dX1_readNumber_6 : decode cX1_readNumber 6 = .ok (.iload_n 1, 1) := by decide +kernel
theorem dX1_readNumber_7 : decode cX1_readNumber 7 = .ok (.if_icmp .lt 8, 3) := by decide +kernel
theorem dX1_readNumber_10 : decode cX1_readNumber 10 = .ok (.iload_n 3, 1) := by decide +kernel
theorem dX1_readNumber_11 : decode cX1_readNumber 11 = .ok (.iload_n 2, 1) := by decide +kernel
theorem dX1_readNumber_12 : decode cX1_readNumber 12 = .ok (.if_icmp .le 6, 3) := by decide +kernel
theorem dX1_readNumber_15 : decode cX1_readNumber 15 = .ok (.bipush (-5), 2) := by decide +kernel
theorem dX1_readNumber_17 : decode cX1_readNumber 17 = .ok (.ireturn, 1) := by decide +kernel
theorem dX1_readNumber_18 : decode cX1_readNumber 18 = .ok (.aload_n 0, 1) := by decide +kernel
theorem dX1_readNumber_19 : decode cX1_readNumber 19 = .ok (.dup, 1) := by decide +kernel
theorem dX1_readNumber_20 : decode cX1_readNumber 20 = .ok (.getfield 19, 3) := by decide +kernel
theorem dX1_readNumber_23 : decode cX1_readNumber 23 = .ok (.iconst 1, 1) := by decide +kernel
theorem dX1_readNumber_24 : decode cX1_readNumber 24 = .ok (.iadd, 1) := by decide +kernel
theorem dX1_readNumber_25 : decode cX1_readNumber 25 = .ok (.putfield 19, 3) := by decide +kernel
theorem dX1_readNumber_28 : decode cX1_readNumber 28 = .ok (.aload_n 0, 1) := by decide +kernel
theorem dX1_readNumber_29 : decode cX1_readNumber 29 = .ok (.invokevirtual 55, 3) := by decide +kernel
theorem dX1_readNumber_32 : decode cX1_readNumber 32 = .ok (.istore 4, 2) := by decide +kernel
theorem dX1_readNumber_34 : decode cX1_readNumber 34 = .ok (.iload_n 3, 1) := by decide +kernel
theorem dX1_readNumber_35 : decode cX1_readNumber 35 = .ok (.ifCond .le 39, 3) := by decide +kernel
theorem dX1_readNumber_38 : decode cX1_readNumber 38 = .ok (.iload 4, 2) := by decide +kernel
theorem dX1_readNumber_40 : decode cX1_readNumber 40 = .ok (.bipush (-5), 2) := by decide +kernel
theorem dX1_readNumber_42 : decode cX1_readNumber 42 = .ok (.if_icmp .eq 32, 3) := by decide +kernel
theorem dX1_readNumber_45 : decode cX1_readNumber 45 = .ok (.iload_n 3, 1) := by decide +kernel
theorem dX1_readNumber_46 : decode cX1_readNumber 46 = .ok (.bipush 10, 2) := by decide +kernel
theorem dX1_readNumber_48 : decode cX1_readNumber 48 = .ok (.imul, 1) := by decide +kernel
theorem dX1_readNumber_49 : decode cX1_readNumber 49 = .ok (.iload 4, 2) := by decide +kernel
theorem dX1_readNumber_51 : decode cX1_readNumber 51 = .ok (.iadd, 1) := by decide +kernel
theorem dX1_readNumber_52 : decode cX1_readNumber 52 = .ok (.iload_n 2, 1) := by decide +kernel
theorem dX1_readNumber_53 : decode cX1_readNumber 53 = .ok (.if_icmp .gt 21, 3) := by decide +kernel
theorem dX1_readNumber_56 : decode cX1_readNumber 56 = .ok (.aload_n 0, 1) := by decide +kernel
theorem dX1_readNumber_57 : decode cX1_readNumber 57 = .ok (.dup, 1) := by decide +kernel
theorem dX1_readNumber_58 : decode cX1_readNumber 58 = .ok (.getfield 19, 3) := by decide +kernel
theorem dX1_readNumber_61 : decode cX1_readNumber 61 = .ok (.iconst 1, 1) := by decide +kernel
theorem dX1_readNumber_62 : decode cX1_readNumber 62 = .ok (.iadd, 1) := by decide +kernel
theorem dX1_readNumber_63 : decode cX1_readNumber 63 = .ok (.putfield 19, 3) := by decide +kernel
theorem dX1_readNumber_66 : decode cX1_readNumber 66 = .ok (.iload_n 3, 1) := by decide +kernel
theorem dX1_readNumber_67 : decode cX1_readNumber 67 = .ok (.bipush 10, 2) := by decide +kernel
theorem dX1_readNumber_69 : decode cX1_readNumber 69 = .ok (.imul, 1) := by decide +kernel
theorem dX1_readNumber_70 : decode cX1_readNumber 70 = .ok (.iload 4, 2) := by decide +kernel
theorem dX1_readNumber_72 : decode cX1_readNumber 72 = .ok (.iadd, 1) := by decide +kernel
theorem dX1_readNumber_73 : decode cX1_readNumber 73 = .ok (.istore_n 3, 1) := by decide +kernel
theorem dX1_readNumber_74 : decode cX1_readNumber 74 = .ok (.iload_n 3, 1) := by decide +kernel
theorem dX1_readNumber_75 : decode cX1_readNumber 75 = .ok (.ireturn, 1) := by decide +kernel
theorem dX1_digit_0 : decode cX1_digit 0 = .ok (.aload_n 0, 1) := by decide +kernel
theorem dX1_digit_1 : decode cX1_digit 1 = .ok (.getfield 19, 3) := by decide +kernel
theorem dX1_digit_4 : decode cX1_digit 4 = .ok (.aload_n 0, 1) := by decide +kernel
theorem dX1_digit_5 : decode cX1_digit 5 = .ok (.getfield 15, 3) := by decide +kernel
theorem dX1_digit_8 : decode cX1_digit 8 = .ok (.if_icmp .ge 31, 3) := by decide +kernel
theorem dX1_digit_11 : decode cX1_digit 11 = .ok (.aload_n 0, 1) := by decide +kernel
theorem dX1_digit_12 : decode cX1_digit 12 = .ok (.getfield 11, 3) := by decide +kernel
theorem dX1_digit_15 : decode cX1_digit 15 = .ok (.aload_n 0, 1) := by decide +kernel
theorem dX1_digit_16 : decode cX1_digit 16 = .ok (.getfield 19, 3) := by decide +kernel
theorem dX1_digit_19 : decode cX1_digit 19 = .ok (.caload, 1) := by decide +kernel
theorem dX1_digit_20 : decode cX1_digit 20 = .ok (.bipush 48, 2) := by decide +kernel
theorem dX1_digit_22 : decode cX1_digit 22 = .ok (.if_icmp .lt 17, 3) := by decide +kernel
theorem dX1_digit_25 : decode cX1_digit 25 = .ok (.aload_n 0, 1) := by decide +kernel
theorem dX1_digit_26 : decode cX1_digit 26 = .ok (.getfield 11, 3) := by decide +kernel
theorem dX1_digit_29 : decode cX1_digit 29 = .ok (.aload_n 0, 1) := by decide +kernel
theorem dX1_digit_30 : decode cX1_digit 30 = .ok (.getfield 19, 3) := by decide +kernel
theorem dX1_digit_33 : decode cX1_digit 33 = .ok (.caload, 1) := by decide +kernel
theorem dX1_digit_34 : decode cX1_digit 34 = .ok (.bipush 57, 2) := by decide +kernel
theorem dX1_digit_36 : decode cX1_digit 36 = .ok (.if_icmp .le 6, 3) := by decide +kernel
theorem dX1_digit_39 : decode cX1_digit 39 = .ok (.bipush (-5), 2) := by decide +kernel
theorem dX1_digit_41 : decode cX1_digit 41 = .ok (.ireturn, 1) := by decide +kernel
theorem dX1_digit_42 : decode cX1_digit 42 = .ok (.aload_n 0, 1) := by decide +kernel
theorem dX1_digit_43 : decode cX1_digit 43 = .ok (.getfield 11, 3) := by decide +kernel
theorem dX1_digit_46 : decode cX1_digit 46 = .ok (.aload_n 0, 1) := by decide +kernel
theorem dX1_digit_47 : decode cX1_digit 47 = .ok (.getfield 19, 3) := by decide +kernel
theorem dX1_digit_50 : decode cX1_digit 50 = .ok (.caload, 1) := by decide +kernel
theorem dX1_digit_51 : decode cX1_digit 51 = .ok (.bipush 48, 2) := by decide +kernel
theorem dX1_digit_53 : decode cX1_digit 53 = .ok (.isub, 1) := by decide +kernel
theorem dX1_digit_54 : decode cX1_digit 54 = .ok (.ireturn, 1) := by decide +kernel
theorem dX3_init_0 : decode cX3_init 0 = .ok (.aload_n 0, 1) := by decide +kernel
theorem dX3_init_1 : decode cX3_init 1 = .ok (.invokespecial 1, 3) := by decide +kernel
theorem dX3_init_4 : decode cX3_init 4 = .ok (.aload_n 0, 1) := by decide +kernel
theorem dX3_init_5 : decode cX3_init 5 = .ok (.new 7, 3) := by decide +kernel
theorem dX3_init_8 : decode cX3_init 8 = .ok (.dup, 1) := by decide +kernel
theorem dX3_init_9 : decode cX3_init 9 = .ok (.invokespecial 9, 3) := by decide +kernel
theorem dX3_init_12 : decode cX3_init 12 = .ok (.putfield 10, 3) := by decide +kernel
theorem dX3_init_15 : decode cX3_init 15 = .ok (.aload_n 0, 1) := by decide +kernel
theorem dX3_init_16 : decode cX3_init 16 = .ok (.new 7, 3) := by decide +kernel
theorem dX3_init_19 : decode cX3_init 19 = .ok (.dup, 1) := by decide +kernel
theorem dX3_init_20 : decode cX3_init 20 = .ok (.invokespecial 9, 3) := by decide +kernel
theorem dX3_init_23 : decode cX3_init 23 = .ok (.putfield 16, 3) := by decide +kernel
theorem dX3_init_26 : decode cX3_init 26 = .ok (.aload_n 0, 1) := by decide +kernel
theorem dX3_init_27 : decode cX3_init 27 = .ok (.iconst 0, 1) := by decide +kernel
theorem dX3_init_28 : decode cX3_init 28 = .ok (.putfield 19, 3) := by decide +kernel
theorem dX3_init_31 : decode cX3_init 31 = .ok (.aload_n 0, 1) := by decide +kernel
theorem dX3_init_32 : decode cX3_init 32 = .ok (.new 23, 3) := by decide +kernel
theorem dX3_init_35 : decode cX3_init 35 = .ok (.dup, 1) := by decide +kernel
theorem dX3_init_36 : decode cX3_init 36 = .ok (.invokespecial 25, 3) := by decide +kernel
theorem dX3_init_39 : decode cX3_init 39 = .ok (.putfield 26, 3) := by decide +kernel
theorem dX3_init_42 : decode cX3_init 42 = .ok (.aload_n 0, 1) := by decide +kernel
theorem dX3_init_43 : decode cX3_init 43 = .ok (.new 30, 3) := by decide +kernel
theorem dX3_init_46 : decode cX3_init 46 = .ok (.dup, 1) := by decide +kernel
theorem dX3_init_47 : decode cX3_init 47 = .ok (.invokespecial 32, 3) := by decide +kernel
theorem dX3_init_50 : decode cX3_init 50 = .ok (.putfield 33, 3) := by decide +kernel
theorem dX3_init_53 : decode cX3_init 53 = .ok (.aload_n 0, 1) := by decide +kernel
theorem dX3_init_54 : decode cX3_init 54 = .ok (.bipush (-5), 2) := by decide +kernel
theorem dX3_init_56 : decode cX3_init 56 = .ok (.putfield 37, 3) := by decide +kernel
theorem dX3_init_59 : decode cX3_init 59 = .ok (.aload_n 0, 1) := by decide +kernel
theorem dX3_init_60 : decode cX3_init 60 = .ok (.bipush (-5), 2) := by decide +kernel
theorem dX3_init_62 : decode cX3_init 62 = .ok (.putfield 41, 3) := by decide +kernel
theorem dX3_init_65 : decode cX3_init 65 = .ok (.return_, 1) := by decide +kernel
theorem dX3_come_0 : decode cX3_come 0 = .ok (.aload_n 0, 1) := by decide +kernel
theorem dX3_come_1 : decode cX3_come 1 = .ok (.getfield 26, 3) := by decide +kernel
theorem dX3_come_4 : decode cX3_come 4 = .ok (.aload_n 0, 1) := by decide +kernel
theorem dX3_come_5 : decode cX3_come 5 = .ok (.getfield 10, 3) := by decide +kernel
theorem dX3_come_8 : decode cX3_come 8 = .ok (.invokevirtual 44, 3) := by decide +kernel
theorem dX3_come_11 : decode cX3_come 11 = .ok (.aload_n 0, 1) := by decide +kernel
theorem dX3_come_12 : decode cX3_come 12 = .ok (.getfield 26, 3) := by decide +kernel
theorem dX3_come_15 : decode cX3_come 15 = .ok (.aload_n 0, 1) := by decide +kernel
theorem dX3_come_16 : decode cX3_come 16 = .ok (.getfield 10, 3) := by decide +kernel
theorem dX3_come_19 : decode cX3_come 19 = .ok (.iload_n 1, 1) := by decide +kernel
theorem dX3_come_20 : decode cX3_come 20 = .ok (.iload_n 2, 1) := by decide +kernel
theorem dX3_come_21 : decode cX3_come 21 = .ok (.iload_n 3, 1) := by decide +kernel
theorem dX3_come_22 : decode cX3_come 22 = .ok (.iload 4, 2) := by decide +kernel
theorem dX3_come_24 : decode cX3_come 24 = .ok (.invokevirtual 48, 3) := by decide +kernel
theorem dX3_come_27 : decode cX3_come 27 = .ok (.invokevirtual 52, 3) := by decide +kernel
theorem dX3_come_30 : decode cX3_come 30 = .ok (.ireturn, 1) := by decide +kernel
theorem dX3_goAway_0 : decode cX3_goAway 0 = .ok (.aload_n 0, 1) := by decide +kernel
theorem dX3_goAway_1 : decode cX3_goAway 1 = .ok (.getfield 26, 3) := by decide +kernel
theorem dX3_goAway_4 : decode cX3_goAway 4 = .ok (.aload_n 0, 1) := by decide +kernel
theorem dX3_goAway_5 : decode cX3_goAway 5 = .ok (.getfield 10, 3) := by decide +kernel
theorem dX3_goAway_8 : decode cX3_goAway 8 = .ok (.invokevirtual 44, 3) := by decide +kernel
theorem dX3_goAway_11 : decode cX3_goAway 11 = .ok (.aload_n 0, 1) := by decide +kernel
theorem dX3_goAway_12 : decode cX3_goAway 12 = .ok (.getfield 26, 3) := by decide +kernel
theorem dX3_goAway_15 : decode cX3_goAway 15 = .ok (.aload_n 0, 1) := by decide +kernel
theorem dX3_goAway_16 : decode cX3_goAway 16 = .ok (.getfield 10, 3) := by decide +kernel
theorem dX3_goAway_19 : decode cX3_goAway 19 = .ok (.iload_n 1, 1) := by decide +kernel
theorem dX3_goAway_20 : decode cX3_goAway 20 = .ok (.invokevirtual 56, 3) := by decide +kernel
theorem dX3_goAway_23 : decode cX3_goAway 23 = .ok (.invokevirtual 52, 3) := by decide +kernel
theorem dX3_goAway_26 : decode cX3_goAway 26 = .ok (.ireturn, 1) := by decide +kernel
theorem dX3_setCradles_0 : decode cX3_setCradles 0 = .ok (.aload_n 0, 1) := by decide +kernel
theorem dX3_setCradles_1 : decode cX3_setCradles 1 = .ok (.getfield 26, 3) := by decide +kernel
theorem dX3_setCradles_4 : decode cX3_setCradles 4 = .ok (.aload_n 0, 1) := by decide +kernel
theorem dX3_setCradles_5 : decode cX3_setCradles 5 = .ok (.getfield 10, 3) := by decide +kernel
theorem dX3_setCradles_8 : decode cX3_setCradles 8 = .ok (.invokevirtual 44, 3) := by decide +kernel
theorem dX3_setCradles_11 : decode cX3_setCradles 11 = .ok (.aload_n 0, 1) := by decide +kernel
theorem dX3_setCradles_12 : decode cX3_setCradles 12 = .ok (.getfield 26, 3) := by decide +kernel
theorem dX3_setCradles_15 : decode cX3_setCradles 15 = .ok (.aload_n 0, 1) := by decide +kernel
theorem dX3_setCradles_16 : decode cX3_setCradles 16 = .ok (.getfield 10, 3) := by decide +kernel
theorem dX3_setCradles_19 : decode cX3_setCradles 19 = .ok (.iload_n 1, 1) := by decide +kernel
theorem dX3_setCradles_20 : decode cX3_setCradles 20 = .ok (.iload_n 2, 1) := by decide +kernel
theorem dX3_setCradles_21 : decode cX3_setCradles 21 = .ok (.invokevirtual 59, 3) := by decide +kernel
theorem dX3_setCradles_24 : decode cX3_setCradles 24 = .ok (.invokevirtual 52, 3) := by decide +kernel
theorem dX3_setCradles_27 : decode cX3_setCradles 27 = .ok (.ireturn, 1) := by decide +kernel
theorem dX3_setRow_0 : decode cX3_setRow 0 = .ok (.aload_n 0, 1) := by decide +kernel
theorem dX3_setRow_1 : decode cX3_setRow 1 = .ok (.getfield 26, 3) := by decide +kernel
theorem dX3_setRow_4 : decode cX3_setRow 4 = .ok (.aload_n 0, 1) := by decide +kernel
theorem dX3_setRow_5 : decode cX3_setRow 5 = .ok (.getfield 10, 3) := by decide +kernel
theorem dX3_setRow_8 : decode cX3_setRow 8 = .ok (.invokevirtual 44, 3) := by decide +kernel
theorem dX3_setRow_11 : decode cX3_setRow 11 = .ok (.aload_n 0, 1) := by decide +kernel
theorem dX3_setRow_12 : decode cX3_setRow 12 = .ok (.getfield 26, 3) := by decide +kernel
theorem dX3_setRow_15 : decode cX3_setRow 15 = .ok (.aload_n 0, 1) := by decide +kernel
theorem dX3_setRow_16 : decode cX3_setRow 16 = .ok (.getfield 10, 3) := by decide +kernel
theorem dX3_setRow_19 : decode cX3_setRow 19 = .ok (.iload_n 1, 1) := by decide +kernel
theorem dX3_setRow_20 : decode cX3_setRow 20 = .ok (.iload_n 2, 1) := by decide +kernel
theorem dX3_setRow_21 : decode cX3_setRow 21 = .ok (.invokevirtual 63, 3) := by decide +kernel
theorem dX3_setRow_24 : decode cX3_setRow 24 = .ok (.invokevirtual 52, 3) := by decide +kernel
theorem dX3_setRow_27 : decode cX3_setRow 27 = .ok (.ireturn, 1) := by decide +kernel
theorem dX3_set_0 : decode cX3_set 0 = .ok (.aload_n 0, 1) := by decide +kernel
theorem dX3_set_1 : decode cX3_set 1 = .ok (.getfield 26, 3) := by decide +kernel
theorem dX3_set_4 : decode cX3_set 4 = .ok (.aload_n 0, 1) := by decide +kernel
theorem dX3_set_5 : decode cX3_set 5 = .ok (.getfield 10, 3) := by decide +kernel
theorem dX3_set_8 : decode cX3_set 8 = .ok (.invokevirtual 44, 3) := by decide +kernel
theorem dX3_set_11 : decode cX3_set 11 = .ok (.aload_n 0, 1) := by decide +kernel
theorem dX3_set_12 : decode cX3_set 12 = .ok (.getfield 26, 3) := by decide +kernel
theorem dX3_set_15 : decode cX3_set 15 = .ok (.aload_n 0, 1) := by decide +kernel
theorem dX3_set_16 : decode cX3_set 16 = .ok (.getfield 10, 3) := by decide +kernel
theorem dX3_set_19 : decode cX3_set 19 = .ok (.iload_n 1, 1) := by decide +kernel
theorem dX3_set_20 : decode cX3_set 20 = .ok (.iload_n 2, 1) := by decide +kernel
theorem dX3_set_21 : decode cX3_set 21 = .ok (.invokevirtual 66, 3) := by decide +kernel
theorem dX3_set_24 : decode cX3_set 24 = .ok (.invokevirtual 52, 3) := by decide +kernel
theorem dX3_set_27 : decode cX3_set 27 = .ok (.ireturn, 1) := by decide +kernel
theorem dX3_lift_0 : decode cX3_lift 0 = .ok (.aload_n 0, 1) := by decide +kernel
theorem dX3_lift_1 : decode cX3_lift 1 = .ok (.getfield 26, 3) := by decide +kernel
theorem dX3_lift_4 : decode cX3_lift 4 = .ok (.aload_n 0, 1) := by decide +kernel
theorem dX3_lift_5 : decode cX3_lift 5 = .ok (.getfield 10, 3) := by decide +kernel
theorem dX3_lift_8 : decode cX3_lift 8 = .ok (.invokevirtual 44, 3) := by decide +kernel
theorem dX3_lift_11 : decode cX3_lift 11 = .ok (.aload_n 0, 1) := by decide +kernel
theorem dX3_lift_12 : decode cX3_lift 12 = .ok (.getfield 26, 3) := by decide +kernel
theorem dX3_lift_15 : decode cX3_lift 15 = .ok (.aload_n 0, 1) := by decide +kernel
theorem dX3_lift_16 : decode cX3_lift 16 = .ok (.getfield 10, 3) := by decide +kernel
theorem dX3_lift_19 : decode cX3_lift 19 = .ok (.iload_n 1, 1) := by decide +kernel
theorem dX3_lift_20 : decode cX3_lift 20 = .ok (.iload_n 2, 1) := by decide +kernel
theorem dX3_lift_21 : decode cX3_lift 21 = .ok (.invokevirtual 69, 3) := by decide +kernel
theorem dX3_lift_24 : decode cX3_lift 24 = .ok (.invokevirtual 52, 3) := by decide +kernel
theorem dX3_lift_27 : decode cX3_lift 27 = .ok (.ireturn, 1) := by decide +kernel
theorem dX3_launch_0 : decode cX3_launch 0 = .ok (.aload_n 0, 1) := by decide +kernel
theorem dX3_launch_1 : decode cX3_launch 1 = .ok (.getfield 26, 3) := by decide +kernel
theorem dX3_launch_4 : decode cX3_launch 4 = .ok (.aload_n 0, 1) := by decide +kernel
theorem dX3_launch_5 : decode cX3_launch 5 = .ok (.getfield 10, 3) := by decide +kernel
theorem dX3_launch_8 : decode cX3_launch 8 = .ok (.invokevirtual 44, 3) := by decide +kernel
theorem dX3_launch_11 : decode cX3_launch 11 = .ok (.aload_n 0, 1) := by decide +kernel
theorem dX3_launch_12 : decode cX3_launch 12 = .ok (.getfield 26, 3) := by decide +kernel
theorem dX3_launch_15 : decode cX3_launch 15 = .ok (.aload_n 0, 1) := by decide +kernel
theorem dX3_launch_16 : decode cX3_launch 16 = .ok (.getfield 10, 3) := by decide +kernel
theorem dX3_launch_19 : decode cX3_launch 19 = .ok (.iload_n 1, 1) := by decide +kernel
theorem dX3_launch_20 : decode cX3_launch 20 = .ok (.invokevirtual 72, 3) := by decide +kernel
theorem dX3_launch_23 : decode cX3_launch 23 = .ok (.invokevirtual 52, 3) := by decide +kernel
theorem dX3_launch_26 : decode cX3_launch 26 = .ok (.ireturn, 1) := by decide +kernel
theorem dX3_move_0 : decode cX3_move 0 = .ok (.aload_n 0, 1) := by decide +kernel
theorem dX3_move_1 : decode cX3_move 1 = .ok (.getfield 26, 3) := by decide +kernel
theorem dX3_move_4 : decode cX3_move 4 = .ok (.aload_n 0, 1) := by decide +kernel
theorem dX3_move_5 : decode cX3_move 5 = .ok (.getfield 10, 3) := by decide +kernel
theorem dX3_move_8 : decode cX3_move 8 = .ok (.invokevirtual 44, 3) := by decide +kernel
theorem dX3_move_11 : decode cX3_move 11 = .ok (.aload_n 0, 1) := by decide +kernel
theorem dX3_move_12 : decode cX3_move 12 = .ok (.getfield 26, 3) := by decide +kernel
theorem dX3_move_15 : decode cX3_move 15 = .ok (.aload_n 0, 1) := by decide +kernel
theorem dX3_move_16 : decode cX3_move 16 = .ok (.getfield 10, 3) := by decide +kernel
theorem dX3_move_19 : decode cX3_move 19 = .ok (.iload_n 1, 1) := by decide +kernel
theorem dX3_move_20 : decode cX3_move 20 = .ok (.iload_n 2, 1) := by decide +kernel
theorem dX3_move_21 : decode cX3_move 21 = .ok (.invokevirtual 75, 3) := by decide +kernel
theorem dX3_move_24 : decode cX3_move 24 = .ok (.invokevirtual 52, 3) := by decide +kernel
theorem dX3_move_27 : decode cX3_move 27 = .ok (.ireturn, 1) := by decide +kernel
theorem dX3_mast_0 : decode cX3_mast 0 = .ok (.aload_n 0, 1) := by decide +kernel
theorem dX3_mast_1 : decode cX3_mast 1 = .ok (.getfield 26, 3) := by decide +kernel
theorem dX3_mast_4 : decode cX3_mast 4 = .ok (.aload_n 0, 1) := by decide +kernel
theorem dX3_mast_5 : decode cX3_mast 5 = .ok (.getfield 10, 3) := by decide +kernel
theorem dX3_mast_8 : decode cX3_mast 8 = .ok (.invokevirtual 44, 3) := by decide +kernel
theorem dX3_mast_11 : decode cX3_mast 11 = .ok (.aload_n 0, 1) := by decide +kernel
theorem dX3_mast_12 : decode cX3_mast 12 = .ok (.getfield 26, 3) := by decide +kernel
theorem dX3_mast_15 : decode cX3_mast 15 = .ok (.iload_n 2, 1) := by decide +kernel
theorem dX3_mast_16 : decode cX3_mast 16 = .ok (.ifCond .eq 14, 3) := by decide +kernel
theorem dX3_mast_19 : decode cX3_mast 19 = .ok (.aload_n 0, 1) := by decide +kernel
theorem dX3_mast_20 : decode cX3_mast 20 = .ok (.getfield 10, 3) := by decide +kernel
theorem dX3_mast_23 : decode cX3_mast 23 = .ok (.iload_n 1, 1) := by decide +kernel
theorem dX3_mast_24 : decode cX3_mast 24 = .ok (.invokevirtual 78, 3) := by decide +kernel
theorem dX3_mast_27 : decode cX3_mast 27 = .ok (.goto 11, 3) := by decide +kernel
theorem dX3_mast_30 : decode cX3_mast 30 = .ok (.aload_n 0, 1) := by decide +kernel
theorem dX3_mast_31 : decode cX3_mast 31 = .ok (.getfield 10, 3) := by decide +kernel
theorem dX3_mast_34 : decode cX3_mast 34 = .ok (.iload_n 1, 1) := by decide +kernel
theorem dX3_mast_35 : decode cX3_mast 35 = .ok (.invokevirtual 81, 3) := by decide +kernel
theorem dX3_mast_38 : decode cX3_mast 38 = .ok (.invokevirtual 52, 3) := by decide +kernel
theorem dX3_mast_41 : decode cX3_mast 41 = .ok (.ireturn, 1) := by decide +kernel
theorem dX3_work_0 : decode cX3_work 0 = .ok (.aload_n 0, 1) := by decide +kernel
theorem dX3_work_1 : decode cX3_work 1 = .ok (.getfield 26, 3) := by decide +kernel
theorem dX3_work_4 : decode cX3_work 4 = .ok (.aload_n 0, 1) := by decide +kernel
theorem dX3_work_5 : decode cX3_work 5 = .ok (.getfield 10, 3) := by decide +kernel
theorem dX3_work_8 : decode cX3_work 8 = .ok (.invokevirtual 44, 3) := by decide +kernel
theorem dX3_work_11 : decode cX3_work 11 = .ok (.aload_n 0, 1) := by decide +kernel
theorem dX3_work_12 : decode cX3_work 12 = .ok (.getfield 26, 3) := by decide +kernel
theorem dX3_work_15 : decode cX3_work 15 = .ok (.aload_n 0, 1) := by decide +kernel
theorem dX3_work_16 : decode cX3_work 16 = .ok (.getfield 10, 3) := by decide +kernel
theorem dX3_work_19 : decode cX3_work 19 = .ok (.iload_n 1, 1) := by decide +kernel
theorem dX3_work_20 : decode cX3_work 20 = .ok (.iload_n 2, 1) := by decide +kernel
theorem dX3_work_21 : decode cX3_work 21 = .ok (.invokevirtual 84, 3) := by decide +kernel
theorem dX3_work_24 : decode cX3_work 24 = .ok (.invokevirtual 52, 3) := by decide +kernel
theorem dX3_work_27 : decode cX3_work 27 = .ok (.ireturn, 1) := by decide +kernel
theorem dX3_pass_0 : decode cX3_pass 0 = .ok (.aload_n 0, 1) := by decide +kernel
theorem dX3_pass_1 : decode cX3_pass 1 = .ok (.getfield 26, 3) := by decide +kernel
theorem dX3_pass_4 : decode cX3_pass 4 = .ok (.aload_n 0, 1) := by decide +kernel
theorem dX3_pass_5 : decode cX3_pass 5 = .ok (.getfield 10, 3) := by decide +kernel
theorem dX3_pass_8 : decode cX3_pass 8 = .ok (.invokevirtual 44, 3) := by decide +kernel
theorem dX3_pass_11 : decode cX3_pass 11 = .ok (.aload_n 0, 1) := by decide +kernel
theorem dX3_pass_12 : decode cX3_pass 12 = .ok (.getfield 26, 3) := by decide +kernel
theorem dX3_pass_15 : decode cX3_pass 15 = .ok (.aload_n 0, 1) := by decide +kernel
theorem dX3_pass_16 : decode cX3_pass 16 = .ok (.getfield 10, 3) := by decide +kernel
theorem dX3_pass_19 : decode cX3_pass 19 = .ok (.iload_n 1, 1) := by decide +kernel
theorem dX3_pass_20 : decode cX3_pass 20 = .ok (.invokevirtual 87, 3) := by decide +kernel
theorem dX3_pass_23 : decode cX3_pass 23 = .ok (.invokevirtual 52, 3) := by decide +kernel
theorem dX3_pass_26 : decode cX3_pass 26 = .ok (.ireturn, 1) := by decide +kernel
theorem dX3_type_0 : decode cX3_type 0 = .ok (.aload_n 0, 1) := by decide +kernel
theorem dX3_type_1 : decode cX3_type 1 = .ok (.getfield 33, 3) := by decide +kernel
theorem dX3_type_4 : decode cX3_type 4 = .ok (.iload_n 1, 1) := by decide +kernel
theorem dX3_type_5 : decode cX3_type 5 = .ok (.invokevirtual 90, 3) := by decide +kernel
theorem dX3_type_8 : decode cX3_type 8 = .ok (.ireturn, 1) := by decide +kernel
theorem dX3_clearText_0 : decode cX3_clearText 0 = .ok (.aload_n 0, 1) := by decide +kernel
theorem dX3_clearText_1 : decode cX3_clearText 1 = .ok (.getfield 33, 3) := by decide +kernel
theorem dX3_clearText_4 : decode cX3_clearText 4 = .ok (.invokevirtual 94, 3) := by decide +kernel
theorem dX3_clearText_7 : decode cX3_clearText 7 = .ok (.ireturn, 1) := by decide +kernel
theorem dX3_perform_0 : decode cX3_perform 0 = .ok (.aload_n 0, 1) := by decide +kernel
theorem dX3_perform_1 : decode cX3_perform 1 = .ok (.getfield 33, 3) := by decide +kernel
theorem dX3_perform_4 : decode cX3_perform 4 = .ok (.invokevirtual 98, 3) := by decide +kernel
theorem dX3_perform_7 : decode cX3_perform 7 = .ok (.istore_n 1, 1) := by decide +kernel
theorem dX3_perform_8 : decode cX3_perform 8 = .ok (.iload_n 1, 1) := by decide +kernel
theorem dX3_perform_9 : decode cX3_perform 9 = .ok (.bipush (-5), 2) := by decide +kernel
theorem dX3_perform_11 : decode cX3_perform 11 = .ok (.if_icmp .eq 8, 3) := by decide +kernel
theorem dX3_perform_14 : decode cX3_perform 14 = .ok (.bipush (-100), 2) := by decide +kernel
theorem dX3_perform_16 : decode cX3_perform 16 = .ok (.iload_n 1, 1) := by decide +kernel
theorem dX3_perform_17 : decode cX3_perform 17 = .ok (.isub, 1) := by decide +kernel
theorem dX3_perform_18 : decode cX3_perform 18 = .ok (.ireturn, 1) := by decide +kernel
theorem dX3_perform_19 : decode cX3_perform 19 = .ok (.aload_n 0, 1) := by decide +kernel
theorem dX3_perform_20 : decode cX3_perform 20 = .ok (.getfield 26, 3) := by decide +kernel
theorem dX3_perform_23 : decode cX3_perform 23 = .ok (.aload_n 0, 1) := by decide +kernel
theorem dX3_perform_24 : decode cX3_perform 24 = .ok (.getfield 10, 3) := by decide +kernel
theorem dX3_perform_27 : decode cX3_perform 27 = .ok (.invokevirtual 44, 3) := by decide +kernel
theorem dX3_perform_30 : decode cX3_perform 30 = .ok (.aload_n 0, 1) := by decide +kernel
theorem dX3_perform_31 : decode cX3_perform 31 = .ok (.getfield 33, 3) := by decide +kernel
theorem dX3_perform_34 : decode cX3_perform 34 = .ok (.invokevirtual 101, 3) := by decide +kernel
theorem dX3_perform_37 : decode cX3_perform 37 = .ok (.istore_n 2, 1) := by decide +kernel
theorem dX3_perform_38 : decode cX3_perform 38 = .ok (.iconst 0, 1) := by decide +kernel
theorem dX3_perform_39 : decode cX3_perform 39 = .ok (.istore_n 3, 1) := by decide +kernel
theorem dX3_perform_40 : decode cX3_perform 40 = .ok (.iload_n 3, 1) := by decide +kernel
theorem dX3_perform_41 : decode cX3_perform 41 = .ok (.iload_n 2, 1) := by decide +kernel
theorem dX3_perform_42 : decode cX3_perform 42 = .ok (.if_icmp .ge 76, 3) := by decide +kernel
theorem dX3_perform_45 : decode cX3_perform 45 = .ok (.aload_n 0, 1) := by decide +kernel
theorem dX3_perform_46 : decode cX3_perform 46 = .ok (.aload_n 0, 1) := by decide +kernel
theorem dX3_perform_47 : decode cX3_perform 47 = .ok (.getfield 33, 3) := by decide +kernel
theorem dX3_perform_50 : decode cX3_perform 50 = .ok (.iload_n 3, 1) := by decide +kernel
theorem dX3_perform_51 : decode cX3_perform 51 = .ok (.invokevirtual 104, 3) := by decide +kernel
theorem dX3_perform_54 : decode cX3_perform 54 = .ok (.aload_n 0, 1) := by decide +kernel
theorem dX3_perform_55 : decode cX3_perform 55 = .ok (.getfield 33, 3) := by decide +kernel
theorem dX3_perform_58 : decode cX3_perform 58 = .ok (.iload_n 3, 1) := by decide +kernel
theorem dX3_perform_59 : decode cX3_perform 59 = .ok (.invokevirtual 108, 3) := by decide +kernel
theorem dX3_perform_62 : decode cX3_perform 62 = .ok (.aload_n 0, 1) := by decide +kernel
theorem dX3_perform_63 : decode cX3_perform 63 = .ok (.getfield 33, 3) := by decide +kernel
theorem dX3_perform_66 : decode cX3_perform 66 = .ok (.iload_n 3, 1) := by decide +kernel
theorem dX3_perform_67 : decode cX3_perform 67 = .ok (.invokevirtual 111, 3) := by decide +kernel
theorem dX3_perform_70 : decode cX3_perform 70 = .ok (.invokevirtual 114, 3) := by decide +kernel
theorem dX3_perform_73 : decode cX3_perform 73 = .ok (.istore 4, 2) := by decide +kernel
theorem dX3_perform_75 : decode cX3_perform 75 = .ok (.iload 4, 2) := by decide +kernel
theorem dX3_perform_77 : decode cX3_perform 77 = .ok (.ifCond .ge 35, 3) := by decide +kernel
theorem dX3_perform_80 : decode cX3_perform 80 = .ok (.iload 4, 2) := by decide +kernel
theorem dX3_perform_82 : decode cX3_perform 82 = .ok (.bipush (-5), 2) := by decide +kernel
theorem dX3_perform_84 : decode cX3_perform 84 = .ok (.if_icmp .eq 28, 3) := by decide +kernel
theorem dX3_perform_87 : decode cX3_perform 87 = .ok (.aload_n 0, 1) := by decide +kernel
theorem dX3_perform_88 : decode cX3_perform 88 = .ok (.iload_n 3, 1) := by decide +kernel
theorem dX3_perform_89 : decode cX3_perform 89 = .ok (.putfield 37, 3) := by decide +kernel
theorem dX3_perform_92 : decode cX3_perform 92 = .ok (.aload_n 0, 1) := by decide +kernel
theorem dX3_perform_93 : decode cX3_perform 93 = .ok (.iload 4, 2) := by decide +kernel
theorem dX3_perform_95 : decode cX3_perform 95 = .ok (.putfield 41, 3) := by decide +kernel
theorem dX3_perform_98 : decode cX3_perform 98 = .ok (.aload_n 0, 1) := by decide +kernel
theorem dX3_perform_99 : decode cX3_perform 99 = .ok (.getfield 26, 3) := by decide +kernel
theorem dX3_perform_102 : decode cX3_perform 102 = .ok (.aload_n 0, 1) := by decide +kernel
theorem dX3_perform_103 : decode cX3_perform 103 = .ok (.getfield 10, 3) := by decide +kernel
theorem dX3_perform_106 : decode cX3_perform 106 = .ok (.invokevirtual 118, 3) := by decide +kernel
theorem dX3_perform_109 : decode cX3_perform 109 = .ok (.bipush (-4), 2) := by decide +kernel
theorem dX3_perform_111 : decode cX3_perform 111 = .ok (.ireturn, 1) := by decide +kernel
theorem dX3_perform_112 : decode cX3_perform 112 = .ok (.iinc 3 1, 3) := by decide +kernel
theorem dX3_perform_115 : decode cX3_perform 115 = .ok (.goto (-75), 3) := by decide +kernel
theorem dX3_perform_118 : decode cX3_perform 118 = .ok (.aload_n 0, 1) := by decide +kernel
theorem dX3_perform_119 : decode cX3_perform 119 = .ok (.getfield 26, 3) := by decide +kernel
theorem dX3_perform_122 : decode cX3_perform 122 = .ok (.iload_n 2, 1) := by decide +kernel
theorem dX3_perform_123 : decode cX3_perform 123 = .ok (.invokevirtual 52, 3) := by decide +kernel
theorem dX3_perform_126 : decode cX3_perform 126 = .ok (.ireturn, 1) := by decide +kernel
theorem dX3_doThing_0 : decode cX3_doThing 0 = .ok (.iload_n 1, 1) := by decide +kernel
theorem dX3_doThing_1 : decode cX3_doThing 1 = .ok (.lookupswitch 98 #[(43, 89), (45, 80), (100, 61), (109, 70), (117, 51)], 51) := by decide +kernel
theorem dX3_doThing_52 : decode cX3_doThing 52 = .ok (.aload_n 0, 1) := by decide +kernel
theorem dX3_doThing_53 : decode cX3_doThing 53 = .ok (.getfield 10, 3) := by decide +kernel
theorem dX3_doThing_56 : decode cX3_doThing 56 = .ok (.iload_n 2, 1) := by decide +kernel
theorem dX3_doThing_57 : decode cX3_doThing 57 = .ok (.iload_n 3, 1) := by decide +kernel
theorem dX3_doThing_58 : decode cX3_doThing 58 = .ok (.invokevirtual 69, 3) := by decide +kernel
theorem dX3_doThing_61 : decode cX3_doThing 61 = .ok (.ireturn, 1) := by decide +kernel
theorem dX3_doThing_62 : decode cX3_doThing 62 = .ok (.aload_n 0, 1) := by decide +kernel
theorem dX3_doThing_63 : decode cX3_doThing 63 = .ok (.getfield 10, 3) := by decide +kernel
theorem dX3_doThing_66 : decode cX3_doThing 66 = .ok (.iload_n 2, 1) := by decide +kernel
theorem dX3_doThing_67 : decode cX3_doThing 67 = .ok (.invokevirtual 72, 3) := by decide +kernel
theorem dX3_doThing_70 : decode cX3_doThing 70 = .ok (.ireturn, 1) := by decide +kernel
theorem dX3_doThing_71 : decode cX3_doThing 71 = .ok (.aload_n 0, 1) := by decide +kernel
theorem dX3_doThing_72 : decode cX3_doThing 72 = .ok (.getfield 10, 3) := by decide +kernel
theorem dX3_doThing_75 : decode cX3_doThing 75 = .ok (.iload_n 2, 1) := by decide +kernel
theorem dX3_doThing_76 : decode cX3_doThing 76 = .ok (.iload_n 3, 1) := by decide +kernel
theorem dX3_doThing_77 : decode cX3_doThing 77 = .ok (.invokevirtual 75, 3) := by decide +kernel
theorem dX3_doThing_80 : decode cX3_doThing 80 = .ok (.ireturn, 1) := by decide +kernel
theorem dX3_doThing_81 : decode cX3_doThing 81 = .ok (.aload_n 0, 1) := by decide +kernel
theorem dX3_doThing_82 : decode cX3_doThing 82 = .ok (.getfield 10, 3) := by decide +kernel
theorem dX3_doThing_85 : decode cX3_doThing 85 = .ok (.iload_n 2, 1) := by decide +kernel
theorem dX3_doThing_86 : decode cX3_doThing 86 = .ok (.invokevirtual 81, 3) := by decide +kernel
theorem dX3_doThing_89 : decode cX3_doThing 89 = .ok (.ireturn, 1) := by decide +kernel
theorem dX3_doThing_90 : decode cX3_doThing 90 = .ok (.aload_n 0, 1) := by decide +kernel
theorem dX3_doThing_91 : decode cX3_doThing 91 = .ok (.getfield 10, 3) := by decide +kernel
theorem dX3_doThing_94 : decode cX3_doThing 94 = .ok (.iload_n 2, 1) := by decide +kernel
theorem dX3_doThing_95 : decode cX3_doThing 95 = .ok (.invokevirtual 78, 3) := by decide +kernel
theorem dX3_doThing_98 : decode cX3_doThing 98 = .ok (.ireturn, 1) := by decide +kernel
theorem dX3_doThing_99 : decode cX3_doThing 99 = .ok (.aload_n 0, 1) := by decide +kernel
theorem dX3_doThing_100 : decode cX3_doThing 100 = .ok (.getfield 10, 3) := by decide +kernel
theorem dX3_doThing_103 : decode cX3_doThing 103 = .ok (.iload_n 2, 1) := by decide +kernel
theorem dX3_doThing_104 : decode cX3_doThing 104 = .ok (.invokevirtual 87, 3) := by decide +kernel
theorem dX3_doThing_107 : decode cX3_doThing 107 = .ok (.ireturn, 1) := by decide +kernel
theorem dX3_stopped_0 : decode cX3_stopped 0 = .ok (.iload_n 1, 1) := by decide +kernel
theorem dX3_stopped_1 : decode cX3_stopped 1 = .ok (.ifCond .ne 8, 3) := by decide +kernel
theorem dX3_stopped_4 : decode cX3_stopped 4 = .ok (.aload_n 0, 1) := by decide +kernel
theorem dX3_stopped_5 : decode cX3_stopped 5 = .ok (.getfield 37, 3) := by decide +kernel
theorem dX3_stopped_8 : decode cX3_stopped 8 = .ok (.ireturn, 1) := by decide +kernel
theorem dX3_stopped_9 : decode cX3_stopped 9 = .ok (.iload_n 1, 1) := by decide +kernel
theorem dX3_stopped_10 : decode cX3_stopped 10 = .ok (.iconst 1, 1) := by decide +kernel
theorem dX3_stopped_11 : decode cX3_stopped 11 = .ok (.if_icmp .ne 8, 3) := by decide +kernel
theorem dX3_stopped_14 : decode cX3_stopped 14 = .ok (.aload_n 0, 1) := by decide +kernel
theorem dX3_stopped_15 : decode cX3_stopped 15 = .ok (.getfield 41, 3) := by decide +kernel
theorem dX3_stopped_18 : decode cX3_stopped 18 = .ok (.ireturn, 1) := by decide +kernel
theorem dX3_stopped_19 : decode cX3_stopped 19 = .ok (.bipush (-2), 2) := by decide +kernel
theorem dX3_stopped_21 : decode cX3_stopped 21 = .ok (.ireturn, 1) := by decide +kernel
theorem dX3_undo_0 : decode cX3_undo 0 = .ok (.aload_n 0, 1) := by decide +kernel
theorem dX3_undo_1 : decode cX3_undo 1 = .ok (.getfield 26, 3) := by decide +kernel
theorem dX3_undo_4 : decode cX3_undo 4 = .ok (.aload_n 0, 1) := by decide +kernel
theorem dX3_undo_5 : decode cX3_undo 5 = .ok (.getfield 10, 3) := by decide +kernel
theorem dX3_undo_8 : decode cX3_undo 8 = .ok (.invokevirtual 121, 3) := by decide +kernel
theorem dX3_undo_11 : decode cX3_undo 11 = .ok (.ireturn, 1) := by decide +kernel
theorem dX3_keep_0 : decode cX3_keep 0 = .ok (.aload_n 0, 1) := by decide +kernel
theorem dX3_keep_1 : decode cX3_keep 1 = .ok (.getfield 16, 3) := by decide +kernel
theorem dX3_keep_4 : decode cX3_keep 4 = .ok (.aload_n 0, 1) := by decide +kernel
theorem dX3_keep_5 : decode cX3_keep 5 = .ok (.getfield 10, 3) := by decide +kernel
theorem dX3_keep_8 : decode cX3_keep 8 = .ok (.invokevirtual 125, 3) := by decide +kernel
theorem dX3_keep_11 : decode cX3_keep 11 = .ok (.aload_n 0, 1) := by decide +kernel
theorem dX3_keep_12 : decode cX3_keep 12 = .ok (.iconst 1, 1) := by decide +kernel
theorem dX3_keep_13 : decode cX3_keep 13 = .ok (.putfield 19, 3) := by decide +kernel
theorem dX3_keep_16 : decode cX3_keep 16 = .ok (.aload_n 0, 1) := by decide +kernel
theorem dX3_keep_17 : decode cX3_keep 17 = .ok (.getfield 10, 3) := by decide +kernel
theorem dX3_keep_20 : decode cX3_keep 20 = .ok (.invokevirtual 128, 3) := by decide +kernel
theorem dX3_keep_23 : decode cX3_keep 23 = .ok (.ireturn, 1) := by decide +kernel
theorem dX3_restore_0 : decode cX3_restore 0 = .ok (.aload_n 0, 1) := by decide +kernel
theorem dX3_restore_1 : decode cX3_restore 1 = .ok (.getfield 19, 3) := by decide +kernel
theorem dX3_restore_4 : decode cX3_restore 4 = .ok (.ifCond .ne 6, 3) := by decide +kernel
theorem dX3_restore_7 : decode cX3_restore 7 = .ok (.bipush (-5), 2) := by decide +kernel
theorem dX3_restore_9 : decode cX3_restore 9 = .ok (.ireturn, 1) := by decide +kernel
theorem dX3_restore_10 : decode cX3_restore 10 = .ok (.aload_n 0, 1) := by decide +kernel
theorem dX3_restore_11 : decode cX3_restore 11 = .ok (.getfield 26, 3) := by decide +kernel
theorem dX3_restore_14 : decode cX3_restore 14 = .ok (.aload_n 0, 1) := by decide +kernel
theorem dX3_restore_15 : decode cX3_restore 15 = .ok (.getfield 10, 3) := by decide +kernel
theorem dX3_restore_18 : decode cX3_restore 18 = .ok (.invokevirtual 44, 3) := by decide +kernel
theorem dX3_restore_21 : decode cX3_restore 21 = .ok (.aload_n 0, 1) := by decide +kernel
theorem dX3_restore_22 : decode cX3_restore 22 = .ok (.getfield 10, 3) := by decide +kernel
theorem dX3_restore_25 : decode cX3_restore 25 = .ok (.aload_n 0, 1) := by decide +kernel
theorem dX3_restore_26 : decode cX3_restore 26 = .ok (.getfield 16, 3) := by decide +kernel
theorem dX3_restore_29 : decode cX3_restore 29 = .ok (.invokevirtual 125, 3) := by decide +kernel
theorem dX3_restore_32 : decode cX3_restore 32 = .ok (.aload_n 0, 1) := by decide +kernel
theorem dX3_restore_33 : decode cX3_restore 33 = .ok (.getfield 26, 3) := by decide +kernel
theorem dX3_restore_36 : decode cX3_restore 36 = .ok (.aload_n 0, 1) := by decide +kernel
theorem dX3_restore_37 : decode cX3_restore 37 = .ok (.getfield 10, 3) := by decide +kernel
theorem dX3_restore_40 : decode cX3_restore 40 = .ok (.invokevirtual 128, 3) := by decide +kernel
theorem dX3_restore_43 : decode cX3_restore 43 = .ok (.invokevirtual 52, 3) := by decide +kernel
theorem dX3_restore_46 : decode cX3_restore 46 = .ok (.ireturn, 1) := by decide +kernel
theorem dX3_boat_0 : decode cX3_boat 0 = .ok (.aload_n 0, 1) := by decide +kernel
theorem dX3_boat_1 : decode cX3_boat 1 = .ok (.getfield 10, 3) := by decide +kernel
theorem dX3_boat_4 : decode cX3_boat 4 = .ok (.iload_n 1, 1) := by decide +kernel
theorem dX3_boat_5 : decode cX3_boat 5 = .ok (.invokevirtual 131, 3) := by decide +kernel
theorem dX3_boat_8 : decode cX3_boat 8 = .ok (.ifCond .ne 5, 3) := by decide +kernel
theorem dX3_boat_11 : decode cX3_boat 11 = .ok (.iconst (-1), 1) := by decide +kernel
theorem dX3_boat_12 : decode cX3_boat 12 = .ok (.ireturn, 1) := by decide +kernel
theorem dX3_boat_13 : decode cX3_boat 13 = .ok (.iload_n 2, 1) := by decide +kernel
theorem dX3_boat_14 : decode cX3_boat 14 = .ok (.invokestatic 135, 3) := by decide +kernel
theorem dX3_boat_17 : decode cX3_boat 17 = .ok (.ifCond .eq 15, 3) := by decide +kernel
theorem dX3_boat_20 : decode cX3_boat 20 = .ok (.aload_n 0, 1) := by decide +kernel
theorem dX3_boat_21 : decode cX3_boat 21 = .ok (.getfield 10, 3) := by decide +kernel
theorem dX3_boat_24 : decode cX3_boat 24 = .ok (.iload_n 1, 1) := by decide +kernel
theorem dX3_boat_25 : decode cX3_boat 25 = .ok (.iload_n 2, 1) := by decide +kernel
theorem dX3_boat_26 : decode cX3_boat 26 = .ok (.invokevirtual 138, 3) := by decide +kernel
theorem dX3_boat_29 : decode cX3_boat 29 = .ok (.goto 5, 3) := by decide +kernel
theorem dX3_boat_32 : decode cX3_boat 32 = .ok (.bipush (-2), 2) := by decide +kernel
theorem dX3_boat_34 : decode cX3_boat 34 = .ok (.ireturn, 1) := by decide +kernel
theorem dX3_row_0 : decode cX3_row 0 = .ok (.iload_n 1, 1) := by decide +kernel
theorem dX3_row_1 : decode cX3_row 1 = .ok (.invokestatic 141, 3) := by decide +kernel
theorem dX3_row_4 : decode cX3_row 4 = .ok (.ifCond .ne 5, 3) := by decide +kernel
theorem dX3_row_7 : decode cX3_row 7 = .ok (.iconst (-1), 1) := by decide +kernel
theorem dX3_row_8 : decode cX3_row 8 = .ok (.ireturn, 1) := by decide +kernel
theorem dX3_row_9 : decode cX3_row 9 = .ok (.iload_n 2, 1) := by decide +kernel
theorem dX3_row_10 : decode cX3_row 10 = .ok (.tableswitch 76 0 3 #[30, 39, 48, 57], 30) := by decide +kernel
theorem dX3_row_40 : decode cX3_row 40 = .ok (.aload_n 0, 1) := by decide +kernel
theorem dX3_row_41 : decode cX3_row 41 = .ok (.getfield 10, 3) := by decide +kernel
theorem dX3_row_44 : decode cX3_row 44 = .ok (.iload_n 1, 1) := by decide +kernel
theorem dX3_row_45 : decode cX3_row 45 = .ok (.invokevirtual 144, 3) := by decide +kernel
theorem dX3_row_48 : decode cX3_row 48 = .ok (.ireturn, 1) := by decide +kernel
theorem dX3_row_49 : decode cX3_row 49 = .ok (.aload_n 0, 1) := by decide +kernel
theorem dX3_row_50 : decode cX3_row 50 = .ok (.getfield 10, 3) := by decide +kernel
theorem dX3_row_53 : decode cX3_row 53 = .ok (.iload_n 1, 1) := by decide +kernel
theorem dX3_row_54 : decode cX3_row 54 = .ok (.invokevirtual 147, 3) := by decide +kernel
theorem dX3_row_57 : decode cX3_row 57 = .ok (.ireturn, 1) := by decide +kernel
theorem dX3_row_58 : decode cX3_row 58 = .ok (.aload_n 0, 1) := by decide +kernel
theorem dX3_row_59 : decode cX3_row 59 = .ok (.getfield 10, 3) := by decide +kernel
theorem dX3_row_62 : decode cX3_row 62 = .ok (.iload_n 1, 1) := by decide +kernel
theorem dX3_row_63 : decode cX3_row 63 = .ok (.invokevirtual 150, 3) := by decide +kernel
theorem dX3_row_66 : decode cX3_row 66 = .ok (.ireturn, 1) := by decide +kernel
theorem dX3_row_67 : decode cX3_row 67 = .ok (.aload_n 0, 1) := by decide +kernel
theorem dX3_row_68 : decode cX3_row 68 = .ok (.getfield 10, 3) := by decide +kernel
theorem dX3_row_71 : decode cX3_row 71 = .ok (.iload_n 1, 1) := by decide +kernel
theorem dX3_row_72 : decode cX3_row 72 = .ok (.aload_n 0, 1) := by decide +kernel
theorem dX3_row_73 : decode cX3_row 73 = .ok (.getfield 10, 3) := by decide +kernel
theorem dX3_row_76 : decode cX3_row 76 = .ok (.iload_n 1, 1) := by decide +kernel
theorem dX3_row_77 : decode cX3_row 77 = .ok (.invokevirtual 150, 3) := by decide +kernel
theorem dX3_row_80 : decode cX3_row 80 = .ok (.iconst 1, 1) := by decide +kernel
theorem dX3_row_81 : decode cX3_row 81 = .ok (.isub, 1) := by decide +kernel
theorem dX3_row_82 : decode cX3_row 82 = .ok (.invokevirtual 153, 3) := by decide +kernel
theorem dX3_row_85 : decode cX3_row 85 = .ok (.ireturn, 1) := by decide +kernel
theorem dX3_row_86 : decode cX3_row 86 = .ok (.bipush (-2), 2) := by decide +kernel
theorem dX3_row_88 : decode cX3_row 88 = .ok (.ireturn, 1) := by decide +kernel
theorem dX3_stands_0 : decode cX3_stands 0 = .ok (.iload_n 1, 1) := by decide +kernel
theorem dX3_stands_1 : decode cX3_stands 1 = .ok (.invokestatic 141, 3) := by decide +kernel
theorem dX3_stands_4 : decode cX3_stands 4 = .ok (.ifCond .ne 5, 3) := by decide +kernel
theorem dX3_stands_7 : decode cX3_stands 7 = .ok (.iconst (-1), 1) := by decide +kernel
theorem dX3_stands_8 : decode cX3_stands 8 = .ok (.ireturn, 1) := by decide +kernel
theorem dX3_stands_9 : decode cX3_stands 9 = .ok (.iload_n 2, 1) := by decide +kernel
theorem dX3_stands_10 : decode cX3_stands 10 = .ok (.ifCond .ge 8, 3) := by decide +kernel
theorem dX3_stands_13 : decode cX3_stands 13 = .ok (.bipush (-2), 2) := by decide +kernel
theorem dX3_stands_15 : decode cX3_stands 15 = .ok (.goto 12, 3) := by decide +kernel
theorem dX3_stands_18 : decode cX3_stands 18 = .ok (.aload_n 0, 1) := by decide +kernel
theorem dX3_stands_19 : decode cX3_stands 19 = .ok (.getfield 10, 3) := by decide +kernel
theorem dX3_stands_22 : decode cX3_stands 22 = .ok (.iload_n 1, 1) := by decide +kernel
theorem dX3_stands_23 : decode cX3_stands 23 = .ok (.iload_n 2, 1) := by decide +kernel
theorem dX3_stands_24 : decode cX3_stands 24 = .ok (.invokevirtual 153, 3) := by decide +kernel
theorem dX3_stands_27 : decode cX3_stands 27 = .ok (.ireturn, 1) := by decide +kernel
theorem dX3_cradle_0 : decode cX3_cradle 0 = .ok (.iload_n 1, 1) := by decide +kernel
theorem dX3_cradle_1 : decode cX3_cradle 1 = .ok (.invokestatic 156, 3) := by decide +kernel
theorem dX3_cradle_4 : decode cX3_cradle 4 = .ok (.ifCond .ne 5, 3) := by decide +kernel
theorem dX3_cradle_7 : decode cX3_cradle 7 = .ok (.iconst (-1), 1) := by decide +kernel
theorem dX3_cradle_8 : decode cX3_cradle 8 = .ok (.ireturn, 1) := by decide +kernel
theorem dX3_cradle_9 : decode cX3_cradle 9 = .ok (.iload_n 2, 1) := by decide +kernel
theorem dX3_cradle_10 : decode cX3_cradle 10 = .ok (.tableswitch 49 0 2 #[26, 35, 44], 26) := by decide +kernel
theorem dX3_cradle_36 : decode cX3_cradle 36 = .ok (.aload_n 0, 1) := by decide +kernel
theorem dX3_cradle_37 : decode cX3_cradle 37 = .ok (.getfield 10, 3) := by decide +kernel
theorem dX3_cradle_40 : decode cX3_cradle 40 = .ok (.iload_n 1, 1) := by decide +kernel
theorem dX3_cradle_41 : decode cX3_cradle 41 = .ok (.invokevirtual 159, 3) := by decide +kernel
theorem dX3_cradle_44 : decode cX3_cradle 44 = .ok (.ireturn, 1) := by decide +kernel
theorem dX3_cradle_45 : decode cX3_cradle 45 = .ok (.aload_n 0, 1) := by decide +kernel
theorem dX3_cradle_46 : decode cX3_cradle 46 = .ok (.getfield 10, 3) := by decide +kernel
theorem dX3_cradle_49 : decode cX3_cradle 49 = .ok (.iload_n 1, 1) := by decide +kernel
theorem dX3_cradle_50 : decode cX3_cradle 50 = .ok (.invokevirtual 162, 3) := by decide +kernel
theorem dX3_cradle_53 : decode cX3_cradle 53 = .ok (.ireturn, 1) := by decide +kernel
theorem dX3_cradle_54 : decode cX3_cradle 54 = .ok (.iload_n 1, 1) := by decide +kernel
theorem dX3_cradle_55 : decode cX3_cradle 55 = .ok (.invokestatic 165, 3) := by decide +kernel
theorem dX3_cradle_58 : decode cX3_cradle 58 = .ok (.ireturn, 1) := by decide +kernel
theorem dX3_cradle_59 : decode cX3_cradle 59 = .ok (.bipush (-2), 2) := by decide +kernel
theorem dX3_cradle_61 : decode cX3_cradle 61 = .ok (.ireturn, 1) := by decide +kernel
theorem dX3_tide_0 : decode cX3_tide 0 = .ok (.iload_n 1, 1) := by decide +kernel
theorem dX3_tide_1 : decode cX3_tide 1 = .ok (.iconst 0, 1) := by decide +kernel
theorem dX3_tide_2 : decode cX3_tide 2 = .ok (.sipush 9999, 3) := by decide +kernel
theorem dX3_tide_5 : decode cX3_tide 5 = .ok (.invokestatic 168, 3) := by decide +kernel
theorem dX3_tide_8 : decode cX3_tide 8 = .ok (.ifCond .eq 14, 3) := by decide +kernel
theorem dX3_tide_11 : decode cX3_tide 11 = .ok (.aload_n 0, 1) := by decide +kernel
theorem dX3_tide_12 : decode cX3_tide 12 = .ok (.getfield 10, 3) := by decide +kernel
theorem dX3_tide_15 : decode cX3_tide 15 = .ok (.iload_n 1, 1) := by decide +kernel
theorem dX3_tide_16 : decode cX3_tide 16 = .ok (.invokevirtual 172, 3) := by decide +kernel
theorem dX3_tide_19 : decode cX3_tide 19 = .ok (.goto 5, 3) := by decide +kernel
theorem dX3_tide_22 : decode cX3_tide 22 = .ok (.bipush (-2), 2) := by decide +kernel
theorem dX3_tide_24 : decode cX3_tide 24 = .ok (.ireturn, 1) := by decide +kernel
theorem dX3_liftReason_0 : decode cX3_liftReason 0 = .ok (.aload_n 0, 1) := by decide +kernel
theorem dX3_liftReason_1 : decode cX3_liftReason 1 = .ok (.getfield 10, 3) := by decide +kernel
theorem dX3_liftReason_4 : decode cX3_liftReason 4 = .ok (.iload_n 1, 1) := by decide +kernel
theorem dX3_liftReason_5 : decode cX3_liftReason 5 = .ok (.invokevirtual 131, 3) := by decide +kernel
theorem dX3_liftReason_8 : decode cX3_liftReason 8 = .ok (.ifCond .eq 22, 3) := by decide +kernel
theorem dX3_liftReason_11 : decode cX3_liftReason 11 = .ok (.iload_n 2, 1) := by decide +kernel
theorem dX3_liftReason_12 : decode cX3_liftReason 12 = .ok (.invokestatic 141, 3) := by decide +kernel
theorem dX3_liftReason_15 : decode cX3_liftReason 15 = .ok (.ifCond .eq 15, 3) := by decide +kernel
theorem dX3_liftReason_18 : decode cX3_liftReason 18 = .ok (.aload_n 0, 1) := by decide +kernel
theorem dX3_liftReason_19 : decode cX3_liftReason 19 = .ok (.getfield 10, 3) := by decide +kernel
theorem dX3_liftReason_22 : decode cX3_liftReason 22 = .ok (.iload_n 1, 1) := by decide +kernel
theorem dX3_liftReason_23 : decode cX3_liftReason 23 = .ok (.iload_n 2, 1) := by decide +kernel
theorem dX3_liftReason_24 : decode cX3_liftReason 24 = .ok (.invokevirtual 175, 3) := by decide +kernel
theorem dX3_liftReason_27 : decode cX3_liftReason 27 = .ok (.goto 4, 3) := by decide +kernel
theorem dX3_liftReason_30 : decode cX3_liftReason 30 = .ok (.iconst (-1), 1) := by decide +kernel
theorem dX3_liftReason_31 : decode cX3_liftReason 31 = .ok (.ireturn, 1) := by decide +kernel
theorem dX3_launchReason_0 : decode cX3_launchReason 0 = .ok (.aload_n 0, 1) := by decide +kernel
theorem dX3_launchReason_1 : decode cX3_launchReason 1 = .ok (.getfield 10, 3) := by decide +kernel
theorem dX3_launchReason_4 : decode cX3_launchReason 4 = .ok (.iload_n 1, 1) := by decide +kernel
theorem dX3_launchReason_5 : decode cX3_launchReason 5 = .ok (.invokevirtual 131, 3) := by decide +kernel
theorem dX3_launchReason_8 : decode cX3_launchReason 8 = .ok (.ifCond .eq 14, 3) := by decide +kernel
theorem dX3_launchReason_11 : decode cX3_launchReason 11 = .ok (.aload_n 0, 1) := by decide +kernel
theorem dX3_launchReason_12 : decode cX3_launchReason 12 = .ok (.getfield 10, 3) := by decide +kernel
theorem dX3_launchReason_15 : decode cX3_launchReason 15 = .ok (.iload_n 1, 1) := by decide +kernel
theorem dX3_launchReason_16 : decode cX3_launchReason 16 = .ok (.invokevirtual 178, 3) := by decide +kernel
theorem dX3_launchReason_19 : decode cX3_launchReason 19 = .ok (.goto 4, 3) := by decide +kernel
theorem dX3_launchReason_22 : decode cX3_launchReason 22 = .ok (.iconst (-1), 1) := by decide +kernel
theorem dX3_launchReason_23 : decode cX3_launchReason 23 = .ok (.ireturn, 1) := by decide +kernel
theorem dX3_blockers_0 : decode cX3_blockers 0 = .ok (.aload_n 0, 1) := by decide +kernel
theorem dX3_blockers_1 : decode cX3_blockers 1 = .ok (.getfield 10, 3) := by decide +kernel
theorem dX3_blockers_4 : decode cX3_blockers 4 = .ok (.iload_n 1, 1) := by decide +kernel
theorem dX3_blockers_5 : decode cX3_blockers 5 = .ok (.invokevirtual 131, 3) := by decide +kernel
theorem dX3_blockers_8 : decode cX3_blockers 8 = .ok (.ifCond .ne 5, 3) := by decide +kernel
theorem dX3_blockers_11 : decode cX3_blockers 11 = .ok (.iconst (-1), 1) := by decide +kernel
theorem dX3_blockers_12 : decode cX3_blockers 12 = .ok (.ireturn, 1) := by decide +kernel
theorem dX3_blockers_13 : decode cX3_blockers 13 = .ok (.aload_n 0, 1) := by decide +kernel
theorem dX3_blockers_14 : decode cX3_blockers 14 = .ok (.getfield 10, 3) := by decide +kernel
theorem dX3_blockers_17 : decode cX3_blockers 17 = .ok (.iload_n 1, 1) := by decide +kernel
theorem dX3_blockers_18 : decode cX3_blockers 18 = .ok (.invokevirtual 181, 3) := by decide +kernel
theorem dX3_blockers_21 : decode cX3_blockers 21 = .ok (.ifCond .eq 14, 3) := by decide +kernel
theorem dX3_blockers_24 : decode cX3_blockers 24 = .ok (.aload_n 0, 1) := by decide +kernel
theorem dX3_blockers_25 : decode cX3_blockers 25 = .ok (.getfield 10, 3) := by decide +kernel
theorem dX3_blockers_28 : decode cX3_blockers 28 = .ok (.iload_n 1, 1) := by decide +kernel
theorem dX3_blockers_29 : decode cX3_blockers 29 = .ok (.invokevirtual 184, 3) := by decide +kernel
theorem dX3_blockers_32 : decode cX3_blockers 32 = .ok (.goto 5, 3) := by decide +kernel
theorem dX3_blockers_35 : decode cX3_blockers 35 = .ok (.bipush (-5), 2) := by decide +kernel
theorem dX3_blockers_37 : decode cX3_blockers 37 = .ok (.ireturn, 1) := by decide +kernel
theorem dX3_launchDay_0 : decode cX3_launchDay 0 = .ok (.aload_n 0, 1) := by decide +kernel
theorem dX3_launchDay_1 : decode cX3_launchDay 1 = .ok (.getfield 10, 3) := by decide +kernel
theorem dX3_launchDay_4 : decode cX3_launchDay 4 = .ok (.iload_n 1, 1) := by decide +kernel
theorem dX3_launchDay_5 : decode cX3_launchDay 5 = .ok (.invokevirtual 131, 3) := by decide +kernel
theorem dX3_launchDay_8 : decode cX3_launchDay 8 = .ok (.ifCond .ne 5, 3) := by decide +kernel
theorem dX3_launchDay_11 : decode cX3_launchDay 11 = .ok (.iconst (-1), 1) := by decide +kernel
theorem dX3_launchDay_12 : decode cX3_launchDay 12 = .ok (.ireturn, 1) := by decide +kernel
theorem dX3_launchDay_13 : decode cX3_launchDay 13 = .ok (.aload_n 0, 1) := by decide +kernel
theorem dX3_launchDay_14 : decode cX3_launchDay 14 = .ok (.getfield 10, 3) := by decide +kernel
theorem dX3_launchDay_17 : decode cX3_launchDay 17 = .ok (.iload_n 1, 1) := by decide +kernel
theorem dX3_launchDay_18 : decode cX3_launchDay 18 = .ok (.invokevirtual 181, 3) := by decide +kernel
theorem dX3_launchDay_21 : decode cX3_launchDay 21 = .ok (.ifCond .eq 14, 3) := by decide +kernel
theorem dX3_launchDay_24 : decode cX3_launchDay 24 = .ok (.aload_n 0, 1) := by decide +kernel
theorem dX3_launchDay_25 : decode cX3_launchDay 25 = .ok (.getfield 10, 3) := by decide +kernel
theorem dX3_launchDay_28 : decode cX3_launchDay 28 = .ok (.iload_n 1, 1) := by decide +kernel
theorem dX3_launchDay_29 : decode cX3_launchDay 29 = .ok (.invokevirtual 187, 3) := by decide +kernel
theorem dX3_launchDay_32 : decode cX3_launchDay 32 = .ok (.goto 5, 3) := by decide +kernel
theorem dX3_launchDay_35 : decode cX3_launchDay 35 = .ok (.bipush (-5), 2) := by decide +kernel
theorem dX3_launchDay_37 : decode cX3_launchDay 37 = .ok (.ireturn, 1) := by decide +kernel
theorem dX3_bestRow_0 : decode cX3_bestRow 0 = .ok (.aload_n 0, 1) := by decide +kernel
theorem dX3_bestRow_1 : decode cX3_bestRow 1 = .ok (.getfield 10, 3) := by decide +kernel
theorem dX3_bestRow_4 : decode cX3_bestRow 4 = .ok (.iload_n 1, 1) := by decide +kernel
theorem dX3_bestRow_5 : decode cX3_bestRow 5 = .ok (.invokevirtual 131, 3) := by decide +kernel
theorem dX3_bestRow_8 : decode cX3_bestRow 8 = .ok (.ifCond .eq 14, 3) := by decide +kernel
theorem dX3_bestRow_11 : decode cX3_bestRow 11 = .ok (.aload_n 0, 1) := by decide +kernel
theorem dX3_bestRow_12 : decode cX3_bestRow 12 = .ok (.getfield 10, 3) := by decide +kernel
theorem dX3_bestRow_15 : decode cX3_bestRow 15 = .ok (.iload_n 1, 1) := by decide +kernel
theorem dX3_bestRow_16 : decode cX3_bestRow 16 = .ok (.invokevirtual 190, 3) := by decide +kernel
theorem dX3_bestRow_19 : decode cX3_bestRow 19 = .ok (.goto 4, 3) := by decide +kernel
theorem dX3_bestRow_22 : decode cX3_bestRow 22 = .ok (.iconst (-1), 1) := by decide +kernel
theorem dX3_bestRow_23 : decode cX3_bestRow 23 = .ok (.ireturn, 1) := by decide +kernel
theorem dX3_count_0 : decode cX3_count 0 = .ok (.iload_n 1, 1) := by decide +kernel
theorem dX3_count_1 : decode cX3_count 1 = .ok (.tableswitch 207 0 14 #[75, 83, 98, 106, 114, 122, 130, 138, 146, 155, 164, 173, 182, 191, 199], 75) := by decide +kernel
theorem dX3_count_76 : decode cX3_count 76 = .ok (.aload_n 0, 1) := by decide +kernel
theorem dX3_count_77 : decode cX3_count 77 = .ok (.getfield 10, 3) := by decide +kernel
theorem dX3_count_80 : decode cX3_count 80 = .ok (.invokevirtual 193, 3) := by decide +kernel
theorem dX3_count_83 : decode cX3_count 83 = .ok (.ireturn, 1) := by decide +kernel
theorem dX3_count_84 : decode cX3_count 84 = .ok (.aload_n 0, 1) := by decide +kernel
theorem dX3_count_85 : decode cX3_count 85 = .ok (.getfield 10, 3) := by decide +kernel
theorem dX3_count_88 : decode cX3_count 88 = .ok (.aload_n 0, 1) := by decide +kernel
theorem dX3_count_89 : decode cX3_count 89 = .ok (.getfield 10, 3) := by decide +kernel
theorem dX3_count_92 : decode cX3_count 92 = .ok (.invokevirtual 193, 3) := by decide +kernel
theorem dX3_count_95 : decode cX3_count 95 = .ok (.invokevirtual 172, 3) := by decide +kernel
theorem dX3_count_98 : decode cX3_count 98 = .ok (.ireturn, 1) := by decide +kernel
theorem dX3_count_99 : decode cX3_count 99 = .ok (.aload_n 0, 1) := by decide +kernel
theorem dX3_count_100 : decode cX3_count 100 = .ok (.getfield 10, 3) := by decide +kernel
theorem dX3_count_103 : decode cX3_count 103 = .ok (.invokevirtual 196, 3) := by decide +kernel
theorem dX3_count_106 : decode cX3_count 106 = .ok (.ireturn, 1) := by decide +kernel
theorem dX3_count_107 : decode cX3_count 107 = .ok (.aload_n 0, 1) := by decide +kernel
theorem dX3_count_108 : decode cX3_count 108 = .ok (.getfield 10, 3) := by decide +kernel
theorem dX3_count_111 : decode cX3_count 111 = .ok (.invokevirtual 128, 3) := by decide +kernel
theorem dX3_count_114 : decode cX3_count 114 = .ok (.ireturn, 1) := by decide +kernel
theorem dX3_count_115 : decode cX3_count 115 = .ok (.aload_n 0, 1) := by decide +kernel
theorem dX3_count_116 : decode cX3_count 116 = .ok (.getfield 10, 3) := by decide +kernel
theorem dX3_count_119 : decode cX3_count 119 = .ok (.invokevirtual 199, 3) := by decide +kernel
theorem dX3_count_122 : decode cX3_count 122 = .ok (.ireturn, 1) := by decide +kernel
theorem dX3_count_123 : decode cX3_count 123 = .ok (.aload_n 0, 1) := by decide +kernel
theorem dX3_count_124 : decode cX3_count 124 = .ok (.getfield 10, 3) := by decide +kernel
theorem dX3_count_127 : decode cX3_count 127 = .ok (.invokevirtual 202, 3) := by decide +kernel
theorem dX3_count_130 : decode cX3_count 130 = .ok (.ireturn, 1) := by decide +kernel
theorem dX3_count_131 : decode cX3_count 131 = .ok (.aload_n 0, 1) := by decide +kernel
theorem dX3_count_132 : decode cX3_count 132 = .ok (.getfield 10, 3) := by decide +kernel
theorem dX3_count_135 : decode cX3_count 135 = .ok (.invokevirtual 205, 3) := by decide +kernel
theorem dX3_count_138 : decode cX3_count 138 = .ok (.ireturn, 1) := by decide +kernel
theorem dX3_count_139 : decode cX3_count 139 = .ok (.aload_n 0, 1) := by decide +kernel
theorem dX3_count_140 : decode cX3_count 140 = .ok (.getfield 10, 3) := by decide +kernel
theorem dX3_count_143 : decode cX3_count 143 = .ok (.invokevirtual 208, 3) := by decide +kernel
theorem dX3_count_146 : decode cX3_count 146 = .ok (.ireturn, 1) := by decide +kernel
theorem dX3_count_147 : decode cX3_count 147 = .ok (.aload_n 0, 1) := by decide +kernel
theorem dX3_count_148 : decode cX3_count 148 = .ok (.getfield 10, 3) := by decide +kernel
theorem dX3_count_151 : decode cX3_count 151 = .ok (.iconst 0, 1) := by decide +kernel
theorem dX3_count_152 : decode cX3_count 152 = .ok (.invokevirtual 211, 3) := by decide +kernel
theorem dX3_count_155 : decode cX3_count 155 = .ok (.ireturn, 1) := by decide +kernel
theorem dX3_count_156 : decode cX3_count 156 = .ok (.aload_n 0, 1) := by decide +kernel
theorem dX3_count_157 : decode cX3_count 157 = .ok (.getfield 10, 3) := by decide +kernel
theorem dX3_count_160 : decode cX3_count 160 = .ok (.iconst 1, 1) := by decide +kernel
theorem dX3_count_161 : decode cX3_count 161 = .ok (.invokevirtual 211, 3) := by decide +kernel
theorem dX3_count_164 : decode cX3_count 164 = .ok (.ireturn, 1) := by decide +kernel
theorem dX3_count_165 : decode cX3_count 165 = .ok (.aload_n 0, 1) := by decide +kernel
theorem dX3_count_166 : decode cX3_count 166 = .ok (.getfield 10, 3) := by decide +kernel
theorem dX3_count_169 : decode cX3_count 169 = .ok (.iconst 0, 1) := by decide +kernel
theorem dX3_count_170 : decode cX3_count 170 = .ok (.invokevirtual 214, 3) := by decide +kernel
theorem dX3_count_173 : decode cX3_count 173 = .ok (.ireturn, 1) := by decide +kernel
theorem dX3_count_174 : decode cX3_count 174 = .ok (.aload_n 0, 1) := by decide +kernel
theorem dX3_count_175 : decode cX3_count 175 = .ok (.getfield 10, 3) := by decide +kernel
theorem dX3_count_178 : decode cX3_count 178 = .ok (.iconst 1, 1) := by decide +kernel
theorem dX3_count_179 : decode cX3_count 179 = .ok (.invokevirtual 214, 3) := by decide +kernel
theorem dX3_count_182 : decode cX3_count 182 = .ok (.ireturn, 1) := by decide +kernel
theorem dX3_count_183 : decode cX3_count 183 = .ok (.aload_n 0, 1) := by decide +kernel
theorem dX3_count_184 : decode cX3_count 184 = .ok (.getfield 10, 3) := by decide +kernel
theorem dX3_count_187 : decode cX3_count 187 = .ok (.iconst 2, 1) := by decide +kernel
theorem dX3_count_188 : decode cX3_count 188 = .ok (.invokevirtual 214, 3) := by decide +kernel
theorem dX3_count_191 : decode cX3_count 191 = .ok (.ireturn, 1) := by decide +kernel
theorem dX3_count_192 : decode cX3_count 192 = .ok (.aload_n 0, 1) := by decide +kernel
theorem dX3_count_193 : decode cX3_count 193 = .ok (.getfield 26, 3) := by decide +kernel
theorem dX3_count_196 : decode cX3_count 196 = .ok (.invokevirtual 217, 3) := by decide +kernel
theorem dX3_count_199 : decode cX3_count 199 = .ok (.ireturn, 1) := by decide +kernel
theorem dX3_count_200 : decode cX3_count 200 = .ok (.aload_n 0, 1) := by decide +kernel
theorem dX3_count_201 : decode cX3_count 201 = .ok (.getfield 33, 3) := by decide +kernel
theorem dX3_count_204 : decode cX3_count 204 = .ok (.invokevirtual 220, 3) := by decide +kernel
theorem dX3_count_207 : decode cX3_count 207 = .ok (.ireturn, 1) := by decide +kernel
theorem dX3_count_208 : decode cX3_count 208 = .ok (.bipush (-2), 2) := by decide +kernel
theorem dX3_count_210 : decode cX3_count 210 = .ok (.ireturn, 1) := by decide +kernel
theorem dX3_within_0 : decode cX3_within 0 = .ok (.iload_n 0, 1) := by decide +kernel
theorem dX3_within_1 : decode cX3_within 1 = .ok (.iload_n 1, 1) := by decide +kernel
theorem dX3_within_2 : decode cX3_within 2 = .ok (.if_icmp .lt 12, 3) := by decide +kernel
theorem dX3_within_5 : decode cX3_within 5 = .ok (.iload_n 0, 1) := by decide +kernel
theorem dX3_within_6 : decode cX3_within 6 = .ok (.iload_n 2, 1) := by decide +kernel
theorem dX3_within_7 : decode cX3_within 7 = .ok (.if_icmp .gt 7, 3) := by decide +kernel
theorem dX3_within_10 : decode cX3_within 10 = .ok (.iconst 1, 1) := by decide +kernel
theorem dX3_within_11 : decode cX3_within 11 = .ok (.goto 4, 3) := by decide +kernel
theorem dX3_within_14 : decode cX3_within 14 = .ok (.iconst 0, 1) := by decide +kernel
theorem dX3_within_15 : decode cX3_within 15 = .ok (.ireturn, 1) := by decide +kernel
