theorem dX4_init_0 : decode cX4_init 0 = .ok (.aload_n 0, 1) := by decide +kernel
theorem dX4_init_1 : decode cX4_init 1 = .ok (.invokespecial 1, 3) := by decide +kernel
theorem dX4_init_4 : decode cX4_init 4 = .ok (.aload_n 0, 1) := by decide +kernel
theorem dX4_init_5 : decode cX4_init 5 = .ok (.sipush 255, 3) := by decide +kernel
theorem dX4_init_8 : decode cX4_init 8 = .ok (.newarray .int, 2) := by decide +kernel
theorem dX4_init_10 : decode cX4_init 10 = .ok (.putfield 7, 3) := by decide +kernel
theorem dX4_init_13 : decode cX4_init 13 = .ok (.aload_n 0, 1) := by decide +kernel
theorem dX4_init_14 : decode cX4_init 14 = .ok (.sipush 255, 3) := by decide +kernel
theorem dX4_init_17 : decode cX4_init 17 = .ok (.newarray .int, 2) := by decide +kernel
theorem dX4_init_19 : decode cX4_init 19 = .ok (.putfield 13, 3) := by decide +kernel
theorem dX4_init_22 : decode cX4_init 22 = .ok (.aload_n 0, 1) := by decide +kernel
theorem dX4_init_23 : decode cX4_init 23 = .ok (.sipush 1020, 3) := by decide +kernel
theorem dX4_init_26 : decode cX4_init 26 = .ok (.newarray .int, 2) := by decide +kernel
theorem dX4_init_28 : decode cX4_init 28 = .ok (.putfield 16, 3) := by decide +kernel
theorem dX4_init_31 : decode cX4_init 31 = .ok (.aload_n 0, 1) := by decide +kernel
theorem dX4_init_32 : decode cX4_init 32 = .ok (.sipush 255, 3) := by decide +kernel
theorem dX4_init_35 : decode cX4_init 35 = .ok (.newarray .int, 2) := by decide +kernel
theorem dX4_init_37 : decode cX4_init 37 = .ok (.putfield 19, 3) := by decide +kernel
theorem dX4_init_40 : decode cX4_init 40 = .ok (.aload_n 0, 1) := by decide +kernel
theorem dX4_init_41 : decode cX4_init 41 = .ok (.bipush 60, 2) := by decide +kernel
theorem dX4_init_43 : decode cX4_init 43 = .ok (.newarray .int, 2) := by decide +kernel
theorem dX4_init_45 : decode cX4_init 45 = .ok (.putfield 22, 3) := by decide +kernel
theorem dX4_init_48 : decode cX4_init 48 = .ok (.aload_n 0, 1) := by decide +kernel
theorem dX4_init_49 : decode cX4_init 49 = .ok (.bipush (-5), 2) := by decide +kernel
theorem dX4_init_51 : decode cX4_init 51 = .ok (.putfield 25, 3) := by decide +kernel
theorem dX4_init_54 : decode cX4_init 54 = .ok (.aload_n 0, 1) := by decide +kernel
theorem dX4_init_55 : decode cX4_init 55 = .ok (.bipush (-5), 2) := by decide +kernel
theorem dX4_init_57 : decode cX4_init 57 = .ok (.putfield 29, 3) := by decide +kernel
theorem dX4_init_60 : decode cX4_init 60 = .ok (.aload_n 0, 1) := by decide +kernel
theorem dX4_init_61 : decode cX4_init 61 = .ok (.getfield 7, 3) := by decide +kernel
theorem dX4_init_64 : decode cX4_init 64 = .ok (.iconst 2, 1) := by decide +kernel
theorem dX4_init_65 : decode cX4_init 65 = .ok (.iconst 3, 1) := by decide +kernel
theorem dX4_init_66 : decode cX4_init 66 = .ok (.iastore, 1) := by decide +kernel
theorem dX4_init_67 : decode cX4_init 67 = .ok (.aload_n 0, 1) := by decide +kernel
theorem dX4_init_68 : decode cX4_init 68 = .ok (.getfield 7, 3) := by decide +kernel
theorem dX4_init_71 : decode cX4_init 71 = .ok (.iconst 3, 1) := by decide +kernel
theorem dX4_init_72 : decode cX4_init 72 = .ok (.iconst 4, 1) := by decide +kernel
theorem dX4_init_73 : decode cX4_init 73 = .ok (.iastore, 1) := by decide +kernel
theorem dX4_init_74 : decode cX4_init 74 = .ok (.aload_n 0, 1) := by decide +kernel
theorem dX4_init_75 : decode cX4_init 75 = .ok (.getfield 7, 3) := by decide +kernel
theorem dX4_init_78 : decode cX4_init 78 = .ok (.iconst 4, 1) := by decide +kernel
theorem dX4_init_79 : decode cX4_init 79 = .ok (.bipush 20, 2) := by decide +kernel
theorem dX4_init_81 : decode cX4_init 81 = .ok (.iastore, 1) := by decide +kernel
theorem dX4_init_82 : decode cX4_init 82 = .ok (.iconst 0, 1) := by decide +kernel
theorem dX4_init_83 : decode cX4_init 83 = .ok (.istore_n 1, 1) := by decide +kernel
theorem dX4_init_84 : decode cX4_init 84 = .ok (.iload_n 1, 1) := by decide +kernel
theorem dX4_init_85 : decode cX4_init 85 = .ok (.iconst 3, 1) := by decide +kernel
theorem dX4_init_86 : decode cX4_init 86 = .ok (.if_icmp .ge 19, 3) := by decide +kernel
theorem dX4_init_89 : decode cX4_init 89 = .ok (.aload_n 0, 1) := by decide +kernel
theorem dX4_init_90 : decode cX4_init 90 = .ok (.getfield 7, 3) := by decide +kernel
theorem dX4_init_93 : decode cX4_init 93 = .ok (.bipush 8, 2) := by decide +kernel
theorem dX4_init_95 : decode cX4_init 95 = .ok (.iload_n 1, 1) := by decide +kernel
theorem dX4_init_96 : decode cX4_init 96 = .ok (.iadd, 1) := by decide +kernel
theorem dX4_init_97 : decode cX4_init 97 = .ok (.iconst 4, 1) := by decide +kernel
theorem dX4_init_98 : decode cX4_init 98 = .ok (.iastore, 1) := by decide +kernel
theorem dX4_init_99 : decode cX4_init 99 = .ok (.iinc 1 1, 3) := by decide +kernel
theorem dX4_init_102 : decode cX4_init 102 = .ok (.goto (-18), 3) := by decide +kernel
theorem dX4_init_105 : decode cX4_init 105 = .ok (.iconst 0, 1) := by decide +kernel
theorem dX4_init_106 : decode cX4_init 106 = .ok (.istore_n 1, 1) := by decide +kernel
theorem dX4_init_107 : decode cX4_init 107 = .ok (.iload_n 1, 1) := by decide +kernel
theorem dX4_init_108 : decode cX4_init 108 = .ok (.iconst 4, 1) := by decide +kernel
theorem dX4_init_109 : decode cX4_init 109 = .ok (.if_icmp .ge 20, 3) := by decide +kernel
theorem dX4_init_112 : decode cX4_init 112 = .ok (.aload_n 0, 1) := by decide +kernel
theorem dX4_init_113 : decode cX4_init 113 = .ok (.getfield 7, 3) := by decide +kernel
theorem dX4_init_116 : decode cX4_init 116 = .ok (.bipush 11, 2) := by decide +kernel
theorem dX4_init_118 : decode cX4_init 118 = .ok (.iload_n 1, 1) := by decide +kernel
theorem dX4_init_119 : decode cX4_init 119 = .ok (.iadd, 1) := by decide +kernel
theorem dX4_init_120 : decode cX4_init 120 = .ok (.bipush 40, 2) := by decide +kernel
theorem dX4_init_122 : decode cX4_init 122 = .ok (.iastore, 1) := by decide +kernel
theorem dX4_init_123 : decode cX4_init 123 = .ok (.iinc 1 1, 3) := by decide +kernel
theorem dX4_init_126 : decode cX4_init 126 = .ok (.goto (-19), 3) := by decide +kernel
theorem dX4_init_129 : decode cX4_init 129 = .ok (.return_, 1) := by decide +kernel
theorem dX4_in_0 : decode cX4_in 0 = .ok (.iload_n 0, 1) := by decide +kernel
theorem dX4_in_1 : decode cX4_in 1 = .ok (.iload_n 1, 1) := by decide +kernel
theorem dX4_in_2 : decode cX4_in 2 = .ok (.if_icmp .lt 12, 3) := by decide +kernel
theorem dX4_in_5 : decode cX4_in 5 = .ok (.iload_n 0, 1) := by decide +kernel
theorem dX4_in_6 : decode cX4_in 6 = .ok (.iload_n 2, 1) := by decide +kernel
theorem dX4_in_7 : decode cX4_in 7 = .ok (.if_icmp .gt 7, 3) := by decide +kernel
theorem dX4_in_10 : decode cX4_in 10 = .ok (.iconst 1, 1) := by decide +kernel
theorem dX4_in_11 : decode cX4_in 11 = .ok (.goto 4, 3) := by decide +kernel
theorem dX4_in_14 : decode cX4_in 14 = .ok (.iconst 0, 1) := by decide +kernel
theorem dX4_in_15 : decode cX4_in 15 = .ok (.ireturn, 1) := by decide +kernel
theorem dX4_of_0 : decode cX4_of 0 = .ok (.aload_n 0, 1) := by decide +kernel
theorem dX4_of_1 : decode cX4_of 1 = .ok (.getfield 7, 3) := by decide +kernel
theorem dX4_of_4 : decode cX4_of 4 = .ok (.bipush 15, 2) := by decide +kernel
theorem dX4_of_6 : decode cX4_of 6 = .ok (.bipush 12, 2) := by decide +kernel
theorem dX4_of_8 : decode cX4_of 8 = .ok (.iload_n 1, 1) := by decide +kernel
theorem dX4_of_9 : decode cX4_of 9 = .ok (.imul, 1) := by decide +kernel
theorem dX4_of_10 : decode cX4_of 10 = .ok (.iadd, 1) := by decide +kernel
theorem dX4_of_11 : decode cX4_of 11 = .ok (.iload_n 2, 1) := by decide +kernel
theorem dX4_of_12 : decode cX4_of 12 = .ok (.iadd, 1) := by decide +kernel
theorem dX4_of_13 : decode cX4_of 13 = .ok (.iaload, 1) := by decide +kernel
theorem dX4_of_14 : decode cX4_of 14 = .ok (.ireturn, 1) := by decide +kernel
theorem dX4_put_0 : decode cX4_put 0 = .ok (.aload_n 0, 1) := by decide +kernel
theorem dX4_put_1 : decode cX4_put 1 = .ok (.getfield 7, 3) := by decide +kernel
theorem dX4_put_4 : decode cX4_put 4 = .ok (.bipush 15, 2) := by decide +kernel
theorem dX4_put_6 : decode cX4_put 6 = .ok (.bipush 12, 2) := by decide +kernel
theorem dX4_put_8 : decode cX4_put 8 = .ok (.iload_n 1, 1) := by decide +kernel
theorem dX4_put_9 : decode cX4_put 9 = .ok (.imul, 1) := by decide +kernel
theorem dX4_put_10 : decode cX4_put 10 = .ok (.iadd, 1) := by decide +kernel
theorem dX4_put_11 : decode cX4_put 11 = .ok (.iload_n 2, 1) := by decide +kernel
theorem dX4_put_12 : decode cX4_put 12 = .ok (.iadd, 1) := by decide +kernel
theorem dX4_put_13 : decode cX4_put 13 = .ok (.iload_n 3, 1) := by decide +kernel
theorem dX4_put_14 : decode cX4_put 14 = .ok (.iastore, 1) := by decide +kernel
theorem dX4_put_15 : decode cX4_put 15 = .ok (.return_, 1) := by decide +kernel
theorem dX4_isBoat_0 : decode cX4_isBoat 0 = .ok (.iload_n 1, 1) := by decide +kernel
theorem dX4_isBoat_1 : decode cX4_isBoat 1 = .ok (.iconst 0, 1) := by decide +kernel
theorem dX4_isBoat_2 : decode cX4_isBoat 2 = .ok (.bipush 19, 2) := by decide +kernel
theorem dX4_isBoat_4 : decode cX4_isBoat 4 = .ok (.invokestatic 32, 3) := by decide +kernel
theorem dX4_isBoat_7 : decode cX4_isBoat 7 = .ok (.ifCond .eq 17, 3) := by decide +kernel
theorem dX4_isBoat_10 : decode cX4_isBoat 10 = .ok (.aload_n 0, 1) := by decide +kernel
theorem dX4_isBoat_11 : decode cX4_isBoat 11 = .ok (.iload_n 1, 1) := by decide +kernel
theorem dX4_isBoat_12 : decode cX4_isBoat 12 = .ok (.iconst 0, 1) := by decide +kernel
theorem dX4_isBoat_13 : decode cX4_isBoat 13 = .ok (.invokevirtual 36, 3) := by decide +kernel
theorem dX4_isBoat_16 : decode cX4_isBoat 16 = .ok (.iconst 1, 1) := by decide +kernel
theorem dX4_isBoat_17 : decode cX4_isBoat 17 = .ok (.if_icmp .ne 7, 3) := by decide +kernel
theorem dX4_isBoat_20 : decode cX4_isBoat 20 = .ok (.iconst 1, 1) := by decide +kernel
theorem dX4_isBoat_21 : decode cX4_isBoat 21 = .ok (.goto 4, 3) := by decide +kernel
theorem dX4_isBoat_24 : decode cX4_isBoat 24 = .ok (.iconst 0, 1) := by decide +kernel
theorem dX4_isBoat_25 : decode cX4_isBoat 25 = .ok (.ireturn, 1) := by decide +kernel
theorem dX4_isRow_0 : decode cX4_isRow 0 = .ok (.iload_n 0, 1) := by decide +kernel
theorem dX4_isRow_1 : decode cX4_isRow 1 = .ok (.iconst 0, 1) := by decide +kernel
theorem dX4_isRow_2 : decode cX4_isRow 2 = .ok (.iconst 3, 1) := by decide +kernel
theorem dX4_isRow_3 : decode cX4_isRow 3 = .ok (.invokestatic 32, 3) := by decide +kernel
theorem dX4_isRow_6 : decode cX4_isRow 6 = .ok (.ireturn, 1) := by decide +kernel
theorem dX4_isKind_0 : decode cX4_isKind 0 = .ok (.iload_n 0, 1) := by decide +kernel
theorem dX4_isKind_1 : decode cX4_isKind 1 = .ok (.iconst 0, 1) := by decide +kernel
theorem dX4_isKind_2 : decode cX4_isKind 2 = .ok (.iconst 2, 1) := by decide +kernel
theorem dX4_isKind_3 : decode cX4_isKind 3 = .ok (.invokestatic 32, 3) := by decide +kernel
theorem dX4_isKind_6 : decode cX4_isKind 6 = .ok (.ireturn, 1) := by decide +kernel
theorem dX4_isAshore_0 : decode cX4_isAshore 0 = .ok (.aload_n 0, 1) := by decide +kernel
theorem dX4_isAshore_1 : decode cX4_isAshore 1 = .ok (.iload_n 1, 1) := by decide +kernel
theorem dX4_isAshore_2 : decode cX4_isAshore 2 = .ok (.iconst 5, 1) := by decide +kernel
theorem dX4_isAshore_3 : decode cX4_isAshore 3 = .ok (.invokevirtual 36, 3) := by decide +kernel
theorem dX4_isAshore_6 : decode cX4_isAshore 6 = .ok (.ifCond .lt 7, 3) := by decide +kernel
theorem dX4_isAshore_9 : decode cX4_isAshore 9 = .ok (.iconst 1, 1) := by decide +kernel
theorem dX4_isAshore_10 : decode cX4_isAshore 10 = .ok (.goto 4, 3) := by decide +kernel
theorem dX4_isAshore_13 : decode cX4_isAshore 13 = .ok (.iconst 0, 1) := by decide +kernel
theorem dX4_isAshore_14 : decode cX4_isAshore 14 = .ok (.ireturn, 1) := by decide +kernel
theorem dX4_isIn_0 : decode cX4_isIn 0 = .ok (.aload_n 0, 1) := by decide +kernel
theorem dX4_isIn_1 : decode cX4_isIn 1 = .ok (.iload_n 1, 1) := by decide +kernel
theorem dX4_isIn_2 : decode cX4_isIn 2 = .ok (.iconst 0, 1) := by decide +kernel
theorem dX4_isIn_3 : decode cX4_isIn 3 = .ok (.invokevirtual 36, 3) := by decide +kernel
theorem dX4_isIn_6 : decode cX4_isIn 6 = .ok (.iconst 1, 1) := by decide +kernel
theorem dX4_isIn_7 : decode cX4_isIn 7 = .ok (.if_icmp .ne 17, 3) := by decide +kernel
theorem dX4_isIn_10 : decode cX4_isIn 10 = .ok (.aload_n 0, 1) := by decide +kernel
theorem dX4_isIn_11 : decode cX4_isIn 11 = .ok (.iload_n 1, 1) := by decide +kernel
theorem dX4_isIn_12 : decode cX4_isIn 12 = .ok (.iconst 5, 1) := by decide +kernel
theorem dX4_isIn_13 : decode cX4_isIn 13 = .ok (.invokevirtual 36, 3) := by decide +kernel
theorem dX4_isIn_16 : decode cX4_isIn 16 = .ok (.iload_n 2, 1) := by decide +kernel
theorem dX4_isIn_17 : decode cX4_isIn 17 = .ok (.if_icmp .ne 7, 3) := by decide +kernel
theorem dX4_isIn_20 : decode cX4_isIn 20 = .ok (.iconst 1, 1) := by decide +kernel
theorem dX4_isIn_21 : decode cX4_isIn 21 = .ok (.goto 4, 3) := by decide +kernel
theorem dX4_isIn_24 : decode cX4_isIn 24 = .ok (.iconst 0, 1) := by decide +kernel
theorem dX4_isIn_25 : decode cX4_isIn 25 = .ok (.ireturn, 1) := by decide +kernel
theorem dX4_tideAt_0 : decode cX4_tideAt 0 = .ok (.iload_n 1, 1) := by decide +kernel
theorem dX4_tideAt_1 : decode cX4_tideAt 1 = .ok (.bipush 14, 2) := by decide +kernel
theorem dX4_tideAt_3 : decode cX4_tideAt 3 = .ok (.irem, 1) := by decide +kernel
theorem dX4_tideAt_4 : decode cX4_tideAt 4 = .ok (.bipush 7, 2) := by decide +kernel
theorem dX4_tideAt_6 : decode cX4_tideAt 6 = .ok (.isub, 1) := by decide +kernel
theorem dX4_tideAt_7 : decode cX4_tideAt 7 = .ok (.istore_n 2, 1) := by decide +kernel
theorem dX4_tideAt_8 : decode cX4_tideAt 8 = .ok (.bipush 30, 2) := by decide +kernel
theorem dX4_tideAt_10 : decode cX4_tideAt 10 = .ok (.aload_n 0, 1) := by decide +kernel
theorem dX4_tideAt_11 : decode cX4_tideAt 11 = .ok (.getfield 7, 3) := by decide +kernel
theorem dX4_tideAt_14 : decode cX4_tideAt 14 = .ok (.iconst 2, 1) := by decide +kernel
theorem dX4_tideAt_15 : decode cX4_tideAt 15 = .ok (.iaload, 1) := by decide +kernel
theorem dX4_tideAt_16 : decode cX4_tideAt 16 = .ok (.iload_n 2, 1) := by decide +kernel
theorem dX4_tideAt_17 : decode cX4_tideAt 17 = .ok (.ifCond .ge 8, 3) := by decide +kernel
theorem dX4_tideAt_20 : decode cX4_tideAt 20 = .ok (.iload_n 2, 1) := by decide +kernel
theorem dX4_tideAt_21 : decode cX4_tideAt 21 = .ok (.ineg, 1) := by decide +kernel
theorem dX4_tideAt_22 : decode cX4_tideAt 22 = .ok (.goto 4, 3) := by decide +kernel
theorem dX4_tideAt_25 : decode cX4_tideAt 25 = .ok (.iload_n 2, 1) := by decide +kernel
theorem dX4_tideAt_26 : decode cX4_tideAt 26 = .ok (.imul, 1) := by decide +kernel
theorem dX4_tideAt_27 : decode cX4_tideAt 27 = .ok (.iadd, 1) := by decide +kernel
theorem dX4_tideAt_28 : decode cX4_tideAt 28 = .ok (.ireturn, 1) := by decide +kernel
theorem dX4_liftsLeft_0 : decode cX4_liftsLeft 0 = .ok (.aload_n 0, 1) := by decide +kernel
theorem dX4_liftsLeft_1 : decode cX4_liftsLeft 1 = .ok (.getfield 7, 3) := by decide +kernel
theorem dX4_liftsLeft_4 : decode cX4_liftsLeft 4 = .ok (.iconst 1, 1) := by decide +kernel
theorem dX4_liftsLeft_5 : decode cX4_liftsLeft 5 = .ok (.iaload, 1) := by decide +kernel
theorem dX4_liftsLeft_6 : decode cX4_liftsLeft 6 = .ok (.aload_n 0, 1) := by decide +kernel
theorem dX4_liftsLeft_7 : decode cX4_liftsLeft 7 = .ok (.getfield 7, 3) := by decide +kernel
theorem dX4_liftsLeft_10 : decode cX4_liftsLeft 10 = .ok (.iconst 3, 1) := by decide +kernel
theorem dX4_liftsLeft_11 : decode cX4_liftsLeft 11 = .ok (.iaload, 1) := by decide +kernel
theorem dX4_liftsLeft_12 : decode cX4_liftsLeft 12 = .ok (.if_icmp .ge 19, 3) := by decide +kernel
theorem dX4_liftsLeft_15 : decode cX4_liftsLeft 15 = .ok (.aload_n 0, 1) := by decide +kernel
theorem dX4_liftsLeft_16 : decode cX4_liftsLeft 16 = .ok (.getfield 7, 3) := by decide +kernel
theorem dX4_liftsLeft_19 : decode cX4_liftsLeft 19 = .ok (.iconst 3, 1) := by decide +kernel
theorem dX4_liftsLeft_20 : decode cX4_liftsLeft 20 = .ok (.iaload, 1) := by decide +kernel
theorem dX4_liftsLeft_21 : decode cX4_liftsLeft 21 = .ok (.aload_n 0, 1) := by decide +kernel
theorem dX4_liftsLeft_22 : decode cX4_liftsLeft 22 = .ok (.getfield 7, 3) := by decide +kernel
theorem dX4_liftsLeft_25 : decode cX4_liftsLeft 25 = .ok (.iconst 1, 1) := by decide +kernel
theorem dX4_liftsLeft_26 : decode cX4_liftsLeft 26 = .ok (.iaload, 1) := by decide +kernel
theorem dX4_liftsLeft_27 : decode cX4_liftsLeft 27 = .ok (.isub, 1) := by decide +kernel
theorem dX4_liftsLeft_28 : decode cX4_liftsLeft 28 = .ok (.goto 4, 3) := by decide +kernel
theorem dX4_liftsLeft_31 : decode cX4_liftsLeft 31 = .ok (.iconst 0, 1) := by decide +kernel
theorem dX4_liftsLeft_32 : decode cX4_liftsLeft 32 = .ok (.ireturn, 1) := by decide +kernel
theorem dX4_bears_0 : decode cX4_bears 0 = .ok (.iload_n 0, 1) := by decide +kernel
theorem dX4_bears_1 : decode cX4_bears 1 = .ok (.ifCond .ne 8, 3) := by decide +kernel
theorem dX4_bears_4 : decode cX4_bears 4 = .ok (.bipush 30, 2) := by decide +kernel
theorem dX4_bears_6 : decode cX4_bears 6 = .ok (.goto 15, 3) := by decide +kernel
theorem dX4_bears_9 : decode cX4_bears 9 = .ok (.iload_n 0, 1) := by decide +kernel
theorem dX4_bears_10 : decode cX4_bears 10 = .ok (.iconst 1, 1) := by decide +kernel
theorem dX4_bears_11 : decode cX4_bears 11 = .ok (.if_icmp .ne 8, 3) := by decide +kernel
theorem dX4_bears_14 : decode cX4_bears 14 = .ok (.bipush 12, 2) := by decide +kernel
theorem dX4_bears_16 : decode cX4_bears 16 = .ok (.goto 5, 3) := by decide +kernel
theorem dX4_bears_19 : decode cX4_bears 19 = .ok (.bipush 20, 2) := by decide +kernel
theorem dX4_bears_21 : decode cX4_bears 21 = .ok (.ireturn, 1) := by decide +kernel
theorem dX4_taken_0 : decode cX4_taken 0 = .ok (.iconst 0, 1) := by decide +kernel
theorem dX4_taken_1 : decode cX4_taken 1 = .ok (.istore_n 2, 1) := by decide +kernel
theorem dX4_taken_2 : decode cX4_taken 2 = .ok (.iconst 0, 1) := by decide +kernel
theorem dX4_taken_3 : decode cX4_taken 3 = .ok (.istore_n 3, 1) := by decide +kernel
theorem dX4_taken_4 : decode cX4_taken 4 = .ok (.iload_n 3, 1) := by decide +kernel
theorem dX4_taken_5 : decode cX4_taken 5 = .ok (.bipush 20, 2) := by decide +kernel
theorem dX4_taken_7 : decode cX4_taken 7 = .ok (.if_icmp .ge 46, 3) := by decide +kernel
theorem dX4_taken_10 : decode cX4_taken 10 = .ok (.iload_n 2, 1) := by decide +kernel
theorem dX4_taken_11 : decode cX4_taken 11 = .ok (.aload_n 0, 1) := by decide +kernel
theorem dX4_taken_12 : decode cX4_taken 12 = .ok (.iload_n 3, 1) := by decide +kernel
theorem dX4_taken_13 : decode cX4_taken 13 = .ok (.iconst 0, 1) := by decide +kernel
theorem dX4_taken_14 : decode cX4_taken 14 = .ok (.invokevirtual 36, 3) := by decide +kernel
theorem dX4_taken_17 : decode cX4_taken 17 = .ok (.iconst 1, 1) := by decide +kernel
theorem dX4_taken_18 : decode cX4_taken 18 = .ok (.if_icmp .ne 26, 3) := by decide +kernel
theorem dX4_taken_21 : decode cX4_taken 21 = .ok (.aload_n 0, 1) := by decide +kernel
theorem dX4_taken_22 : decode cX4_taken 22 = .ok (.iload_n 3, 1) := by decide +kernel
theorem dX4_taken_23 : decode cX4_taken 23 = .ok (.invokevirtual 40, 3) := by decide +kernel
theorem dX4_taken_26 : decode cX4_taken 26 = .ok (.ifCond .eq 18, 3) := by decide +kernel
theorem dX4_taken_29 : decode cX4_taken 29 = .ok (.aload_n 0, 1) := by decide +kernel
theorem dX4_taken_30 : decode cX4_taken 30 = .ok (.iload_n 3, 1) := by decide +kernel
theorem dX4_taken_31 : decode cX4_taken 31 = .ok (.bipush 6, 2) := by decide +kernel
theorem dX4_taken_33 : decode cX4_taken 33 = .ok (.invokevirtual 36, 3) := by decide +kernel
theorem dX4_taken_36 : decode cX4_taken 36 = .ok (.iload_n 1, 1) := by decide +kernel
theorem dX4_taken_37 : decode cX4_taken 37 = .ok (.if_icmp .ne 7, 3) := by decide +kernel
theorem dX4_taken_40 : decode cX4_taken 40 = .ok (.iconst 1, 1) := by decide +kernel
theorem dX4_taken_41 : decode cX4_taken 41 = .ok (.goto 4, 3) := by decide +kernel
theorem dX4_taken_44 : decode cX4_taken 44 = .ok (.iconst 0, 1) := by decide +kernel
theorem dX4_taken_45 : decode cX4_taken 45 = .ok (.iadd, 1) := by decide +kernel
theorem dX4_taken_46 : decode cX4_taken 46 = .ok (.istore_n 2, 1) := by decide +kernel
theorem dX4_taken_47 : decode cX4_taken 47 = .ok (.iinc 3 1, 3) := by decide +kernel
theorem dX4_taken_50 : decode cX4_taken 50 = .ok (.goto (-46), 3) := by decide +kernel
theorem dX4_taken_53 : decode cX4_taken 53 = .ok (.iload_n 2, 1) := by decide +kernel
theorem dX4_taken_54 : decode cX4_taken 54 = .ok (.ireturn, 1) := by decide +kernel
theorem dX4_isFree_0 : decode cX4_isFree 0 = .ok (.aload_n 0, 1) := by decide +kernel
theorem dX4_isFree_1 : decode cX4_isFree 1 = .ok (.iload_n 1, 1) := by decide +kernel
theorem dX4_isFree_2 : decode cX4_isFree 2 = .ok (.invokevirtual 44, 3) := by decide +kernel
theorem dX4_isFree_5 : decode cX4_isFree 5 = .ok (.aload_n 0, 1) := by decide +kernel
theorem dX4_isFree_6 : decode cX4_isFree 6 = .ok (.getfield 7, 3) := by decide +kernel
theorem dX4_isFree_9 : decode cX4_isFree 9 = .ok (.bipush 8, 2) := by decide +kernel
theorem dX4_isFree_11 : decode cX4_isFree 11 = .ok (.iload_n 1, 1) := by decide +kernel
theorem dX4_isFree_12 : decode cX4_isFree 12 = .ok (.iadd, 1) := by decide +kernel
theorem dX4_isFree_13 : decode cX4_isFree 13 = .ok (.iaload, 1) := by decide +kernel
theorem dX4_isFree_14 : decode cX4_isFree 14 = .ok (.if_icmp .ge 7, 3) := by decide +kernel
theorem dX4_isFree_17 : decode cX4_isFree 17 = .ok (.iconst 1, 1) := by decide +kernel
theorem dX4_isFree_18 : decode cX4_isFree 18 = .ok (.goto 4, 3) := by decide +kernel
theorem dX4_isFree_21 : decode cX4_isFree 21 = .ok (.iconst 0, 1) := by decide +kernel
theorem dX4_isFree_22 : decode cX4_isFree 22 = .ok (.ireturn, 1) := by decide +kernel
theorem dX4_cradleFor_0 : decode cX4_cradleFor 0 = .ok (.aload_n 0, 1) := by decide +kernel
theorem dX4_cradleFor_1 : decode cX4_cradleFor 1 = .ok (.iload_n 1, 1) := by decide +kernel
theorem dX4_cradleFor_2 : decode cX4_cradleFor 2 = .ok (.iconst 4, 1) := by decide +kernel
theorem dX4_cradleFor_3 : decode cX4_cradleFor 3 = .ok (.invokevirtual 36, 3) := by decide +kernel
theorem dX4_cradleFor_6 : decode cX4_cradleFor 6 = .ok (.istore_n 2, 1) := by decide +kernel
theorem dX4_cradleFor_7 : decode cX4_cradleFor 7 = .ok (.aload_n 0, 1) := by decide +kernel
theorem dX4_cradleFor_8 : decode cX4_cradleFor 8 = .ok (.iload_n 1, 1) := by decide +kernel
theorem dX4_cradleFor_9 : decode cX4_cradleFor 9 = .ok (.iconst 3, 1) := by decide +kernel
theorem dX4_cradleFor_10 : decode cX4_cradleFor 10 = .ok (.invokevirtual 36, 3) := by decide +kernel
theorem dX4_cradleFor_13 : decode cX4_cradleFor 13 = .ok (.istore_n 3, 1) := by decide +kernel
theorem dX4_cradleFor_14 : decode cX4_cradleFor 14 = .ok (.aload_n 0, 1) := by decide +kernel
theorem dX4_cradleFor_15 : decode cX4_cradleFor 15 = .ok (.iload_n 2, 1) := by decide +kernel
theorem dX4_cradleFor_16 : decode cX4_cradleFor 16 = .ok (.invokevirtual 48, 3) := by decide +kernel
theorem dX4_cradleFor_19 : decode cX4_cradleFor 19 = .ok (.ifCond .eq 13, 3) := by decide +kernel
theorem dX4_cradleFor_22 : decode cX4_cradleFor 22 = .ok (.iload_n 3, 1) := by decide +kernel
theorem dX4_cradleFor_23 : decode cX4_cradleFor 23 = .ok (.iload_n 2, 1) := by decide +kernel
theorem dX4_cradleFor_24 : decode cX4_cradleFor 24 = .ok (.invokestatic 51, 3) := by decide +kernel
theorem dX4_cradleFor_27 : decode cX4_cradleFor 27 = .ok (.if_icmp .gt 5, 3) := by decide +kernel
theorem dX4_cradleFor_30 : decode cX4_cradleFor 30 = .ok (.iload_n 2, 1) := by decide +kernel
theorem dX4_cradleFor_31 : decode cX4_cradleFor 31 = .ok (.ireturn, 1) := by decide +kernel
theorem dX4_cradleFor_32 : decode cX4_cradleFor 32 = .ok (.iconst 2, 1) := by decide +kernel
theorem dX4_cradleFor_33 : decode cX4_cradleFor 33 = .ok (.iload_n 2, 1) := by decide +kernel
theorem dX4_cradleFor_34 : decode cX4_cradleFor 34 = .ok (.isub, 1) := by decide +kernel
theorem dX4_cradleFor_35 : decode cX4_cradleFor 35 = .ok (.istore 4, 2) := by decide +kernel
theorem dX4_cradleFor_37 : decode cX4_cradleFor 37 = .ok (.iload 4, 2) := by decide +kernel
theorem dX4_cradleFor_39 : decode cX4_cradleFor 39 = .ok (.iload_n 2, 1) := by decide +kernel
theorem dX4_cradleFor_40 : decode cX4_cradleFor 40 = .ok (.if_icmp .eq 28, 3) := by decide +kernel
theorem dX4_cradleFor_43 : decode cX4_cradleFor 43 = .ok (.aload_n 0, 1) := by decide +kernel
theorem dX4_cradleFor_44 : decode cX4_cradleFor 44 = .ok (.iload 4, 2) := by decide +kernel
theorem dX4_cradleFor_46 : decode cX4_cradleFor 46 = .ok (.invokevirtual 48, 3) := by decide +kernel
theorem dX4_cradleFor_49 : decode cX4_cradleFor 49 = .ok (.ifCond .eq 19, 3) := by decide +kernel
theorem dX4_cradleFor_52 : decode cX4_cradleFor 52 = .ok (.iload_n 3, 1) := by decide +kernel
theorem dX4_cradleFor_53 : decode cX4_cradleFor 53 = .ok (.iload 4, 2) := by decide +kernel
theorem dX4_cradleFor_55 : decode cX4_cradleFor 55 = .ok (.invokestatic 51, 3) := by decide +kernel
theorem dX4_cradleFor_58 : decode cX4_cradleFor 58 = .ok (.iconst 2, 1) := by decide +kernel
theorem dX4_cradleFor_59 : decode cX4_cradleFor 59 = .ok (.idiv, 1) := by decide +kernel
theorem dX4_cradleFor_60 : decode cX4_cradleFor 60 = .ok (.if_icmp .gt 8, 3) := by decide +kernel
theorem dX4_cradleFor_63 : decode cX4_cradleFor 63 = .ok (.iload 4, 2) := by decide +kernel
theorem dX4_cradleFor_65 : decode cX4_cradleFor 65 = .ok (.goto 5, 3) := by decide +kernel
theorem dX4_cradleFor_68 : decode cX4_cradleFor 68 = .ok (.bipush (-5), 2) := by decide +kernel
theorem dX4_cradleFor_70 : decode cX4_cradleFor 70 = .ok (.ireturn, 1) := by decide +kernel
theorem dX4_metresTaken_0 : decode cX4_metresTaken 0 = .ok (.iconst 0, 1) := by decide +kernel
theorem dX4_metresTaken_1 : decode cX4_metresTaken 1 = .ok (.istore_n 2, 1) := by decide +kernel
theorem dX4_metresTaken_2 : decode cX4_metresTaken 2 = .ok (.iconst 0, 1) := by decide +kernel
theorem dX4_metresTaken_3 : decode cX4_metresTaken 3 = .ok (.istore_n 3, 1) := by decide +kernel
theorem dX4_metresTaken_4 : decode cX4_metresTaken 4 = .ok (.iload_n 3, 1) := by decide +kernel
theorem dX4_metresTaken_5 : decode cX4_metresTaken 5 = .ok (.bipush 20, 2) := by decide +kernel
theorem dX4_metresTaken_7 : decode cX4_metresTaken 7 = .ok (.if_icmp .ge 33, 3) := by decide +kernel
theorem dX4_metresTaken_10 : decode cX4_metresTaken 10 = .ok (.iload_n 2, 1) := by decide +kernel
theorem dX4_metresTaken_11 : decode cX4_metresTaken 11 = .ok (.aload_n 0, 1) := by decide +kernel
theorem dX4_metresTaken_12 : decode cX4_metresTaken 12 = .ok (.iload_n 3, 1) := by decide +kernel
theorem dX4_metresTaken_13 : decode cX4_metresTaken 13 = .ok (.iload_n 1, 1) := by decide +kernel
theorem dX4_metresTaken_14 : decode cX4_metresTaken 14 = .ok (.invokevirtual 54, 3) := by decide +kernel
theorem dX4_metresTaken_17 : decode cX4_metresTaken 17 = .ok (.ifCond .eq 14, 3) := by decide +kernel
theorem dX4_metresTaken_20 : decode cX4_metresTaken 20 = .ok (.aload_n 0, 1) := by decide +kernel
theorem dX4_metresTaken_21 : decode cX4_metresTaken 21 = .ok (.iload_n 3, 1) := by decide +kernel
theorem dX4_metresTaken_22 : decode cX4_metresTaken 22 = .ok (.iconst 1, 1) := by decide +kernel
theorem dX4_metresTaken_23 : decode cX4_metresTaken 23 = .ok (.invokevirtual 36, 3) := by decide +kernel
theorem dX4_metresTaken_26 : decode cX4_metresTaken 26 = .ok (.iconst 1, 1) := by decide +kernel
theorem dX4_metresTaken_27 : decode cX4_metresTaken 27 = .ok (.iadd, 1) := by decide +kernel
theorem dX4_metresTaken_28 : decode cX4_metresTaken 28 = .ok (.goto 4, 3) := by decide +kernel
theorem dX4_metresTaken_31 : decode cX4_metresTaken 31 = .ok (.iconst 0, 1) := by decide +kernel
theorem dX4_metresTaken_32 : decode cX4_metresTaken 32 = .ok (.iadd, 1) := by decide +kernel
theorem dX4_metresTaken_33 : decode cX4_metresTaken 33 = .ok (.istore_n 2, 1) := by decide +kernel
theorem dX4_metresTaken_34 : decode cX4_metresTaken 34 = .ok (.iinc 3 1, 3) := by decide +kernel
theorem dX4_metresTaken_37 : decode cX4_metresTaken 37 = .ok (.goto (-33), 3) := by decide +kernel
theorem dX4_metresTaken_40 : decode cX4_metresTaken 40 = .ok (.iload_n 2, 1) := by decide +kernel
theorem dX4_metresTaken_41 : decode cX4_metresTaken 41 = .ok (.ireturn, 1) := by decide +kernel
theorem dX4_metresLeft_0 : decode cX4_metresLeft 0 = .ok (.aload_n 0, 1) := by decide +kernel
theorem dX4_metresLeft_1 : decode cX4_metresLeft 1 = .ok (.getfield 7, 3) := by decide +kernel
theorem dX4_metresLeft_4 : decode cX4_metresLeft 4 = .ok (.bipush 11, 2) := by decide +kernel
theorem dX4_metresLeft_6 : decode cX4_metresLeft 6 = .ok (.iload_n 1, 1) := by decide +kernel
theorem dX4_metresLeft_7 : decode cX4_metresLeft 7 = .ok (.iadd, 1) := by decide +kernel
theorem dX4_metresLeft_8 : decode cX4_metresLeft 8 = .ok (.iaload, 1) := by decide +kernel
theorem dX4_metresLeft_9 : decode cX4_metresLeft 9 = .ok (.aload_n 0, 1) := by decide +kernel
theorem dX4_metresLeft_10 : decode cX4_metresLeft 10 = .ok (.iload_n 1, 1) := by decide +kernel
theorem dX4_metresLeft_11 : decode cX4_metresLeft 11 = .ok (.invokevirtual 58, 3) := by decide +kernel
theorem dX4_metresLeft_14 : decode cX4_metresLeft 14 = .ok (.isub, 1) := by decide +kernel
theorem dX4_metresLeft_15 : decode cX4_metresLeft 15 = .ok (.ireturn, 1) := by decide +kernel
theorem dX4_hasRoom_0 : decode cX4_hasRoom 0 = .ok (.aload_n 0, 1) := by decide +kernel
theorem dX4_hasRoom_1 : decode cX4_hasRoom 1 = .ok (.iload_n 1, 1) := by decide +kernel
theorem dX4_hasRoom_2 : decode cX4_hasRoom 2 = .ok (.iconst 1, 1) := by decide +kernel
theorem dX4_hasRoom_3 : decode cX4_hasRoom 3 = .ok (.invokevirtual 36, 3) := by decide +kernel
theorem dX4_hasRoom_6 : decode cX4_hasRoom 6 = .ok (.iconst 1, 1) := by decide +kernel
theorem dX4_hasRoom_7 : decode cX4_hasRoom 7 = .ok (.iadd, 1) := by decide +kernel
theorem dX4_hasRoom_8 : decode cX4_hasRoom 8 = .ok (.aload_n 0, 1) := by decide +kernel
theorem dX4_hasRoom_9 : decode cX4_hasRoom 9 = .ok (.iload_n 2, 1) := by decide +kernel
theorem dX4_hasRoom_10 : decode cX4_hasRoom 10 = .ok (.invokevirtual 61, 3) := by decide +kernel
theorem dX4_hasRoom_13 : decode cX4_hasRoom 13 = .ok (.if_icmp .gt 7, 3) := by decide +kernel
theorem dX4_hasRoom_16 : decode cX4_hasRoom 16 = .ok (.iconst 1, 1) := by decide +kernel
theorem dX4_hasRoom_17 : decode cX4_hasRoom 17 = .ok (.goto 4, 3) := by decide +kernel
theorem dX4_hasRoom_20 : decode cX4_hasRoom 20 = .ok (.iconst 0, 1) := by decide +kernel
theorem dX4_hasRoom_21 : decode cX4_hasRoom 21 = .ok (.ireturn, 1) := by decide +kernel
theorem dX4_boatsIn_0 : decode cX4_boatsIn 0 = .ok (.iconst 0, 1) := by decide +kernel
theorem dX4_boatsIn_1 : decode cX4_boatsIn 1 = .ok (.istore_n 2, 1) := by decide +kernel
theorem dX4_boatsIn_2 : decode cX4_boatsIn 2 = .ok (.iconst 0, 1) := by decide +kernel
theorem dX4_boatsIn_3 : decode cX4_boatsIn 3 = .ok (.istore_n 3, 1) := by decide +kernel
theorem dX4_boatsIn_4 : decode cX4_boatsIn 4 = .ok (.iload_n 3, 1) := by decide +kernel
theorem dX4_boatsIn_5 : decode cX4_boatsIn 5 = .ok (.bipush 20, 2) := by decide +kernel
theorem dX4_boatsIn_7 : decode cX4_boatsIn 7 = .ok (.if_icmp .ge 26, 3) := by decide +kernel
theorem dX4_boatsIn_10 : decode cX4_boatsIn 10 = .ok (.iload_n 2, 1) := by decide +kernel
theorem dX4_boatsIn_11 : decode cX4_boatsIn 11 = .ok (.aload_n 0, 1) := by decide +kernel
theorem dX4_boatsIn_12 : decode cX4_boatsIn 12 = .ok (.iload_n 3, 1) := by decide +kernel
theorem dX4_boatsIn_13 : decode cX4_boatsIn 13 = .ok (.iload_n 1, 1) := by decide +kernel
theorem dX4_boatsIn_14 : decode cX4_boatsIn 14 = .ok (.invokevirtual 54, 3) := by decide +kernel
theorem dX4_boatsIn_17 : decode cX4_boatsIn 17 = .ok (.ifCond .eq 7, 3) := by decide +kernel
theorem dX4_boatsIn_20 : decode cX4_boatsIn 20 = .ok (.iconst 1, 1) := by decide +kernel
theorem dX4_boatsIn_21 : decode cX4_boatsIn 21 = .ok (.goto 4, 3) := by decide +kernel
theorem dX4_boatsIn_24 : decode cX4_boatsIn 24 = .ok (.iconst 0, 1) := by decide +kernel
theorem dX4_boatsIn_25 : decode cX4_boatsIn 25 = .ok (.iadd, 1) := by decide +kernel
theorem dX4_boatsIn_26 : decode cX4_boatsIn 26 = .ok (.istore_n 2, 1) := by decide +kernel
theorem dX4_boatsIn_27 : decode cX4_boatsIn 27 = .ok (.iinc 3 1, 3) := by decide +kernel
theorem dX4_boatsIn_30 : decode cX4_boatsIn 30 = .ok (.goto (-26), 3) := by decide +kernel
theorem dX4_boatsIn_33 : decode cX4_boatsIn 33 = .ok (.iload_n 2, 1) := by decide +kernel
theorem dX4_boatsIn_34 : decode cX4_boatsIn 34 = .ok (.ireturn, 1) := by decide +kernel
theorem dX4_placeOf_0 : decode cX4_placeOf 0 = .ok (.iconst 0, 1) := by decide +kernel
theorem dX4_placeOf_1 : decode cX4_placeOf 1 = .ok (.istore_n 2, 1) := by decide +kernel
theorem dX4_placeOf_2 : decode cX4_placeOf 2 = .ok (.iconst 0, 1) := by decide +kernel
theorem dX4_placeOf_3 : decode cX4_placeOf 3 = .ok (.istore_n 3, 1) := by decide +kernel
theorem dX4_placeOf_4 : decode cX4_placeOf 4 = .ok (.iload_n 3, 1) := by decide +kernel
theorem dX4_placeOf_5 : decode cX4_placeOf 5 = .ok (.bipush 20, 2) := by decide +kernel
theorem dX4_placeOf_7 : decode cX4_placeOf 7 = .ok (.if_icmp .ge 48, 3) := by decide +kernel
theorem dX4_placeOf_10 : decode cX4_placeOf 10 = .ok (.iload_n 2, 1) := by decide +kernel
theorem dX4_placeOf_11 : decode cX4_placeOf 11 = .ok (.aload_n 0, 1) := by decide +kernel
theorem dX4_placeOf_12 : decode cX4_placeOf 12 = .ok (.iload_n 3, 1) := by decide +kernel
theorem dX4_placeOf_13 : decode cX4_placeOf 13 = .ok (.aload_n 0, 1) := by decide +kernel
theorem dX4_placeOf_14 : decode cX4_placeOf 14 = .ok (.iload_n 1, 1) := by decide +kernel
theorem dX4_placeOf_15 : decode cX4_placeOf 15 = .ok (.iconst 5, 1) := by decide +kernel
theorem dX4_placeOf_16 : decode cX4_placeOf 16 = .ok (.invokevirtual 36, 3) := by decide +kernel
theorem dX4_placeOf_19 : decode cX4_placeOf 19 = .ok (.invokevirtual 54, 3) := by decide +kernel
theorem dX4_placeOf_22 : decode cX4_placeOf 22 = .ok (.ifCond .eq 24, 3) := by decide +kernel
theorem dX4_placeOf_25 : decode cX4_placeOf 25 = .ok (.aload_n 0, 1) := by decide +kernel
theorem dX4_placeOf_26 : decode cX4_placeOf 26 = .ok (.iload_n 3, 1) := by decide +kernel
theorem dX4_placeOf_27 : decode cX4_placeOf 27 = .ok (.bipush 11, 2) := by decide +kernel
theorem dX4_placeOf_29 : decode cX4_placeOf 29 = .ok (.invokevirtual 36, 3) := by decide +kernel
theorem dX4_placeOf_32 : decode cX4_placeOf 32 = .ok (.aload_n 0, 1) := by decide +kernel
theorem dX4_placeOf_33 : decode cX4_placeOf 33 = .ok (.iload_n 1, 1) := by decide +kernel
theorem dX4_placeOf_34 : decode cX4_placeOf 34 = .ok (.bipush 11, 2) := by decide +kernel
theorem dX4_placeOf_36 : decode cX4_placeOf 36 = .ok (.invokevirtual 36, 3) := by decide +kernel
theorem dX4_placeOf_39 : decode cX4_placeOf 39 = .ok (.if_icmp .ge 7, 3) := by decide +kernel
theorem dX4_placeOf_42 : decode cX4_placeOf 42 = .ok (.iconst 1, 1) := by decide +kernel
theorem dX4_placeOf_43 : decode cX4_placeOf 43 = .ok (.goto 4, 3) := by decide +kernel
theorem dX4_placeOf_46 : decode cX4_placeOf 46 = .ok (.iconst 0, 1) := by decide +kernel
theorem dX4_placeOf_47 : decode cX4_placeOf 47 = .ok (.iadd, 1) := by decide +kernel
theorem dX4_placeOf_48 : decode cX4_placeOf 48 = .ok (.istore_n 2, 1) := by decide +kernel
theorem dX4_placeOf_49 : decode cX4_placeOf 49 = .ok (.iinc 3 1, 3) := by decide +kernel
theorem dX4_placeOf_52 : decode cX4_placeOf 52 = .ok (.goto (-48), 3) := by decide +kernel
theorem dX4_placeOf_55 : decode cX4_placeOf 55 = .ok (.iload_n 2, 1) := by decide +kernel
theorem dX4_placeOf_56 : decode cX4_placeOf 56 = .ok (.ireturn, 1) := by decide +kernel
theorem dX4_blockersOf_0 : decode cX4_blockersOf 0 = .ok (.aload_n 0, 1) := by decide +kernel
theorem dX4_blockersOf_1 : decode cX4_blockersOf 1 = .ok (.aload_n 0, 1) := by decide +kernel
theorem dX4_blockersOf_2 : decode cX4_blockersOf 2 = .ok (.iload_n 1, 1) := by decide +kernel
theorem dX4_blockersOf_3 : decode cX4_blockersOf 3 = .ok (.iconst 5, 1) := by decide +kernel
theorem dX4_blockersOf_4 : decode cX4_blockersOf 4 = .ok (.invokevirtual 36, 3) := by decide +kernel
theorem dX4_blockersOf_7 : decode cX4_blockersOf 7 = .ok (.invokevirtual 64, 3) := by decide +kernel
theorem dX4_blockersOf_10 : decode cX4_blockersOf 10 = .ok (.iconst 1, 1) := by decide +kernel
theorem dX4_blockersOf_11 : decode cX4_blockersOf 11 = .ok (.isub, 1) := by decide +kernel
theorem dX4_blockersOf_12 : decode cX4_blockersOf 12 = .ok (.aload_n 0, 1) := by decide +kernel
theorem dX4_blockersOf_13 : decode cX4_blockersOf 13 = .ok (.iload_n 1, 1) := by decide +kernel
theorem dX4_blockersOf_14 : decode cX4_blockersOf 14 = .ok (.invokevirtual 67, 3) := by decide +kernel
theorem dX4_blockersOf_17 : decode cX4_blockersOf 17 = .ok (.isub, 1) := by decide +kernel
theorem dX4_blockersOf_18 : decode cX4_blockersOf 18 = .ok (.ireturn, 1) := by decide +kernel
theorem dX4_boatAt_0 : decode cX4_boatAt 0 = .ok (.bipush (-5), 2) := by decide +kernel
theorem dX4_boatAt_2 : decode cX4_boatAt 2 = .ok (.istore_n 3, 1) := by decide +kernel
theorem dX4_boatAt_3 : decode cX4_boatAt 3 = .ok (.iconst 0, 1) := by decide +kernel
theorem dX4_boatAt_4 : decode cX4_boatAt 4 = .ok (.istore 4, 2) := by decide +kernel
theorem dX4_boatAt_6 : decode cX4_boatAt 6 = .ok (.iload 4, 2) := by decide +kernel
theorem dX4_boatAt_8 : decode cX4_boatAt 8 = .ok (.bipush 20, 2) := by decide +kernel
theorem dX4_boatAt_10 : decode cX4_boatAt 10 = .ok (.if_icmp .ge 36, 3) := by decide +kernel
theorem dX4_boatAt_13 : decode cX4_boatAt 13 = .ok (.aload_n 0, 1) := by decide +kernel
theorem dX4_boatAt_14 : decode cX4_boatAt 14 = .ok (.iload 4, 2) := by decide +kernel
theorem dX4_boatAt_16 : decode cX4_boatAt 16 = .ok (.iload_n 1, 1) := by decide +kernel
theorem dX4_boatAt_17 : decode cX4_boatAt 17 = .ok (.invokevirtual 54, 3) := by decide +kernel
theorem dX4_boatAt_20 : decode cX4_boatAt 20 = .ok (.ifCond .eq 18, 3) := by decide +kernel
theorem dX4_boatAt_23 : decode cX4_boatAt 23 = .ok (.aload_n 0, 1) := by decide +kernel
theorem dX4_boatAt_24 : decode cX4_boatAt 24 = .ok (.iload 4, 2) := by decide +kernel
theorem dX4_boatAt_26 : decode cX4_boatAt 26 = .ok (.invokevirtual 67, 3) := by decide +kernel
theorem dX4_boatAt_29 : decode cX4_boatAt 29 = .ok (.iload_n 2, 1) := by decide +kernel
theorem dX4_boatAt_30 : decode cX4_boatAt 30 = .ok (.if_icmp .ne 8, 3) := by decide +kernel
theorem dX4_boatAt_33 : decode cX4_boatAt 33 = .ok (.iload 4, 2) := by decide +kernel
theorem dX4_boatAt_35 : decode cX4_boatAt 35 = .ok (.goto 4, 3) := by decide +kernel
theorem dX4_boatAt_38 : decode cX4_boatAt 38 = .ok (.iload_n 3, 1) := by decide +kernel
theorem dX4_boatAt_39 : decode cX4_boatAt 39 = .ok (.istore_n 3, 1) := by decide +kernel
theorem dX4_boatAt_40 : decode cX4_boatAt 40 = .ok (.iinc 4 1, 3) := by decide +kernel
theorem dX4_boatAt_43 : decode cX4_boatAt 43 = .ok (.goto (-37), 3) := by decide +kernel
theorem dX4_boatAt_46 : decode cX4_boatAt 46 = .ok (.iload_n 3, 1) := by decide +kernel
theorem dX4_boatAt_47 : decode cX4_boatAt 47 = .ok (.ireturn, 1) := by decide +kernel
theorem dX4_stand_0 : decode cX4_stand 0 = .ok (.aload_n 0, 1) := by decide +kernel
theorem dX4_stand_1 : decode cX4_stand 1 = .ok (.iload_n 1, 1) := by decide +kernel
theorem dX4_stand_2 : decode cX4_stand 2 = .ok (.iconst 5, 1) := by decide +kernel
theorem dX4_stand_3 : decode cX4_stand 3 = .ok (.iload_n 2, 1) := by decide +kernel
theorem dX4_stand_4 : decode cX4_stand 4 = .ok (.invokevirtual 70, 3) := by decide +kernel
theorem dX4_stand_7 : decode cX4_stand 7 = .ok (.aload_n 0, 1) := by decide +kernel
theorem dX4_stand_8 : decode cX4_stand 8 = .ok (.iload_n 1, 1) := by decide +kernel
theorem dX4_stand_9 : decode cX4_stand 9 = .ok (.bipush 11, 2) := by decide +kernel
theorem dX4_stand_11 : decode cX4_stand 11 = .ok (.aload_n 0, 1) := by decide +kernel
theorem dX4_stand_12 : decode cX4_stand 12 = .ok (.getfield 7, 3) := by decide +kernel
theorem dX4_stand_15 : decode cX4_stand 15 = .ok (.bipush 7, 2) := by decide +kernel
theorem dX4_stand_17 : decode cX4_stand 17 = .ok (.iaload, 1) := by decide +kernel
theorem dX4_stand_18 : decode cX4_stand 18 = .ok (.invokevirtual 70, 3) := by decide +kernel
theorem dX4_stand_21 : decode cX4_stand 21 = .ok (.aload_n 0, 1) := by decide +kernel
theorem dX4_stand_22 : decode cX4_stand 22 = .ok (.getfield 7, 3) := by decide +kernel
theorem dX4_stand_25 : decode cX4_stand 25 = .ok (.bipush 7, 2) := by decide +kernel
theorem dX4_stand_27 : decode cX4_stand 27 = .ok (.dup2, 1) := by decide +kernel
theorem dX4_stand_28 : decode cX4_stand 28 = .ok (.iaload, 1) := by decide +kernel
theorem dX4_stand_29 : decode cX4_stand 29 = .ok (.iconst 1, 1) := by decide +kernel
theorem dX4_stand_30 : decode cX4_stand 30 = .ok (.iadd, 1) := by decide +kernel
theorem dX4_stand_31 : decode cX4_stand 31 = .ok (.iastore, 1) := by decide +kernel
theorem dX4_stand_32 : decode cX4_stand 32 = .ok (.return_, 1) := by decide +kernel
theorem dX4_mastsIn_0 : decode cX4_mastsIn 0 = .ok (.iconst 0, 1) := by decide +kernel
theorem dX4_mastsIn_1 : decode cX4_mastsIn 1 = .ok (.istore_n 2, 1) := by decide +kernel
theorem dX4_mastsIn_2 : decode cX4_mastsIn 2 = .ok (.iconst 0, 1) := by decide +kernel
theorem dX4_mastsIn_3 : decode cX4_mastsIn 3 = .ok (.istore_n 3, 1) := by decide +kernel
theorem dX4_mastsIn_4 : decode cX4_mastsIn 4 = .ok (.iload_n 3, 1) := by decide +kernel
theorem dX4_mastsIn_5 : decode cX4_mastsIn 5 = .ok (.bipush 20, 2) := by decide +kernel
theorem dX4_mastsIn_7 : decode cX4_mastsIn 7 = .ok (.if_icmp .ge 38, 3) := by decide +kernel
theorem dX4_mastsIn_10 : decode cX4_mastsIn 10 = .ok (.iload_n 2, 1) := by decide +kernel
theorem dX4_mastsIn_11 : decode cX4_mastsIn 11 = .ok (.aload_n 0, 1) := by decide +kernel
theorem dX4_mastsIn_12 : decode cX4_mastsIn 12 = .ok (.iload_n 3, 1) := by decide +kernel
theorem dX4_mastsIn_13 : decode cX4_mastsIn 13 = .ok (.iconst 0, 1) := by decide +kernel
theorem dX4_mastsIn_14 : decode cX4_mastsIn 14 = .ok (.invokevirtual 36, 3) := by decide +kernel
theorem dX4_mastsIn_17 : decode cX4_mastsIn 17 = .ok (.iconst 1, 1) := by decide +kernel
theorem dX4_mastsIn_18 : decode cX4_mastsIn 18 = .ok (.if_icmp .ne 18, 3) := by decide +kernel
theorem dX4_mastsIn_21 : decode cX4_mastsIn 21 = .ok (.aload_n 0, 1) := by decide +kernel
theorem dX4_mastsIn_22 : decode cX4_mastsIn 22 = .ok (.iload_n 3, 1) := by decide +kernel
theorem dX4_mastsIn_23 : decode cX4_mastsIn 23 = .ok (.bipush 7, 2) := by decide +kernel
theorem dX4_mastsIn_25 : decode cX4_mastsIn 25 = .ok (.invokevirtual 36, 3) := by decide +kernel
theorem dX4_mastsIn_28 : decode cX4_mastsIn 28 = .ok (.iload_n 1, 1) := by decide +kernel
theorem dX4_mastsIn_29 : decode cX4_mastsIn 29 = .ok (.if_icmp .ne 7, 3) := by decide +kernel
theorem dX4_mastsIn_32 : decode cX4_mastsIn 32 = .ok (.iconst 1, 1) := by decide +kernel
theorem dX4_mastsIn_33 : decode cX4_mastsIn 33 = .ok (.goto 4, 3) := by decide +kernel
theorem dX4_mastsIn_36 : decode cX4_mastsIn 36 = .ok (.iconst 0, 1) := by decide +kernel
theorem dX4_mastsIn_37 : decode cX4_mastsIn 37 = .ok (.iadd, 1) := by decide +kernel
theorem dX4_mastsIn_38 : decode cX4_mastsIn 38 = .ok (.istore_n 2, 1) := by decide +kernel
theorem dX4_mastsIn_39 : decode cX4_mastsIn 39 = .ok (.iinc 3 1, 3) := by decide +kernel
theorem dX4_mastsIn_42 : decode cX4_mastsIn 42 = .ok (.goto (-38), 3) := by decide +kernel
theorem dX4_mastsIn_45 : decode cX4_mastsIn 45 = .ok (.iload_n 2, 1) := by decide +kernel
theorem dX4_mastsIn_46 : decode cX4_mastsIn 46 = .ok (.ireturn, 1) := by decide +kernel
theorem dX4_boats_0 : decode cX4_boats 0 = .ok (.iconst 0, 1) := by decide +kernel
theorem dX4_boats_1 : decode cX4_boats 1 = .ok (.istore_n 1, 1) := by decide +kernel
theorem dX4_boats_2 : decode cX4_boats 2 = .ok (.iconst 0, 1) := by decide +kernel
theorem dX4_boats_3 : decode cX4_boats 3 = .ok (.istore_n 2, 1) := by decide +kernel
theorem dX4_boats_4 : decode cX4_boats 4 = .ok (.iload_n 2, 1) := by decide +kernel
theorem dX4_boats_5 : decode cX4_boats 5 = .ok (.bipush 20, 2) := by decide +kernel
theorem dX4_boats_7 : decode cX4_boats 7 = .ok (.if_icmp .ge 18, 3) := by decide +kernel
theorem dX4_boats_10 : decode cX4_boats 10 = .ok (.iload_n 1, 1) := by decide +kernel
theorem dX4_boats_11 : decode cX4_boats 11 = .ok (.aload_n 0, 1) := by decide +kernel
theorem dX4_boats_12 : decode cX4_boats 12 = .ok (.iload_n 2, 1) := by decide +kernel
theorem dX4_boats_13 : decode cX4_boats 13 = .ok (.iconst 0, 1) := by decide +kernel
theorem dX4_boats_14 : decode cX4_boats 14 = .ok (.invokevirtual 36, 3) := by decide +kernel
theorem dX4_boats_17 : decode cX4_boats 17 = .ok (.iadd, 1) := by decide +kernel
theorem dX4_boats_18 : decode cX4_boats 18 = .ok (.istore_n 1, 1) := by decide +kernel
theorem dX4_boats_19 : decode cX4_boats 19 = .ok (.iinc 2 1, 3) := by decide +kernel
theorem dX4_boats_22 : decode cX4_boats 22 = .ok (.goto (-18), 3) := by decide +kernel
theorem dX4_boats_25 : decode cX4_boats 25 = .ok (.iload_n 1, 1) := by decide +kernel
theorem dX4_boats_26 : decode cX4_boats 26 = .ok (.ireturn, 1) := by decide +kernel
theorem dX4_push_0 : decode cX4_push 0 = .ok (.aload_n 0, 1) := by decide +kernel
theorem dX4_push_1 : decode cX4_push 1 = .ok (.getfield 74, 3) := by decide +kernel
theorem dX4_push_4 : decode cX4_push 4 = .ok (.iconst 4, 1) := by decide +kernel
theorem dX4_push_5 : decode cX4_push 5 = .ok (.if_icmp .ne 44, 3) := by decide +kernel
theorem dX4_push_8 : decode cX4_push 8 = .ok (.iconst 0, 1) := by decide +kernel
theorem dX4_push_9 : decode cX4_push 9 = .ok (.istore_n 2, 1) := by decide +kernel
theorem dX4_push_10 : decode cX4_push 10 = .ok (.iload_n 2, 1) := by decide +kernel
theorem dX4_push_11 : decode cX4_push 11 = .ok (.sipush 765, 3) := by decide +kernel
theorem dX4_push_14 : decode cX4_push 14 = .ok (.if_icmp .ge 25, 3) := by decide +kernel
theorem dX4_push_17 : decode cX4_push 17 = .ok (.aload_n 0, 1) := by decide +kernel
theorem dX4_push_18 : decode cX4_push 18 = .ok (.getfield 16, 3) := by decide +kernel
theorem dX4_push_21 : decode cX4_push 21 = .ok (.iload_n 2, 1) := by decide +kernel
theorem dX4_push_22 : decode cX4_push 22 = .ok (.aload_n 0, 1) := by decide +kernel
theorem dX4_push_23 : decode cX4_push 23 = .ok (.getfield 16, 3) := by decide +kernel
theorem dX4_push_26 : decode cX4_push 26 = .ok (.sipush 255, 3) := by decide +kernel
theorem dX4_push_29 : decode cX4_push 29 = .ok (.iload_n 2, 1) := by decide +kernel
theorem dX4_push_30 : decode cX4_push 30 = .ok (.iadd, 1) := by decide +kernel
theorem dX4_push_31 : decode cX4_push 31 = .ok (.iaload, 1) := by decide +kernel
theorem dX4_push_32 : decode cX4_push 32 = .ok (.iastore, 1) := by decide +kernel
theorem dX4_push_33 : decode cX4_push 33 = .ok (.iinc 2 1, 3) := by decide +kernel
theorem dX4_push_36 : decode cX4_push 36 = .ok (.goto (-26), 3) := by decide +kernel
theorem dX4_push_39 : decode cX4_push 39 = .ok (.aload_n 0, 1) := by decide +kernel
theorem dX4_push_40 : decode cX4_push 40 = .ok (.dup, 1) := by decide +kernel
theorem dX4_push_41 : decode cX4_push 41 = .ok (.getfield 74, 3) := by decide +kernel
theorem dX4_push_44 : decode cX4_push 44 = .ok (.iconst 1, 1) := by decide +kernel
theorem dX4_push_45 : decode cX4_push 45 = .ok (.isub, 1) := by decide +kernel
theorem dX4_push_46 : decode cX4_push 46 = .ok (.putfield 74, 3) := by decide +kernel
theorem dX4_push_49 : decode cX4_push 49 = .ok (.iconst 0, 1) := by decide +kernel
theorem dX4_push_50 : decode cX4_push 50 = .ok (.istore_n 2, 1) := by decide +kernel
theorem dX4_push_51 : decode cX4_push 51 = .ok (.iload_n 2, 1) := by decide +kernel
theorem dX4_push_52 : decode cX4_push 52 = .ok (.sipush 255, 3) := by decide +kernel
theorem dX4_push_55 : decode cX4_push 55 = .ok (.if_icmp .ge 27, 3) := by decide +kernel
theorem dX4_push_58 : decode cX4_push 58 = .ok (.aload_n 0, 1) := by decide +kernel
theorem dX4_push_59 : decode cX4_push 59 = .ok (.getfield 16, 3) := by decide +kernel
theorem dX4_push_62 : decode cX4_push 62 = .ok (.sipush 255, 3) := by decide +kernel
theorem dX4_push_65 : decode cX4_push 65 = .ok (.aload_n 0, 1) := by decide +kernel
theorem dX4_push_66 : decode cX4_push 66 = .ok (.getfield 74, 3) := by decide +kernel
theorem dX4_push_69 : decode cX4_push 69 = .ok (.imul, 1) := by decide +kernel
theorem dX4_push_70 : decode cX4_push 70 = .ok (.iload_n 2, 1) := by decide +kernel
theorem dX4_push_71 : decode cX4_push 71 = .ok (.iadd, 1) := by decide +kernel
theorem dX4_push_72 : decode cX4_push 72 = .ok (.aload_n 1, 1) := by decide +kernel
theorem dX4_push_73 : decode cX4_push 73 = .ok (.iload_n 2, 1) := by decide +kernel
theorem dX4_push_74 : decode cX4_push 74 = .ok (.iaload, 1) := by decide +kernel
theorem dX4_push_75 : decode cX4_push 75 = .ok (.iastore, 1) := by decide +kernel
theorem dX4_push_76 : decode cX4_push 76 = .ok (.iinc 2 1, 3) := by decide +kernel
theorem dX4_push_79 : decode cX4_push 79 = .ok (.goto (-28), 3) := by decide +kernel
theorem dX4_push_82 : decode cX4_push 82 = .ok (.aload_n 0, 1) := by decide +kernel
theorem dX4_push_83 : decode cX4_push 83 = .ok (.dup, 1) := by decide +kernel
theorem dX4_push_84 : decode cX4_push 84 = .ok (.getfield 74, 3) := by decide +kernel
theorem dX4_push_87 : decode cX4_push 87 = .ok (.iconst 1, 1) := by decide +kernel
theorem dX4_push_88 : decode cX4_push 88 = .ok (.iadd, 1) := by decide +kernel
theorem dX4_push_89 : decode cX4_push 89 = .ok (.putfield 74, 3) := by decide +kernel
theorem dX4_push_92 : decode cX4_push 92 = .ok (.return_, 1) := by decide +kernel
theorem dX4_undo_0 : decode cX4_undo 0 = .ok (.aload_n 0, 1) := by decide +kernel
theorem dX4_undo_1 : decode cX4_undo 1 = .ok (.getfield 74, 3) := by decide +kernel
theorem dX4_undo_4 : decode cX4_undo 4 = .ok (.ifCond .ne 6, 3) := by decide +kernel
theorem dX4_undo_7 : decode cX4_undo 7 = .ok (.bipush (-5), 2) := by decide +kernel
theorem dX4_undo_9 : decode cX4_undo 9 = .ok (.ireturn, 1) := by decide +kernel
theorem dX4_undo_10 : decode cX4_undo 10 = .ok (.aload_n 0, 1) := by decide +kernel
theorem dX4_undo_11 : decode cX4_undo 11 = .ok (.dup, 1) := by decide +kernel
theorem dX4_undo_12 : decode cX4_undo 12 = .ok (.getfield 74, 3) := by decide +kernel
theorem dX4_undo_15 : decode cX4_undo 15 = .ok (.iconst 1, 1) := by decide +kernel
theorem dX4_undo_16 : decode cX4_undo 16 = .ok (.isub, 1) := by decide +kernel
theorem dX4_undo_17 : decode cX4_undo 17 = .ok (.putfield 74, 3) := by decide +kernel
theorem dX4_undo_20 : decode cX4_undo 20 = .ok (.iconst 0, 1) := by decide +kernel
theorem dX4_undo_21 : decode cX4_undo 21 = .ok (.istore_n 1, 1) := by decide +kernel
theorem dX4_undo_22 : decode cX4_undo 22 = .ok (.iload_n 1, 1) := by decide +kernel
theorem dX4_undo_23 : decode cX4_undo 23 = .ok (.sipush 255, 3) := by decide +kernel
theorem dX4_undo_26 : decode cX4_undo 26 = .ok (.if_icmp .ge 30, 3) := by decide +kernel
theorem dX4_undo_29 : decode cX4_undo 29 = .ok (.aload_n 0, 1) := by decide +kernel
theorem dX4_undo_30 : decode cX4_undo 30 = .ok (.getfield 7, 3) := by decide +kernel
theorem dX4_undo_33 : decode cX4_undo 33 = .ok (.iload_n 1, 1) := by decide +kernel
theorem dX4_undo_34 : decode cX4_undo 34 = .ok (.aload_n 0, 1) := by decide +kernel
theorem dX4_undo_35 : decode cX4_undo 35 = .ok (.getfield 16, 3) := by decide +kernel
theorem dX4_undo_38 : decode cX4_undo 38 = .ok (.sipush 255, 3) := by decide +kernel
theorem dX4_undo_41 : decode cX4_undo 41 = .ok (.aload_n 0, 1) := by decide +kernel
theorem dX4_undo_42 : decode cX4_undo 42 = .ok (.getfield 74, 3) := by decide +kernel
theorem dX4_undo_45 : decode cX4_undo 45 = .ok (.imul, 1) := by decide +kernel
theorem dX4_undo_46 : decode cX4_undo 46 = .ok (.iload_n 1, 1) := by decide +kernel
theorem dX4_undo_47 : decode cX4_undo 47 = .ok (.iadd, 1) := by decide +kernel
theorem dX4_undo_48 : decode cX4_undo 48 = .ok (.iaload, 1) := by decide +kernel
theorem dX4_undo_49 : decode cX4_undo 49 = .ok (.iastore, 1) := by decide +kernel
theorem dX4_undo_50 : decode cX4_undo 50 = .ok (.iinc 1 1, 3) := by decide +kernel
theorem dX4_undo_53 : decode cX4_undo 53 = .ok (.goto (-31), 3) := by decide +kernel
theorem dX4_undo_56 : decode cX4_undo 56 = .ok (.aload_n 0, 1) := by decide +kernel
theorem dX4_undo_57 : decode cX4_undo 57 = .ok (.getfield 74, 3) := by decide +kernel
theorem dX4_undo_60 : decode cX4_undo 60 = .ok (.ireturn, 1) := by decide +kernel
theorem dX4_keep_0 : decode cX4_keep 0 = .ok (.iconst 0, 1) := by decide +kernel
theorem dX4_keep_1 : decode cX4_keep 1 = .ok (.istore_n 1, 1) := by decide +kernel
theorem dX4_keep_2 : decode cX4_keep 2 = .ok (.iload_n 1, 1) := by decide +kernel
theorem dX4_keep_3 : decode cX4_keep 3 = .ok (.sipush 255, 3) := by decide +kernel
theorem dX4_keep_6 : decode cX4_keep 6 = .ok (.if_icmp .ge 21, 3) := by decide +kernel
theorem dX4_keep_9 : decode cX4_keep 9 = .ok (.aload_n 0, 1) := by decide +kernel
theorem dX4_keep_10 : decode cX4_keep 10 = .ok (.getfield 19, 3) := by decide +kernel
theorem dX4_keep_13 : decode cX4_keep 13 = .ok (.iload_n 1, 1) := by decide +kernel
theorem dX4_keep_14 : decode cX4_keep 14 = .ok (.aload_n 0, 1) := by decide +kernel
theorem dX4_keep_15 : decode cX4_keep 15 = .ok (.getfield 7, 3) := by decide +kernel
theorem dX4_keep_18 : decode cX4_keep 18 = .ok (.iload_n 1, 1) := by decide +kernel
theorem dX4_keep_19 : decode cX4_keep 19 = .ok (.iaload, 1) := by decide +kernel
theorem dX4_keep_20 : decode cX4_keep 20 = .ok (.iastore, 1) := by decide +kernel
theorem dX4_keep_21 : decode cX4_keep 21 = .ok (.iinc 1 1, 3) := by decide +kernel
theorem dX4_keep_24 : decode cX4_keep 24 = .ok (.goto (-22), 3) := by decide +kernel
theorem dX4_keep_27 : decode cX4_keep 27 = .ok (.aload_n 0, 1) := by decide +kernel
theorem dX4_keep_28 : decode cX4_keep 28 = .ok (.iconst 1, 1) := by decide +kernel
theorem dX4_keep_29 : decode cX4_keep 29 = .ok (.putfield 77, 3) := by decide +kernel
theorem dX4_keep_32 : decode cX4_keep 32 = .ok (.aload_n 0, 1) := by decide +kernel
theorem dX4_keep_33 : decode cX4_keep 33 = .ok (.invokevirtual 81, 3) := by decide +kernel
theorem dX4_keep_36 : decode cX4_keep 36 = .ok (.ireturn, 1) := by decide +kernel
theorem dX4_restore_0 : decode cX4_restore 0 = .ok (.aload_n 0, 1) := by decide +kernel
theorem dX4_restore_1 : decode cX4_restore 1 = .ok (.getfield 77, 3) := by decide +kernel
theorem dX4_restore_4 : decode cX4_restore 4 = .ok (.ifCond .ne 6, 3) := by decide +kernel
theorem dX4_restore_7 : decode cX4_restore 7 = .ok (.bipush (-5), 2) := by decide +kernel
theorem dX4_restore_9 : decode cX4_restore 9 = .ok (.ireturn, 1) := by decide +kernel
theorem dX4_restore_10 : decode cX4_restore 10 = .ok (.aload_n 0, 1) := by decide +kernel
theorem dX4_restore_11 : decode cX4_restore 11 = .ok (.aload_n 0, 1) := by decide +kernel
theorem dX4_restore_12 : decode cX4_restore 12 = .ok (.getfield 7, 3) := by decide +kernel
theorem dX4_restore_15 : decode cX4_restore 15 = .ok (.invokevirtual 85, 3) := by decide +kernel
theorem dX4_restore_18 : decode cX4_restore 18 = .ok (.iconst 0, 1) := by decide +kernel
theorem dX4_restore_19 : decode cX4_restore 19 = .ok (.istore_n 1, 1) := by decide +kernel
theorem dX4_restore_20 : decode cX4_restore 20 = .ok (.iload_n 1, 1) := by decide +kernel
theorem dX4_restore_21 : decode cX4_restore 21 = .ok (.sipush 255, 3) := by decide +kernel
theorem dX4_restore_24 : decode cX4_restore 24 = .ok (.if_icmp .ge 21, 3) := by decide +kernel
theorem dX4_restore_27 : decode cX4_restore 27 = .ok (.aload_n 0, 1) := by decide +kernel
theorem dX4_restore_28 : decode cX4_restore 28 = .ok (.getfield 7, 3) := by decide +kernel
theorem dX4_restore_31 : decode cX4_restore 31 = .ok (.iload_n 1, 1) := by decide +kernel
theorem dX4_restore_32 : decode cX4_restore 32 = .ok (.aload_n 0, 1) := by decide +kernel
theorem dX4_restore_33 : decode cX4_restore 33 = .ok (.getfield 19, 3) := by decide +kernel
theorem dX4_restore_36 : decode cX4_restore 36 = .ok (.iload_n 1, 1) := by decide +kernel
theorem dX4_restore_37 : decode cX4_restore 37 = .ok (.iaload, 1) := by decide +kernel
theorem dX4_restore_38 : decode cX4_restore 38 = .ok (.iastore, 1) := by decide +kernel
theorem dX4_restore_39 : decode cX4_restore 39 = .ok (.iinc 1 1, 3) := by decide +kernel
theorem dX4_restore_42 : decode cX4_restore 42 = .ok (.goto (-22), 3) := by decide +kernel
theorem dX4_restore_45 : decode cX4_restore 45 = .ok (.aload_n 0, 1) := by decide +kernel
theorem dX4_restore_46 : decode cX4_restore 46 = .ok (.invokevirtual 81, 3) := by decide +kernel
theorem dX4_restore_49 : decode cX4_restore 49 = .ok (.ireturn, 1) := by decide +kernel
theorem dX4_come_0 : decode cX4_come 0 = .ok (.iload 4, 2) := by decide +kernel
theorem dX4_come_2 : decode cX4_come 2 = .ok (.invokestatic 89, 3) := by decide +kernel
theorem dX4_come_5 : decode cX4_come 5 = .ok (.ifCond .ne 5, 3) := by decide +kernel
theorem dX4_come_8 : decode cX4_come 8 = .ok (.iconst (-1), 1) := by decide +kernel
theorem dX4_come_9 : decode cX4_come 9 = .ok (.ireturn, 1) := by decide +kernel
theorem dX4_come_10 : decode cX4_come 10 = .ok (.iload_n 1, 1) := by decide +kernel
theorem dX4_come_11 : decode cX4_come 11 = .ok (.iconst 3, 1) := by decide +kernel
theorem dX4_come_12 : decode cX4_come 12 = .ok (.bipush 20, 2) := by decide +kernel
theorem dX4_come_14 : decode cX4_come 14 = .ok (.invokestatic 32, 3) := by decide +kernel
theorem dX4_come_17 : decode cX4_come 17 = .ok (.ifCond .eq 23, 3) := by decide +kernel
theorem dX4_come_20 : decode cX4_come 20 = .ok (.iload_n 2, 1) := by decide +kernel
theorem dX4_come_21 : decode cX4_come 21 = .ok (.iconst 5, 1) := by decide +kernel
theorem dX4_come_22 : decode cX4_come 22 = .ok (.bipush 40, 2) := by decide +kernel
theorem dX4_come_24 : decode cX4_come 24 = .ok (.invokestatic 32, 3) := by decide +kernel
theorem dX4_come_27 : decode cX4_come 27 = .ok (.ifCond .eq 13, 3) := by decide +kernel
theorem dX4_come_30 : decode cX4_come 30 = .ok (.iload_n 3, 1) := by decide +kernel
theorem dX4_come_31 : decode cX4_come 31 = .ok (.iconst 1, 1) := by decide +kernel
theorem dX4_come_32 : decode cX4_come 32 = .ok (.bipush 30, 2) := by decide +kernel
theorem dX4_come_34 : decode cX4_come 34 = .ok (.invokestatic 32, 3) := by decide +kernel
theorem dX4_come_37 : decode cX4_come 37 = .ok (.ifCond .ne 6, 3) := by decide +kernel
theorem dX4_come_40 : decode cX4_come 40 = .ok (.bipush (-2), 2) := by decide +kernel
theorem dX4_come_42 : decode cX4_come 42 = .ok (.ireturn, 1) := by decide +kernel
theorem dX4_come_43 : decode cX4_come 43 = .ok (.aload_n 0, 1) := by decide +kernel
theorem dX4_come_44 : decode cX4_come 44 = .ok (.invokevirtual 81, 3) := by decide +kernel
theorem dX4_come_47 : decode cX4_come 47 = .ok (.bipush 20, 2) := by decide +kernel
theorem dX4_come_49 : decode cX4_come 49 = .ok (.if_icmp .ne 6, 3) := by decide +kernel
theorem dX4_come_52 : decode cX4_come 52 = .ok (.bipush (-3), 2) := by decide +kernel
theorem dX4_come_54 : decode cX4_come 54 = .ok (.ireturn, 1) := by decide +kernel
theorem dX4_come_55 : decode cX4_come 55 = .ok (.aload_n 0, 1) := by decide +kernel
theorem dX4_come_56 : decode cX4_come 56 = .ok (.aload_n 0, 1) := by decide +kernel
theorem dX4_come_57 : decode cX4_come 57 = .ok (.getfield 7, 3) := by decide +kernel
theorem dX4_come_60 : decode cX4_come 60 = .ok (.invokevirtual 85, 3) := by decide +kernel
theorem dX4_come_63 : decode cX4_come 63 = .ok (.iconst 0, 1) := by decide +kernel
theorem dX4_come_64 : decode cX4_come 64 = .ok (.istore 5, 2) := by decide +kernel
theorem dX4_come_66 : decode cX4_come 66 = .ok (.aload_n 0, 1) := by decide +kernel
theorem dX4_come_67 : decode cX4_come 67 = .ok (.iload 5, 2) := by decide +kernel
theorem dX4_come_69 : decode cX4_come 69 = .ok (.iconst 0, 1) := by decide +kernel
theorem dX4_come_70 : decode cX4_come 70 = .ok (.invokevirtual 36, 3) := by decide +kernel
theorem dX4_come_73 : decode cX4_come 73 = .ok (.iconst 1, 1) := by decide +kernel
theorem dX4_come_74 : decode cX4_come 74 = .ok (.if_icmp .ne 9, 3) := by decide +kernel
theorem dX4_come_77 : decode cX4_come 77 = .ok (.iinc 5 1, 3) := by decide +kernel
theorem dX4_come_80 : decode cX4_come 80 = .ok (.goto (-14), 3) := by decide +kernel
theorem dX4_come_83 : decode cX4_come 83 = .ok (.aload_n 0, 1) := by decide +kernel
theorem dX4_come_84 : decode cX4_come 84 = .ok (.iload 5, 2) := by decide +kernel
theorem dX4_come_86 : decode cX4_come 86 = .ok (.iconst 0, 1) := by decide +kernel
theorem dX4_come_87 : decode cX4_come 87 = .ok (.iconst 1, 1) := by decide +kernel
theorem dX4_come_88 : decode cX4_come 88 = .ok (.invokevirtual 70, 3) := by decide +kernel
theorem dX4_come_91 : decode cX4_come 91 = .ok (.aload_n 0, 1) := by decide +kernel
theorem dX4_come_92 : decode cX4_come 92 = .ok (.iload 5, 2) := by decide +kernel
theorem dX4_come_94 : decode cX4_come 94 = .ok (.iconst 1, 1) := by decide +kernel
theorem dX4_come_95 : decode cX4_come 95 = .ok (.iload_n 1, 1) := by decide +kernel
theorem dX4_come_96 : decode cX4_come 96 = .ok (.invokevirtual 70, 3) := by decide +kernel
theorem dX4_come_99 : decode cX4_come 99 = .ok (.aload_n 0, 1) := by decide +kernel
theorem dX4_come_100 : decode cX4_come 100 = .ok (.iload 5, 2) := by decide +kernel
theorem dX4_come_102 : decode cX4_come 102 = .ok (.iconst 2, 1) := by decide +kernel
theorem dX4_come_103 : decode cX4_come 103 = .ok (.iload_n 2, 1) := by decide +kernel
theorem dX4_come_104 : decode cX4_come 104 = .ok (.invokevirtual 70, 3) := by decide +kernel
theorem dX4_come_107 : decode cX4_come 107 = .ok (.aload_n 0, 1) := by decide +kernel
theorem dX4_come_108 : decode cX4_come 108 = .ok (.iload 5, 2) := by decide +kernel
theorem dX4_come_110 : decode cX4_come 110 = .ok (.iconst 3, 1) := by decide +kernel
theorem dX4_come_111 : decode cX4_come 111 = .ok (.iload_n 3, 1) := by decide +kernel
theorem dX4_come_112 : decode cX4_come 112 = .ok (.invokevirtual 70, 3) := by decide +kernel
theorem dX4_come_115 : decode cX4_come 115 = .ok (.aload_n 0, 1) := by decide +kernel
theorem dX4_come_116 : decode cX4_come 116 = .ok (.iload 5, 2) := by decide +kernel
theorem dX4_come_118 : decode cX4_come 118 = .ok (.iconst 4, 1) := by decide +kernel
theorem dX4_come_119 : decode cX4_come 119 = .ok (.iload 4, 2) := by decide +kernel
theorem dX4_come_121 : decode cX4_come 121 = .ok (.invokevirtual 70, 3) := by decide +kernel
theorem dX4_come_124 : decode cX4_come 124 = .ok (.aload_n 0, 1) := by decide +kernel
theorem dX4_come_125 : decode cX4_come 125 = .ok (.iload 5, 2) := by decide +kernel
theorem dX4_come_127 : decode cX4_come 127 = .ok (.iconst 5, 1) := by decide +kernel
theorem dX4_come_128 : decode cX4_come 128 = .ok (.bipush (-5), 2) := by decide +kernel
theorem dX4_come_130 : decode cX4_come 130 = .ok (.invokevirtual 70, 3) := by decide +kernel
theorem dX4_come_133 : decode cX4_come 133 = .ok (.aload_n 0, 1) := by decide +kernel
theorem dX4_come_134 : decode cX4_come 134 = .ok (.iload 5, 2) := by decide +kernel
theorem dX4_come_136 : decode cX4_come 136 = .ok (.bipush 6, 2) := by decide +kernel
theorem dX4_come_138 : decode cX4_come 138 = .ok (.bipush (-5), 2) := by decide +kernel
theorem dX4_come_140 : decode cX4_come 140 = .ok (.invokevirtual 70, 3) := by decide +kernel
theorem dX4_come_143 : decode cX4_come 143 = .ok (.aload_n 0, 1) := by decide +kernel
theorem dX4_come_144 : decode cX4_come 144 = .ok (.iload 5, 2) := by decide +kernel
theorem dX4_come_146 : decode cX4_come 146 = .ok (.bipush 7, 2) := by decide +kernel
theorem dX4_come_148 : decode cX4_come 148 = .ok (.bipush (-5), 2) := by decide +kernel
theorem dX4_come_150 : decode cX4_come 150 = .ok (.invokevirtual 70, 3) := by decide +kernel
theorem dX4_come_153 : decode cX4_come 153 = .ok (.aload_n 0, 1) := by decide +kernel
theorem dX4_come_154 : decode cX4_come 154 = .ok (.iload 5, 2) := by decide +kernel
theorem dX4_come_156 : decode cX4_come 156 = .ok (.bipush 8, 2) := by decide +kernel
theorem dX4_come_158 : decode cX4_come 158 = .ok (.iconst 0, 1) := by decide +kernel
theorem dX4_come_159 : decode cX4_come 159 = .ok (.invokevirtual 70, 3) := by decide +kernel
theorem dX4_come_162 : decode cX4_come 162 = .ok (.aload_n 0, 1) := by decide +kernel
theorem dX4_come_163 : decode cX4_come 163 = .ok (.iload 5, 2) := by decide +kernel
theorem dX4_come_165 : decode cX4_come 165 = .ok (.bipush 9, 2) := by decide +kernel
theorem dX4_come_167 : decode cX4_come 167 = .ok (.iconst 0, 1) := by decide +kernel
theorem dX4_come_168 : decode cX4_come 168 = .ok (.invokevirtual 70, 3) := by decide +kernel
theorem dX4_come_171 : decode cX4_come 171 = .ok (.aload_n 0, 1) := by decide +kernel
theorem dX4_come_172 : decode cX4_come 172 = .ok (.iload 5, 2) := by decide +kernel
theorem dX4_come_174 : decode cX4_come 174 = .ok (.bipush 10, 2) := by decide +kernel
theorem dX4_come_176 : decode cX4_come 176 = .ok (.iconst 0, 1) := by decide +kernel
theorem dX4_come_177 : decode cX4_come 177 = .ok (.invokevirtual 70, 3) := by decide +kernel
theorem dX4_come_180 : decode cX4_come 180 = .ok (.iload 5, 2) := by decide +kernel
theorem dX4_come_182 : decode cX4_come 182 = .ok (.ireturn, 1) := by decide +kernel
theorem dX4_goAway_0 : decode cX4_goAway 0 = .ok (.aload_n 0, 1) := by decide +kernel
theorem dX4_goAway_1 : decode cX4_goAway 1 = .ok (.iload_n 1, 1) := by decide +kernel
theorem dX4_goAway_2 : decode cX4_goAway 2 = .ok (.invokevirtual 92, 3) := by decide +kernel
theorem dX4_goAway_5 : decode cX4_goAway 5 = .ok (.ifCond .ne 5, 3) := by decide +kernel
theorem dX4_goAway_8 : decode cX4_goAway 8 = .ok (.iconst (-1), 1) := by decide +kernel
theorem dX4_goAway_9 : decode cX4_goAway 9 = .ok (.ireturn, 1) := by decide +kernel
theorem dX4_goAway_10 : decode cX4_goAway 10 = .ok (.aload_n 0, 1) := by decide +kernel
theorem dX4_goAway_11 : decode cX4_goAway 11 = .ok (.iload_n 1, 1) := by decide +kernel
theorem dX4_goAway_12 : decode cX4_goAway 12 = .ok (.invokevirtual 40, 3) := by decide +kernel
theorem dX4_goAway_15 : decode cX4_goAway 15 = .ok (.ifCond .ne 13, 3) := by decide +kernel
theorem dX4_goAway_18 : decode cX4_goAway 18 = .ok (.aload_n 0, 1) := by decide +kernel
theorem dX4_goAway_19 : decode cX4_goAway 19 = .ok (.iload_n 1, 1) := by decide +kernel
theorem dX4_goAway_20 : decode cX4_goAway 20 = .ok (.bipush 7, 2) := by decide +kernel
theorem dX4_goAway_22 : decode cX4_goAway 22 = .ok (.invokevirtual 36, 3) := by decide +kernel
theorem dX4_goAway_25 : decode cX4_goAway 25 = .ok (.ifCond .lt 6, 3) := by decide +kernel
theorem dX4_goAway_28 : decode cX4_goAway 28 = .ok (.bipush (-4), 2) := by decide +kernel
theorem dX4_goAway_30 : decode cX4_goAway 30 = .ok (.ireturn, 1) := by decide +kernel
theorem dX4_goAway_31 : decode cX4_goAway 31 = .ok (.aload_n 0, 1) := by decide +kernel
theorem dX4_goAway_32 : decode cX4_goAway 32 = .ok (.aload_n 0, 1) := by decide +kernel
theorem dX4_goAway_33 : decode cX4_goAway 33 = .ok (.getfield 7, 3) := by decide +kernel
theorem dX4_goAway_36 : decode cX4_goAway 36 = .ok (.invokevirtual 85, 3) := by decide +kernel
theorem dX4_goAway_39 : decode cX4_goAway 39 = .ok (.aload_n 0, 1) := by decide +kernel
theorem dX4_goAway_40 : decode cX4_goAway 40 = .ok (.iload_n 1, 1) := by decide +kernel
theorem dX4_goAway_41 : decode cX4_goAway 41 = .ok (.iconst 0, 1) := by decide +kernel
theorem dX4_goAway_42 : decode cX4_goAway 42 = .ok (.iconst 0, 1) := by decide +kernel
theorem dX4_goAway_43 : decode cX4_goAway 43 = .ok (.invokevirtual 70, 3) := by decide +kernel
theorem dX4_goAway_46 : decode cX4_goAway 46 = .ok (.aload_n 0, 1) := by decide +kernel
theorem dX4_goAway_47 : decode cX4_goAway 47 = .ok (.invokevirtual 81, 3) := by decide +kernel
theorem dX4_goAway_50 : decode cX4_goAway 50 = .ok (.ireturn, 1) := by decide +kernel
theorem dX4_change_0 : decode cX4_change 0 = .ok (.aload_n 0, 1) := by decide +kernel
theorem dX4_change_1 : decode cX4_change 1 = .ok (.getfield 7, 3) := by decide +kernel
theorem dX4_change_4 : decode cX4_change 4 = .ok (.iload_n 1, 1) := by decide +kernel
theorem dX4_change_5 : decode cX4_change 5 = .ok (.iaload, 1) := by decide +kernel
theorem dX4_change_6 : decode cX4_change 6 = .ok (.iload_n 2, 1) := by decide +kernel
theorem dX4_change_7 : decode cX4_change 7 = .ok (.if_icmp .ne 6, 3) := by decide +kernel
theorem dX4_change_10 : decode cX4_change 10 = .ok (.bipush (-5), 2) := by decide +kernel
theorem dX4_change_12 : decode cX4_change 12 = .ok (.ireturn, 1) := by decide +kernel
theorem dX4_change_13 : decode cX4_change 13 = .ok (.aload_n 0, 1) := by decide +kernel
theorem dX4_change_14 : decode cX4_change 14 = .ok (.aload_n 0, 1) := by decide +kernel
theorem dX4_change_15 : decode cX4_change 15 = .ok (.getfield 7, 3) := by decide +kernel
theorem dX4_change_18 : decode cX4_change 18 = .ok (.invokevirtual 85, 3) := by decide +kernel
theorem dX4_change_21 : decode cX4_change 21 = .ok (.aload_n 0, 1) := by decide +kernel
theorem dX4_change_22 : decode cX4_change 22 = .ok (.getfield 7, 3) := by decide +kernel
theorem dX4_change_25 : decode cX4_change 25 = .ok (.iload_n 1, 1) := by decide +kernel
theorem dX4_change_26 : decode cX4_change 26 = .ok (.iaload, 1) := by decide +kernel
theorem dX4_change_27 : decode cX4_change 27 = .ok (.istore_n 3, 1) := by decide +kernel
theorem dX4_change_28 : decode cX4_change 28 = .ok (.aload_n 0, 1) := by decide +kernel
theorem dX4_change_29 : decode cX4_change 29 = .ok (.getfield 7, 3) := by decide +kernel
theorem dX4_change_32 : decode cX4_change 32 = .ok (.iload_n 1, 1) := by decide +kernel
theorem dX4_change_33 : decode cX4_change 33 = .ok (.iload_n 2, 1) := by decide +kernel
theorem dX4_change_34 : decode cX4_change 34 = .ok (.iastore, 1) := by decide +kernel
theorem dX4_change_35 : decode cX4_change 35 = .ok (.iload_n 3, 1) := by decide +kernel
theorem dX4_change_36 : decode cX4_change 36 = .ok (.ireturn, 1) := by decide +kernel
theorem dX4_setCradles_0 : decode cX4_setCradles 0 = .ok (.iload_n 1, 1) := by decide +kernel
theorem dX4_setCradles_1 : decode cX4_setCradles 1 = .ok (.invokestatic 89, 3) := by decide +kernel
theorem dX4_setCradles_4 : decode cX4_setCradles 4 = .ok (.ifCond .ne 5, 3) := by decide +kernel
theorem dX4_setCradles_7 : decode cX4_setCradles 7 = .ok (.iconst (-1), 1) := by decide +kernel
theorem dX4_setCradles_8 : decode cX4_setCradles 8 = .ok (.ireturn, 1) := by decide +kernel
theorem dX4_setCradles_9 : decode cX4_setCradles 9 = .ok (.iload_n 2, 1) := by decide +kernel
theorem dX4_setCradles_10 : decode cX4_setCradles 10 = .ok (.iconst 0, 1) := by decide +kernel
theorem dX4_setCradles_11 : decode cX4_setCradles 11 = .ok (.bipush 9, 2) := by decide +kernel
theorem dX4_setCradles_13 : decode cX4_setCradles 13 = .ok (.invokestatic 32, 3) := by decide +kernel
theorem dX4_setCradles_16 : decode cX4_setCradles 16 = .ok (.ifCond .ne 6, 3) := by decide +kernel
theorem dX4_setCradles_19 : decode cX4_setCradles 19 = .ok (.bipush (-2), 2) := by decide +kernel
theorem dX4_setCradles_21 : decode cX4_setCradles 21 = .ok (.ireturn, 1) := by decide +kernel
theorem dX4_setCradles_22 : decode cX4_setCradles 22 = .ok (.aload_n 0, 1) := by decide +kernel
theorem dX4_setCradles_23 : decode cX4_setCradles 23 = .ok (.iload_n 1, 1) := by decide +kernel
theorem dX4_setCradles_24 : decode cX4_setCradles 24 = .ok (.invokevirtual 44, 3) := by decide +kernel
theorem dX4_setCradles_27 : decode cX4_setCradles 27 = .ok (.iload_n 2, 1) := by decide +kernel
theorem dX4_setCradles_28 : decode cX4_setCradles 28 = .ok (.if_icmp .le 8, 3) := by decide +kernel
theorem dX4_setCradles_31 : decode cX4_setCradles 31 = .ok (.bipush (-4), 2) := by decide +kernel
theorem dX4_setCradles_33 : decode cX4_setCradles 33 = .ok (.goto 12, 3) := by decide +kernel
theorem dX4_setCradles_36 : decode cX4_setCradles 36 = .ok (.aload_n 0, 1) := by decide +kernel
theorem dX4_setCradles_37 : decode cX4_setCradles 37 = .ok (.bipush 8, 2) := by decide +kernel
theorem dX4_setCradles_39 : decode cX4_setCradles 39 = .ok (.iload_n 1, 1) := by decide +kernel
theorem dX4_setCradles_40 : decode cX4_setCradles 40 = .ok (.iadd, 1) := by decide +kernel
theorem dX4_setCradles_41 : decode cX4_setCradles 41 = .ok (.iload_n 2, 1) := by decide +kernel
theorem dX4_setCradles_42 : decode cX4_setCradles 42 = .ok (.invokevirtual 95, 3) := by decide +kernel
theorem dX4_setCradles_45 : decode cX4_setCradles 45 = .ok (.ireturn, 1) := by decide +kernel
theorem dX4_setRow_0 : decode cX4_setRow 0 = .ok (.iload_n 1, 1) := by decide +kernel
theorem dX4_setRow_1 : decode cX4_setRow 1 = .ok (.invokestatic 98, 3) := by decide +kernel
theorem dX4_setRow_4 : decode cX4_setRow 4 = .ok (.ifCond .ne 5, 3) := by decide +kernel
theorem dX4_setRow_7 : decode cX4_setRow 7 = .ok (.iconst (-1), 1) := by decide +kernel
theorem dX4_setRow_8 : decode cX4_setRow 8 = .ok (.ireturn, 1) := by decide +kernel
theorem dX4_setRow_9 : decode cX4_setRow 9 = .ok (.iload_n 2, 1) := by decide +kernel
theorem dX4_setRow_10 : decode cX4_setRow 10 = .ok (.bipush 10, 2) := by decide +kernel
theorem dX4_setRow_12 : decode cX4_setRow 12 = .ok (.bipush 60, 2) := by decide +kernel
theorem dX4_setRow_14 : decode cX4_setRow 14 = .ok (.invokestatic 32, 3) := by decide +kernel
theorem dX4_setRow_17 : decode cX4_setRow 17 = .ok (.ifCond .ne 6, 3) := by decide +kernel
theorem dX4_setRow_20 : decode cX4_setRow 20 = .ok (.bipush (-2), 2) := by decide +kernel
theorem dX4_setRow_22 : decode cX4_setRow 22 = .ok (.ireturn, 1) := by decide +kernel
theorem dX4_setRow_23 : decode cX4_setRow 23 = .ok (.aload_n 0, 1) := by decide +kernel
theorem dX4_setRow_24 : decode cX4_setRow 24 = .ok (.iload_n 1, 1) := by decide +kernel
theorem dX4_setRow_25 : decode cX4_setRow 25 = .ok (.invokevirtual 58, 3) := by decide +kernel
theorem dX4_setRow_28 : decode cX4_setRow 28 = .ok (.iload_n 2, 1) := by decide +kernel
theorem dX4_setRow_29 : decode cX4_setRow 29 = .ok (.if_icmp .le 8, 3) := by decide +kernel
theorem dX4_setRow_32 : decode cX4_setRow 32 = .ok (.bipush (-4), 2) := by decide +kernel
theorem dX4_setRow_34 : decode cX4_setRow 34 = .ok (.goto 12, 3) := by decide +kernel
theorem dX4_setRow_37 : decode cX4_setRow 37 = .ok (.aload_n 0, 1) := by decide +kernel
theorem dX4_setRow_38 : decode cX4_setRow 38 = .ok (.bipush 11, 2) := by decide +kernel
theorem dX4_setRow_40 : decode cX4_setRow 40 = .ok (.iload_n 1, 1) := by decide +kernel
theorem dX4_setRow_41 : decode cX4_setRow 41 = .ok (.iadd, 1) := by decide +kernel
theorem dX4_setRow_42 : decode cX4_setRow 42 = .ok (.iload_n 2, 1) := by decide +kernel
theorem dX4_setRow_43 : decode cX4_setRow 43 = .ok (.invokevirtual 95, 3) := by decide +kernel
theorem dX4_setRow_46 : decode cX4_setRow 46 = .ok (.ireturn, 1) := by decide +kernel
theorem dX4_set_0 : decode cX4_set 0 = .ok (.iload_n 1, 1) := by decide +kernel
theorem dX4_set_1 : decode cX4_set 1 = .ok (.iconst 0, 1) := by decide +kernel
theorem dX4_set_2 : decode cX4_set 2 = .ok (.iconst 2, 1) := by decide +kernel
theorem dX4_set_3 : decode cX4_set 3 = .ok (.invokestatic 32, 3) := by decide +kernel
theorem dX4_set_6 : decode cX4_set 6 = .ok (.ifCond .ne 5, 3) := by decide +kernel
theorem dX4_set_9 : decode cX4_set 9 = .ok (.iconst (-1), 1) := by decide +kernel
theorem dX4_set_10 : decode cX4_set 10 = .ok (.ireturn, 1) := by decide +kernel
theorem dX4_set_11 : decode cX4_set 11 = .ok (.iload_n 1, 1) := by decide +kernel
theorem dX4_set_12 : decode cX4_set 12 = .ok (.ifCond .ne 13, 3) := by decide +kernel
theorem dX4_set_15 : decode cX4_set 15 = .ok (.iload_n 2, 1) := by decide +kernel
theorem dX4_set_16 : decode cX4_set 16 = .ok (.iconst 0, 1) := by decide +kernel
theorem dX4_set_17 : decode cX4_set 17 = .ok (.bipush 9, 2) := by decide +kernel
theorem dX4_set_19 : decode cX4_set 19 = .ok (.invokestatic 32, 3) := by decide +kernel
theorem dX4_set_22 : decode cX4_set 22 = .ok (.goto 25, 3) := by decide +kernel
theorem dX4_set_25 : decode cX4_set 25 = .ok (.iload_n 1, 1) := by decide +kernel
theorem dX4_set_26 : decode cX4_set 26 = .ok (.iconst 1, 1) := by decide +kernel
theorem dX4_set_27 : decode cX4_set 27 = .ok (.if_icmp .ne 13, 3) := by decide +kernel
theorem dX4_set_30 : decode cX4_set 30 = .ok (.iload_n 2, 1) := by decide +kernel
theorem dX4_set_31 : decode cX4_set 31 = .ok (.iconst 1, 1) := by decide +kernel
theorem dX4_set_32 : decode cX4_set 32 = .ok (.bipush 9, 2) := by decide +kernel
theorem dX4_set_34 : decode cX4_set 34 = .ok (.invokestatic 32, 3) := by decide +kernel
theorem dX4_set_37 : decode cX4_set 37 = .ok (.goto 10, 3) := by decide +kernel
theorem dX4_set_40 : decode cX4_set 40 = .ok (.iload_n 2, 1) := by decide +kernel
theorem dX4_set_41 : decode cX4_set 41 = .ok (.iconst 1, 1) := by decide +kernel
theorem dX4_set_42 : decode cX4_set 42 = .ok (.bipush 30, 2) := by decide +kernel
theorem dX4_set_44 : decode cX4_set 44 = .ok (.invokestatic 32, 3) := by decide +kernel
theorem dX4_set_47 : decode cX4_set 47 = .ok (.istore_n 3, 1) := by decide +kernel
theorem dX4_set_48 : decode cX4_set 48 = .ok (.iload_n 3, 1) := by decide +kernel
theorem dX4_set_49 : decode cX4_set 49 = .ok (.ifCond .eq 14, 3) := by decide +kernel
theorem dX4_set_52 : decode cX4_set 52 = .ok (.aload_n 0, 1) := by decide +kernel
theorem dX4_set_53 : decode cX4_set 53 = .ok (.iconst 2, 1) := by decide +kernel
theorem dX4_set_54 : decode cX4_set 54 = .ok (.iload_n 1, 1) := by decide +kernel
theorem dX4_set_55 : decode cX4_set 55 = .ok (.iadd, 1) := by decide +kernel
theorem dX4_set_56 : decode cX4_set 56 = .ok (.iload_n 2, 1) := by decide +kernel
theorem dX4_set_57 : decode cX4_set 57 = .ok (.invokevirtual 95, 3) := by decide +kernel
theorem dX4_set_60 : decode cX4_set 60 = .ok (.goto 5, 3) := by decide +kernel
theorem dX4_set_63 : decode cX4_set 63 = .ok (.bipush (-2), 2) := by decide +kernel
theorem dX4_set_65 : decode cX4_set 65 = .ok (.ireturn, 1) := by decide +kernel
theorem dX4_whyNoLift_0 : decode cX4_whyNoLift 0 = .ok (.aload_n 0, 1) := by decide +kernel
theorem dX4_whyNoLift_1 : decode cX4_whyNoLift 1 = .ok (.iload_n 1, 1) := by decide +kernel
theorem dX4_whyNoLift_2 : decode cX4_whyNoLift 2 = .ok (.invokevirtual 40, 3) := by decide +kernel
theorem dX4_whyNoLift_5 : decode cX4_whyNoLift 5 = .ok (.ifCond .eq 5, 3) := by decide +kernel
theorem dX4_whyNoLift_8 : decode cX4_whyNoLift 8 = .ok (.iconst 1, 1) := by decide +kernel
theorem dX4_whyNoLift_9 : decode cX4_whyNoLift 9 = .ok (.ireturn, 1) := by decide +kernel
theorem dX4_whyNoLift_10 : decode cX4_whyNoLift 10 = .ok (.aload_n 0, 1) := by decide +kernel
theorem dX4_whyNoLift_11 : decode cX4_whyNoLift 11 = .ok (.aload_n 0, 1) := by decide +kernel
theorem dX4_whyNoLift_12 : decode cX4_whyNoLift 12 = .ok (.getfield 7, 3) := by decide +kernel
theorem dX4_whyNoLift_15 : decode cX4_whyNoLift 15 = .ok (.iconst 0, 1) := by decide +kernel
theorem dX4_whyNoLift_16 : decode cX4_whyNoLift 16 = .ok (.iaload, 1) := by decide +kernel
theorem dX4_whyNoLift_17 : decode cX4_whyNoLift 17 = .ok (.invokevirtual 101, 3) := by decide +kernel
theorem dX4_whyNoLift_20 : decode cX4_whyNoLift 20 = .ok (.aload_n 0, 1) := by decide +kernel
theorem dX4_whyNoLift_21 : decode cX4_whyNoLift 21 = .ok (.iload_n 1, 1) := by decide +kernel
theorem dX4_whyNoLift_22 : decode cX4_whyNoLift 22 = .ok (.iconst 2, 1) := by decide +kernel
theorem dX4_whyNoLift_23 : decode cX4_whyNoLift 23 = .ok (.invokevirtual 36, 3) := by decide +kernel
theorem dX4_whyNoLift_26 : decode cX4_whyNoLift 26 = .ok (.if_icmp .ge 5, 3) := by decide +kernel
theorem dX4_whyNoLift_29 : decode cX4_whyNoLift 29 = .ok (.iconst 2, 1) := by decide +kernel
theorem dX4_whyNoLift_30 : decode cX4_whyNoLift 30 = .ok (.ireturn, 1) := by decide +kernel
theorem dX4_whyNoLift_31 : decode cX4_whyNoLift 31 = .ok (.aload_n 0, 1) := by decide +kernel
theorem dX4_whyNoLift_32 : decode cX4_whyNoLift 32 = .ok (.iload_n 1, 1) := by decide +kernel
theorem dX4_whyNoLift_33 : decode cX4_whyNoLift 33 = .ok (.iconst 3, 1) := by decide +kernel
theorem dX4_whyNoLift_34 : decode cX4_whyNoLift 34 = .ok (.invokevirtual 36, 3) := by decide +kernel
theorem dX4_whyNoLift_37 : decode cX4_whyNoLift 37 = .ok (.aload_n 0, 1) := by decide +kernel
theorem dX4_whyNoLift_38 : decode cX4_whyNoLift 38 = .ok (.getfield 7, 3) := by decide +kernel
theorem dX4_whyNoLift_41 : decode cX4_whyNoLift 41 = .ok (.iconst 4, 1) := by decide +kernel
theorem dX4_whyNoLift_42 : decode cX4_whyNoLift 42 = .ok (.iaload, 1) := by decide +kernel
theorem dX4_whyNoLift_43 : decode cX4_whyNoLift 43 = .ok (.if_icmp .le 5, 3) := by decide +kernel
theorem dX4_whyNoLift_46 : decode cX4_whyNoLift 46 = .ok (.iconst 3, 1) := by decide +kernel
theorem dX4_whyNoLift_47 : decode cX4_whyNoLift 47 = .ok (.ireturn, 1) := by decide +kernel
theorem dX4_whyNoLift_48 : decode cX4_whyNoLift 48 = .ok (.aload_n 0, 1) := by decide +kernel
theorem dX4_whyNoLift_49 : decode cX4_whyNoLift 49 = .ok (.iload_n 1, 1) := by decide +kernel
theorem dX4_whyNoLift_50 : decode cX4_whyNoLift 50 = .ok (.invokevirtual 104, 3) := by decide +kernel
theorem dX4_whyNoLift_53 : decode cX4_whyNoLift 53 = .ok (.bipush (-5), 2) := by decide +kernel
theorem dX4_whyNoLift_55 : decode cX4_whyNoLift 55 = .ok (.if_icmp .ne 5, 3) := by decide +kernel
theorem dX4_whyNoLift_58 : decode cX4_whyNoLift 58 = .ok (.iconst 4, 1) := by decide +kernel
theorem dX4_whyNoLift_59 : decode cX4_whyNoLift 59 = .ok (.ireturn, 1) := by decide +kernel
theorem dX4_whyNoLift_60 : decode cX4_whyNoLift 60 = .ok (.aload_n 0, 1) := by decide +kernel
theorem dX4_whyNoLift_61 : decode cX4_whyNoLift 61 = .ok (.iload_n 1, 1) := by decide +kernel
theorem dX4_whyNoLift_62 : decode cX4_whyNoLift 62 = .ok (.iload_n 2, 1) := by decide +kernel
theorem dX4_whyNoLift_63 : decode cX4_whyNoLift 63 = .ok (.invokevirtual 107, 3) := by decide +kernel
theorem dX4_whyNoLift_66 : decode cX4_whyNoLift 66 = .ok (.ifCond .ne 5, 3) := by decide +kernel
theorem dX4_whyNoLift_69 : decode cX4_whyNoLift 69 = .ok (.iconst 5, 1) := by decide +kernel
theorem dX4_whyNoLift_70 : decode cX4_whyNoLift 70 = .ok (.ireturn, 1) := by decide +kernel
theorem dX4_whyNoLift_71 : decode cX4_whyNoLift 71 = .ok (.aload_n 0, 1) := by decide +kernel
theorem dX4_whyNoLift_72 : decode cX4_whyNoLift 72 = .ok (.iload_n 1, 1) := by decide +kernel
theorem dX4_whyNoLift_73 : decode cX4_whyNoLift 73 = .ok (.iconst 1, 1) := by decide +kernel
theorem dX4_whyNoLift_74 : decode cX4_whyNoLift 74 = .ok (.invokevirtual 36, 3) := by decide +kernel
theorem dX4_whyNoLift_77 : decode cX4_whyNoLift 77 = .ok (.bipush 10, 2) := by decide +kernel
theorem dX4_whyNoLift_79 : decode cX4_whyNoLift 79 = .ok (.if_icmp .lt 18, 3) := by decide +kernel
theorem dX4_whyNoLift_82 : decode cX4_whyNoLift 82 = .ok (.aload_n 0, 1) := by decide +kernel
theorem dX4_whyNoLift_83 : decode cX4_whyNoLift 83 = .ok (.iload_n 1, 1) := by decide +kernel
theorem dX4_whyNoLift_84 : decode cX4_whyNoLift 84 = .ok (.bipush 7, 2) := by decide +kernel
theorem dX4_whyNoLift_86 : decode cX4_whyNoLift 86 = .ok (.invokevirtual 36, 3) := by decide +kernel
theorem dX4_whyNoLift_89 : decode cX4_whyNoLift 89 = .ok (.bipush (-5), 2) := by decide +kernel
theorem dX4_whyNoLift_91 : decode cX4_whyNoLift 91 = .ok (.if_icmp .ne 6, 3) := by decide +kernel
theorem dX4_whyNoLift_94 : decode cX4_whyNoLift 94 = .ok (.bipush 6, 2) := by decide +kernel
theorem dX4_whyNoLift_96 : decode cX4_whyNoLift 96 = .ok (.ireturn, 1) := by decide +kernel
theorem dX4_whyNoLift_97 : decode cX4_whyNoLift 97 = .ok (.aload_n 0, 1) := by decide +kernel
theorem dX4_whyNoLift_98 : decode cX4_whyNoLift 98 = .ok (.invokevirtual 110, 3) := by decide +kernel
theorem dX4_whyNoLift_101 : decode cX4_whyNoLift 101 = .ok (.ifCond .ne 8, 3) := by decide +kernel
theorem dX4_whyNoLift_104 : decode cX4_whyNoLift 104 = .ok (.bipush 7, 2) := by decide +kernel
theorem dX4_whyNoLift_106 : decode cX4_whyNoLift 106 = .ok (.goto 4, 3) := by decide +kernel
theorem dX4_whyNoLift_109 : decode cX4_whyNoLift 109 = .ok (.iconst 0, 1) := by decide +kernel
theorem dX4_whyNoLift_110 : decode cX4_whyNoLift 110 = .ok (.ireturn, 1) := by decide +kernel
theorem dX4_noLift_0 : decode cX4_noLift 0 = .ok (.aload_n 0, 1) := by decide +kernel
theorem dX4_noLift_1 : decode cX4_noLift 1 = .ok (.iload_n 1, 1) := by decide +kernel
theorem dX4_noLift_2 : decode cX4_noLift 2 = .ok (.invokevirtual 92, 3) := by decide +kernel
theorem dX4_noLift_5 : decode cX4_noLift 5 = .ok (.ifCond .eq 10, 3) := by decide +kernel
theorem dX4_noLift_8 : decode cX4_noLift 8 = .ok (.iload_n 2, 1) := by decide +kernel
theorem dX4_noLift_9 : decode cX4_noLift 9 = .ok (.invokestatic 98, 3) := by decide +kernel
theorem dX4_noLift_12 : decode cX4_noLift 12 = .ok (.ifCond .ne 5, 3) := by decide +kernel
theorem dX4_noLift_15 : decode cX4_noLift 15 = .ok (.iconst (-1), 1) := by decide +kernel
theorem dX4_noLift_16 : decode cX4_noLift 16 = .ok (.ireturn, 1) := by decide +kernel
theorem dX4_noLift_17 : decode cX4_noLift 17 = .ok (.aload_n 0, 1) := by decide +kernel
theorem dX4_noLift_18 : decode cX4_noLift 18 = .ok (.iload_n 1, 1) := by decide +kernel
theorem dX4_noLift_19 : decode cX4_noLift 19 = .ok (.iload_n 2, 1) := by decide +kernel
theorem dX4_noLift_20 : decode cX4_noLift 20 = .ok (.invokevirtual 113, 3) := by decide +kernel
theorem dX4_noLift_23 : decode cX4_noLift 23 = .ok (.istore_n 3, 1) := by decide +kernel
theorem dX4_noLift_24 : decode cX4_noLift 24 = .ok (.iload_n 3, 1) := by decide +kernel
theorem dX4_noLift_25 : decode cX4_noLift 25 = .ok (.ifCond .le 10, 3) := by decide +kernel
theorem dX4_noLift_28 : decode cX4_noLift 28 = .ok (.bipush (-10), 2) := by decide +kernel
theorem dX4_noLift_30 : decode cX4_noLift 30 = .ok (.iload_n 3, 1) := by decide +kernel
theorem dX4_noLift_31 : decode cX4_noLift 31 = .ok (.isub, 1) := by decide +kernel
theorem dX4_noLift_32 : decode cX4_noLift 32 = .ok (.goto 4, 3) := by decide +kernel
theorem dX4_noLift_35 : decode cX4_noLift 35 = .ok (.iconst 0, 1) := by decide +kernel
theorem dX4_noLift_36 : decode cX4_noLift 36 = .ok (.ireturn, 1) := by decide +kernel
theorem dX4_useCrane_0 : decode cX4_useCrane 0 = .ok (.aload_n 0, 1) := by decide +kernel
theorem dX4_useCrane_1 : decode cX4_useCrane 1 = .ok (.getfield 7, 3) := by decide +kernel
theorem dX4_useCrane_4 : decode cX4_useCrane 4 = .ok (.iconst 1, 1) := by decide +kernel
theorem dX4_useCrane_5 : decode cX4_useCrane 5 = .ok (.dup2, 1) := by decide +kernel
theorem dX4_useCrane_6 : decode cX4_useCrane 6 = .ok (.iaload, 1) := by decide +kernel
theorem dX4_useCrane_7 : decode cX4_useCrane 7 = .ok (.iconst 1, 1) := by decide +kernel
theorem dX4_useCrane_8 : decode cX4_useCrane 8 = .ok (.iadd, 1) := by decide +kernel
theorem dX4_useCrane_9 : decode cX4_useCrane 9 = .ok (.iastore, 1) := by decide +kernel
theorem dX4_useCrane_10 : decode cX4_useCrane 10 = .ok (.aload_n 0, 1) := by decide +kernel
theorem dX4_useCrane_11 : decode cX4_useCrane 11 = .ok (.getfield 7, 3) := by decide +kernel
theorem dX4_useCrane_14 : decode cX4_useCrane 14 = .ok (.iconst 5, 1) := by decide +kernel
theorem dX4_useCrane_15 : decode cX4_useCrane 15 = .ok (.dup2, 1) := by decide +kernel
theorem dX4_useCrane_16 : decode cX4_useCrane 16 = .ok (.iaload, 1) := by decide +kernel
theorem dX4_useCrane_17 : decode cX4_useCrane 17 = .ok (.iconst 1, 1) := by decide +kernel
theorem dX4_useCrane_18 : decode cX4_useCrane 18 = .ok (.iadd, 1) := by decide +kernel
theorem dX4_useCrane_19 : decode cX4_useCrane 19 = .ok (.iastore, 1) := by decide +kernel
theorem dX4_useCrane_20 : decode cX4_useCrane 20 = .ok (.return_, 1) := by decide +kernel
theorem dX4_doLift_0 : decode cX4_doLift 0 = .ok (.aload_n 0, 1) := by decide +kernel
theorem dX4_doLift_1 : decode cX4_doLift 1 = .ok (.iload_n 1, 1) := by decide +kernel
theorem dX4_doLift_2 : decode cX4_doLift 2 = .ok (.bipush 6, 2) := by decide +kernel
theorem dX4_doLift_4 : decode cX4_doLift 4 = .ok (.aload_n 0, 1) := by decide +kernel
theorem dX4_doLift_5 : decode cX4_doLift 5 = .ok (.iload_n 1, 1) := by decide +kernel
theorem dX4_doLift_6 : decode cX4_doLift 6 = .ok (.invokevirtual 104, 3) := by decide +kernel
theorem dX4_doLift_9 : decode cX4_doLift 9 = .ok (.invokevirtual 70, 3) := by decide +kernel
theorem dX4_doLift_12 : decode cX4_doLift 12 = .ok (.aload_n 0, 1) := by decide +kernel
theorem dX4_doLift_13 : decode cX4_doLift 13 = .ok (.iload_n 1, 1) := by decide +kernel
theorem dX4_doLift_14 : decode cX4_doLift 14 = .ok (.bipush 9, 2) := by decide +kernel
theorem dX4_doLift_16 : decode cX4_doLift 16 = .ok (.iconst 0, 1) := by decide +kernel
theorem dX4_doLift_17 : decode cX4_doLift 17 = .ok (.invokevirtual 70, 3) := by decide +kernel
theorem dX4_doLift_20 : decode cX4_doLift 20 = .ok (.aload_n 0, 1) := by decide +kernel
theorem dX4_doLift_21 : decode cX4_doLift 21 = .ok (.iload_n 1, 1) := by decide +kernel
theorem dX4_doLift_22 : decode cX4_doLift 22 = .ok (.bipush 10, 2) := by decide +kernel
theorem dX4_doLift_24 : decode cX4_doLift 24 = .ok (.aload_n 0, 1) := by decide +kernel
theorem dX4_doLift_25 : decode cX4_doLift 25 = .ok (.iload_n 1, 1) := by decide +kernel
theorem dX4_doLift_26 : decode cX4_doLift 26 = .ok (.bipush 10, 2) := by decide +kernel
theorem dX4_doLift_28 : decode cX4_doLift 28 = .ok (.invokevirtual 36, 3) := by decide +kernel
theorem dX4_doLift_31 : decode cX4_doLift 31 = .ok (.iconst 1, 1) := by decide +kernel
theorem dX4_doLift_32 : decode cX4_doLift 32 = .ok (.iadd, 1) := by decide +kernel
theorem dX4_doLift_33 : decode cX4_doLift 33 = .ok (.invokevirtual 70, 3) := by decide +kernel
theorem dX4_doLift_36 : decode cX4_doLift 36 = .ok (.aload_n 0, 1) := by decide +kernel
theorem dX4_doLift_37 : decode cX4_doLift 37 = .ok (.iload_n 1, 1) := by decide +kernel
theorem dX4_doLift_38 : decode cX4_doLift 38 = .ok (.iload_n 2, 1) := by decide +kernel
theorem dX4_doLift_39 : decode cX4_doLift 39 = .ok (.invokevirtual 116, 3) := by decide +kernel
theorem dX4_doLift_42 : decode cX4_doLift 42 = .ok (.aload_n 0, 1) := by decide +kernel
theorem dX4_doLift_43 : decode cX4_doLift 43 = .ok (.invokevirtual 120, 3) := by decide +kernel
theorem dX4_doLift_46 : decode cX4_doLift 46 = .ok (.aload_n 0, 1) := by decide +kernel
theorem dX4_doLift_47 : decode cX4_doLift 47 = .ok (.iload_n 2, 1) := by decide +kernel
theorem dX4_doLift_48 : decode cX4_doLift 48 = .ok (.invokevirtual 64, 3) := by decide +kernel
theorem dX4_doLift_51 : decode cX4_doLift 51 = .ok (.ireturn, 1) := by decide +kernel
theorem dX4_lift_0 : decode cX4_lift 0 = .ok (.aload_n 0, 1) := by decide +kernel
theorem dX4_lift_1 : decode cX4_lift 1 = .ok (.iload_n 1, 1) := by decide +kernel
theorem dX4_lift_2 : decode cX4_lift 2 = .ok (.iload_n 2, 1) := by decide +kernel
theorem dX4_lift_3 : decode cX4_lift 3 = .ok (.invokevirtual 123, 3) := by decide +kernel
theorem dX4_lift_6 : decode cX4_lift 6 = .ok (.istore_n 3, 1) := by decide +kernel
theorem dX4_lift_7 : decode cX4_lift 7 = .ok (.iload_n 3, 1) := by decide +kernel
theorem dX4_lift_8 : decode cX4_lift 8 = .ok (.ifCond .ge 5, 3) := by decide +kernel
theorem dX4_lift_11 : decode cX4_lift 11 = .ok (.iload_n 3, 1) := by decide +kernel
theorem dX4_lift_12 : decode cX4_lift 12 = .ok (.ireturn, 1) := by decide +kernel
theorem dX4_lift_13 : decode cX4_lift 13 = .ok (.aload_n 0, 1) := by decide +kernel
theorem dX4_lift_14 : decode cX4_lift 14 = .ok (.aload_n 0, 1) := by decide +kernel
theorem dX4_lift_15 : decode cX4_lift 15 = .ok (.getfield 7, 3) := by decide +kernel
theorem dX4_lift_18 : decode cX4_lift 18 = .ok (.invokevirtual 85, 3) := by decide +kernel
theorem dX4_lift_21 : decode cX4_lift 21 = .ok (.aload_n 0, 1) := by decide +kernel
theorem dX4_lift_22 : decode cX4_lift 22 = .ok (.iload_n 1, 1) := by decide +kernel
theorem dX4_lift_23 : decode cX4_lift 23 = .ok (.iload_n 2, 1) := by decide +kernel
theorem dX4_lift_24 : decode cX4_lift 24 = .ok (.invokevirtual 126, 3) := by decide +kernel
theorem dX4_lift_27 : decode cX4_lift 27 = .ok (.ireturn, 1) := by decide +kernel
theorem dX4_whyNoLaunch_0 : decode cX4_whyNoLaunch 0 = .ok (.aload_n 0, 1) := by decide +kernel
theorem dX4_whyNoLaunch_1 : decode cX4_whyNoLaunch 1 = .ok (.iload_n 1, 1) := by decide +kernel
theorem dX4_whyNoLaunch_2 : decode cX4_whyNoLaunch 2 = .ok (.invokevirtual 40, 3) := by decide +kernel
theorem dX4_whyNoLaunch_5 : decode cX4_whyNoLaunch 5 = .ok (.ifCond .ne 5, 3) := by decide +kernel
theorem dX4_whyNoLaunch_8 : decode cX4_whyNoLaunch 8 = .ok (.iconst 1, 1) := by decide +kernel
theorem dX4_whyNoLaunch_9 : decode cX4_whyNoLaunch 9 = .ok (.ireturn, 1) := by decide +kernel
theorem dX4_whyNoLaunch_10 : decode cX4_whyNoLaunch 10 = .ok (.aload_n 0, 1) := by decide +kernel
theorem dX4_whyNoLaunch_11 : decode cX4_whyNoLaunch 11 = .ok (.iload_n 1, 1) := by decide +kernel
theorem dX4_whyNoLaunch_12 : decode cX4_whyNoLaunch 12 = .ok (.bipush 8, 2) := by decide +kernel
theorem dX4_whyNoLaunch_14 : decode cX4_whyNoLaunch 14 = .ok (.invokevirtual 36, 3) := by decide +kernel
theorem dX4_whyNoLaunch_17 : decode cX4_whyNoLaunch 17 = .ok (.ifCond .le 5, 3) := by decide +kernel
theorem dX4_whyNoLaunch_20 : decode cX4_whyNoLaunch 20 = .ok (.iconst 2, 1) := by decide +kernel
theorem dX4_whyNoLaunch_21 : decode cX4_whyNoLaunch 21 = .ok (.ireturn, 1) := by decide +kernel
theorem dX4_whyNoLaunch_22 : decode cX4_whyNoLaunch 22 = .ok (.aload_n 0, 1) := by decide +kernel
theorem dX4_whyNoLaunch_23 : decode cX4_whyNoLaunch 23 = .ok (.iload_n 1, 1) := by decide +kernel
theorem dX4_whyNoLaunch_24 : decode cX4_whyNoLaunch 24 = .ok (.invokevirtual 129, 3) := by decide +kernel
theorem dX4_whyNoLaunch_27 : decode cX4_whyNoLaunch 27 = .ok (.ifCond .le 5, 3) := by decide +kernel
theorem dX4_whyNoLaunch_30 : decode cX4_whyNoLaunch 30 = .ok (.iconst 3, 1) := by decide +kernel
theorem dX4_whyNoLaunch_31 : decode cX4_whyNoLaunch 31 = .ok (.ireturn, 1) := by decide +kernel
theorem dX4_whyNoLaunch_32 : decode cX4_whyNoLaunch 32 = .ok (.aload_n 0, 1) := by decide +kernel
theorem dX4_whyNoLaunch_33 : decode cX4_whyNoLaunch 33 = .ok (.aload_n 0, 1) := by decide +kernel
theorem dX4_whyNoLaunch_34 : decode cX4_whyNoLaunch 34 = .ok (.getfield 7, 3) := by decide +kernel
theorem dX4_whyNoLaunch_37 : decode cX4_whyNoLaunch 37 = .ok (.iconst 0, 1) := by decide +kernel
theorem dX4_whyNoLaunch_38 : decode cX4_whyNoLaunch 38 = .ok (.iaload, 1) := by decide +kernel
theorem dX4_whyNoLaunch_39 : decode cX4_whyNoLaunch 39 = .ok (.invokevirtual 101, 3) := by decide +kernel
theorem dX4_whyNoLaunch_42 : decode cX4_whyNoLaunch 42 = .ok (.aload_n 0, 1) := by decide +kernel
theorem dX4_whyNoLaunch_43 : decode cX4_whyNoLaunch 43 = .ok (.iload_n 1, 1) := by decide +kernel
theorem dX4_whyNoLaunch_44 : decode cX4_whyNoLaunch 44 = .ok (.iconst 2, 1) := by decide +kernel
theorem dX4_whyNoLaunch_45 : decode cX4_whyNoLaunch 45 = .ok (.invokevirtual 36, 3) := by decide +kernel
theorem dX4_whyNoLaunch_48 : decode cX4_whyNoLaunch 48 = .ok (.if_icmp .ge 5, 3) := by decide +kernel
theorem dX4_whyNoLaunch_51 : decode cX4_whyNoLaunch 51 = .ok (.iconst 4, 1) := by decide +kernel
theorem dX4_whyNoLaunch_52 : decode cX4_whyNoLaunch 52 = .ok (.ireturn, 1) := by decide +kernel
theorem dX4_whyNoLaunch_53 : decode cX4_whyNoLaunch 53 = .ok (.aload_n 0, 1) := by decide +kernel
theorem dX4_whyNoLaunch_54 : decode cX4_whyNoLaunch 54 = .ok (.iload_n 1, 1) := by decide +kernel
theorem dX4_whyNoLaunch_55 : decode cX4_whyNoLaunch 55 = .ok (.iconst 3, 1) := by decide +kernel
theorem dX4_whyNoLaunch_56 : decode cX4_whyNoLaunch 56 = .ok (.invokevirtual 36, 3) := by decide +kernel
theorem dX4_whyNoLaunch_59 : decode cX4_whyNoLaunch 59 = .ok (.aload_n 0, 1) := by decide +kernel
theorem dX4_whyNoLaunch_60 : decode cX4_whyNoLaunch 60 = .ok (.getfield 7, 3) := by decide +kernel
theorem dX4_whyNoLaunch_63 : decode cX4_whyNoLaunch 63 = .ok (.iconst 4, 1) := by decide +kernel
theorem dX4_whyNoLaunch_64 : decode cX4_whyNoLaunch 64 = .ok (.iaload, 1) := by decide +kernel
theorem dX4_whyNoLaunch_65 : decode cX4_whyNoLaunch 65 = .ok (.if_icmp .le 5, 3) := by decide +kernel
theorem dX4_whyNoLaunch_68 : decode cX4_whyNoLaunch 68 = .ok (.iconst 5, 1) := by decide +kernel
theorem dX4_whyNoLaunch_69 : decode cX4_whyNoLaunch 69 = .ok (.ireturn, 1) := by decide +kernel
theorem dX4_whyNoLaunch_70 : decode cX4_whyNoLaunch 70 = .ok (.aload_n 0, 1) := by decide +kernel
theorem dX4_whyNoLaunch_71 : decode cX4_whyNoLaunch 71 = .ok (.invokevirtual 110, 3) := by decide +kernel
theorem dX4_whyNoLaunch_74 : decode cX4_whyNoLaunch 74 = .ok (.ifCond .ne 8, 3) := by decide +kernel
theorem dX4_whyNoLaunch_77 : decode cX4_whyNoLaunch 77 = .ok (.bipush 6, 2) := by decide +kernel
theorem dX4_whyNoLaunch_79 : decode cX4_whyNoLaunch 79 = .ok (.goto 4, 3) := by decide +kernel
theorem dX4_whyNoLaunch_82 : decode cX4_whyNoLaunch 82 = .ok (.iconst 0, 1) := by decide +kernel
theorem dX4_whyNoLaunch_83 : decode cX4_whyNoLaunch 83 = .ok (.ireturn, 1) := by decide +kernel
theorem dX4_noLaunch_0 : decode cX4_noLaunch 0 = .ok (.aload_n 0, 1) := by decide +kernel
theorem dX4_noLaunch_1 : decode cX4_noLaunch 1 = .ok (.iload_n 1, 1) := by decide +kernel
theorem dX4_noLaunch_2 : decode cX4_noLaunch 2 = .ok (.invokevirtual 92, 3) := by decide +kernel
theorem dX4_noLaunch_5 : decode cX4_noLaunch 5 = .ok (.ifCond .ne 5, 3) := by decide +kernel
theorem dX4_noLaunch_8 : decode cX4_noLaunch 8 = .ok (.iconst (-1), 1) := by decide +kernel
theorem dX4_noLaunch_9 : decode cX4_noLaunch 9 = .ok (.ireturn, 1) := by decide +kernel
theorem dX4_noLaunch_10 : decode cX4_noLaunch 10 = .ok (.aload_n 0, 1) := by decide +kernel
theorem dX4_noLaunch_11 : decode cX4_noLaunch 11 = .ok (.iload_n 1, 1) := by decide +kernel
theorem dX4_noLaunch_12 : decode cX4_noLaunch 12 = .ok (.invokevirtual 132, 3) := by decide +kernel
theorem dX4_noLaunch_15 : decode cX4_noLaunch 15 = .ok (.istore_n 2, 1) := by decide +kernel
theorem dX4_noLaunch_16 : decode cX4_noLaunch 16 = .ok (.iload_n 2, 1) := by decide +kernel
theorem dX4_noLaunch_17 : decode cX4_noLaunch 17 = .ok (.ifCond .le 10, 3) := by decide +kernel
theorem dX4_noLaunch_20 : decode cX4_noLaunch 20 = .ok (.bipush (-10), 2) := by decide +kernel
theorem dX4_noLaunch_22 : decode cX4_noLaunch 22 = .ok (.iload_n 2, 1) := by decide +kernel
theorem dX4_noLaunch_23 : decode cX4_noLaunch 23 = .ok (.isub, 1) := by decide +kernel
theorem dX4_noLaunch_24 : decode cX4_noLaunch 24 = .ok (.goto 4, 3) := by decide +kernel
theorem dX4_noLaunch_27 : decode cX4_noLaunch 27 = .ok (.iconst 0, 1) := by decide +kernel
theorem dX4_noLaunch_28 : decode cX4_noLaunch 28 = .ok (.ireturn, 1) := by decide +kernel
theorem dX4_doLaunch_0 : decode cX4_doLaunch 0 = .ok (.aload_n 0, 1) := by decide +kernel
theorem dX4_doLaunch_1 : decode cX4_doLaunch 1 = .ok (.iload_n 1, 1) := by decide +kernel
theorem dX4_doLaunch_2 : decode cX4_doLaunch 2 = .ok (.bipush 9, 2) := by decide +kernel
theorem dX4_doLaunch_4 : decode cX4_doLaunch 4 = .ok (.invokevirtual 36, 3) := by decide +kernel
theorem dX4_doLaunch_7 : decode cX4_doLaunch 7 = .ok (.istore_n 2, 1) := by decide +kernel
theorem dX4_doLaunch_8 : decode cX4_doLaunch 8 = .ok (.aload_n 0, 1) := by decide +kernel
theorem dX4_doLaunch_9 : decode cX4_doLaunch 9 = .ok (.iload_n 1, 1) := by decide +kernel
theorem dX4_doLaunch_10 : decode cX4_doLaunch 10 = .ok (.iconst 5, 1) := by decide +kernel
theorem dX4_doLaunch_11 : decode cX4_doLaunch 11 = .ok (.bipush (-5), 2) := by decide +kernel
theorem dX4_doLaunch_13 : decode cX4_doLaunch 13 = .ok (.invokevirtual 70, 3) := by decide +kernel
theorem dX4_doLaunch_16 : decode cX4_doLaunch 16 = .ok (.aload_n 0, 1) := by decide +kernel
theorem dX4_doLaunch_17 : decode cX4_doLaunch 17 = .ok (.iload_n 1, 1) := by decide +kernel
theorem dX4_doLaunch_18 : decode cX4_doLaunch 18 = .ok (.bipush 6, 2) := by decide +kernel
theorem dX4_doLaunch_20 : decode cX4_doLaunch 20 = .ok (.bipush (-5), 2) := by decide +kernel
theorem dX4_doLaunch_22 : decode cX4_doLaunch 22 = .ok (.invokevirtual 70, 3) := by decide +kernel
theorem dX4_doLaunch_25 : decode cX4_doLaunch 25 = .ok (.aload_n 0, 1) := by decide +kernel
theorem dX4_doLaunch_26 : decode cX4_doLaunch 26 = .ok (.iload_n 1, 1) := by decide +kernel
theorem dX4_doLaunch_27 : decode cX4_doLaunch 27 = .ok (.bipush 9, 2) := by decide +kernel
theorem dX4_doLaunch_29 : decode cX4_doLaunch 29 = .ok (.iconst 0, 1) := by decide +kernel
theorem dX4_doLaunch_30 : decode cX4_doLaunch 30 = .ok (.invokevirtual 70, 3) := by decide +kernel
theorem dX4_doLaunch_33 : decode cX4_doLaunch 33 = .ok (.aload_n 0, 1) := by decide +kernel
theorem dX4_doLaunch_34 : decode cX4_doLaunch 34 = .ok (.invokevirtual 120, 3) := by decide +kernel
theorem dX4_doLaunch_37 : decode cX4_doLaunch 37 = .ok (.aload_n 0, 1) := by decide +kernel
theorem dX4_doLaunch_38 : decode cX4_doLaunch 38 = .ok (.getfield 7, 3) := by decide +kernel
theorem dX4_doLaunch_41 : decode cX4_doLaunch 41 = .ok (.bipush 6, 2) := by decide +kernel
theorem dX4_doLaunch_43 : decode cX4_doLaunch 43 = .ok (.dup2, 1) := by decide +kernel
theorem dX4_doLaunch_44 : decode cX4_doLaunch 44 = .ok (.iaload, 1) := by decide +kernel
theorem dX4_doLaunch_45 : decode cX4_doLaunch 45 = .ok (.iconst 1, 1) := by decide +kernel
theorem dX4_doLaunch_46 : decode cX4_doLaunch 46 = .ok (.iadd, 1) := by decide +kernel
theorem dX4_doLaunch_47 : decode cX4_doLaunch 47 = .ok (.iastore, 1) := by decide +kernel
theorem dX4_doLaunch_48 : decode cX4_doLaunch 48 = .ok (.iload_n 2, 1) := by decide +kernel
theorem dX4_doLaunch_49 : decode cX4_doLaunch 49 = .ok (.ireturn, 1) := by decide +kernel
theorem dX4_launch_0 : decode cX4_launch 0 = .ok (.aload_n 0, 1) := by decide +kernel
theorem dX4_launch_1 : decode cX4_launch 1 = .ok (.iload_n 1, 1) := by decide +kernel
theorem dX4_launch_2 : decode cX4_launch 2 = .ok (.invokevirtual 135, 3) := by decide +kernel
theorem dX4_launch_5 : decode cX4_launch 5 = .ok (.istore_n 2, 1) := by decide +kernel
theorem dX4_launch_6 : decode cX4_launch 6 = .ok (.iload_n 2, 1) := by decide +kernel
theorem dX4_launch_7 : decode cX4_launch 7 = .ok (.ifCond .ge 5, 3) := by decide +kernel
theorem dX4_launch_10 : decode cX4_launch 10 = .ok (.iload_n 2, 1) := by decide +kernel
theorem dX4_launch_11 : decode cX4_launch 11 = .ok (.ireturn, 1) := by decide +kernel
theorem dX4_launch_12 : decode cX4_launch 12 = .ok (.aload_n 0, 1) := by decide +kernel
theorem dX4_launch_13 : decode cX4_launch 13 = .ok (.aload_n 0, 1) := by decide +kernel
theorem dX4_launch_14 : decode cX4_launch 14 = .ok (.getfield 7, 3) := by decide +kernel
theorem dX4_launch_17 : decode cX4_launch 17 = .ok (.invokevirtual 85, 3) := by decide +kernel
theorem dX4_launch_20 : decode cX4_launch 20 = .ok (.aload_n 0, 1) := by decide +kernel
theorem dX4_launch_21 : decode cX4_launch 21 = .ok (.iload_n 1, 1) := by decide +kernel
theorem dX4_launch_22 : decode cX4_launch 22 = .ok (.invokevirtual 138, 3) := by decide +kernel
theorem dX4_launch_25 : decode cX4_launch 25 = .ok (.ireturn, 1) := by decide +kernel
theorem dX4_noMove_0 : decode cX4_noMove 0 = .ok (.aload_n 0, 1) := by decide +kernel
theorem dX4_noMove_1 : decode cX4_noMove 1 = .ok (.iload_n 1, 1) := by decide +kernel
theorem dX4_noMove_2 : decode cX4_noMove 2 = .ok (.invokevirtual 92, 3) := by decide +kernel
theorem dX4_noMove_5 : decode cX4_noMove 5 = .ok (.ifCond .eq 10, 3) := by decide +kernel
theorem dX4_noMove_8 : decode cX4_noMove 8 = .ok (.iload_n 2, 1) := by decide +kernel
theorem dX4_noMove_9 : decode cX4_noMove 9 = .ok (.invokestatic 98, 3) := by decide +kernel
theorem dX4_noMove_12 : decode cX4_noMove 12 = .ok (.ifCond .ne 5, 3) := by decide +kernel
theorem dX4_noMove_15 : decode cX4_noMove 15 = .ok (.iconst (-1), 1) := by decide +kernel
theorem dX4_noMove_16 : decode cX4_noMove 16 = .ok (.ireturn, 1) := by decide +kernel
theorem dX4_noMove_17 : decode cX4_noMove 17 = .ok (.aload_n 0, 1) := by decide +kernel
theorem dX4_noMove_18 : decode cX4_noMove 18 = .ok (.iload_n 1, 1) := by decide +kernel
theorem dX4_noMove_19 : decode cX4_noMove 19 = .ok (.invokevirtual 40, 3) := by decide +kernel
theorem dX4_noMove_22 : decode cX4_noMove 22 = .ok (.ifCond .eq 21, 3) := by decide +kernel
theorem dX4_noMove_25 : decode cX4_noMove 25 = .ok (.aload_n 0, 1) := by decide +kernel
theorem dX4_noMove_26 : decode cX4_noMove 26 = .ok (.iload_n 1, 1) := by decide +kernel
theorem dX4_noMove_27 : decode cX4_noMove 27 = .ok (.invokevirtual 129, 3) := by decide +kernel
theorem dX4_noMove_30 : decode cX4_noMove 30 = .ok (.ifCond .gt 13, 3) := by decide +kernel
theorem dX4_noMove_33 : decode cX4_noMove 33 = .ok (.aload_n 0, 1) := by decide +kernel
theorem dX4_noMove_34 : decode cX4_noMove 34 = .ok (.iload_n 1, 1) := by decide +kernel
theorem dX4_noMove_35 : decode cX4_noMove 35 = .ok (.iconst 5, 1) := by decide +kernel
theorem dX4_noMove_36 : decode cX4_noMove 36 = .ok (.invokevirtual 36, 3) := by decide +kernel
theorem dX4_noMove_39 : decode cX4_noMove 39 = .ok (.iload_n 2, 1) := by decide +kernel
theorem dX4_noMove_40 : decode cX4_noMove 40 = .ok (.if_icmp .ne 6, 3) := by decide +kernel
theorem dX4_noMove_43 : decode cX4_noMove 43 = .ok (.bipush (-4), 2) := by decide +kernel
theorem dX4_noMove_45 : decode cX4_noMove 45 = .ok (.ireturn, 1) := by decide +kernel
theorem dX4_noMove_46 : decode cX4_noMove 46 = .ok (.aload_n 0, 1) := by decide +kernel
theorem dX4_noMove_47 : decode cX4_noMove 47 = .ok (.iload_n 1, 1) := by decide +kernel
theorem dX4_noMove_48 : decode cX4_noMove 48 = .ok (.iload_n 2, 1) := by decide +kernel
theorem dX4_noMove_49 : decode cX4_noMove 49 = .ok (.invokevirtual 107, 3) := by decide +kernel
theorem dX4_noMove_52 : decode cX4_noMove 52 = .ok (.ifCond .eq 10, 3) := by decide +kernel
theorem dX4_noMove_55 : decode cX4_noMove 55 = .ok (.aload_n 0, 1) := by decide +kernel
theorem dX4_noMove_56 : decode cX4_noMove 56 = .ok (.invokevirtual 110, 3) := by decide +kernel
theorem dX4_noMove_59 : decode cX4_noMove 59 = .ok (.ifCond .ne 8, 3) := by decide +kernel
theorem dX4_noMove_62 : decode cX4_noMove 62 = .ok (.bipush (-3), 2) := by decide +kernel
theorem dX4_noMove_64 : decode cX4_noMove 64 = .ok (.goto 4, 3) := by decide +kernel
theorem dX4_noMove_67 : decode cX4_noMove 67 = .ok (.iconst 0, 1) := by decide +kernel
theorem dX4_noMove_68 : decode cX4_noMove 68 = .ok (.ireturn, 1) := by decide +kernel
theorem dX4_doMove_0 : decode cX4_doMove 0 = .ok (.aload_n 0, 1) := by decide +kernel
theorem dX4_doMove_1 : decode cX4_doMove 1 = .ok (.iload_n 1, 1) := by decide +kernel
theorem dX4_doMove_2 : decode cX4_doMove 2 = .ok (.iload_n 2, 1) := by decide +kernel
theorem dX4_doMove_3 : decode cX4_doMove 3 = .ok (.invokevirtual 116, 3) := by decide +kernel
theorem dX4_doMove_6 : decode cX4_doMove 6 = .ok (.aload_n 0, 1) := by decide +kernel
theorem dX4_doMove_7 : decode cX4_doMove 7 = .ok (.invokevirtual 120, 3) := by decide +kernel
theorem dX4_doMove_10 : decode cX4_doMove 10 = .ok (.aload_n 0, 1) := by decide +kernel
theorem dX4_doMove_11 : decode cX4_doMove 11 = .ok (.iload_n 2, 1) := by decide +kernel
theorem dX4_doMove_12 : decode cX4_doMove 12 = .ok (.invokevirtual 64, 3) := by decide +kernel
theorem dX4_doMove_15 : decode cX4_doMove 15 = .ok (.ireturn, 1) := by decide +kernel
theorem dX4_move_0 : decode cX4_move 0 = .ok (.aload_n 0, 1) := by decide +kernel
theorem dX4_move_1 : decode cX4_move 1 = .ok (.iload_n 1, 1) := by decide +kernel
theorem dX4_move_2 : decode cX4_move 2 = .ok (.iload_n 2, 1) := by decide +kernel
theorem dX4_move_3 : decode cX4_move 3 = .ok (.invokevirtual 141, 3) := by decide +kernel
theorem dX4_move_6 : decode cX4_move 6 = .ok (.istore_n 3, 1) := by decide +kernel
theorem dX4_move_7 : decode cX4_move 7 = .ok (.iload_n 3, 1) := by decide +kernel
theorem dX4_move_8 : decode cX4_move 8 = .ok (.ifCond .ge 5, 3) := by decide +kernel
theorem dX4_move_11 : decode cX4_move 11 = .ok (.iload_n 3, 1) := by decide +kernel
theorem dX4_move_12 : decode cX4_move 12 = .ok (.ireturn, 1) := by decide +kernel
theorem dX4_move_13 : decode cX4_move 13 = .ok (.aload_n 0, 1) := by decide +kernel
theorem dX4_move_14 : decode cX4_move 14 = .ok (.aload_n 0, 1) := by decide +kernel
theorem dX4_move_15 : decode cX4_move 15 = .ok (.getfield 7, 3) := by decide +kernel
theorem dX4_move_18 : decode cX4_move 18 = .ok (.invokevirtual 85, 3) := by decide +kernel
theorem dX4_move_21 : decode cX4_move 21 = .ok (.aload_n 0, 1) := by decide +kernel
theorem dX4_move_22 : decode cX4_move 22 = .ok (.iload_n 1, 1) := by decide +kernel
theorem dX4_move_23 : decode cX4_move 23 = .ok (.iload_n 2, 1) := by decide +kernel
theorem dX4_move_24 : decode cX4_move 24 = .ok (.invokevirtual 144, 3) := by decide +kernel
theorem dX4_move_27 : decode cX4_move 27 = .ok (.ireturn, 1) := by decide +kernel
theorem dX4_rackFor_0 : decode cX4_rackFor 0 = .ok (.aload_n 0, 1) := by decide +kernel
theorem dX4_rackFor_1 : decode cX4_rackFor 1 = .ok (.iload_n 1, 1) := by decide +kernel
theorem dX4_rackFor_2 : decode cX4_rackFor 2 = .ok (.iconst 1, 1) := by decide +kernel
theorem dX4_rackFor_3 : decode cX4_rackFor 3 = .ok (.invokevirtual 36, 3) := by decide +kernel
theorem dX4_rackFor_6 : decode cX4_rackFor 6 = .ok (.bipush 12, 2) := by decide +kernel
theorem dX4_rackFor_8 : decode cX4_rackFor 8 = .ok (.if_icmp .gt 17, 3) := by decide +kernel
theorem dX4_rackFor_11 : decode cX4_rackFor 11 = .ok (.aload_n 0, 1) := by decide +kernel
theorem dX4_rackFor_12 : decode cX4_rackFor 12 = .ok (.iconst 0, 1) := by decide +kernel
theorem dX4_rackFor_13 : decode cX4_rackFor 13 = .ok (.invokevirtual 147, 3) := by decide +kernel
theorem dX4_rackFor_16 : decode cX4_rackFor 16 = .ok (.bipush 6, 2) := by decide +kernel
theorem dX4_rackFor_18 : decode cX4_rackFor 18 = .ok (.if_icmp .ge 7, 3) := by decide +kernel
theorem dX4_rackFor_21 : decode cX4_rackFor 21 = .ok (.iconst 0, 1) := by decide +kernel
theorem dX4_rackFor_22 : decode cX4_rackFor 22 = .ok (.goto 19, 3) := by decide +kernel
theorem dX4_rackFor_25 : decode cX4_rackFor 25 = .ok (.aload_n 0, 1) := by decide +kernel
theorem dX4_rackFor_26 : decode cX4_rackFor 26 = .ok (.iconst 1, 1) := by decide +kernel
theorem dX4_rackFor_27 : decode cX4_rackFor 27 = .ok (.invokevirtual 147, 3) := by decide +kernel
theorem dX4_rackFor_30 : decode cX4_rackFor 30 = .ok (.bipush 6, 2) := by decide +kernel
theorem dX4_rackFor_32 : decode cX4_rackFor 32 = .ok (.if_icmp .ge 7, 3) := by decide +kernel
theorem dX4_rackFor_35 : decode cX4_rackFor 35 = .ok (.iconst 1, 1) := by decide +kernel
theorem dX4_rackFor_36 : decode cX4_rackFor 36 = .ok (.goto 5, 3) := by decide +kernel
theorem dX4_rackFor_39 : decode cX4_rackFor 39 = .ok (.bipush (-5), 2) := by decide +kernel
theorem dX4_rackFor_41 : decode cX4_rackFor 41 = .ok (.ireturn, 1) := by decide +kernel
theorem dX4_noMast_0 : decode cX4_noMast 0 = .ok (.aload_n 0, 1) := by decide +kernel
theorem dX4_noMast_1 : decode cX4_noMast 1 = .ok (.iload_n 1, 1) := by decide +kernel
theorem dX4_noMast_2 : decode cX4_noMast 2 = .ok (.invokevirtual 92, 3) := by decide +kernel
theorem dX4_noMast_5 : decode cX4_noMast 5 = .ok (.ifCond .ne 5, 3) := by decide +kernel
theorem dX4_noMast_8 : decode cX4_noMast 8 = .ok (.iconst (-1), 1) := by decide +kernel
theorem dX4_noMast_9 : decode cX4_noMast 9 = .ok (.ireturn, 1) := by decide +kernel
theorem dX4_noMast_10 : decode cX4_noMast 10 = .ok (.aload_n 0, 1) := by decide +kernel
theorem dX4_noMast_11 : decode cX4_noMast 11 = .ok (.iload_n 1, 1) := by decide +kernel
theorem dX4_noMast_12 : decode cX4_noMast 12 = .ok (.invokevirtual 40, 3) := by decide +kernel
theorem dX4_noMast_15 : decode cX4_noMast 15 = .ok (.ifCond .eq 6, 3) := by decide +kernel
theorem dX4_noMast_18 : decode cX4_noMast 18 = .ok (.bipush (-4), 2) := by decide +kernel
theorem dX4_noMast_20 : decode cX4_noMast 20 = .ok (.ireturn, 1) := by decide +kernel
theorem dX4_noMast_21 : decode cX4_noMast 21 = .ok (.iload_n 2, 1) := by decide +kernel
theorem dX4_noMast_22 : decode cX4_noMast 22 = .ok (.aload_n 0, 1) := by decide +kernel
theorem dX4_noMast_23 : decode cX4_noMast 23 = .ok (.iload_n 1, 1) := by decide +kernel
theorem dX4_noMast_24 : decode cX4_noMast 24 = .ok (.bipush 7, 2) := by decide +kernel
theorem dX4_noMast_26 : decode cX4_noMast 26 = .ok (.invokevirtual 36, 3) := by decide +kernel
theorem dX4_noMast_29 : decode cX4_noMast 29 = .ok (.bipush (-5), 2) := by decide +kernel
theorem dX4_noMast_31 : decode cX4_noMast 31 = .ok (.if_icmp .ne 7, 3) := by decide +kernel
theorem dX4_noMast_34 : decode cX4_noMast 34 = .ok (.iconst 1, 1) := by decide +kernel
theorem dX4_noMast_35 : decode cX4_noMast 35 = .ok (.goto 4, 3) := by decide +kernel
theorem dX4_noMast_38 : decode cX4_noMast 38 = .ok (.iconst 0, 1) := by decide +kernel
theorem dX4_noMast_39 : decode cX4_noMast 39 = .ok (.if_icmp .ne 6, 3) := by decide +kernel
theorem dX4_noMast_42 : decode cX4_noMast 42 = .ok (.bipush (-5), 2) := by decide +kernel
theorem dX4_noMast_44 : decode cX4_noMast 44 = .ok (.ireturn, 1) := by decide +kernel
theorem dX4_noMast_45 : decode cX4_noMast 45 = .ok (.iload_n 2, 1) := by decide +kernel
theorem dX4_noMast_46 : decode cX4_noMast 46 = .ok (.ifCond .ne 18, 3) := by decide +kernel
theorem dX4_noMast_49 : decode cX4_noMast 49 = .ok (.aload_n 0, 1) := by decide +kernel
theorem dX4_noMast_50 : decode cX4_noMast 50 = .ok (.iload_n 1, 1) := by decide +kernel
theorem dX4_noMast_51 : decode cX4_noMast 51 = .ok (.invokevirtual 150, 3) := by decide +kernel
theorem dX4_noMast_54 : decode cX4_noMast 54 = .ok (.bipush (-5), 2) := by decide +kernel
theorem dX4_noMast_56 : decode cX4_noMast 56 = .ok (.if_icmp .ne 8, 3) := by decide +kernel
theorem dX4_noMast_59 : decode cX4_noMast 59 = .ok (.bipush (-3), 2) := by decide +kernel
theorem dX4_noMast_61 : decode cX4_noMast 61 = .ok (.goto 4, 3) := by decide +kernel
theorem dX4_noMast_64 : decode cX4_noMast 64 = .ok (.iconst 0, 1) := by decide +kernel
theorem dX4_noMast_65 : decode cX4_noMast 65 = .ok (.ireturn, 1) := by decide +kernel
theorem dX4_doMast_0 : decode cX4_doMast 0 = .ok (.iload_n 2, 1) := by decide +kernel
theorem dX4_doMast_1 : decode cX4_doMast 1 = .ok (.ifCond .eq 13, 3) := by decide +kernel
theorem dX4_doMast_4 : decode cX4_doMast 4 = .ok (.aload_n 0, 1) := by decide +kernel
theorem dX4_doMast_5 : decode cX4_doMast 5 = .ok (.iload_n 1, 1) := by decide +kernel
theorem dX4_doMast_6 : decode cX4_doMast 6 = .ok (.bipush 7, 2) := by decide +kernel
theorem dX4_doMast_8 : decode cX4_doMast 8 = .ok (.invokevirtual 36, 3) := by decide +kernel
theorem dX4_doMast_11 : decode cX4_doMast 11 = .ok (.goto 8, 3) := by decide +kernel
theorem dX4_doMast_14 : decode cX4_doMast 14 = .ok (.aload_n 0, 1) := by decide +kernel
theorem dX4_doMast_15 : decode cX4_doMast 15 = .ok (.iload_n 1, 1) := by decide +kernel
theorem dX4_doMast_16 : decode cX4_doMast 16 = .ok (.invokevirtual 150, 3) := by decide +kernel
theorem dX4_doMast_19 : decode cX4_doMast 19 = .ok (.istore_n 3, 1) := by decide +kernel
theorem dX4_doMast_20 : decode cX4_doMast 20 = .ok (.aload_n 0, 1) := by decide +kernel
theorem dX4_doMast_21 : decode cX4_doMast 21 = .ok (.iload_n 1, 1) := by decide +kernel
theorem dX4_doMast_22 : decode cX4_doMast 22 = .ok (.bipush 7, 2) := by decide +kernel
theorem dX4_doMast_24 : decode cX4_doMast 24 = .ok (.iload_n 2, 1) := by decide +kernel
theorem dX4_doMast_25 : decode cX4_doMast 25 = .ok (.ifCond .eq 8, 3) := by decide +kernel
theorem dX4_doMast_28 : decode cX4_doMast 28 = .ok (.bipush (-5), 2) := by decide +kernel
theorem dX4_doMast_30 : decode cX4_doMast 30 = .ok (.goto 4, 3) := by decide +kernel
theorem dX4_doMast_33 : decode cX4_doMast 33 = .ok (.iload_n 3, 1) := by decide +kernel
theorem dX4_doMast_34 : decode cX4_doMast 34 = .ok (.invokevirtual 70, 3) := by decide +kernel
theorem dX4_doMast_37 : decode cX4_doMast 37 = .ok (.iload_n 3, 1) := by decide +kernel
theorem dX4_doMast_38 : decode cX4_doMast 38 = .ok (.ireturn, 1) := by decide +kernel
theorem dX4_mast_0 : decode cX4_mast 0 = .ok (.aload_n 0, 1) := by decide +kernel
theorem dX4_mast_1 : decode cX4_mast 1 = .ok (.iload_n 1, 1) := by decide +kernel
theorem dX4_mast_2 : decode cX4_mast 2 = .ok (.iload_n 2, 1) := by decide +kernel
theorem dX4_mast_3 : decode cX4_mast 3 = .ok (.invokevirtual 153, 3) := by decide +kernel
theorem dX4_mast_6 : decode cX4_mast 6 = .ok (.istore_n 3, 1) := by decide +kernel
theorem dX4_mast_7 : decode cX4_mast 7 = .ok (.iload_n 3, 1) := by decide +kernel
theorem dX4_mast_8 : decode cX4_mast 8 = .ok (.ifCond .ge 5, 3) := by decide +kernel
theorem dX4_mast_11 : decode cX4_mast 11 = .ok (.iload_n 3, 1) := by decide +kernel
theorem dX4_mast_12 : decode cX4_mast 12 = .ok (.ireturn, 1) := by decide +kernel
theorem dX4_mast_13 : decode cX4_mast 13 = .ok (.aload_n 0, 1) := by decide +kernel
theorem dX4_mast_14 : decode cX4_mast 14 = .ok (.aload_n 0, 1) := by decide +kernel
theorem dX4_mast_15 : decode cX4_mast 15 = .ok (.getfield 7, 3) := by decide +kernel
theorem dX4_mast_18 : decode cX4_mast 18 = .ok (.invokevirtual 85, 3) := by decide +kernel
theorem dX4_mast_21 : decode cX4_mast 21 = .ok (.aload_n 0, 1) := by decide +kernel
theorem dX4_mast_22 : decode cX4_mast 22 = .ok (.iload_n 1, 1) := by decide +kernel
theorem dX4_mast_23 : decode cX4_mast 23 = .ok (.iload_n 2, 1) := by decide +kernel
theorem dX4_mast_24 : decode cX4_mast 24 = .ok (.invokevirtual 157, 3) := by decide +kernel
theorem dX4_mast_27 : decode cX4_mast 27 = .ok (.ireturn, 1) := by decide +kernel
theorem dX4_work_0 : decode cX4_work 0 = .ok (.aload_n 0, 1) := by decide +kernel
theorem dX4_work_1 : decode cX4_work 1 = .ok (.iload_n 1, 1) := by decide +kernel
theorem dX4_work_2 : decode cX4_work 2 = .ok (.invokevirtual 92, 3) := by decide +kernel
theorem dX4_work_5 : decode cX4_work 5 = .ok (.ifCond .ne 5, 3) := by decide +kernel
theorem dX4_work_8 : decode cX4_work 8 = .ok (.iconst (-1), 1) := by decide +kernel
theorem dX4_work_9 : decode cX4_work 9 = .ok (.ireturn, 1) := by decide +kernel
theorem dX4_work_10 : decode cX4_work 10 = .ok (.iload_n 2, 1) := by decide +kernel
theorem dX4_work_11 : decode cX4_work 11 = .ok (.iconst 1, 1) := by decide +kernel
theorem dX4_work_12 : decode cX4_work 12 = .ok (.bipush 99, 2) := by decide +kernel
theorem dX4_work_14 : decode cX4_work 14 = .ok (.invokestatic 32, 3) := by decide +kernel
theorem dX4_work_17 : decode cX4_work 17 = .ok (.ifCond .ne 6, 3) := by decide +kernel
theorem dX4_work_20 : decode cX4_work 20 = .ok (.bipush (-2), 2) := by decide +kernel
theorem dX4_work_22 : decode cX4_work 22 = .ok (.ireturn, 1) := by decide +kernel
theorem dX4_work_23 : decode cX4_work 23 = .ok (.aload_n 0, 1) := by decide +kernel
theorem dX4_work_24 : decode cX4_work 24 = .ok (.iload_n 1, 1) := by decide +kernel
theorem dX4_work_25 : decode cX4_work 25 = .ok (.bipush 8, 2) := by decide +kernel
theorem dX4_work_27 : decode cX4_work 27 = .ok (.invokevirtual 36, 3) := by decide +kernel
theorem dX4_work_30 : decode cX4_work 30 = .ok (.iload_n 2, 1) := by decide +kernel
theorem dX4_work_31 : decode cX4_work 31 = .ok (.iadd, 1) := by decide +kernel
theorem dX4_work_32 : decode cX4_work 32 = .ok (.bipush 99, 2) := by decide +kernel
theorem dX4_work_34 : decode cX4_work 34 = .ok (.if_icmp .le 6, 3) := by decide +kernel
theorem dX4_work_37 : decode cX4_work 37 = .ok (.bipush (-3), 2) := by decide +kernel
theorem dX4_work_39 : decode cX4_work 39 = .ok (.ireturn, 1) := by decide +kernel
theorem dX4_work_40 : decode cX4_work 40 = .ok (.aload_n 0, 1) := by decide +kernel
theorem dX4_work_41 : decode cX4_work 41 = .ok (.aload_n 0, 1) := by decide +kernel
theorem dX4_work_42 : decode cX4_work 42 = .ok (.getfield 7, 3) := by decide +kernel
theorem dX4_work_45 : decode cX4_work 45 = .ok (.invokevirtual 85, 3) := by decide +kernel
theorem dX4_work_48 : decode cX4_work 48 = .ok (.aload_n 0, 1) := by decide +kernel
theorem dX4_work_49 : decode cX4_work 49 = .ok (.iload_n 1, 1) := by decide +kernel
theorem dX4_work_50 : decode cX4_work 50 = .ok (.bipush 8, 2) := by decide +kernel
theorem dX4_work_52 : decode cX4_work 52 = .ok (.aload_n 0, 1) := by decide +kernel
theorem dX4_work_53 : decode cX4_work 53 = .ok (.iload_n 1, 1) := by decide +kernel
theorem dX4_work_54 : decode cX4_work 54 = .ok (.bipush 8, 2) := by decide +kernel
theorem dX4_work_56 : decode cX4_work 56 = .ok (.invokevirtual 36, 3) := by decide +kernel
theorem dX4_work_59 : decode cX4_work 59 = .ok (.iload_n 2, 1) := by decide +kernel
theorem dX4_work_60 : decode cX4_work 60 = .ok (.iadd, 1) := by decide +kernel
theorem dX4_work_61 : decode cX4_work 61 = .ok (.invokevirtual 70, 3) := by decide +kernel
theorem dX4_work_64 : decode cX4_work 64 = .ok (.aload_n 0, 1) := by decide +kernel
theorem dX4_work_65 : decode cX4_work 65 = .ok (.iload_n 1, 1) := by decide +kernel
theorem dX4_work_66 : decode cX4_work 66 = .ok (.bipush 8, 2) := by decide +kernel
theorem dX4_work_68 : decode cX4_work 68 = .ok (.invokevirtual 36, 3) := by decide +kernel
theorem dX4_work_71 : decode cX4_work 71 = .ok (.ireturn, 1) := by decide +kernel
theorem dX4_noPass_0 : decode cX4_noPass 0 = .ok (.iload_n 1, 1) := by decide +kernel
theorem dX4_noPass_1 : decode cX4_noPass 1 = .ok (.iconst 1, 1) := by decide +kernel
theorem dX4_noPass_2 : decode cX4_noPass 2 = .ok (.bipush 99, 2) := by decide +kernel
theorem dX4_noPass_4 : decode cX4_noPass 4 = .ok (.invokestatic 32, 3) := by decide +kernel
theorem dX4_noPass_7 : decode cX4_noPass 7 = .ok (.ifCond .ne 8, 3) := by decide +kernel
theorem dX4_noPass_10 : decode cX4_noPass 10 = .ok (.bipush (-2), 2) := by decide +kernel
theorem dX4_noPass_12 : decode cX4_noPass 12 = .ok (.goto 23, 3) := by decide +kernel
theorem dX4_noPass_15 : decode cX4_noPass 15 = .ok (.aload_n 0, 1) := by decide +kernel
theorem dX4_noPass_16 : decode cX4_noPass 16 = .ok (.getfield 7, 3) := by decide +kernel
theorem dX4_noPass_19 : decode cX4_noPass 19 = .ok (.iconst 0, 1) := by decide +kernel
theorem dX4_noPass_20 : decode cX4_noPass 20 = .ok (.iaload, 1) := by decide +kernel
theorem dX4_noPass_21 : decode cX4_noPass 21 = .ok (.iload_n 1, 1) := by decide +kernel
theorem dX4_noPass_22 : decode cX4_noPass 22 = .ok (.iadd, 1) := by decide +kernel
theorem dX4_noPass_23 : decode cX4_noPass 23 = .ok (.sipush 9999, 3) := by decide +kernel
theorem dX4_noPass_26 : decode cX4_noPass 26 = .ok (.if_icmp .le 8, 3) := by decide +kernel
theorem dX4_noPass_29 : decode cX4_noPass 29 = .ok (.bipush (-3), 2) := by decide +kernel
theorem dX4_noPass_31 : decode cX4_noPass 31 = .ok (.goto 4, 3) := by decide +kernel
theorem dX4_noPass_34 : decode cX4_noPass 34 = .ok (.iconst 0, 1) := by decide +kernel
theorem dX4_noPass_35 : decode cX4_noPass 35 = .ok (.ireturn, 1) := by decide +kernel
theorem dX4_doPass_0 : decode cX4_doPass 0 = .ok (.aload_n 0, 1) := by decide +kernel
theorem dX4_doPass_1 : decode cX4_doPass 1 = .ok (.getfield 7, 3) := by decide +kernel
theorem dX4_doPass_4 : decode cX4_doPass 4 = .ok (.iconst 0, 1) := by decide +kernel
theorem dX4_doPass_5 : decode cX4_doPass 5 = .ok (.dup2, 1) := by decide +kernel
theorem dX4_doPass_6 : decode cX4_doPass 6 = .ok (.iaload, 1) := by decide +kernel
theorem dX4_doPass_7 : decode cX4_doPass 7 = .ok (.iload_n 1, 1) := by decide +kernel
theorem dX4_doPass_8 : decode cX4_doPass 8 = .ok (.iadd, 1) := by decide +kernel
theorem dX4_doPass_9 : decode cX4_doPass 9 = .ok (.iastore, 1) := by decide +kernel
theorem dX4_doPass_10 : decode cX4_doPass 10 = .ok (.aload_n 0, 1) := by decide +kernel
theorem dX4_doPass_11 : decode cX4_doPass 11 = .ok (.getfield 7, 3) := by decide +kernel
theorem dX4_doPass_14 : decode cX4_doPass 14 = .ok (.iconst 1, 1) := by decide +kernel
theorem dX4_doPass_15 : decode cX4_doPass 15 = .ok (.iconst 0, 1) := by decide +kernel
theorem dX4_doPass_16 : decode cX4_doPass 16 = .ok (.iastore, 1) := by decide +kernel
theorem dX4_doPass_17 : decode cX4_doPass 17 = .ok (.iconst 0, 1) := by decide +kernel
theorem dX4_doPass_18 : decode cX4_doPass 18 = .ok (.istore_n 2, 1) := by decide +kernel
theorem dX4_doPass_19 : decode cX4_doPass 19 = .ok (.iload_n 2, 1) := by decide +kernel
theorem dX4_doPass_20 : decode cX4_doPass 20 = .ok (.bipush 20, 2) := by decide +kernel
theorem dX4_doPass_22 : decode cX4_doPass 22 = .ok (.if_icmp .ge 74, 3) := by decide +kernel
theorem dX4_doPass_25 : decode cX4_doPass 25 = .ok (.aload_n 0, 1) := by decide +kernel
theorem dX4_doPass_26 : decode cX4_doPass 26 = .ok (.iload_n 2, 1) := by decide +kernel
theorem dX4_doPass_27 : decode cX4_doPass 27 = .ok (.iconst 0, 1) := by decide +kernel
theorem dX4_doPass_28 : decode cX4_doPass 28 = .ok (.invokevirtual 36, 3) := by decide +kernel
theorem dX4_doPass_31 : decode cX4_doPass 31 = .ok (.iconst 1, 1) := by decide +kernel
theorem dX4_doPass_32 : decode cX4_doPass 32 = .ok (.if_icmp .ne 58, 3) := by decide +kernel
theorem dX4_doPass_35 : decode cX4_doPass 35 = .ok (.aload_n 0, 1) := by decide +kernel
theorem dX4_doPass_36 : decode cX4_doPass 36 = .ok (.iload_n 2, 1) := by decide +kernel
theorem dX4_doPass_37 : decode cX4_doPass 37 = .ok (.invokevirtual 40, 3) := by decide +kernel
theorem dX4_doPass_40 : decode cX4_doPass 40 = .ok (.ifCond .eq 50, 3) := by decide +kernel
theorem dX4_doPass_43 : decode cX4_doPass 43 = .ok (.aload_n 0, 1) := by decide +kernel
theorem dX4_doPass_44 : decode cX4_doPass 44 = .ok (.iload_n 2, 1) := by decide +kernel
theorem dX4_doPass_45 : decode cX4_doPass 45 = .ok (.bipush 9, 2) := by decide +kernel
theorem dX4_doPass_47 : decode cX4_doPass 47 = .ok (.aload_n 0, 1) := by decide +kernel
theorem dX4_doPass_48 : decode cX4_doPass 48 = .ok (.iload_n 2, 1) := by decide +kernel
theorem dX4_doPass_49 : decode cX4_doPass 49 = .ok (.bipush 9, 2) := by decide +kernel
theorem dX4_doPass_51 : decode cX4_doPass 51 = .ok (.invokevirtual 36, 3) := by decide +kernel
theorem dX4_doPass_54 : decode cX4_doPass 54 = .ok (.iload_n 1, 1) := by decide +kernel
theorem dX4_doPass_55 : decode cX4_doPass 55 = .ok (.iadd, 1) := by decide +kernel
theorem dX4_doPass_56 : decode cX4_doPass 56 = .ok (.invokevirtual 70, 3) := by decide +kernel
theorem dX4_doPass_59 : decode cX4_doPass 59 = .ok (.aload_n 0, 1) := by decide +kernel
theorem dX4_doPass_60 : decode cX4_doPass 60 = .ok (.iload_n 2, 1) := by decide +kernel
theorem dX4_doPass_61 : decode cX4_doPass 61 = .ok (.bipush 8, 2) := by decide +kernel
theorem dX4_doPass_63 : decode cX4_doPass 63 = .ok (.aload_n 0, 1) := by decide +kernel
theorem dX4_doPass_64 : decode cX4_doPass 64 = .ok (.iload_n 2, 1) := by decide +kernel
theorem dX4_doPass_65 : decode cX4_doPass 65 = .ok (.bipush 8, 2) := by decide +kernel
theorem dX4_doPass_67 : decode cX4_doPass 67 = .ok (.invokevirtual 36, 3) := by decide +kernel
theorem dX4_doPass_70 : decode cX4_doPass 70 = .ok (.iload_n 1, 1) := by decide +kernel
theorem dX4_doPass_71 : decode cX4_doPass 71 = .ok (.if_icmp .le 15, 3) := by decide +kernel
theorem dX4_doPass_74 : decode cX4_doPass 74 = .ok (.aload_n 0, 1) := by decide +kernel
theorem dX4_doPass_75 : decode cX4_doPass 75 = .ok (.iload_n 2, 1) := by decide +kernel
theorem dX4_doPass_76 : decode cX4_doPass 76 = .ok (.bipush 8, 2) := by decide +kernel
theorem dX4_doPass_78 : decode cX4_doPass 78 = .ok (.invokevirtual 36, 3) := by decide +kernel
theorem dX4_doPass_81 : decode cX4_doPass 81 = .ok (.iload_n 1, 1) := by decide +kernel
theorem dX4_doPass_82 : decode cX4_doPass 82 = .ok (.isub, 1) := by decide +kernel
theorem dX4_doPass_83 : decode cX4_doPass 83 = .ok (.goto 4, 3) := by decide +kernel
theorem dX4_doPass_86 : decode cX4_doPass 86 = .ok (.iconst 0, 1) := by decide +kernel
theorem dX4_doPass_87 : decode cX4_doPass 87 = .ok (.invokevirtual 70, 3) := by decide +kernel
theorem dX4_doPass_90 : decode cX4_doPass 90 = .ok (.iinc 2 1, 3) := by decide +kernel
theorem dX4_doPass_93 : decode cX4_doPass 93 = .ok (.goto (-74), 3) := by decide +kernel
theorem dX4_doPass_96 : decode cX4_doPass 96 = .ok (.aload_n 0, 1) := by decide +kernel
theorem dX4_doPass_97 : decode cX4_doPass 97 = .ok (.aload_n 0, 1) := by decide +kernel
theorem dX4_doPass_98 : decode cX4_doPass 98 = .ok (.getfield 7, 3) := by decide +kernel
theorem dX4_doPass_101 : decode cX4_doPass 101 = .ok (.iconst 0, 1) := by decide +kernel
theorem dX4_doPass_102 : decode cX4_doPass 102 = .ok (.iaload, 1) := by decide +kernel
theorem dX4_doPass_103 : decode cX4_doPass 103 = .ok (.invokevirtual 101, 3) := by decide +kernel
theorem dX4_doPass_106 : decode cX4_doPass 106 = .ok (.ireturn, 1) := by decide +kernel
theorem dX4_pass_0 : decode cX4_pass 0 = .ok (.aload_n 0, 1) := by decide +kernel
theorem dX4_pass_1 : decode cX4_pass 1 = .ok (.iload_n 1, 1) := by decide +kernel
theorem dX4_pass_2 : decode cX4_pass 2 = .ok (.invokevirtual 160, 3) := by decide +kernel
theorem dX4_pass_5 : decode cX4_pass 5 = .ok (.istore_n 2, 1) := by decide +kernel
theorem dX4_pass_6 : decode cX4_pass 6 = .ok (.iload_n 2, 1) := by decide +kernel
theorem dX4_pass_7 : decode cX4_pass 7 = .ok (.ifCond .ge 5, 3) := by decide +kernel
theorem dX4_pass_10 : decode cX4_pass 10 = .ok (.iload_n 2, 1) := by decide +kernel
theorem dX4_pass_11 : decode cX4_pass 11 = .ok (.ireturn, 1) := by decide +kernel
theorem dX4_pass_12 : decode cX4_pass 12 = .ok (.aload_n 0, 1) := by decide +kernel
theorem dX4_pass_13 : decode cX4_pass 13 = .ok (.aload_n 0, 1) := by decide +kernel
theorem dX4_pass_14 : decode cX4_pass 14 = .ok (.getfield 7, 3) := by decide +kernel
theorem dX4_pass_17 : decode cX4_pass 17 = .ok (.invokevirtual 85, 3) := by decide +kernel
theorem dX4_pass_20 : decode cX4_pass 20 = .ok (.aload_n 0, 1) := by decide +kernel
theorem dX4_pass_21 : decode cX4_pass 21 = .ok (.iload_n 1, 1) := by decide +kernel
theorem dX4_pass_22 : decode cX4_pass 22 = .ok (.invokevirtual 163, 3) := by decide +kernel
theorem dX4_pass_25 : decode cX4_pass 25 = .ok (.ireturn, 1) := by decide +kernel
theorem dX4_type_0 : decode cX4_type 0 = .ok (.aload_n 0, 1) := by decide +kernel
theorem dX4_type_1 : decode cX4_type 1 = .ok (.getfield 166, 3) := by decide +kernel
theorem dX4_type_4 : decode cX4_type 4 = .ok (.bipush 60, 2) := by decide +kernel
theorem dX4_type_6 : decode cX4_type 6 = .ok (.if_icmp .ne 6, 3) := by decide +kernel
theorem dX4_type_9 : decode cX4_type 9 = .ok (.bipush (-3), 2) := by decide +kernel
theorem dX4_type_11 : decode cX4_type 11 = .ok (.ireturn, 1) := by decide +kernel
theorem dX4_type_12 : decode cX4_type 12 = .ok (.aload_n 0, 1) := by decide +kernel
theorem dX4_type_13 : decode cX4_type 13 = .ok (.getfield 22, 3) := by decide +kernel
theorem dX4_type_16 : decode cX4_type 16 = .ok (.aload_n 0, 1) := by decide +kernel
theorem dX4_type_17 : decode cX4_type 17 = .ok (.getfield 166, 3) := by decide +kernel
theorem dX4_type_20 : decode cX4_type 20 = .ok (.iload_n 1, 1) := by decide +kernel
theorem dX4_type_21 : decode cX4_type 21 = .ok (.iastore, 1) := by decide +kernel
theorem dX4_type_22 : decode cX4_type 22 = .ok (.aload_n 0, 1) := by decide +kernel
theorem dX4_type_23 : decode cX4_type 23 = .ok (.dup, 1) := by decide +kernel
theorem dX4_type_24 : decode cX4_type 24 = .ok (.getfield 166, 3) := by decide +kernel
theorem dX4_type_27 : decode cX4_type 27 = .ok (.iconst 1, 1) := by decide +kernel
theorem dX4_type_28 : decode cX4_type 28 = .ok (.iadd, 1) := by decide +kernel
theorem dX4_type_29 : decode cX4_type 29 = .ok (.putfield 166, 3) := by decide +kernel
theorem dX4_type_32 : decode cX4_type 32 = .ok (.aload_n 0, 1) := by decide +kernel
theorem dX4_type_33 : decode cX4_type 33 = .ok (.getfield 166, 3) := by decide +kernel
theorem dX4_type_36 : decode cX4_type 36 = .ok (.ireturn, 1) := by decide +kernel
theorem dX4_clearText_0 : decode cX4_clearText 0 = .ok (.aload_n 0, 1) := by decide +kernel
theorem dX4_clearText_1 : decode cX4_clearText 1 = .ok (.getfield 166, 3) := by decide +kernel
theorem dX4_clearText_4 : decode cX4_clearText 4 = .ok (.istore_n 1, 1) := by decide +kernel
theorem dX4_clearText_5 : decode cX4_clearText 5 = .ok (.aload_n 0, 1) := by decide +kernel
theorem dX4_clearText_6 : decode cX4_clearText 6 = .ok (.iconst 0, 1) := by decide +kernel
theorem dX4_clearText_7 : decode cX4_clearText 7 = .ok (.putfield 166, 3) := by decide +kernel
theorem dX4_clearText_10 : decode cX4_clearText 10 = .ok (.iload_n 1, 1) := by decide +kernel
theorem dX4_clearText_11 : decode cX4_clearText 11 = .ok (.ireturn, 1) := by decide +kernel
theorem dX4_at_0 : decode cX4_at 0 = .ok (.iload_n 1, 1) := by decide +kernel
theorem dX4_at_1 : decode cX4_at 1 = .ok (.aload_n 0, 1) := by decide +kernel
theorem dX4_at_2 : decode cX4_at 2 = .ok (.getfield 166, 3) := by decide +kernel
theorem dX4_at_5 : decode cX4_at 5 = .ok (.if_icmp .ge 12, 3) := by decide +kernel
theorem dX4_at_8 : decode cX4_at 8 = .ok (.aload_n 0, 1) := by decide +kernel
theorem dX4_at_9 : decode cX4_at 9 = .ok (.getfield 22, 3) := by decide +kernel
theorem dX4_at_12 : decode cX4_at 12 = .ok (.iload_n 1, 1) := by decide +kernel
theorem dX4_at_13 : decode cX4_at 13 = .ok (.iaload, 1) := by decide +kernel
theorem dX4_at_14 : decode cX4_at 14 = .ok (.goto 4, 3) := by decide +kernel
theorem dX4_at_17 : decode cX4_at 17 = .ok (.iconst 0, 1) := by decide +kernel
theorem dX4_at_18 : decode cX4_at 18 = .ok (.ireturn, 1) := by decide +kernel
theorem dX4_isDigit_0 : decode cX4_isDigit 0 = .ok (.iload_n 0, 1) := by decide +kernel
theorem dX4_isDigit_1 : decode cX4_isDigit 1 = .ok (.bipush 48, 2) := by decide +kernel
theorem dX4_isDigit_3 : decode cX4_isDigit 3 = .ok (.bipush 57, 2) := by decide +kernel
theorem dX4_isDigit_5 : decode cX4_isDigit 5 = .ok (.invokestatic 32, 3) := by decide +kernel
theorem dX4_isDigit_8 : decode cX4_isDigit 8 = .ok (.ireturn, 1) := by decide +kernel
theorem dX4_readNumber_0 : decode cX4_readNumber 0 = .ok (.aload_n 0, 1) := by decide +kernel
theorem dX4_readNumber_1 : decode cX4_readNumber 1 = .ok (.iload_n 1, 1) := by decide +kernel
theorem dX4_readNumber_2 : decode cX4_readNumber 2 = .ok (.invokevirtual 169, 3) := by decide +kernel
theorem dX4_readNumber_5 : decode cX4_readNumber 5 = .ok (.bipush 48, 2) := by decide +kernel
theorem dX4_readNumber_7 : decode cX4_readNumber 7 = .ok (.isub, 1) := by decide +kernel
theorem dX4_readNumber_8 : decode cX4_readNumber 8 = .ok (.istore 4, 2) := by decide +kernel
theorem dX4_readNumber_10 : decode cX4_readNumber 10 = .ok (.iload 4, 2) := by decide +kernel
theorem dX4_readNumber_12 : decode cX4_readNumber 12 = .ok (.iload_n 2, 1) := by decide +kernel
theorem dX4_readNumber_13 : decode cX4_readNumber 13 = .ok (.bipush 9, 2) := by decide +kernel
theorem dX4_readNumber_15 : decode cX4_readNumber 15 = .ok (.invokestatic 32, 3) := by decide +kernel
theorem dX4_readNumber_18 : decode cX4_readNumber 18 = .ok (.ifCond .eq 9, 3) := by decide +kernel
theorem dX4_readNumber_21 : decode cX4_readNumber 21 = .ok (.iload 4, 2) := by decide +kernel
theorem dX4_readNumber_23 : decode cX4_readNumber 23 = .ok (.iload_n 3, 1) := by decide +kernel
theorem dX4_readNumber_24 : decode cX4_readNumber 24 = .ok (.if_icmp .le 7, 3) := by decide +kernel
theorem dX4_readNumber_27 : decode cX4_readNumber 27 = .ok (.iconst (-1), 1) := by decide +kernel
theorem dX4_readNumber_28 : decode cX4_readNumber 28 = .ok (.iload_n 1, 1) := by decide +kernel
theorem dX4_readNumber_29 : decode cX4_readNumber 29 = .ok (.isub, 1) := by decide +kernel
theorem dX4_readNumber_30 : decode cX4_readNumber 30 = .ok (.ireturn, 1) := by decide +kernel
theorem dX4_readNumber_31 : decode cX4_readNumber 31 = .ok (.iload_n 1, 1) := by decide +kernel
theorem dX4_readNumber_32 : decode cX4_readNumber 32 = .ok (.iconst 1, 1) := by decide +kernel
theorem dX4_readNumber_33 : decode cX4_readNumber 33 = .ok (.iadd, 1) := by decide +kernel
theorem dX4_readNumber_34 : decode cX4_readNumber 34 = .ok (.istore 5, 2) := by decide +kernel
theorem dX4_readNumber_36 : decode cX4_readNumber 36 = .ok (.iload 4, 2) := by decide +kernel
theorem dX4_readNumber_38 : decode cX4_readNumber 38 = .ok (.ifCond .le 57, 3) := by decide +kernel
theorem dX4_readNumber_41 : decode cX4_readNumber 41 = .ok (.aload_n 0, 1) := by decide +kernel
theorem dX4_readNumber_42 : decode cX4_readNumber 42 = .ok (.iload 5, 2) := by decide +kernel
theorem dX4_readNumber_44 : decode cX4_readNumber 44 = .ok (.invokevirtual 169, 3) := by decide +kernel
theorem dX4_readNumber_47 : decode cX4_readNumber 47 = .ok (.invokestatic 172, 3) := by decide +kernel
theorem dX4_readNumber_50 : decode cX4_readNumber 50 = .ok (.ifCond .eq 45, 3) := by decide +kernel
theorem dX4_readNumber_53 : decode cX4_readNumber 53 = .ok (.bipush 10, 2) := by decide +kernel
theorem dX4_readNumber_55 : decode cX4_readNumber 55 = .ok (.iload 4, 2) := by decide +kernel
theorem dX4_readNumber_57 : decode cX4_readNumber 57 = .ok (.imul, 1) := by decide +kernel
theorem dX4_readNumber_58 : decode cX4_readNumber 58 = .ok (.aload_n 0, 1) := by decide +kernel
theorem dX4_readNumber_59 : decode cX4_readNumber 59 = .ok (.iload 5, 2) := by decide +kernel
theorem dX4_readNumber_61 : decode cX4_readNumber 61 = .ok (.invokevirtual 169, 3) := by decide +kernel
theorem dX4_readNumber_64 : decode cX4_readNumber 64 = .ok (.iadd, 1) := by decide +kernel
theorem dX4_readNumber_65 : decode cX4_readNumber 65 = .ok (.bipush 48, 2) := by decide +kernel
theorem dX4_readNumber_67 : decode cX4_readNumber 67 = .ok (.isub, 1) := by decide +kernel
theorem dX4_readNumber_68 : decode cX4_readNumber 68 = .ok (.iload_n 3, 1) := by decide +kernel
theorem dX4_readNumber_69 : decode cX4_readNumber 69 = .ok (.if_icmp .gt 26, 3) := by decide +kernel
theorem dX4_readNumber_72 : decode cX4_readNumber 72 = .ok (.bipush 10, 2) := by decide +kernel
theorem dX4_readNumber_74 : decode cX4_readNumber 74 = .ok (.iload 4, 2) := by decide +kernel
theorem dX4_readNumber_76 : decode cX4_readNumber 76 = .ok (.imul, 1) := by decide +kernel
theorem dX4_readNumber_77 : decode cX4_readNumber 77 = .ok (.aload_n 0, 1) := by decide +kernel
theorem dX4_readNumber_78 : decode cX4_readNumber 78 = .ok (.iload 5, 2) := by decide +kernel
theorem dX4_readNumber_80 : decode cX4_readNumber 80 = .ok (.invokevirtual 169, 3) := by decide +kernel
theorem dX4_readNumber_83 : decode cX4_readNumber 83 = .ok (.iadd, 1) := by decide +kernel
theorem dX4_readNumber_84 : decode cX4_readNumber 84 = .ok (.bipush 48, 2) := by decide +kernel
theorem dX4_readNumber_86 : decode cX4_readNumber 86 = .ok (.isub, 1) := by decide +kernel
theorem dX4_readNumber_87 : decode cX4_readNumber 87 = .ok (.istore 4, 2) := by decide +kernel
theorem dX4_readNumber_89 : decode cX4_readNumber 89 = .ok (.iinc 5 1, 3) := by decide +kernel
theorem dX4_readNumber_92 : decode cX4_readNumber 92 = .ok (.goto (-56), 3) := by decide +kernel
theorem dX4_readNumber_95 : decode cX4_readNumber 95 = .ok (.aload_n 0, 1) := by decide +kernel
theorem dX4_readNumber_96 : decode cX4_readNumber 96 = .ok (.aload_n 0, 1) := by decide +kernel
theorem dX4_readNumber_97 : decode cX4_readNumber 97 = .ok (.getfield 175, 3) := by decide +kernel
theorem dX4_readNumber_100 : decode cX4_readNumber 100 = .ok (.putfield 178, 3) := by decide +kernel
theorem dX4_readNumber_103 : decode cX4_readNumber 103 = .ok (.aload_n 0, 1) := by decide +kernel
theorem dX4_readNumber_104 : decode cX4_readNumber 104 = .ok (.iload 4, 2) := by decide +kernel
theorem dX4_readNumber_106 : decode cX4_readNumber 106 = .ok (.putfield 175, 3) := by decide +kernel
theorem dX4_readNumber_109 : decode cX4_readNumber 109 = .ok (.iload 5, 2) := by decide +kernel
theorem dX4_readNumber_111 : decode cX4_readNumber 111 = .ok (.ireturn, 1) := by decide +kernel
theorem dX4_readCommand_0 : decode cX4_readCommand 0 = .ok (.aload_n 0, 1) := by decide +kernel
theorem dX4_readCommand_1 : decode cX4_readCommand 1 = .ok (.aload_n 0, 1) := by decide +kernel
theorem dX4_readCommand_2 : decode cX4_readCommand 2 = .ok (.iload_n 1, 1) := by decide +kernel
theorem dX4_readCommand_3 : decode cX4_readCommand 3 = .ok (.invokevirtual 169, 3) := by decide +kernel
theorem dX4_readCommand_6 : decode cX4_readCommand 6 = .ok (.putfield 181, 3) := by decide +kernel
theorem dX4_readCommand_9 : decode cX4_readCommand 9 = .ok (.aload_n 0, 1) := by decide +kernel
theorem dX4_readCommand_10 : decode cX4_readCommand 10 = .ok (.getfield 181, 3) := by decide +kernel
theorem dX4_readCommand_13 : decode cX4_readCommand 13 = .ok (.bipush 46, 2) := by decide +kernel
theorem dX4_readCommand_15 : decode cX4_readCommand 15 = .ok (.if_icmp .ne 14, 3) := by decide +kernel
theorem dX4_readCommand_18 : decode cX4_readCommand 18 = .ok (.aload_n 0, 1) := by decide +kernel
theorem dX4_readCommand_19 : decode cX4_readCommand 19 = .ok (.iload_n 1, 1) := by decide +kernel
theorem dX4_readCommand_20 : decode cX4_readCommand 20 = .ok (.iconst 1, 1) := by decide +kernel
theorem dX4_readCommand_21 : decode cX4_readCommand 21 = .ok (.iadd, 1) := by decide +kernel
theorem dX4_readCommand_22 : decode cX4_readCommand 22 = .ok (.iconst 1, 1) := by decide +kernel
theorem dX4_readCommand_23 : decode cX4_readCommand 23 = .ok (.bipush 99, 2) := by decide +kernel
theorem dX4_readCommand_25 : decode cX4_readCommand 25 = .ok (.invokevirtual 184, 3) := by decide +kernel
theorem dX4_readCommand_28 : decode cX4_readCommand 28 = .ok (.ireturn, 1) := by decide +kernel
theorem dX4_readCommand_29 : decode cX4_readCommand 29 = .ok (.aload_n 0, 1) := by decide +kernel
theorem dX4_readCommand_30 : decode cX4_readCommand 30 = .ok (.getfield 181, 3) := by decide +kernel
theorem dX4_readCommand_33 : decode cX4_readCommand 33 = .ok (.bipush 117, 2) := by decide +kernel
theorem dX4_readCommand_35 : decode cX4_readCommand 35 = .ok (.if_icmp .eq 43, 3) := by decide +kernel
theorem dX4_readCommand_38 : decode cX4_readCommand 38 = .ok (.aload_n 0, 1) := by decide +kernel
theorem dX4_readCommand_39 : decode cX4_readCommand 39 = .ok (.getfield 181, 3) := by decide +kernel
theorem dX4_readCommand_42 : decode cX4_readCommand 42 = .ok (.bipush 100, 2) := by decide +kernel
theorem dX4_readCommand_44 : decode cX4_readCommand 44 = .ok (.if_icmp .eq 34, 3) := by decide +kernel
theorem dX4_readCommand_47 : decode cX4_readCommand 47 = .ok (.aload_n 0, 1) := by decide +kernel
theorem dX4_readCommand_48 : decode cX4_readCommand 48 = .ok (.getfield 181, 3) := by decide +kernel
theorem dX4_readCommand_51 : decode cX4_readCommand 51 = .ok (.bipush 109, 2) := by decide +kernel
theorem dX4_readCommand_53 : decode cX4_readCommand 53 = .ok (.if_icmp .eq 25, 3) := by decide +kernel
theorem dX4_readCommand_56 : decode cX4_readCommand 56 = .ok (.aload_n 0, 1) := by decide +kernel
theorem dX4_readCommand_57 : decode cX4_readCommand 57 = .ok (.getfield 181, 3) := by decide +kernel
theorem dX4_readCommand_60 : decode cX4_readCommand 60 = .ok (.bipush 45, 2) := by decide +kernel
theorem dX4_readCommand_62 : decode cX4_readCommand 62 = .ok (.if_icmp .eq 16, 3) := by decide +kernel
theorem dX4_readCommand_65 : decode cX4_readCommand 65 = .ok (.aload_n 0, 1) := by decide +kernel
theorem dX4_readCommand_66 : decode cX4_readCommand 66 = .ok (.getfield 181, 3) := by decide +kernel
theorem dX4_readCommand_69 : decode cX4_readCommand 69 = .ok (.bipush 43, 2) := by decide +kernel
theorem dX4_readCommand_71 : decode cX4_readCommand 71 = .ok (.if_icmp .eq 7, 3) := by decide +kernel
theorem dX4_readCommand_74 : decode cX4_readCommand 74 = .ok (.iconst (-1), 1) := by decide +kernel
theorem dX4_readCommand_75 : decode cX4_readCommand 75 = .ok (.iload_n 1, 1) := by decide +kernel
theorem dX4_readCommand_76 : decode cX4_readCommand 76 = .ok (.isub, 1) := by decide +kernel
theorem dX4_readCommand_77 : decode cX4_readCommand 77 = .ok (.ireturn, 1) := by decide +kernel
theorem dX4_readCommand_78 : decode cX4_readCommand 78 = .ok (.aload_n 0, 1) := by decide +kernel
theorem dX4_readCommand_79 : decode cX4_readCommand 79 = .ok (.iload_n 1, 1) := by decide +kernel
theorem dX4_readCommand_80 : decode cX4_readCommand 80 = .ok (.iconst 1, 1) := by decide +kernel
theorem dX4_readCommand_81 : decode cX4_readCommand 81 = .ok (.iadd, 1) := by decide +kernel
theorem dX4_readCommand_82 : decode cX4_readCommand 82 = .ok (.iconst 0, 1) := by decide +kernel
theorem dX4_readCommand_83 : decode cX4_readCommand 83 = .ok (.bipush 19, 2) := by decide +kernel
theorem dX4_readCommand_85 : decode cX4_readCommand 85 = .ok (.invokevirtual 184, 3) := by decide +kernel
theorem dX4_readCommand_88 : decode cX4_readCommand 88 = .ok (.istore_n 2, 1) := by decide +kernel
theorem dX4_readCommand_89 : decode cX4_readCommand 89 = .ok (.iload_n 2, 1) := by decide +kernel
theorem dX4_readCommand_90 : decode cX4_readCommand 90 = .ok (.ifCond .lt 21, 3) := by decide +kernel
theorem dX4_readCommand_93 : decode cX4_readCommand 93 = .ok (.aload_n 0, 1) := by decide +kernel
theorem dX4_readCommand_94 : decode cX4_readCommand 94 = .ok (.getfield 181, 3) := by decide +kernel
theorem dX4_readCommand_97 : decode cX4_readCommand 97 = .ok (.bipush 117, 2) := by decide +kernel
theorem dX4_readCommand_99 : decode cX4_readCommand 99 = .ok (.if_icmp .eq 14, 3) := by decide +kernel
theorem dX4_readCommand_102 : decode cX4_readCommand 102 = .ok (.aload_n 0, 1) := by decide +kernel
theorem dX4_readCommand_103 : decode cX4_readCommand 103 = .ok (.getfield 181, 3) := by decide +kernel
theorem dX4_readCommand_106 : decode cX4_readCommand 106 = .ok (.bipush 109, 2) := by decide +kernel
theorem dX4_readCommand_108 : decode cX4_readCommand 108 = .ok (.if_icmp .eq 5, 3) := by decide +kernel
theorem dX4_readCommand_111 : decode cX4_readCommand 111 = .ok (.iload_n 2, 1) := by decide +kernel
theorem dX4_readCommand_112 : decode cX4_readCommand 112 = .ok (.ireturn, 1) := by decide +kernel
theorem dX4_readCommand_113 : decode cX4_readCommand 113 = .ok (.aload_n 0, 1) := by decide +kernel
theorem dX4_readCommand_114 : decode cX4_readCommand 114 = .ok (.iload_n 2, 1) := by decide +kernel
theorem dX4_readCommand_115 : decode cX4_readCommand 115 = .ok (.invokevirtual 169, 3) := by decide +kernel
theorem dX4_readCommand_118 : decode cX4_readCommand 118 = .ok (.bipush 58, 2) := by decide +kernel
theorem dX4_readCommand_120 : decode cX4_readCommand 120 = .ok (.if_icmp .ne 15, 3) := by decide +kernel
theorem dX4_readCommand_123 : decode cX4_readCommand 123 = .ok (.aload_n 0, 1) := by decide +kernel
theorem dX4_readCommand_124 : decode cX4_readCommand 124 = .ok (.iload_n 2, 1) := by decide +kernel
theorem dX4_readCommand_125 : decode cX4_readCommand 125 = .ok (.iconst 1, 1) := by decide +kernel
theorem dX4_readCommand_126 : decode cX4_readCommand 126 = .ok (.iadd, 1) := by decide +kernel
theorem dX4_readCommand_127 : decode cX4_readCommand 127 = .ok (.iconst 0, 1) := by decide +kernel
theorem dX4_readCommand_128 : decode cX4_readCommand 128 = .ok (.iconst 3, 1) := by decide +kernel
theorem dX4_readCommand_129 : decode cX4_readCommand 129 = .ok (.invokevirtual 184, 3) := by decide +kernel
theorem dX4_readCommand_132 : decode cX4_readCommand 132 = .ok (.goto 6, 3) := by decide +kernel
theorem dX4_readCommand_135 : decode cX4_readCommand 135 = .ok (.iconst (-1), 1) := by decide +kernel
theorem dX4_readCommand_136 : decode cX4_readCommand 136 = .ok (.iload_n 2, 1) := by decide +kernel
theorem dX4_readCommand_137 : decode cX4_readCommand 137 = .ok (.isub, 1) := by decide +kernel
theorem dX4_readCommand_138 : decode cX4_readCommand 138 = .ok (.ireturn, 1) := by decide +kernel
theorem dX4_findFault_0 : decode cX4_findFault 0 = .ok (.iconst 0, 1) := by decide +kernel
theorem dX4_findFault_1 : decode cX4_findFault 1 = .ok (.istore_n 1, 1) := by decide +kernel
theorem dX4_findFault_2 : decode cX4_findFault 2 = .ok (.aload_n 0, 1) := by decide +kernel
theorem dX4_findFault_3 : decode cX4_findFault 3 = .ok (.iload_n 1, 1) := by decide +kernel
theorem dX4_findFault_4 : decode cX4_findFault 4 = .ok (.invokevirtual 188, 3) := by decide +kernel
theorem dX4_findFault_7 : decode cX4_findFault 7 = .ok (.istore_n 1, 1) := by decide +kernel
theorem dX4_findFault_8 : decode cX4_findFault 8 = .ok (.iload_n 1, 1) := by decide +kernel
theorem dX4_findFault_9 : decode cX4_findFault 9 = .ok (.ifCond .ge 7, 3) := by decide +kernel
theorem dX4_findFault_12 : decode cX4_findFault 12 = .ok (.iconst (-1), 1) := by decide +kernel
theorem dX4_findFault_13 : decode cX4_findFault 13 = .ok (.iload_n 1, 1) := by decide +kernel
theorem dX4_findFault_14 : decode cX4_findFault 14 = .ok (.isub, 1) := by decide +kernel
theorem dX4_findFault_15 : decode cX4_findFault 15 = .ok (.ireturn, 1) := by decide +kernel
theorem dX4_findFault_16 : decode cX4_findFault 16 = .ok (.iload_n 1, 1) := by decide +kernel
theorem dX4_findFault_17 : decode cX4_findFault 17 = .ok (.aload_n 0, 1) := by decide +kernel
theorem dX4_findFault_18 : decode cX4_findFault 18 = .ok (.getfield 166, 3) := by decide +kernel
theorem dX4_findFault_21 : decode cX4_findFault 21 = .ok (.if_icmp .ne 6, 3) := by decide +kernel
theorem dX4_findFault_24 : decode cX4_findFault 24 = .ok (.bipush (-5), 2) := by decide +kernel
theorem dX4_findFault_26 : decode cX4_findFault 26 = .ok (.ireturn, 1) := by decide +kernel
theorem dX4_findFault_27 : decode cX4_findFault 27 = .ok (.aload_n 0, 1) := by decide +kernel
theorem dX4_findFault_28 : decode cX4_findFault 28 = .ok (.getfield 22, 3) := by decide +kernel
theorem dX4_findFault_31 : decode cX4_findFault 31 = .ok (.iload_n 1, 1) := by decide +kernel
theorem dX4_findFault_32 : decode cX4_findFault 32 = .ok (.iaload, 1) := by decide +kernel
theorem dX4_findFault_33 : decode cX4_findFault 33 = .ok (.bipush 59, 2) := by decide +kernel
theorem dX4_findFault_35 : decode cX4_findFault 35 = .ok (.if_icmp .eq 5, 3) := by decide +kernel
theorem dX4_findFault_38 : decode cX4_findFault 38 = .ok (.iload_n 1, 1) := by decide +kernel
theorem dX4_findFault_39 : decode cX4_findFault 39 = .ok (.ireturn, 1) := by decide +kernel
theorem dX4_findFault_40 : decode cX4_findFault 40 = .ok (.iinc 1 1, 3) := by decide +kernel
theorem dX4_findFault_43 : decode cX4_findFault 43 = .ok (.goto (-41), 3) := by decide +kernel
theorem dX4_noCommand_0 : decode cX4_noCommand 0 = .ok (.aload_n 0, 1) := by decide +kernel
theorem dX4_noCommand_1 : decode cX4_noCommand 1 = .ok (.getfield 181, 3) := by decide +kernel
theorem dX4_noCommand_4 : decode cX4_noCommand 4 = .ok (.lookupswitch 110 #[(43, 87), (45, 87), (100, 65), (109, 74), (117, 52)], 52) := by decide +kernel
theorem dX4_noCommand_56 : decode cX4_noCommand 56 = .ok (.aload_n 0, 1) := by decide +kernel
theorem dX4_noCommand_57 : decode cX4_noCommand 57 = .ok (.aload_n 0, 1) := by decide +kernel
theorem dX4_noCommand_58 : decode cX4_noCommand 58 = .ok (.getfield 178, 3) := by decide +kernel
theorem dX4_noCommand_61 : decode cX4_noCommand 61 = .ok (.aload_n 0, 1) := by decide +kernel
theorem dX4_noCommand_62 : decode cX4_noCommand 62 = .ok (.getfield 175, 3) := by decide +kernel
theorem dX4_noCommand_65 : decode cX4_noCommand 65 = .ok (.invokevirtual 123, 3) := by decide +kernel
theorem dX4_noCommand_68 : decode cX4_noCommand 68 = .ok (.ireturn, 1) := by decide +kernel
theorem dX4_noCommand_69 : decode cX4_noCommand 69 = .ok (.aload_n 0, 1) := by decide +kernel
theorem dX4_noCommand_70 : decode cX4_noCommand 70 = .ok (.aload_n 0, 1) := by decide +kernel
theorem dX4_noCommand_71 : decode cX4_noCommand 71 = .ok (.getfield 175, 3) := by decide +kernel
theorem dX4_noCommand_74 : decode cX4_noCommand 74 = .ok (.invokevirtual 135, 3) := by decide +kernel
theorem dX4_noCommand_77 : decode cX4_noCommand 77 = .ok (.ireturn, 1) := by decide +kernel
theorem dX4_noCommand_78 : decode cX4_noCommand 78 = .ok (.aload_n 0, 1) := by decide +kernel
theorem dX4_noCommand_79 : decode cX4_noCommand 79 = .ok (.aload_n 0, 1) := by decide +kernel
theorem dX4_noCommand_80 : decode cX4_noCommand 80 = .ok (.getfield 178, 3) := by decide +kernel
theorem dX4_noCommand_83 : decode cX4_noCommand 83 = .ok (.aload_n 0, 1) := by decide +kernel
theorem dX4_noCommand_84 : decode cX4_noCommand 84 = .ok (.getfield 175, 3) := by decide +kernel
theorem dX4_noCommand_87 : decode cX4_noCommand 87 = .ok (.invokevirtual 141, 3) := by decide +kernel
theorem dX4_noCommand_90 : decode cX4_noCommand 90 = .ok (.ireturn, 1) := by decide +kernel
theorem dX4_noCommand_91 : decode cX4_noCommand 91 = .ok (.aload_n 0, 1) := by decide +kernel
theorem dX4_noCommand_92 : decode cX4_noCommand 92 = .ok (.aload_n 0, 1) := by decide +kernel
theorem dX4_noCommand_93 : decode cX4_noCommand 93 = .ok (.getfield 175, 3) := by decide +kernel
theorem dX4_noCommand_96 : decode cX4_noCommand 96 = .ok (.aload_n 0, 1) := by decide +kernel
theorem dX4_noCommand_97 : decode cX4_noCommand 97 = .ok (.getfield 181, 3) := by decide +kernel
theorem dX4_noCommand_100 : decode cX4_noCommand 100 = .ok (.bipush 43, 2) := by decide +kernel
theorem dX4_noCommand_102 : decode cX4_noCommand 102 = .ok (.if_icmp .ne 7, 3) := by decide +kernel
theorem dX4_noCommand_105 : decode cX4_noCommand 105 = .ok (.iconst 1, 1) := by decide +kernel
theorem dX4_noCommand_106 : decode cX4_noCommand 106 = .ok (.goto 4, 3) := by decide +kernel
theorem dX4_noCommand_109 : decode cX4_noCommand 109 = .ok (.iconst 0, 1) := by decide +kernel
theorem dX4_noCommand_110 : decode cX4_noCommand 110 = .ok (.invokevirtual 153, 3) := by decide +kernel
theorem dX4_noCommand_113 : decode cX4_noCommand 113 = .ok (.ireturn, 1) := by decide +kernel
theorem dX4_noCommand_114 : decode cX4_noCommand 114 = .ok (.aload_n 0, 1) := by decide +kernel
theorem dX4_noCommand_115 : decode cX4_noCommand 115 = .ok (.aload_n 0, 1) := by decide +kernel
theorem dX4_noCommand_116 : decode cX4_noCommand 116 = .ok (.getfield 175, 3) := by decide +kernel
theorem dX4_noCommand_119 : decode cX4_noCommand 119 = .ok (.invokevirtual 160, 3) := by decide +kernel
theorem dX4_noCommand_122 : decode cX4_noCommand 122 = .ok (.ireturn, 1) := by decide +kernel
theorem dX4_doCommand_0 : decode cX4_doCommand 0 = .ok (.aload_n 0, 1) := by decide +kernel
theorem dX4_doCommand_1 : decode cX4_doCommand 1 = .ok (.getfield 181, 3) := by decide +kernel
theorem dX4_doCommand_4 : decode cX4_doCommand 4 = .ok (.lookupswitch 110 #[(43, 87), (45, 87), (100, 65), (109, 74), (117, 52)], 52) := by decide +kernel
theorem dX4_doCommand_56 : decode cX4_doCommand 56 = .ok (.aload_n 0, 1) := by decide +kernel
theorem dX4_doCommand_57 : decode cX4_doCommand 57 = .ok (.aload_n 0, 1) := by decide +kernel
theorem dX4_doCommand_58 : decode cX4_doCommand 58 = .ok (.getfield 178, 3) := by decide +kernel
theorem dX4_doCommand_61 : decode cX4_doCommand 61 = .ok (.aload_n 0, 1) := by decide +kernel
theorem dX4_doCommand_62 : decode cX4_doCommand 62 = .ok (.getfield 175, 3) := by decide +kernel
theorem dX4_doCommand_65 : decode cX4_doCommand 65 = .ok (.invokevirtual 126, 3) := by decide +kernel
theorem dX4_doCommand_68 : decode cX4_doCommand 68 = .ok (.ireturn, 1) := by decide +kernel
theorem dX4_doCommand_69 : decode cX4_doCommand 69 = .ok (.aload_n 0, 1) := by decide +kernel
theorem dX4_doCommand_70 : decode cX4_doCommand 70 = .ok (.aload_n 0, 1) := by decide +kernel
theorem dX4_doCommand_71 : decode cX4_doCommand 71 = .ok (.getfield 175, 3) := by decide +kernel
theorem dX4_doCommand_74 : decode cX4_doCommand 74 = .ok (.invokevirtual 138, 3) := by decide +kernel
theorem dX4_doCommand_77 : decode cX4_doCommand 77 = .ok (.ireturn, 1) := by decide +kernel
theorem dX4_doCommand_78 : decode cX4_doCommand 78 = .ok (.aload_n 0, 1) := by decide +kernel
theorem dX4_doCommand_79 : decode cX4_doCommand 79 = .ok (.aload_n 0, 1) := by decide +kernel
theorem dX4_doCommand_80 : decode cX4_doCommand 80 = .ok (.getfield 178, 3) := by decide +kernel
theorem dX4_doCommand_83 : decode cX4_doCommand 83 = .ok (.aload_n 0, 1) := by decide +kernel
theorem dX4_doCommand_84 : decode cX4_doCommand 84 = .ok (.getfield 175, 3) := by decide +kernel
theorem dX4_doCommand_87 : decode cX4_doCommand 87 = .ok (.invokevirtual 144, 3) := by decide +kernel
theorem dX4_doCommand_90 : decode cX4_doCommand 90 = .ok (.ireturn, 1) := by decide +kernel
theorem dX4_doCommand_91 : decode cX4_doCommand 91 = .ok (.aload_n 0, 1) := by decide +kernel
theorem dX4_doCommand_92 : decode cX4_doCommand 92 = .ok (.aload_n 0, 1) := by decide +kernel
theorem dX4_doCommand_93 : decode cX4_doCommand 93 = .ok (.getfield 175, 3) := by decide +kernel
theorem dX4_doCommand_96 : decode cX4_doCommand 96 = .ok (.aload_n 0, 1) := by decide +kernel
theorem dX4_doCommand_97 : decode cX4_doCommand 97 = .ok (.getfield 181, 3) := by decide +kernel
theorem dX4_doCommand_100 : decode cX4_doCommand 100 = .ok (.bipush 43, 2) := by decide +kernel
theorem dX4_doCommand_102 : decode cX4_doCommand 102 = .ok (.if_icmp .ne 7, 3) := by decide +kernel
theorem dX4_doCommand_105 : decode cX4_doCommand 105 = .ok (.iconst 1, 1) := by decide +kernel
theorem dX4_doCommand_106 : decode cX4_doCommand 106 = .ok (.goto 4, 3) := by decide +kernel
theorem dX4_doCommand_109 : decode cX4_doCommand 109 = .ok (.iconst 0, 1) := by decide +kernel
theorem dX4_doCommand_110 : decode cX4_doCommand 110 = .ok (.invokevirtual 157, 3) := by decide +kernel
theorem dX4_doCommand_113 : decode cX4_doCommand 113 = .ok (.ireturn, 1) := by decide +kernel
theorem dX4_doCommand_114 : decode cX4_doCommand 114 = .ok (.aload_n 0, 1) := by decide +kernel
theorem dX4_doCommand_115 : decode cX4_doCommand 115 = .ok (.aload_n 0, 1) := by decide +kernel
theorem dX4_doCommand_116 : decode cX4_doCommand 116 = .ok (.getfield 175, 3) := by decide +kernel
theorem dX4_doCommand_119 : decode cX4_doCommand 119 = .ok (.invokevirtual 163, 3) := by decide +kernel
theorem dX4_doCommand_122 : decode cX4_doCommand 122 = .ok (.ireturn, 1) := by decide +kernel
theorem dX4_perform_0 : decode cX4_perform 0 = .ok (.aload_n 0, 1) := by decide +kernel
theorem dX4_perform_1 : decode cX4_perform 1 = .ok (.invokevirtual 191, 3) := by decide +kernel
theorem dX4_perform_4 : decode cX4_perform 4 = .ok (.istore_n 1, 1) := by decide +kernel
theorem dX4_perform_5 : decode cX4_perform 5 = .ok (.iload_n 1, 1) := by decide +kernel
theorem dX4_perform_6 : decode cX4_perform 6 = .ok (.ifCond .lt 8, 3) := by decide +kernel
theorem dX4_perform_9 : decode cX4_perform 9 = .ok (.bipush (-100), 2) := by decide +kernel
theorem dX4_perform_11 : decode cX4_perform 11 = .ok (.iload_n 1, 1) := by decide +kernel
theorem dX4_perform_12 : decode cX4_perform 12 = .ok (.isub, 1) := by decide +kernel
theorem dX4_perform_13 : decode cX4_perform 13 = .ok (.ireturn, 1) := by decide +kernel
theorem dX4_perform_14 : decode cX4_perform 14 = .ok (.iconst 0, 1) := by decide +kernel
theorem dX4_perform_15 : decode cX4_perform 15 = .ok (.istore_n 2, 1) := by decide +kernel
theorem dX4_perform_16 : decode cX4_perform 16 = .ok (.iload_n 2, 1) := by decide +kernel
theorem dX4_perform_17 : decode cX4_perform 17 = .ok (.sipush 255, 3) := by decide +kernel
theorem dX4_perform_20 : decode cX4_perform 20 = .ok (.if_icmp .ge 21, 3) := by decide +kernel
theorem dX4_perform_23 : decode cX4_perform 23 = .ok (.aload_n 0, 1) := by decide +kernel
theorem dX4_perform_24 : decode cX4_perform 24 = .ok (.getfield 13, 3) := by decide +kernel
theorem dX4_perform_27 : decode cX4_perform 27 = .ok (.iload_n 2, 1) := by decide +kernel
theorem dX4_perform_28 : decode cX4_perform 28 = .ok (.aload_n 0, 1) := by decide +kernel
theorem dX4_perform_29 : decode cX4_perform 29 = .ok (.getfield 7, 3) := by decide +kernel
theorem dX4_perform_32 : decode cX4_perform 32 = .ok (.iload_n 2, 1) := by decide +kernel
theorem dX4_perform_33 : decode cX4_perform 33 = .ok (.iaload, 1) := by decide +kernel
theorem dX4_perform_34 : decode cX4_perform 34 = .ok (.iastore, 1) := by decide +kernel
theorem dX4_perform_35 : decode cX4_perform 35 = .ok (.iinc 2 1, 3) := by decide +kernel
theorem dX4_perform_38 : decode cX4_perform 38 = .ok (.goto (-22), 3) := by decide +kernel
theorem dX4_perform_41 : decode cX4_perform 41 = .ok (.iconst 0, 1) := by decide +kernel
theorem dX4_perform_42 : decode cX4_perform 42 = .ok (.istore_n 2, 1) := by decide +kernel
theorem dX4_perform_43 : decode cX4_perform 43 = .ok (.iconst 0, 1) := by decide +kernel
theorem dX4_perform_44 : decode cX4_perform 44 = .ok (.istore_n 3, 1) := by decide +kernel
theorem dX4_perform_45 : decode cX4_perform 45 = .ok (.iconst 0, 1) := by decide +kernel
theorem dX4_perform_46 : decode cX4_perform 46 = .ok (.istore 4, 2) := by decide +kernel
theorem dX4_perform_48 : decode cX4_perform 48 = .ok (.iload 4, 2) := by decide +kernel
theorem dX4_perform_50 : decode cX4_perform 50 = .ok (.aload_n 0, 1) := by decide +kernel
theorem dX4_perform_51 : decode cX4_perform 51 = .ok (.getfield 166, 3) := by decide +kernel
theorem dX4_perform_54 : decode cX4_perform 54 = .ok (.if_icmp .ge 44, 3) := by decide +kernel
theorem dX4_perform_57 : decode cX4_perform 57 = .ok (.iload_n 3, 1) := by decide +kernel
theorem dX4_perform_58 : decode cX4_perform 58 = .ok (.ifCond .eq 9, 3) := by decide +kernel
theorem dX4_perform_61 : decode cX4_perform 61 = .ok (.iload_n 3, 1) := by decide +kernel
theorem dX4_perform_62 : decode cX4_perform 62 = .ok (.bipush (-5), 2) := by decide +kernel
theorem dX4_perform_64 : decode cX4_perform 64 = .ok (.if_icmp .ne 34, 3) := by decide +kernel
theorem dX4_perform_67 : decode cX4_perform 67 = .ok (.aload_n 0, 1) := by decide +kernel
theorem dX4_perform_68 : decode cX4_perform 68 = .ok (.iload 4, 2) := by decide +kernel
theorem dX4_perform_70 : decode cX4_perform 70 = .ok (.invokevirtual 188, 3) := by decide +kernel
theorem dX4_perform_73 : decode cX4_perform 73 = .ok (.istore 4, 2) := by decide +kernel
theorem dX4_perform_75 : decode cX4_perform 75 = .ok (.aload_n 0, 1) := by decide +kernel
theorem dX4_perform_76 : decode cX4_perform 76 = .ok (.invokevirtual 194, 3) := by decide +kernel
theorem dX4_perform_79 : decode cX4_perform 79 = .ok (.istore_n 3, 1) := by decide +kernel
theorem dX4_perform_80 : decode cX4_perform 80 = .ok (.iload_n 3, 1) := by decide +kernel
theorem dX4_perform_81 : decode cX4_perform 81 = .ok (.ifCond .ne 8, 3) := by decide +kernel
theorem dX4_perform_84 : decode cX4_perform 84 = .ok (.aload_n 0, 1) := by decide +kernel
theorem dX4_perform_85 : decode cX4_perform 85 = .ok (.invokevirtual 197, 3) := by decide +kernel
theorem dX4_perform_88 : decode cX4_perform 88 = .ok (.pop, 1) := by decide +kernel
theorem dX4_perform_89 : decode cX4_perform 89 = .ok (.iinc 2 1, 3) := by decide +kernel
theorem dX4_perform_92 : decode cX4_perform 92 = .ok (.iinc 4 1, 3) := by decide +kernel
theorem dX4_perform_95 : decode cX4_perform 95 = .ok (.goto (-47), 3) := by decide +kernel
theorem dX4_perform_98 : decode cX4_perform 98 = .ok (.iload_n 3, 1) := by decide +kernel
theorem dX4_perform_99 : decode cX4_perform 99 = .ok (.ifCond .ge 55, 3) := by decide +kernel
theorem dX4_perform_102 : decode cX4_perform 102 = .ok (.iload_n 3, 1) := by decide +kernel
theorem dX4_perform_103 : decode cX4_perform 103 = .ok (.bipush (-5), 2) := by decide +kernel
theorem dX4_perform_105 : decode cX4_perform 105 = .ok (.if_icmp .eq 49, 3) := by decide +kernel
theorem dX4_perform_108 : decode cX4_perform 108 = .ok (.iconst 0, 1) := by decide +kernel
theorem dX4_perform_109 : decode cX4_perform 109 = .ok (.istore 4, 2) := by decide +kernel
theorem dX4_perform_111 : decode cX4_perform 111 = .ok (.iload 4, 2) := by decide +kernel
theorem dX4_perform_113 : decode cX4_perform 113 = .ok (.sipush 255, 3) := by decide +kernel
theorem dX4_perform_116 : decode cX4_perform 116 = .ok (.if_icmp .ge 23, 3) := by decide +kernel
theorem dX4_perform_119 : decode cX4_perform 119 = .ok (.aload_n 0, 1) := by decide +kernel
theorem dX4_perform_120 : decode cX4_perform 120 = .ok (.getfield 7, 3) := by decide +kernel
theorem dX4_perform_123 : decode cX4_perform 123 = .ok (.iload 4, 2) := by decide +kernel
theorem dX4_perform_125 : decode cX4_perform 125 = .ok (.aload_n 0, 1) := by decide +kernel
theorem dX4_perform_126 : decode cX4_perform 126 = .ok (.getfield 13, 3) := by decide +kernel
theorem dX4_perform_129 : decode cX4_perform 129 = .ok (.iload 4, 2) := by decide +kernel
theorem dX4_perform_131 : decode cX4_perform 131 = .ok (.iaload, 1) := by decide +kernel
theorem dX4_perform_132 : decode cX4_perform 132 = .ok (.iastore, 1) := by decide +kernel
theorem dX4_perform_133 : decode cX4_perform 133 = .ok (.iinc 4 1, 3) := by decide +kernel
theorem dX4_perform_136 : decode cX4_perform 136 = .ok (.goto (-25), 3) := by decide +kernel
theorem dX4_perform_139 : decode cX4_perform 139 = .ok (.aload_n 0, 1) := by decide +kernel
theorem dX4_perform_140 : decode cX4_perform 140 = .ok (.iload_n 2, 1) := by decide +kernel
theorem dX4_perform_141 : decode cX4_perform 141 = .ok (.iconst 1, 1) := by decide +kernel
theorem dX4_perform_142 : decode cX4_perform 142 = .ok (.isub, 1) := by decide +kernel
theorem dX4_perform_143 : decode cX4_perform 143 = .ok (.putfield 25, 3) := by decide +kernel
theorem dX4_perform_146 : decode cX4_perform 146 = .ok (.aload_n 0, 1) := by decide +kernel
theorem dX4_perform_147 : decode cX4_perform 147 = .ok (.iload_n 3, 1) := by decide +kernel
theorem dX4_perform_148 : decode cX4_perform 148 = .ok (.putfield 29, 3) := by decide +kernel
theorem dX4_perform_151 : decode cX4_perform 151 = .ok (.bipush (-4), 2) := by decide +kernel
theorem dX4_perform_153 : decode cX4_perform 153 = .ok (.ireturn, 1) := by decide +kernel
theorem dX4_perform_154 : decode cX4_perform 154 = .ok (.aload_n 0, 1) := by decide +kernel
theorem dX4_perform_155 : decode cX4_perform 155 = .ok (.aload_n 0, 1) := by decide +kernel
theorem dX4_perform_156 : decode cX4_perform 156 = .ok (.getfield 13, 3) := by decide +kernel
theorem dX4_perform_159 : decode cX4_perform 159 = .ok (.invokevirtual 85, 3) := by decide +kernel
theorem dX4_perform_162 : decode cX4_perform 162 = .ok (.iload_n 2, 1) := by decide +kernel
theorem dX4_perform_163 : decode cX4_perform 163 = .ok (.ireturn, 1) := by decide +kernel
theorem dX4_stopped_0 : decode cX4_stopped 0 = .ok (.iload_n 1, 1) := by decide +kernel
theorem dX4_stopped_1 : decode cX4_stopped 1 = .ok (.ifCond .ne 10, 3) := by decide +kernel
theorem dX4_stopped_4 : decode cX4_stopped 4 = .ok (.aload_n 0, 1) := by decide +kernel
theorem dX4_stopped_5 : decode cX4_stopped 5 = .ok (.getfield 25, 3) := by decide +kernel
theorem dX4_stopped_8 : decode cX4_stopped 8 = .ok (.goto 17, 3) := by decide +kernel
theorem dX4_stopped_11 : decode cX4_stopped 11 = .ok (.iload_n 1, 1) := by decide +kernel
theorem dX4_stopped_12 : decode cX4_stopped 12 = .ok (.iconst 1, 1) := by decide +kernel
theorem dX4_stopped_13 : decode cX4_stopped 13 = .ok (.if_icmp .ne 10, 3) := by decide +kernel
theorem dX4_stopped_16 : decode cX4_stopped 16 = .ok (.aload_n 0, 1) := by decide +kernel
theorem dX4_stopped_17 : decode cX4_stopped 17 = .ok (.getfield 29, 3) := by decide +kernel
theorem dX4_stopped_20 : decode cX4_stopped 20 = .ok (.goto 5, 3) := by decide +kernel
theorem dX4_stopped_23 : decode cX4_stopped 23 = .ok (.bipush (-2), 2) := by decide +kernel
theorem dX4_stopped_25 : decode cX4_stopped 25 = .ok (.ireturn, 1) := by decide +kernel
theorem dX4_boat_0 : decode cX4_boat 0 = .ok (.aload_n 0, 1) := by decide +kernel
theorem dX4_boat_1 : decode cX4_boat 1 = .ok (.iload_n 1, 1) := by decide +kernel
theorem dX4_boat_2 : decode cX4_boat 2 = .ok (.invokevirtual 92, 3) := by decide +kernel
theorem dX4_boat_5 : decode cX4_boat 5 = .ok (.ifCond .ne 5, 3) := by decide +kernel
theorem dX4_boat_8 : decode cX4_boat 8 = .ok (.iconst (-1), 1) := by decide +kernel
theorem dX4_boat_9 : decode cX4_boat 9 = .ok (.ireturn, 1) := by decide +kernel
theorem dX4_boat_10 : decode cX4_boat 10 = .ok (.iload_n 2, 1) := by decide +kernel
theorem dX4_boat_11 : decode cX4_boat 11 = .ok (.tableswitch 132 0 10 #[57, 57, 57, 57, 66, 73, 92, 100, 108, 116, 124], 57) := by decide +kernel
theorem dX4_boat_68 : decode cX4_boat 68 = .ok (.aload_n 0, 1) := by decide +kernel
theorem dX4_boat_69 : decode cX4_boat 69 = .ok (.iload_n 1, 1) := by decide +kernel
theorem dX4_boat_70 : decode cX4_boat 70 = .ok (.iconst 1, 1) := by decide +kernel
theorem dX4_boat_71 : decode cX4_boat 71 = .ok (.iload_n 2, 1) := by decide +kernel
theorem dX4_boat_72 : decode cX4_boat 72 = .ok (.iadd, 1) := by decide +kernel
theorem dX4_boat_73 : decode cX4_boat 73 = .ok (.invokevirtual 36, 3) := by decide +kernel
theorem dX4_boat_76 : decode cX4_boat 76 = .ok (.ireturn, 1) := by decide +kernel
theorem dX4_boat_77 : decode cX4_boat 77 = .ok (.aload_n 0, 1) := by decide +kernel
theorem dX4_boat_78 : decode cX4_boat 78 = .ok (.iload_n 1, 1) := by decide +kernel
theorem dX4_boat_79 : decode cX4_boat 79 = .ok (.iconst 5, 1) := by decide +kernel
theorem dX4_boat_80 : decode cX4_boat 80 = .ok (.invokevirtual 36, 3) := by decide +kernel
theorem dX4_boat_83 : decode cX4_boat 83 = .ok (.ireturn, 1) := by decide +kernel
theorem dX4_boat_84 : decode cX4_boat 84 = .ok (.aload_n 0, 1) := by decide +kernel
theorem dX4_boat_85 : decode cX4_boat 85 = .ok (.iload_n 1, 1) := by decide +kernel
theorem dX4_boat_86 : decode cX4_boat 86 = .ok (.invokevirtual 40, 3) := by decide +kernel
theorem dX4_boat_89 : decode cX4_boat 89 = .ok (.ifCond .eq 11, 3) := by decide +kernel
theorem dX4_boat_92 : decode cX4_boat 92 = .ok (.aload_n 0, 1) := by decide +kernel
theorem dX4_boat_93 : decode cX4_boat 93 = .ok (.iload_n 1, 1) := by decide +kernel
theorem dX4_boat_94 : decode cX4_boat 94 = .ok (.invokevirtual 67, 3) := by decide +kernel
theorem dX4_boat_97 : decode cX4_boat 97 = .ok (.goto 5, 3) := by decide +kernel
theorem dX4_boat_100 : decode cX4_boat 100 = .ok (.bipush (-5), 2) := by decide +kernel
theorem dX4_boat_102 : decode cX4_boat 102 = .ok (.ireturn, 1) := by decide +kernel
theorem dX4_boat_103 : decode cX4_boat 103 = .ok (.aload_n 0, 1) := by decide +kernel
theorem dX4_boat_104 : decode cX4_boat 104 = .ok (.iload_n 1, 1) := by decide +kernel
theorem dX4_boat_105 : decode cX4_boat 105 = .ok (.bipush 6, 2) := by decide +kernel
theorem dX4_boat_107 : decode cX4_boat 107 = .ok (.invokevirtual 36, 3) := by decide +kernel
theorem dX4_boat_110 : decode cX4_boat 110 = .ok (.ireturn, 1) := by decide +kernel
theorem dX4_boat_111 : decode cX4_boat 111 = .ok (.aload_n 0, 1) := by decide +kernel
theorem dX4_boat_112 : decode cX4_boat 112 = .ok (.iload_n 1, 1) := by decide +kernel
theorem dX4_boat_113 : decode cX4_boat 113 = .ok (.bipush 7, 2) := by decide +kernel
theorem dX4_boat_115 : decode cX4_boat 115 = .ok (.invokevirtual 36, 3) := by decide +kernel
theorem dX4_boat_118 : decode cX4_boat 118 = .ok (.ireturn, 1) := by decide +kernel
theorem dX4_boat_119 : decode cX4_boat 119 = .ok (.aload_n 0, 1) := by decide +kernel
theorem dX4_boat_120 : decode cX4_boat 120 = .ok (.iload_n 1, 1) := by decide +kernel
theorem dX4_boat_121 : decode cX4_boat 121 = .ok (.bipush 8, 2) := by decide +kernel
theorem dX4_boat_123 : decode cX4_boat 123 = .ok (.invokevirtual 36, 3) := by decide +kernel
theorem dX4_boat_126 : decode cX4_boat 126 = .ok (.ireturn, 1) := by decide +kernel
theorem dX4_boat_127 : decode cX4_boat 127 = .ok (.aload_n 0, 1) := by decide +kernel
theorem dX4_boat_128 : decode cX4_boat 128 = .ok (.iload_n 1, 1) := by decide +kernel
theorem dX4_boat_129 : decode cX4_boat 129 = .ok (.bipush 9, 2) := by decide +kernel
theorem dX4_boat_131 : decode cX4_boat 131 = .ok (.invokevirtual 36, 3) := by decide +kernel
theorem dX4_boat_134 : decode cX4_boat 134 = .ok (.ireturn, 1) := by decide +kernel
theorem dX4_boat_135 : decode cX4_boat 135 = .ok (.aload_n 0, 1) := by decide +kernel
theorem dX4_boat_136 : decode cX4_boat 136 = .ok (.iload_n 1, 1) := by decide +kernel
theorem dX4_boat_137 : decode cX4_boat 137 = .ok (.bipush 10, 2) := by decide +kernel
theorem dX4_boat_139 : decode cX4_boat 139 = .ok (.invokevirtual 36, 3) := by decide +kernel
theorem dX4_boat_142 : decode cX4_boat 142 = .ok (.ireturn, 1) := by decide +kernel
theorem dX4_boat_143 : decode cX4_boat 143 = .ok (.bipush (-2), 2) := by decide +kernel
theorem dX4_boat_145 : decode cX4_boat 145 = .ok (.ireturn, 1) := by decide +kernel
theorem dX4_row_0 : decode cX4_row 0 = .ok (.iload_n 1, 1) := by decide +kernel
theorem dX4_row_1 : decode cX4_row 1 = .ok (.invokestatic 98, 3) := by decide +kernel
theorem dX4_row_4 : decode cX4_row 4 = .ok (.ifCond .ne 5, 3) := by decide +kernel
theorem dX4_row_7 : decode cX4_row 7 = .ok (.iconst (-1), 1) := by decide +kernel
theorem dX4_row_8 : decode cX4_row 8 = .ok (.ireturn, 1) := by decide +kernel
theorem dX4_row_9 : decode cX4_row 9 = .ok (.iload_n 2, 1) := by decide +kernel
theorem dX4_row_10 : decode cX4_row 10 = .ok (.tableswitch 65 0 3 #[30, 40, 46, 52], 30) := by decide +kernel
theorem dX4_row_40 : decode cX4_row 40 = .ok (.aload_n 0, 1) := by decide +kernel
theorem dX4_row_41 : decode cX4_row 41 = .ok (.getfield 7, 3) := by decide +kernel
theorem dX4_row_44 : decode cX4_row 44 = .ok (.bipush 11, 2) := by decide +kernel
theorem dX4_row_46 : decode cX4_row 46 = .ok (.iload_n 1, 1) := by decide +kernel
theorem dX4_row_47 : decode cX4_row 47 = .ok (.iadd, 1) := by decide +kernel
theorem dX4_row_48 : decode cX4_row 48 = .ok (.iaload, 1) := by decide +kernel
theorem dX4_row_49 : decode cX4_row 49 = .ok (.ireturn, 1) := by decide +kernel
theorem dX4_row_50 : decode cX4_row 50 = .ok (.aload_n 0, 1) := by decide +kernel
theorem dX4_row_51 : decode cX4_row 51 = .ok (.iload_n 1, 1) := by decide +kernel
theorem dX4_row_52 : decode cX4_row 52 = .ok (.invokevirtual 58, 3) := by decide +kernel
theorem dX4_row_55 : decode cX4_row 55 = .ok (.ireturn, 1) := by decide +kernel
theorem dX4_row_56 : decode cX4_row 56 = .ok (.aload_n 0, 1) := by decide +kernel
theorem dX4_row_57 : decode cX4_row 57 = .ok (.iload_n 1, 1) := by decide +kernel
theorem dX4_row_58 : decode cX4_row 58 = .ok (.invokevirtual 64, 3) := by decide +kernel
theorem dX4_row_61 : decode cX4_row 61 = .ok (.ireturn, 1) := by decide +kernel
theorem dX4_row_62 : decode cX4_row 62 = .ok (.aload_n 0, 1) := by decide +kernel
theorem dX4_row_63 : decode cX4_row 63 = .ok (.iload_n 1, 1) := by decide +kernel
theorem dX4_row_64 : decode cX4_row 64 = .ok (.aload_n 0, 1) := by decide +kernel
theorem dX4_row_65 : decode cX4_row 65 = .ok (.iload_n 1, 1) := by decide +kernel
theorem dX4_row_66 : decode cX4_row 66 = .ok (.invokevirtual 64, 3) := by decide +kernel
theorem dX4_row_69 : decode cX4_row 69 = .ok (.iconst 1, 1) := by decide +kernel
theorem dX4_row_70 : decode cX4_row 70 = .ok (.isub, 1) := by decide +kernel
theorem dX4_row_71 : decode cX4_row 71 = .ok (.invokevirtual 200, 3) := by decide +kernel
theorem dX4_row_74 : decode cX4_row 74 = .ok (.ireturn, 1) := by decide +kernel
theorem dX4_row_75 : decode cX4_row 75 = .ok (.bipush (-2), 2) := by decide +kernel
theorem dX4_row_77 : decode cX4_row 77 = .ok (.ireturn, 1) := by decide +kernel
theorem dX4_stands_0 : decode cX4_stands 0 = .ok (.iload_n 1, 1) := by decide +kernel
theorem dX4_stands_1 : decode cX4_stands 1 = .ok (.invokestatic 98, 3) := by decide +kernel
theorem dX4_stands_4 : decode cX4_stands 4 = .ok (.ifCond .ne 5, 3) := by decide +kernel
theorem dX4_stands_7 : decode cX4_stands 7 = .ok (.iconst (-1), 1) := by decide +kernel
theorem dX4_stands_8 : decode cX4_stands 8 = .ok (.ireturn, 1) := by decide +kernel
theorem dX4_stands_9 : decode cX4_stands 9 = .ok (.iload_n 2, 1) := by decide +kernel
theorem dX4_stands_10 : decode cX4_stands 10 = .ok (.ifCond .ge 8, 3) := by decide +kernel
theorem dX4_stands_13 : decode cX4_stands 13 = .ok (.bipush (-2), 2) := by decide +kernel
theorem dX4_stands_15 : decode cX4_stands 15 = .ok (.goto 9, 3) := by decide +kernel
theorem dX4_stands_18 : decode cX4_stands 18 = .ok (.aload_n 0, 1) := by decide +kernel
theorem dX4_stands_19 : decode cX4_stands 19 = .ok (.iload_n 1, 1) := by decide +kernel
theorem dX4_stands_20 : decode cX4_stands 20 = .ok (.iload_n 2, 1) := by decide +kernel
theorem dX4_stands_21 : decode cX4_stands 21 = .ok (.invokevirtual 200, 3) := by decide +kernel
theorem dX4_stands_24 : decode cX4_stands 24 = .ok (.ireturn, 1) := by decide +kernel
theorem dX4_cradle_0 : decode cX4_cradle 0 = .ok (.iload_n 1, 1) := by decide +kernel
theorem dX4_cradle_1 : decode cX4_cradle 1 = .ok (.invokestatic 89, 3) := by decide +kernel
theorem dX4_cradle_4 : decode cX4_cradle 4 = .ok (.ifCond .ne 5, 3) := by decide +kernel
theorem dX4_cradle_7 : decode cX4_cradle 7 = .ok (.iconst (-1), 1) := by decide +kernel
theorem dX4_cradle_8 : decode cX4_cradle 8 = .ok (.ireturn, 1) := by decide +kernel
theorem dX4_cradle_9 : decode cX4_cradle 9 = .ok (.iload_n 2, 1) := by decide +kernel
theorem dX4_cradle_10 : decode cX4_cradle 10 = .ok (.ifCond .ne 15, 3) := by decide +kernel
theorem dX4_cradle_13 : decode cX4_cradle 13 = .ok (.aload_n 0, 1) := by decide +kernel
theorem dX4_cradle_14 : decode cX4_cradle 14 = .ok (.getfield 7, 3) := by decide +kernel
theorem dX4_cradle_17 : decode cX4_cradle 17 = .ok (.bipush 8, 2) := by decide +kernel
theorem dX4_cradle_19 : decode cX4_cradle 19 = .ok (.iload_n 1, 1) := by decide +kernel
theorem dX4_cradle_20 : decode cX4_cradle 20 = .ok (.iadd, 1) := by decide +kernel
theorem dX4_cradle_21 : decode cX4_cradle 21 = .ok (.iaload, 1) := by decide +kernel
theorem dX4_cradle_22 : decode cX4_cradle 22 = .ok (.goto 30, 3) := by decide +kernel
theorem dX4_cradle_25 : decode cX4_cradle 25 = .ok (.iload_n 2, 1) := by decide +kernel
theorem dX4_cradle_26 : decode cX4_cradle 26 = .ok (.iconst 1, 1) := by decide +kernel
theorem dX4_cradle_27 : decode cX4_cradle 27 = .ok (.if_icmp .ne 11, 3) := by decide +kernel
theorem dX4_cradle_30 : decode cX4_cradle 30 = .ok (.aload_n 0, 1) := by decide +kernel
theorem dX4_cradle_31 : decode cX4_cradle 31 = .ok (.iload_n 1, 1) := by decide +kernel
theorem dX4_cradle_32 : decode cX4_cradle 32 = .ok (.invokevirtual 44, 3) := by decide +kernel
theorem dX4_cradle_35 : decode cX4_cradle 35 = .ok (.goto 17, 3) := by decide +kernel
theorem dX4_cradle_38 : decode cX4_cradle 38 = .ok (.iload_n 2, 1) := by decide +kernel
theorem dX4_cradle_39 : decode cX4_cradle 39 = .ok (.iconst 2, 1) := by decide +kernel
theorem dX4_cradle_40 : decode cX4_cradle 40 = .ok (.if_icmp .ne 10, 3) := by decide +kernel
theorem dX4_cradle_43 : decode cX4_cradle 43 = .ok (.iload_n 1, 1) := by decide +kernel
theorem dX4_cradle_44 : decode cX4_cradle 44 = .ok (.invokestatic 51, 3) := by decide +kernel
theorem dX4_cradle_47 : decode cX4_cradle 47 = .ok (.goto 5, 3) := by decide +kernel
theorem dX4_cradle_50 : decode cX4_cradle 50 = .ok (.bipush (-2), 2) := by decide +kernel
theorem dX4_cradle_52 : decode cX4_cradle 52 = .ok (.ireturn, 1) := by decide +kernel
theorem dX4_tide_0 : decode cX4_tide 0 = .ok (.iload_n 1, 1) := by decide +kernel
theorem dX4_tide_1 : decode cX4_tide 1 = .ok (.iconst 0, 1) := by decide +kernel
theorem dX4_tide_2 : decode cX4_tide 2 = .ok (.sipush 9999, 3) := by decide +kernel
theorem dX4_tide_5 : decode cX4_tide 5 = .ok (.invokestatic 32, 3) := by decide +kernel
theorem dX4_tide_8 : decode cX4_tide 8 = .ok (.ifCond .eq 11, 3) := by decide +kernel
theorem dX4_tide_11 : decode cX4_tide 11 = .ok (.aload_n 0, 1) := by decide +kernel
theorem dX4_tide_12 : decode cX4_tide 12 = .ok (.iload_n 1, 1) := by decide +kernel
theorem dX4_tide_13 : decode cX4_tide 13 = .ok (.invokevirtual 101, 3) := by decide +kernel
theorem dX4_tide_16 : decode cX4_tide 16 = .ok (.goto 5, 3) := by decide +kernel
theorem dX4_tide_19 : decode cX4_tide 19 = .ok (.bipush (-2), 2) := by decide +kernel
theorem dX4_tide_21 : decode cX4_tide 21 = .ok (.ireturn, 1) := by decide +kernel
theorem dX4_liftReason_0 : decode cX4_liftReason 0 = .ok (.aload_n 0, 1) := by decide +kernel
theorem dX4_liftReason_1 : decode cX4_liftReason 1 = .ok (.iload_n 1, 1) := by decide +kernel
theorem dX4_liftReason_2 : decode cX4_liftReason 2 = .ok (.invokevirtual 92, 3) := by decide +kernel
theorem dX4_liftReason_5 : decode cX4_liftReason 5 = .ok (.ifCond .eq 19, 3) := by decide +kernel
theorem dX4_liftReason_8 : decode cX4_liftReason 8 = .ok (.iload_n 2, 1) := by decide +kernel
theorem dX4_liftReason_9 : decode cX4_liftReason 9 = .ok (.invokestatic 98, 3) := by decide +kernel
theorem dX4_liftReason_12 : decode cX4_liftReason 12 = .ok (.ifCond .eq 12, 3) := by decide +kernel
theorem dX4_liftReason_15 : decode cX4_liftReason 15 = .ok (.aload_n 0, 1) := by decide +kernel
theorem dX4_liftReason_16 : decode cX4_liftReason 16 = .ok (.iload_n 1, 1) := by decide +kernel
theorem dX4_liftReason_17 : decode cX4_liftReason 17 = .ok (.iload_n 2, 1) := by decide +kernel
theorem dX4_liftReason_18 : decode cX4_liftReason 18 = .ok (.invokevirtual 113, 3) := by decide +kernel
theorem dX4_liftReason_21 : decode cX4_liftReason 21 = .ok (.goto 4, 3) := by decide +kernel
theorem dX4_liftReason_24 : decode cX4_liftReason 24 = .ok (.iconst (-1), 1) := by decide +kernel
theorem dX4_liftReason_25 : decode cX4_liftReason 25 = .ok (.ireturn, 1) := by decide +kernel
theorem dX4_launchReason_0 : decode cX4_launchReason 0 = .ok (.aload_n 0, 1) := by decide +kernel
theorem dX4_launchReason_1 : decode cX4_launchReason 1 = .ok (.iload_n 1, 1) := by decide +kernel
theorem dX4_launchReason_2 : decode cX4_launchReason 2 = .ok (.invokevirtual 92, 3) := by decide +kernel
theorem dX4_launchReason_5 : decode cX4_launchReason 5 = .ok (.ifCond .eq 11, 3) := by decide +kernel
theorem dX4_launchReason_8 : decode cX4_launchReason 8 = .ok (.aload_n 0, 1) := by decide +kernel
theorem dX4_launchReason_9 : decode cX4_launchReason 9 = .ok (.iload_n 1, 1) := by decide +kernel
theorem dX4_launchReason_10 : decode cX4_launchReason 10 = .ok (.invokevirtual 132, 3) := by decide +kernel
theorem dX4_launchReason_13 : decode cX4_launchReason 13 = .ok (.goto 4, 3) := by decide +kernel
theorem dX4_launchReason_16 : decode cX4_launchReason 16 = .ok (.iconst (-1), 1) := by decide +kernel
theorem dX4_launchReason_17 : decode cX4_launchReason 17 = .ok (.ireturn, 1) := by decide +kernel
theorem dX4_blockers_0 : decode cX4_blockers 0 = .ok (.aload_n 0, 1) := by decide +kernel
theorem dX4_blockers_1 : decode cX4_blockers 1 = .ok (.iload_n 1, 1) := by decide +kernel
theorem dX4_blockers_2 : decode cX4_blockers 2 = .ok (.invokevirtual 92, 3) := by decide +kernel
theorem dX4_blockers_5 : decode cX4_blockers 5 = .ok (.ifCond .ne 5, 3) := by decide +kernel
theorem dX4_blockers_8 : decode cX4_blockers 8 = .ok (.iconst (-1), 1) := by decide +kernel
theorem dX4_blockers_9 : decode cX4_blockers 9 = .ok (.ireturn, 1) := by decide +kernel
theorem dX4_blockers_10 : decode cX4_blockers 10 = .ok (.aload_n 0, 1) := by decide +kernel
theorem dX4_blockers_11 : decode cX4_blockers 11 = .ok (.iload_n 1, 1) := by decide +kernel
theorem dX4_blockers_12 : decode cX4_blockers 12 = .ok (.invokevirtual 40, 3) := by decide +kernel
theorem dX4_blockers_15 : decode cX4_blockers 15 = .ok (.ifCond .eq 11, 3) := by decide +kernel
theorem dX4_blockers_18 : decode cX4_blockers 18 = .ok (.aload_n 0, 1) := by decide +kernel
theorem dX4_blockers_19 : decode cX4_blockers 19 = .ok (.iload_n 1, 1) := by decide +kernel
theorem dX4_blockers_20 : decode cX4_blockers 20 = .ok (.invokevirtual 129, 3) := by decide +kernel
theorem dX4_blockers_23 : decode cX4_blockers 23 = .ok (.goto 5, 3) := by decide +kernel
theorem dX4_blockers_26 : decode cX4_blockers 26 = .ok (.bipush (-5), 2) := by decide +kernel
theorem dX4_blockers_28 : decode cX4_blockers 28 = .ok (.ireturn, 1) := by decide +kernel
theorem dX4_launchDay_0 : decode cX4_launchDay 0 = .ok (.aload_n 0, 1) := by decide +kernel
theorem dX4_launchDay_1 : decode cX4_launchDay 1 = .ok (.iload_n 1, 1) := by decide +kernel
theorem dX4_launchDay_2 : decode cX4_launchDay 2 = .ok (.invokevirtual 92, 3) := by decide +kernel
theorem dX4_launchDay_5 : decode cX4_launchDay 5 = .ok (.ifCond .ne 5, 3) := by decide +kernel
theorem dX4_launchDay_8 : decode cX4_launchDay 8 = .ok (.iconst (-1), 1) := by decide +kernel
theorem dX4_launchDay_9 : decode cX4_launchDay 9 = .ok (.ireturn, 1) := by decide +kernel
theorem dX4_launchDay_10 : decode cX4_launchDay 10 = .ok (.bipush (-5), 2) := by decide +kernel
theorem dX4_launchDay_12 : decode cX4_launchDay 12 = .ok (.istore_n 2, 1) := by decide +kernel
theorem dX4_launchDay_13 : decode cX4_launchDay 13 = .ok (.sipush 200, 3) := by decide +kernel
theorem dX4_launchDay_16 : decode cX4_launchDay 16 = .ok (.istore_n 3, 1) := by decide +kernel
theorem dX4_launchDay_17 : decode cX4_launchDay 17 = .ok (.iload_n 3, 1) := by decide +kernel
theorem dX4_launchDay_18 : decode cX4_launchDay 18 = .ok (.ifCond .lt 112, 3) := by decide +kernel
theorem dX4_launchDay_21 : decode cX4_launchDay 21 = .ok (.aload_n 0, 1) := by decide +kernel
theorem dX4_launchDay_22 : decode cX4_launchDay 22 = .ok (.iload_n 1, 1) := by decide +kernel
theorem dX4_launchDay_23 : decode cX4_launchDay 23 = .ok (.invokevirtual 40, 3) := by decide +kernel
theorem dX4_launchDay_26 : decode cX4_launchDay 26 = .ok (.ifCond .eq 104, 3) := by decide +kernel
theorem dX4_launchDay_29 : decode cX4_launchDay 29 = .ok (.iload_n 3, 1) := by decide +kernel
theorem dX4_launchDay_30 : decode cX4_launchDay 30 = .ok (.ifCond .gt 10, 3) := by decide +kernel
theorem dX4_launchDay_33 : decode cX4_launchDay 33 = .ok (.aload_n 0, 1) := by decide +kernel
theorem dX4_launchDay_34 : decode cX4_launchDay 34 = .ok (.invokevirtual 110, 3) := by decide +kernel
theorem dX4_launchDay_37 : decode cX4_launchDay 37 = .ok (.ifCond .le 7, 3) := by decide +kernel
theorem dX4_launchDay_40 : decode cX4_launchDay 40 = .ok (.iconst 1, 1) := by decide +kernel
theorem dX4_launchDay_41 : decode cX4_launchDay 41 = .ok (.goto 4, 3) := by decide +kernel
theorem dX4_launchDay_44 : decode cX4_launchDay 44 = .ok (.iconst 0, 1) := by decide +kernel
theorem dX4_launchDay_45 : decode cX4_launchDay 45 = .ok (.istore 4, 2) := by decide +kernel
theorem dX4_launchDay_47 : decode cX4_launchDay 47 = .ok (.iload 4, 2) := by decide +kernel
theorem dX4_launchDay_49 : decode cX4_launchDay 49 = .ok (.ifCond .eq 54, 3) := by decide +kernel
theorem dX4_launchDay_52 : decode cX4_launchDay 52 = .ok (.aload_n 0, 1) := by decide +kernel
theorem dX4_launchDay_53 : decode cX4_launchDay 53 = .ok (.iload_n 1, 1) := by decide +kernel
theorem dX4_launchDay_54 : decode cX4_launchDay 54 = .ok (.bipush 8, 2) := by decide +kernel
theorem dX4_launchDay_56 : decode cX4_launchDay 56 = .ok (.invokevirtual 36, 3) := by decide +kernel
theorem dX4_launchDay_59 : decode cX4_launchDay 59 = .ok (.iload_n 3, 1) := by decide +kernel
theorem dX4_launchDay_60 : decode cX4_launchDay 60 = .ok (.if_icmp .gt 43, 3) := by decide +kernel
theorem dX4_launchDay_63 : decode cX4_launchDay 63 = .ok (.aload_n 0, 1) := by decide +kernel
theorem dX4_launchDay_64 : decode cX4_launchDay 64 = .ok (.iload_n 1, 1) := by decide +kernel
theorem dX4_launchDay_65 : decode cX4_launchDay 65 = .ok (.iconst 3, 1) := by decide +kernel
theorem dX4_launchDay_66 : decode cX4_launchDay 66 = .ok (.invokevirtual 36, 3) := by decide +kernel
theorem dX4_launchDay_69 : decode cX4_launchDay 69 = .ok (.aload_n 0, 1) := by decide +kernel
theorem dX4_launchDay_70 : decode cX4_launchDay 70 = .ok (.getfield 7, 3) := by decide +kernel
theorem dX4_launchDay_73 : decode cX4_launchDay 73 = .ok (.iconst 4, 1) := by decide +kernel
theorem dX4_launchDay_74 : decode cX4_launchDay 74 = .ok (.iaload, 1) := by decide +kernel
theorem dX4_launchDay_75 : decode cX4_launchDay 75 = .ok (.if_icmp .gt 28, 3) := by decide +kernel
theorem dX4_launchDay_78 : decode cX4_launchDay 78 = .ok (.aload_n 0, 1) := by decide +kernel
theorem dX4_launchDay_79 : decode cX4_launchDay 79 = .ok (.aload_n 0, 1) := by decide +kernel
theorem dX4_launchDay_80 : decode cX4_launchDay 80 = .ok (.getfield 7, 3) := by decide +kernel
theorem dX4_launchDay_83 : decode cX4_launchDay 83 = .ok (.iconst 0, 1) := by decide +kernel
theorem dX4_launchDay_84 : decode cX4_launchDay 84 = .ok (.iaload, 1) := by decide +kernel
theorem dX4_launchDay_85 : decode cX4_launchDay 85 = .ok (.iload_n 3, 1) := by decide +kernel
theorem dX4_launchDay_86 : decode cX4_launchDay 86 = .ok (.iadd, 1) := by decide +kernel
theorem dX4_launchDay_87 : decode cX4_launchDay 87 = .ok (.invokevirtual 101, 3) := by decide +kernel
theorem dX4_launchDay_90 : decode cX4_launchDay 90 = .ok (.aload_n 0, 1) := by decide +kernel
theorem dX4_launchDay_91 : decode cX4_launchDay 91 = .ok (.iload_n 1, 1) := by decide +kernel
theorem dX4_launchDay_92 : decode cX4_launchDay 92 = .ok (.iconst 2, 1) := by decide +kernel
theorem dX4_launchDay_93 : decode cX4_launchDay 93 = .ok (.invokevirtual 36, 3) := by decide +kernel
theorem dX4_launchDay_96 : decode cX4_launchDay 96 = .ok (.if_icmp .lt 7, 3) := by decide +kernel
theorem dX4_launchDay_99 : decode cX4_launchDay 99 = .ok (.iconst 1, 1) := by decide +kernel
theorem dX4_launchDay_100 : decode cX4_launchDay 100 = .ok (.goto 4, 3) := by decide +kernel
theorem dX4_launchDay_103 : decode cX4_launchDay 103 = .ok (.iconst 0, 1) := by decide +kernel
theorem dX4_launchDay_104 : decode cX4_launchDay 104 = .ok (.istore 5, 2) := by decide +kernel
theorem dX4_launchDay_106 : decode cX4_launchDay 106 = .ok (.iload 5, 2) := by decide +kernel
theorem dX4_launchDay_108 : decode cX4_launchDay 108 = .ok (.ifCond .eq 14, 3) := by decide +kernel
theorem dX4_launchDay_111 : decode cX4_launchDay 111 = .ok (.aload_n 0, 1) := by decide +kernel
theorem dX4_launchDay_112 : decode cX4_launchDay 112 = .ok (.getfield 7, 3) := by decide +kernel
theorem dX4_launchDay_115 : decode cX4_launchDay 115 = .ok (.iconst 0, 1) := by decide +kernel
theorem dX4_launchDay_116 : decode cX4_launchDay 116 = .ok (.iaload, 1) := by decide +kernel
theorem dX4_launchDay_117 : decode cX4_launchDay 117 = .ok (.iload_n 3, 1) := by decide +kernel
theorem dX4_launchDay_118 : decode cX4_launchDay 118 = .ok (.iadd, 1) := by decide +kernel
theorem dX4_launchDay_119 : decode cX4_launchDay 119 = .ok (.goto 4, 3) := by decide +kernel
theorem dX4_launchDay_122 : decode cX4_launchDay 122 = .ok (.iload_n 2, 1) := by decide +kernel
theorem dX4_launchDay_123 : decode cX4_launchDay 123 = .ok (.istore_n 2, 1) := by decide +kernel
theorem dX4_launchDay_124 : decode cX4_launchDay 124 = .ok (.iinc 3 (-1), 3) := by decide +kernel
theorem dX4_launchDay_127 : decode cX4_launchDay 127 = .ok (.goto (-110), 3) := by decide +kernel
theorem dX4_launchDay_130 : decode cX4_launchDay 130 = .ok (.iload_n 2, 1) := by decide +kernel
theorem dX4_launchDay_131 : decode cX4_launchDay 131 = .ok (.ireturn, 1) := by decide +kernel
theorem dX4_bestRow_0 : decode cX4_bestRow 0 = .ok (.aload_n 0, 1) := by decide +kernel
theorem dX4_bestRow_1 : decode cX4_bestRow 1 = .ok (.iload_n 1, 1) := by decide +kernel
theorem dX4_bestRow_2 : decode cX4_bestRow 2 = .ok (.invokevirtual 92, 3) := by decide +kernel
theorem dX4_bestRow_5 : decode cX4_bestRow 5 = .ok (.ifCond .ne 5, 3) := by decide +kernel
theorem dX4_bestRow_8 : decode cX4_bestRow 8 = .ok (.iconst (-1), 1) := by decide +kernel
theorem dX4_bestRow_9 : decode cX4_bestRow 9 = .ok (.ireturn, 1) := by decide +kernel
theorem dX4_bestRow_10 : decode cX4_bestRow 10 = .ok (.bipush (-5), 2) := by decide +kernel
theorem dX4_bestRow_12 : decode cX4_bestRow 12 = .ok (.istore_n 2, 1) := by decide +kernel
theorem dX4_bestRow_13 : decode cX4_bestRow 13 = .ok (.iconst 0, 1) := by decide +kernel
theorem dX4_bestRow_14 : decode cX4_bestRow 14 = .ok (.istore_n 3, 1) := by decide +kernel
theorem dX4_bestRow_15 : decode cX4_bestRow 15 = .ok (.iload_n 3, 1) := by decide +kernel
theorem dX4_bestRow_16 : decode cX4_bestRow 16 = .ok (.iconst 4, 1) := by decide +kernel
theorem dX4_bestRow_17 : decode cX4_bestRow 17 = .ok (.if_icmp .ge 63, 3) := by decide +kernel
theorem dX4_bestRow_20 : decode cX4_bestRow 20 = .ok (.iload_n 3, 1) := by decide +kernel
theorem dX4_bestRow_21 : decode cX4_bestRow 21 = .ok (.aload_n 0, 1) := by decide +kernel
theorem dX4_bestRow_22 : decode cX4_bestRow 22 = .ok (.iload_n 1, 1) := by decide +kernel
theorem dX4_bestRow_23 : decode cX4_bestRow 23 = .ok (.iconst 5, 1) := by decide +kernel
theorem dX4_bestRow_24 : decode cX4_bestRow 24 = .ok (.invokevirtual 36, 3) := by decide +kernel
theorem dX4_bestRow_27 : decode cX4_bestRow 27 = .ok (.if_icmp .eq 16, 3) := by decide +kernel
theorem dX4_bestRow_30 : decode cX4_bestRow 30 = .ok (.aload_n 0, 1) := by decide +kernel
theorem dX4_bestRow_31 : decode cX4_bestRow 31 = .ok (.iload_n 1, 1) := by decide +kernel
theorem dX4_bestRow_32 : decode cX4_bestRow 32 = .ok (.iload_n 3, 1) := by decide +kernel
theorem dX4_bestRow_33 : decode cX4_bestRow 33 = .ok (.invokevirtual 107, 3) := by decide +kernel
theorem dX4_bestRow_36 : decode cX4_bestRow 36 = .ok (.ifCond .eq 7, 3) := by decide +kernel
theorem dX4_bestRow_39 : decode cX4_bestRow 39 = .ok (.iconst 1, 1) := by decide +kernel
theorem dX4_bestRow_40 : decode cX4_bestRow 40 = .ok (.goto 4, 3) := by decide +kernel
theorem dX4_bestRow_43 : decode cX4_bestRow 43 = .ok (.iconst 0, 1) := by decide +kernel
theorem dX4_bestRow_44 : decode cX4_bestRow 44 = .ok (.istore 4, 2) := by decide +kernel
theorem dX4_bestRow_46 : decode cX4_bestRow 46 = .ok (.iload 4, 2) := by decide +kernel
theorem dX4_bestRow_48 : decode cX4_bestRow 48 = .ok (.ifCond .eq 24, 3) := by decide +kernel
theorem dX4_bestRow_51 : decode cX4_bestRow 51 = .ok (.iload_n 2, 1) := by decide +kernel
theorem dX4_bestRow_52 : decode cX4_bestRow 52 = .ok (.ifCond .lt 16, 3) := by decide +kernel
theorem dX4_bestRow_55 : decode cX4_bestRow 55 = .ok (.aload_n 0, 1) := by decide +kernel
theorem dX4_bestRow_56 : decode cX4_bestRow 56 = .ok (.iload_n 3, 1) := by decide +kernel
theorem dX4_bestRow_57 : decode cX4_bestRow 57 = .ok (.invokevirtual 61, 3) := by decide +kernel
theorem dX4_bestRow_60 : decode cX4_bestRow 60 = .ok (.aload_n 0, 1) := by decide +kernel
theorem dX4_bestRow_61 : decode cX4_bestRow 61 = .ok (.iload_n 2, 1) := by decide +kernel
theorem dX4_bestRow_62 : decode cX4_bestRow 62 = .ok (.invokevirtual 61, 3) := by decide +kernel
theorem dX4_bestRow_65 : decode cX4_bestRow 65 = .ok (.if_icmp .ge 7, 3) := by decide +kernel
theorem dX4_bestRow_68 : decode cX4_bestRow 68 = .ok (.iload_n 3, 1) := by decide +kernel
theorem dX4_bestRow_69 : decode cX4_bestRow 69 = .ok (.goto 4, 3) := by decide +kernel
theorem dX4_bestRow_72 : decode cX4_bestRow 72 = .ok (.iload_n 2, 1) := by decide +kernel
theorem dX4_bestRow_73 : decode cX4_bestRow 73 = .ok (.istore_n 2, 1) := by decide +kernel
theorem dX4_bestRow_74 : decode cX4_bestRow 74 = .ok (.iinc 3 1, 3) := by decide +kernel
theorem dX4_bestRow_77 : decode cX4_bestRow 77 = .ok (.goto (-62), 3) := by decide +kernel
theorem dX4_bestRow_80 : decode cX4_bestRow 80 = .ok (.iload_n 2, 1) := by decide +kernel
theorem dX4_bestRow_81 : decode cX4_bestRow 81 = .ok (.ireturn, 1) := by decide +kernel
theorem dX4_count_0 : decode cX4_count 0 = .ok (.iconst 0, 1) := by decide +kernel
theorem dX4_count_1 : decode cX4_count 1 = .ok (.istore_n 2, 1) := by decide +kernel
theorem dX4_count_2 : decode cX4_count 2 = .ok (.iconst 0, 1) := by decide +kernel
theorem dX4_count_3 : decode cX4_count 3 = .ok (.istore_n 3, 1) := by decide +kernel
theorem dX4_count_4 : decode cX4_count 4 = .ok (.iconst 0, 1) := by decide +kernel
theorem dX4_count_5 : decode cX4_count 5 = .ok (.istore 4, 2) := by decide +kernel
theorem dX4_count_7 : decode cX4_count 7 = .ok (.iload 4, 2) := by decide +kernel
theorem dX4_count_9 : decode cX4_count 9 = .ok (.bipush 20, 2) := by decide +kernel
theorem dX4_count_11 : decode cX4_count 11 = .ok (.if_icmp .ge 67, 3) := by decide +kernel
theorem dX4_count_14 : decode cX4_count 14 = .ok (.iload_n 2, 1) := by decide +kernel
theorem dX4_count_15 : decode cX4_count 15 = .ok (.aload_n 0, 1) := by decide +kernel
theorem dX4_count_16 : decode cX4_count 16 = .ok (.iload 4, 2) := by decide +kernel
theorem dX4_count_18 : decode cX4_count 18 = .ok (.iconst 0, 1) := by decide +kernel
theorem dX4_count_19 : decode cX4_count 19 = .ok (.invokevirtual 36, 3) := by decide +kernel
theorem dX4_count_22 : decode cX4_count 22 = .ok (.iconst 1, 1) := by decide +kernel
theorem dX4_count_23 : decode cX4_count 23 = .ok (.if_icmp .ne 16, 3) := by decide +kernel
theorem dX4_count_26 : decode cX4_count 26 = .ok (.aload_n 0, 1) := by decide +kernel
theorem dX4_count_27 : decode cX4_count 27 = .ok (.iload 4, 2) := by decide +kernel
theorem dX4_count_29 : decode cX4_count 29 = .ok (.invokevirtual 40, 3) := by decide +kernel
theorem dX4_count_32 : decode cX4_count 32 = .ok (.ifCond .eq 7, 3) := by decide +kernel
theorem dX4_count_35 : decode cX4_count 35 = .ok (.iconst 1, 1) := by decide +kernel
theorem dX4_count_36 : decode cX4_count 36 = .ok (.goto 4, 3) := by decide +kernel
theorem dX4_count_39 : decode cX4_count 39 = .ok (.iconst 0, 1) := by decide +kernel
theorem dX4_count_40 : decode cX4_count 40 = .ok (.iadd, 1) := by decide +kernel
theorem dX4_count_41 : decode cX4_count 41 = .ok (.istore_n 2, 1) := by decide +kernel
theorem dX4_count_42 : decode cX4_count 42 = .ok (.iload_n 3, 1) := by decide +kernel
theorem dX4_count_43 : decode cX4_count 43 = .ok (.aload_n 0, 1) := by decide +kernel
theorem dX4_count_44 : decode cX4_count 44 = .ok (.iload 4, 2) := by decide +kernel
theorem dX4_count_46 : decode cX4_count 46 = .ok (.iconst 0, 1) := by decide +kernel
theorem dX4_count_47 : decode cX4_count 47 = .ok (.invokevirtual 36, 3) := by decide +kernel
theorem dX4_count_50 : decode cX4_count 50 = .ok (.iconst 1, 1) := by decide +kernel
theorem dX4_count_51 : decode cX4_count 51 = .ok (.if_icmp .ne 18, 3) := by decide +kernel
theorem dX4_count_54 : decode cX4_count 54 = .ok (.aload_n 0, 1) := by decide +kernel
theorem dX4_count_55 : decode cX4_count 55 = .ok (.iload 4, 2) := by decide +kernel
theorem dX4_count_57 : decode cX4_count 57 = .ok (.bipush 8, 2) := by decide +kernel
theorem dX4_count_59 : decode cX4_count 59 = .ok (.invokevirtual 36, 3) := by decide +kernel
theorem dX4_count_62 : decode cX4_count 62 = .ok (.ifCond .le 7, 3) := by decide +kernel
theorem dX4_count_65 : decode cX4_count 65 = .ok (.iconst 1, 1) := by decide +kernel
theorem dX4_count_66 : decode cX4_count 66 = .ok (.goto 4, 3) := by decide +kernel
theorem dX4_count_69 : decode cX4_count 69 = .ok (.iconst 0, 1) := by decide +kernel
theorem dX4_count_70 : decode cX4_count 70 = .ok (.iadd, 1) := by decide +kernel
theorem dX4_count_71 : decode cX4_count 71 = .ok (.istore_n 3, 1) := by decide +kernel
theorem dX4_count_72 : decode cX4_count 72 = .ok (.iinc 4 1, 3) := by decide +kernel
theorem dX4_count_75 : decode cX4_count 75 = .ok (.goto (-68), 3) := by decide +kernel
theorem dX4_count_78 : decode cX4_count 78 = .ok (.iload_n 1, 1) := by decide +kernel
theorem dX4_count_79 : decode cX4_count 79 = .ok (.tableswitch 151 0 14 #[73, 80, 91, 96, 101, 103, 105, 112, 120, 120, 129, 129, 129, 141, 146], 73) := by decide +kernel
theorem dX4_count_152 : decode cX4_count 152 = .ok (.aload_n 0, 1) := by decide +kernel
theorem dX4_count_153 : decode cX4_count 153 = .ok (.getfield 7, 3) := by decide +kernel
theorem dX4_count_156 : decode cX4_count 156 = .ok (.iconst 0, 1) := by decide +kernel
theorem dX4_count_157 : decode cX4_count 157 = .ok (.iaload, 1) := by decide +kernel
theorem dX4_count_158 : decode cX4_count 158 = .ok (.ireturn, 1) := by decide +kernel
theorem dX4_count_159 : decode cX4_count 159 = .ok (.aload_n 0, 1) := by decide +kernel
theorem dX4_count_160 : decode cX4_count 160 = .ok (.aload_n 0, 1) := by decide +kernel
theorem dX4_count_161 : decode cX4_count 161 = .ok (.getfield 7, 3) := by decide +kernel
theorem dX4_count_164 : decode cX4_count 164 = .ok (.iconst 0, 1) := by decide +kernel
theorem dX4_count_165 : decode cX4_count 165 = .ok (.iaload, 1) := by decide +kernel
theorem dX4_count_166 : decode cX4_count 166 = .ok (.invokevirtual 101, 3) := by decide +kernel
theorem dX4_count_169 : decode cX4_count 169 = .ok (.ireturn, 1) := by decide +kernel
theorem dX4_count_170 : decode cX4_count 170 = .ok (.aload_n 0, 1) := by decide +kernel
theorem dX4_count_171 : decode cX4_count 171 = .ok (.invokevirtual 110, 3) := by decide +kernel
theorem dX4_count_174 : decode cX4_count 174 = .ok (.ireturn, 1) := by decide +kernel
theorem dX4_count_175 : decode cX4_count 175 = .ok (.aload_n 0, 1) := by decide +kernel
theorem dX4_count_176 : decode cX4_count 176 = .ok (.invokevirtual 81, 3) := by decide +kernel
theorem dX4_count_179 : decode cX4_count 179 = .ok (.ireturn, 1) := by decide +kernel
theorem dX4_count_180 : decode cX4_count 180 = .ok (.iload_n 2, 1) := by decide +kernel
theorem dX4_count_181 : decode cX4_count 181 = .ok (.ireturn, 1) := by decide +kernel
theorem dX4_count_182 : decode cX4_count 182 = .ok (.iload_n 3, 1) := by decide +kernel
theorem dX4_count_183 : decode cX4_count 183 = .ok (.ireturn, 1) := by decide +kernel
theorem dX4_count_184 : decode cX4_count 184 = .ok (.aload_n 0, 1) := by decide +kernel
theorem dX4_count_185 : decode cX4_count 185 = .ok (.getfield 7, 3) := by decide +kernel
theorem dX4_count_188 : decode cX4_count 188 = .ok (.iconst 5, 1) := by decide +kernel
theorem dX4_count_189 : decode cX4_count 189 = .ok (.iaload, 1) := by decide +kernel
theorem dX4_count_190 : decode cX4_count 190 = .ok (.ireturn, 1) := by decide +kernel
theorem dX4_count_191 : decode cX4_count 191 = .ok (.aload_n 0, 1) := by decide +kernel
theorem dX4_count_192 : decode cX4_count 192 = .ok (.getfield 7, 3) := by decide +kernel
theorem dX4_count_195 : decode cX4_count 195 = .ok (.bipush 6, 2) := by decide +kernel
theorem dX4_count_197 : decode cX4_count 197 = .ok (.iaload, 1) := by decide +kernel
theorem dX4_count_198 : decode cX4_count 198 = .ok (.ireturn, 1) := by decide +kernel
theorem dX4_count_199 : decode cX4_count 199 = .ok (.aload_n 0, 1) := by decide +kernel
theorem dX4_count_200 : decode cX4_count 200 = .ok (.iload_n 1, 1) := by decide +kernel
theorem dX4_count_201 : decode cX4_count 201 = .ok (.bipush 8, 2) := by decide +kernel
theorem dX4_count_203 : decode cX4_count 203 = .ok (.isub, 1) := by decide +kernel
theorem dX4_count_204 : decode cX4_count 204 = .ok (.invokevirtual 147, 3) := by decide +kernel
theorem dX4_count_207 : decode cX4_count 207 = .ok (.ireturn, 1) := by decide +kernel
theorem dX4_count_208 : decode cX4_count 208 = .ok (.aload_n 0, 1) := by decide +kernel
theorem dX4_count_209 : decode cX4_count 209 = .ok (.getfield 7, 3) := by decide +kernel
theorem dX4_count_212 : decode cX4_count 212 = .ok (.iconst 2, 1) := by decide +kernel
theorem dX4_count_213 : decode cX4_count 213 = .ok (.iload_n 1, 1) := by decide +kernel
theorem dX4_count_214 : decode cX4_count 214 = .ok (.iadd, 1) := by decide +kernel
theorem dX4_count_215 : decode cX4_count 215 = .ok (.bipush 10, 2) := by decide +kernel
theorem dX4_count_217 : decode cX4_count 217 = .ok (.isub, 1) := by decide +kernel
theorem dX4_count_218 : decode cX4_count 218 = .ok (.iaload, 1) := by decide +kernel
theorem dX4_count_219 : decode cX4_count 219 = .ok (.ireturn, 1) := by decide +kernel
theorem dX4_count_220 : decode cX4_count 220 = .ok (.aload_n 0, 1) := by decide +kernel
theorem dX4_count_221 : decode cX4_count 221 = .ok (.getfield 74, 3) := by decide +kernel
theorem dX4_count_224 : decode cX4_count 224 = .ok (.ireturn, 1) := by decide +kernel
theorem dX4_count_225 : decode cX4_count 225 = .ok (.aload_n 0, 1) := by decide +kernel
theorem dX4_count_226 : decode cX4_count 226 = .ok (.getfield 166, 3) := by decide +kernel
theorem dX4_count_229 : decode cX4_count 229 = .ok (.ireturn, 1) := by decide +kernel
theorem dX4_count_230 : decode cX4_count 230 = .ok (.bipush (-2), 2) := by decide +kernel
theorem dX4_count_232 : decode cX4_count 232 = .ok (.ireturn, 1) := by decide +kernel
