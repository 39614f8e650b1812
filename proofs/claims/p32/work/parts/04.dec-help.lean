theorem dL_cell_0 : decode cL_cell 0 = .ok (.iload_n 1, 1) := by decide +kernel
theorem dL_cell_1 : decode cL_cell 1 = .ok (.aload_n 0, 1) := by decide +kernel
theorem dL_cell_2 : decode cL_cell 2 = .ok (.arraylength, 1) := by decide +kernel
theorem dL_cell_3 : decode cL_cell 3 = .ok (.if_icmp .ge 9, 3) := by decide +kernel
theorem dL_cell_6 : decode cL_cell 6 = .ok (.aload_n 0, 1) := by decide +kernel
theorem dL_cell_7 : decode cL_cell 7 = .ok (.iload_n 1, 1) := by decide +kernel
theorem dL_cell_8 : decode cL_cell 8 = .ok (.iaload, 1) := by decide +kernel
theorem dL_cell_9 : decode cL_cell 9 = .ok (.goto 9, 3) := by decide +kernel
theorem dL_cell_12 : decode cL_cell 12 = .ok (.ldc 7, 2) := by decide +kernel
theorem dL_cell_14 : decode cL_cell 14 = .ok (.iload_n 1, 1) := by decide +kernel
theorem dL_cell_15 : decode cL_cell 15 = .ok (.iconst 1, 1) := by decide +kernel
theorem dL_cell_16 : decode cL_cell 16 = .ok (.iadd, 1) := by decide +kernel
theorem dL_cell_17 : decode cL_cell 17 = .ok (.imul, 1) := by decide +kernel
theorem dL_cell_18 : decode cL_cell 18 = .ok (.ireturn, 1) := by decide +kernel
theorem dL_low_0 : decode cL_low 0 = .ok (.iload_n 0, 1) := by decide +kernel
theorem dL_low_1 : decode cL_low 1 = .ok (.ldc 8, 2) := by decide +kernel
theorem dL_low_3 : decode cL_low 3 = .ok (.iand, 1) := by decide +kernel
theorem dL_low_4 : decode cL_low 4 = .ok (.iload_n 1, 1) := by decide +kernel
theorem dL_low_5 : decode cL_low 5 = .ok (.irem, 1) := by decide +kernel
theorem dL_low_6 : decode cL_low 6 = .ok (.ireturn, 1) := by decide +kernel
theorem dL_of_0 : decode cL_of 0 = .ok (.aload_n 0, 1) := by decide +kernel
theorem dL_of_1 : decode cL_of 1 = .ok (.bipush 10, 2) := by decide +kernel
theorem dL_of_3 : decode cL_of 3 = .ok (.iload_n 1, 1) := by decide +kernel
theorem dL_of_4 : decode cL_of 4 = .ok (.imul, 1) := by decide +kernel
theorem dL_of_5 : decode cL_of 5 = .ok (.iload_n 2, 1) := by decide +kernel
theorem dL_of_6 : decode cL_of 6 = .ok (.iadd, 1) := by decide +kernel
theorem dL_of_7 : decode cL_of 7 = .ok (.iaload, 1) := by decide +kernel
theorem dL_of_8 : decode cL_of 8 = .ok (.ireturn, 1) := by decide +kernel
theorem dL_tide_0 : decode cL_tide 0 = .ok (.iload_n 0, 1) := by decide +kernel
theorem dL_tide_1 : decode cL_tide 1 = .ok (.bipush 14, 2) := by decide +kernel
theorem dL_tide_3 : decode cL_tide 3 = .ok (.irem, 1) := by decide +kernel
theorem dL_tide_4 : decode cL_tide 4 = .ok (.bipush 7, 2) := by decide +kernel
theorem dL_tide_6 : decode cL_tide 6 = .ok (.if_icmp .ge 13, 3) := by decide +kernel
theorem dL_tide_9 : decode cL_tide 9 = .ok (.bipush 7, 2) := by decide +kernel
theorem dL_tide_11 : decode cL_tide 11 = .ok (.iload_n 0, 1) := by decide +kernel
theorem dL_tide_12 : decode cL_tide 12 = .ok (.bipush 14, 2) := by decide +kernel
theorem dL_tide_14 : decode cL_tide 14 = .ok (.irem, 1) := by decide +kernel
theorem dL_tide_15 : decode cL_tide 15 = .ok (.isub, 1) := by decide +kernel
theorem dL_tide_16 : decode cL_tide 16 = .ok (.goto 10, 3) := by decide +kernel
theorem dL_tide_19 : decode cL_tide 19 = .ok (.iload_n 0, 1) := by decide +kernel
theorem dL_tide_20 : decode cL_tide 20 = .ok (.bipush 14, 2) := by decide +kernel
theorem dL_tide_22 : decode cL_tide 22 = .ok (.irem, 1) := by decide +kernel
theorem dL_tide_23 : decode cL_tide 23 = .ok (.bipush 7, 2) := by decide +kernel
theorem dL_tide_25 : decode cL_tide 25 = .ok (.isub, 1) := by decide +kernel
theorem dL_tide_26 : decode cL_tide 26 = .ok (.istore_n 2, 1) := by decide +kernel
theorem dL_tide_27 : decode cL_tide 27 = .ok (.bipush 30, 2) := by decide +kernel
theorem dL_tide_29 : decode cL_tide 29 = .ok (.aload_n 1, 1) := by decide +kernel
theorem dL_tide_30 : decode cL_tide 30 = .ok (.iconst 2, 1) := by decide +kernel
theorem dL_tide_31 : decode cL_tide 31 = .ok (.iaload, 1) := by decide +kernel
theorem dL_tide_32 : decode cL_tide 32 = .ok (.iload_n 2, 1) := by decide +kernel
theorem dL_tide_33 : decode cL_tide 33 = .ok (.imul, 1) := by decide +kernel
theorem dL_tide_34 : decode cL_tide 34 = .ok (.iadd, 1) := by decide +kernel
theorem dL_tide_35 : decode cL_tide 35 = .ok (.ireturn, 1) := by decide +kernel
theorem dL_left_0 : decode cL_left 0 = .ok (.aload_n 0, 1) := by decide +kernel
theorem dL_left_1 : decode cL_left 1 = .ok (.iconst 3, 1) := by decide +kernel
theorem dL_left_2 : decode cL_left 2 = .ok (.iaload, 1) := by decide +kernel
theorem dL_left_3 : decode cL_left 3 = .ok (.aload_n 0, 1) := by decide +kernel
theorem dL_left_4 : decode cL_left 4 = .ok (.iconst 1, 1) := by decide +kernel
theorem dL_left_5 : decode cL_left 5 = .ok (.iaload, 1) := by decide +kernel
theorem dL_left_6 : decode cL_left 6 = .ok (.if_icmp .le 13, 3) := by decide +kernel
theorem dL_left_9 : decode cL_left 9 = .ok (.aload_n 0, 1) := by decide +kernel
theorem dL_left_10 : decode cL_left 10 = .ok (.iconst 3, 1) := by decide +kernel
theorem dL_left_11 : decode cL_left 11 = .ok (.iaload, 1) := by decide +kernel
theorem dL_left_12 : decode cL_left 12 = .ok (.aload_n 0, 1) := by decide +kernel
theorem dL_left_13 : decode cL_left 13 = .ok (.iconst 1, 1) := by decide +kernel
theorem dL_left_14 : decode cL_left 14 = .ok (.iaload, 1) := by decide +kernel
theorem dL_left_15 : decode cL_left 15 = .ok (.isub, 1) := by decide +kernel
theorem dL_left_16 : decode cL_left 16 = .ok (.goto 4, 3) := by decide +kernel
theorem dL_left_19 : decode cL_left 19 = .ok (.iconst 0, 1) := by decide +kernel
theorem dL_left_20 : decode cL_left 20 = .ok (.ireturn, 1) := by decide +kernel
theorem dL_bears_0 : decode cL_bears 0 = .ok (.iload_n 0, 1) := by decide +kernel
theorem dL_bears_1 : decode cL_bears 1 = .ok (.ifCond .ne 8, 3) := by decide +kernel
theorem dL_bears_4 : decode cL_bears 4 = .ok (.bipush 30, 2) := by decide +kernel
theorem dL_bears_6 : decode cL_bears 6 = .ok (.goto 15, 3) := by decide +kernel
theorem dL_bears_9 : decode cL_bears 9 = .ok (.iload_n 0, 1) := by decide +kernel
theorem dL_bears_10 : decode cL_bears 10 = .ok (.iconst 1, 1) := by decide +kernel
theorem dL_bears_11 : decode cL_bears 11 = .ok (.if_icmp .ne 8, 3) := by decide +kernel
theorem dL_bears_14 : decode cL_bears 14 = .ok (.bipush 12, 2) := by decide +kernel
theorem dL_bears_16 : decode cL_bears 16 = .ok (.goto 5, 3) := by decide +kernel
theorem dL_bears_19 : decode cL_bears 19 = .ok (.bipush 20, 2) := by decide +kernel
theorem dL_bears_21 : decode cL_bears 21 = .ok (.ireturn, 1) := by decide +kernel
theorem dL_taken_0 : decode cL_taken 0 = .ok (.iconst 0, 1) := by decide +kernel
theorem dL_taken_1 : decode cL_taken 1 = .ok (.istore_n 2, 1) := by decide +kernel
theorem dL_taken_2 : decode cL_taken 2 = .ok (.iconst 0, 1) := by decide +kernel
theorem dL_taken_3 : decode cL_taken 3 = .ok (.istore_n 3, 1) := by decide +kernel
theorem dL_taken_4 : decode cL_taken 4 = .ok (.iload_n 3, 1) := by decide +kernel
theorem dL_taken_5 : decode cL_taken 5 = .ok (.bipush 6, 2) := by decide +kernel
theorem dL_taken_7 : decode cL_taken 7 = .ok (.if_icmp .ge 47, 3) := by decide +kernel
theorem dL_taken_10 : decode cL_taken 10 = .ok (.iload_n 2, 1) := by decide +kernel
theorem dL_taken_11 : decode cL_taken 11 = .ok (.aload_n 1, 1) := by decide +kernel
theorem dL_taken_12 : decode cL_taken 12 = .ok (.iload_n 3, 1) := by decide +kernel
theorem dL_taken_13 : decode cL_taken 13 = .ok (.iconst 0, 1) := by decide +kernel
theorem dL_taken_14 : decode cL_taken 14 = .ok (.invokestatic 9, 3) := by decide +kernel
theorem dL_taken_17 : decode cL_taken 17 = .ok (.iconst 1, 1) := by decide +kernel
theorem dL_taken_18 : decode cL_taken 18 = .ok (.if_icmp .ne 27, 3) := by decide +kernel
theorem dL_taken_21 : decode cL_taken 21 = .ok (.aload_n 1, 1) := by decide +kernel
theorem dL_taken_22 : decode cL_taken 22 = .ok (.iload_n 3, 1) := by decide +kernel
theorem dL_taken_23 : decode cL_taken 23 = .ok (.iconst 5, 1) := by decide +kernel
theorem dL_taken_24 : decode cL_taken 24 = .ok (.invokestatic 9, 3) := by decide +kernel
theorem dL_taken_27 : decode cL_taken 27 = .ok (.ifCond .lt 18, 3) := by decide +kernel
theorem dL_taken_30 : decode cL_taken 30 = .ok (.aload_n 1, 1) := by decide +kernel
theorem dL_taken_31 : decode cL_taken 31 = .ok (.iload_n 3, 1) := by decide +kernel
theorem dL_taken_32 : decode cL_taken 32 = .ok (.bipush 6, 2) := by decide +kernel
theorem dL_taken_34 : decode cL_taken 34 = .ok (.invokestatic 9, 3) := by decide +kernel
theorem dL_taken_37 : decode cL_taken 37 = .ok (.iload_n 0, 1) := by decide +kernel
theorem dL_taken_38 : decode cL_taken 38 = .ok (.if_icmp .ne 7, 3) := by decide +kernel
theorem dL_taken_41 : decode cL_taken 41 = .ok (.iconst 1, 1) := by decide +kernel
theorem dL_taken_42 : decode cL_taken 42 = .ok (.goto 4, 3) := by decide +kernel
theorem dL_taken_45 : decode cL_taken 45 = .ok (.iconst 0, 1) := by decide +kernel
theorem dL_taken_46 : decode cL_taken 46 = .ok (.iadd, 1) := by decide +kernel
theorem dL_taken_47 : decode cL_taken 47 = .ok (.istore_n 2, 1) := by decide +kernel
theorem dL_taken_48 : decode cL_taken 48 = .ok (.iinc 3 1, 3) := by decide +kernel
theorem dL_taken_51 : decode cL_taken 51 = .ok (.goto (-47), 3) := by decide +kernel
theorem dL_taken_54 : decode cL_taken 54 = .ok (.iload_n 2, 1) := by decide +kernel
theorem dL_taken_55 : decode cL_taken 55 = .ok (.ireturn, 1) := by decide +kernel
theorem dL_cradle_0 : decode cL_cradle 0 = .ok (.aload_n 2, 1) := by decide +kernel
theorem dL_cradle_1 : decode cL_cradle 1 = .ok (.iload_n 0, 1) := by decide +kernel
theorem dL_cradle_2 : decode cL_cradle 2 = .ok (.iconst 4, 1) := by decide +kernel
theorem dL_cradle_3 : decode cL_cradle 3 = .ok (.invokestatic 9, 3) := by decide +kernel
theorem dL_cradle_6 : decode cL_cradle 6 = .ok (.istore_n 3, 1) := by decide +kernel
theorem dL_cradle_7 : decode cL_cradle 7 = .ok (.aload_n 2, 1) := by decide +kernel
theorem dL_cradle_8 : decode cL_cradle 8 = .ok (.iload_n 0, 1) := by decide +kernel
theorem dL_cradle_9 : decode cL_cradle 9 = .ok (.iconst 3, 1) := by decide +kernel
theorem dL_cradle_10 : decode cL_cradle 10 = .ok (.invokestatic 9, 3) := by decide +kernel
theorem dL_cradle_13 : decode cL_cradle 13 = .ok (.istore 4, 2) := by decide +kernel
theorem dL_cradle_15 : decode cL_cradle 15 = .ok (.iload_n 3, 1) := by decide +kernel
theorem dL_cradle_16 : decode cL_cradle 16 = .ok (.aload_n 2, 1) := by decide +kernel
theorem dL_cradle_17 : decode cL_cradle 17 = .ok (.invokestatic 15, 3) := by decide +kernel
theorem dL_cradle_20 : decode cL_cradle 20 = .ok (.aload_n 1, 1) := by decide +kernel
theorem dL_cradle_21 : decode cL_cradle 21 = .ok (.bipush 7, 2) := by decide +kernel
theorem dL_cradle_23 : decode cL_cradle 23 = .ok (.iload_n 3, 1) := by decide +kernel
theorem dL_cradle_24 : decode cL_cradle 24 = .ok (.iadd, 1) := by decide +kernel
theorem dL_cradle_25 : decode cL_cradle 25 = .ok (.iaload, 1) := by decide +kernel
theorem dL_cradle_26 : decode cL_cradle 26 = .ok (.if_icmp .ge 14, 3) := by decide +kernel
theorem dL_cradle_29 : decode cL_cradle 29 = .ok (.iload 4, 2) := by decide +kernel
theorem dL_cradle_31 : decode cL_cradle 31 = .ok (.iload_n 3, 1) := by decide +kernel
theorem dL_cradle_32 : decode cL_cradle 32 = .ok (.invokestatic 19, 3) := by decide +kernel
theorem dL_cradle_35 : decode cL_cradle 35 = .ok (.if_icmp .gt 5, 3) := by decide +kernel
theorem dL_cradle_38 : decode cL_cradle 38 = .ok (.iload_n 3, 1) := by decide +kernel
theorem dL_cradle_39 : decode cL_cradle 39 = .ok (.ireturn, 1) := by decide +kernel
theorem dL_cradle_40 : decode cL_cradle 40 = .ok (.iload_n 3, 1) := by decide +kernel
theorem dL_cradle_41 : decode cL_cradle 41 = .ok (.ifCond .ne 24, 3) := by decide +kernel
theorem dL_cradle_44 : decode cL_cradle 44 = .ok (.iconst 2, 1) := by decide +kernel
theorem dL_cradle_45 : decode cL_cradle 45 = .ok (.aload_n 2, 1) := by decide +kernel
theorem dL_cradle_46 : decode cL_cradle 46 = .ok (.invokestatic 15, 3) := by decide +kernel
theorem dL_cradle_49 : decode cL_cradle 49 = .ok (.aload_n 1, 1) := by decide +kernel
theorem dL_cradle_50 : decode cL_cradle 50 = .ok (.bipush 9, 2) := by decide +kernel
theorem dL_cradle_52 : decode cL_cradle 52 = .ok (.iaload, 1) := by decide +kernel
theorem dL_cradle_53 : decode cL_cradle 53 = .ok (.if_icmp .ge 12, 3) := by decide +kernel
theorem dL_cradle_56 : decode cL_cradle 56 = .ok (.iload 4, 2) := by decide +kernel
theorem dL_cradle_58 : decode cL_cradle 58 = .ok (.bipush 10, 2) := by decide +kernel
theorem dL_cradle_60 : decode cL_cradle 60 = .ok (.if_icmp .gt 5, 3) := by decide +kernel
theorem dL_cradle_63 : decode cL_cradle 63 = .ok (.iconst 2, 1) := by decide +kernel
theorem dL_cradle_64 : decode cL_cradle 64 = .ok (.ireturn, 1) := by decide +kernel
theorem dL_cradle_65 : decode cL_cradle 65 = .ok (.iload_n 3, 1) := by decide +kernel
theorem dL_cradle_66 : decode cL_cradle 66 = .ok (.iconst 2, 1) := by decide +kernel
theorem dL_cradle_67 : decode cL_cradle 67 = .ok (.if_icmp .ne 26, 3) := by decide +kernel
theorem dL_cradle_70 : decode cL_cradle 70 = .ok (.iconst 0, 1) := by decide +kernel
theorem dL_cradle_71 : decode cL_cradle 71 = .ok (.aload_n 2, 1) := by decide +kernel
theorem dL_cradle_72 : decode cL_cradle 72 = .ok (.invokestatic 15, 3) := by decide +kernel
theorem dL_cradle_75 : decode cL_cradle 75 = .ok (.aload_n 1, 1) := by decide +kernel
theorem dL_cradle_76 : decode cL_cradle 76 = .ok (.bipush 7, 2) := by decide +kernel
theorem dL_cradle_78 : decode cL_cradle 78 = .ok (.iaload, 1) := by decide +kernel
theorem dL_cradle_79 : decode cL_cradle 79 = .ok (.if_icmp .ge 14, 3) := by decide +kernel
theorem dL_cradle_82 : decode cL_cradle 82 = .ok (.iload 4, 2) := by decide +kernel
theorem dL_cradle_84 : decode cL_cradle 84 = .ok (.bipush 15, 2) := by decide +kernel
theorem dL_cradle_86 : decode cL_cradle 86 = .ok (.if_icmp .gt 7, 3) := by decide +kernel
theorem dL_cradle_89 : decode cL_cradle 89 = .ok (.iconst 0, 1) := by decide +kernel
theorem dL_cradle_90 : decode cL_cradle 90 = .ok (.goto 4, 3) := by decide +kernel
theorem dL_cradle_93 : decode cL_cradle 93 = .ok (.iconst (-1), 1) := by decide +kernel
theorem dL_cradle_94 : decode cL_cradle 94 = .ok (.ireturn, 1) := by decide +kernel
theorem dL_room_0 : decode cL_room 0 = .ok (.aload_n 1, 1) := by decide +kernel
theorem dL_room_1 : decode cL_room 1 = .ok (.bipush 10, 2) := by decide +kernel
theorem dL_room_3 : decode cL_room 3 = .ok (.iload_n 0, 1) := by decide +kernel
theorem dL_room_4 : decode cL_room 4 = .ok (.iadd, 1) := by decide +kernel
theorem dL_room_5 : decode cL_room 5 = .ok (.iaload, 1) := by decide +kernel
theorem dL_room_6 : decode cL_room 6 = .ok (.istore 4, 2) := by decide +kernel
theorem dL_room_8 : decode cL_room 8 = .ok (.iconst 1, 1) := by decide +kernel
theorem dL_room_9 : decode cL_room 9 = .ok (.istore 5, 2) := by decide +kernel
theorem dL_room_11 : decode cL_room 11 = .ok (.iload 5, 2) := by decide +kernel
theorem dL_room_13 : decode cL_room 13 = .ok (.aload_n 3, 1) := by decide +kernel
theorem dL_room_14 : decode cL_room 14 = .ok (.bipush 7, 2) := by decide +kernel
theorem dL_room_16 : decode cL_room 16 = .ok (.iload_n 0, 1) := by decide +kernel
theorem dL_room_17 : decode cL_room 17 = .ok (.imul, 1) := by decide +kernel
theorem dL_room_18 : decode cL_room 18 = .ok (.iaload, 1) := by decide +kernel
theorem dL_room_19 : decode cL_room 19 = .ok (.if_icmp .gt 30, 3) := by decide +kernel
theorem dL_room_22 : decode cL_room 22 = .ok (.iload 4, 2) := by decide +kernel
theorem dL_room_24 : decode cL_room 24 = .ok (.aload_n 2, 1) := by decide +kernel
theorem dL_room_25 : decode cL_room 25 = .ok (.aload_n 3, 1) := by decide +kernel
theorem dL_room_26 : decode cL_room 26 = .ok (.bipush 7, 2) := by decide +kernel
theorem dL_room_28 : decode cL_room 28 = .ok (.iload_n 0, 1) := by decide +kernel
theorem dL_room_29 : decode cL_room 29 = .ok (.imul, 1) := by decide +kernel
theorem dL_room_30 : decode cL_room 30 = .ok (.iload 5, 2) := by decide +kernel
theorem dL_room_32 : decode cL_room 32 = .ok (.iadd, 1) := by decide +kernel
theorem dL_room_33 : decode cL_room 33 = .ok (.iaload, 1) := by decide +kernel
theorem dL_room_34 : decode cL_room 34 = .ok (.iconst 1, 1) := by decide +kernel
theorem dL_room_35 : decode cL_room 35 = .ok (.invokestatic 9, 3) := by decide +kernel
theorem dL_room_38 : decode cL_room 38 = .ok (.iconst 1, 1) := by decide +kernel
theorem dL_room_39 : decode cL_room 39 = .ok (.iadd, 1) := by decide +kernel
theorem dL_room_40 : decode cL_room 40 = .ok (.isub, 1) := by decide +kernel
theorem dL_room_41 : decode cL_room 41 = .ok (.istore 4, 2) := by decide +kernel
theorem dL_room_43 : decode cL_room 43 = .ok (.iinc 5 1, 3) := by decide +kernel
theorem dL_room_46 : decode cL_room 46 = .ok (.goto (-35), 3) := by decide +kernel
theorem dL_room_49 : decode cL_room 49 = .ok (.iload 4, 2) := by decide +kernel
theorem dL_room_51 : decode cL_room 51 = .ok (.ireturn, 1) := by decide +kernel
theorem dL_place_0 : decode cL_place 0 = .ok (.iconst 0, 1) := by decide +kernel
theorem dL_place_1 : decode cL_place 1 = .ok (.istore_n 3, 1) := by decide +kernel
theorem dL_place_2 : decode cL_place 2 = .ok (.aload_n 2, 1) := by decide +kernel
theorem dL_place_3 : decode cL_place 3 = .ok (.bipush 7, 2) := by decide +kernel
theorem dL_place_5 : decode cL_place 5 = .ok (.aload_n 1, 1) := by decide +kernel
theorem dL_place_6 : decode cL_place 6 = .ok (.iload_n 0, 1) := by decide +kernel
theorem dL_place_7 : decode cL_place 7 = .ok (.iconst 5, 1) := by decide +kernel
theorem dL_place_8 : decode cL_place 8 = .ok (.invokestatic 9, 3) := by decide +kernel
theorem dL_place_11 : decode cL_place 11 = .ok (.imul, 1) := by decide +kernel
theorem dL_place_12 : decode cL_place 12 = .ok (.iconst 1, 1) := by decide +kernel
theorem dL_place_13 : decode cL_place 13 = .ok (.iadd, 1) := by decide +kernel
theorem dL_place_14 : decode cL_place 14 = .ok (.iload_n 3, 1) := by decide +kernel
theorem dL_place_15 : decode cL_place 15 = .ok (.iadd, 1) := by decide +kernel
theorem dL_place_16 : decode cL_place 16 = .ok (.iaload, 1) := by decide +kernel
theorem dL_place_17 : decode cL_place 17 = .ok (.iload_n 0, 1) := by decide +kernel
theorem dL_place_18 : decode cL_place 18 = .ok (.if_icmp .eq 9, 3) := by decide +kernel
theorem dL_place_21 : decode cL_place 21 = .ok (.iinc 3 1, 3) := by decide +kernel
theorem dL_place_24 : decode cL_place 24 = .ok (.goto (-22), 3) := by decide +kernel
theorem dL_place_27 : decode cL_place 27 = .ok (.iload_n 3, 1) := by decide +kernel
theorem dL_place_28 : decode cL_place 28 = .ok (.ireturn, 1) := by decide +kernel
theorem dL_masts_0 : decode cL_masts 0 = .ok (.iconst 0, 1) := by decide +kernel
theorem dL_masts_1 : decode cL_masts 1 = .ok (.istore_n 2, 1) := by decide +kernel
theorem dL_masts_2 : decode cL_masts 2 = .ok (.iconst 0, 1) := by decide +kernel
theorem dL_masts_3 : decode cL_masts 3 = .ok (.istore_n 3, 1) := by decide +kernel
theorem dL_masts_4 : decode cL_masts 4 = .ok (.iload_n 3, 1) := by decide +kernel
theorem dL_masts_5 : decode cL_masts 5 = .ok (.bipush 6, 2) := by decide +kernel
theorem dL_masts_7 : decode cL_masts 7 = .ok (.if_icmp .ge 38, 3) := by decide +kernel
theorem dL_masts_10 : decode cL_masts 10 = .ok (.iload_n 2, 1) := by decide +kernel
theorem dL_masts_11 : decode cL_masts 11 = .ok (.aload_n 1, 1) := by decide +kernel
theorem dL_masts_12 : decode cL_masts 12 = .ok (.iload_n 3, 1) := by decide +kernel
theorem dL_masts_13 : decode cL_masts 13 = .ok (.iconst 0, 1) := by decide +kernel
theorem dL_masts_14 : decode cL_masts 14 = .ok (.invokestatic 9, 3) := by decide +kernel
theorem dL_masts_17 : decode cL_masts 17 = .ok (.iconst 1, 1) := by decide +kernel
theorem dL_masts_18 : decode cL_masts 18 = .ok (.if_icmp .ne 18, 3) := by decide +kernel
theorem dL_masts_21 : decode cL_masts 21 = .ok (.aload_n 1, 1) := by decide +kernel
theorem dL_masts_22 : decode cL_masts 22 = .ok (.iload_n 3, 1) := by decide +kernel
theorem dL_masts_23 : decode cL_masts 23 = .ok (.bipush 7, 2) := by decide +kernel
theorem dL_masts_25 : decode cL_masts 25 = .ok (.invokestatic 9, 3) := by decide +kernel
theorem dL_masts_28 : decode cL_masts 28 = .ok (.iload_n 0, 1) := by decide +kernel
theorem dL_masts_29 : decode cL_masts 29 = .ok (.if_icmp .ne 7, 3) := by decide +kernel
theorem dL_masts_32 : decode cL_masts 32 = .ok (.iconst 1, 1) := by decide +kernel
theorem dL_masts_33 : decode cL_masts 33 = .ok (.goto 4, 3) := by decide +kernel
theorem dL_masts_36 : decode cL_masts 36 = .ok (.iconst 0, 1) := by decide +kernel
theorem dL_masts_37 : decode cL_masts 37 = .ok (.iadd, 1) := by decide +kernel
theorem dL_masts_38 : decode cL_masts 38 = .ok (.istore_n 2, 1) := by decide +kernel
theorem dL_masts_39 : decode cL_masts 39 = .ok (.iinc 3 1, 3) := by decide +kernel
theorem dL_masts_42 : decode cL_masts 42 = .ok (.goto (-38), 3) := by decide +kernel
theorem dL_masts_45 : decode cL_masts 45 = .ok (.iload_n 2, 1) := by decide +kernel
theorem dL_masts_46 : decode cL_masts 46 = .ok (.ireturn, 1) := by decide +kernel
theorem dL_liftReason_0 : decode cL_liftReason 0 = .ok (.aload_n 3, 1) := by decide +kernel
theorem dL_liftReason_1 : decode cL_liftReason 1 = .ok (.iload_n 0, 1) := by decide +kernel
theorem dL_liftReason_2 : decode cL_liftReason 2 = .ok (.iconst 5, 1) := by decide +kernel
theorem dL_liftReason_3 : decode cL_liftReason 3 = .ok (.invokestatic 9, 3) := by decide +kernel
theorem dL_liftReason_6 : decode cL_liftReason 6 = .ok (.ifCond .lt 5, 3) := by decide +kernel
theorem dL_liftReason_9 : decode cL_liftReason 9 = .ok (.iconst 1, 1) := by decide +kernel
theorem dL_liftReason_10 : decode cL_liftReason 10 = .ok (.ireturn, 1) := by decide +kernel
theorem dL_liftReason_11 : decode cL_liftReason 11 = .ok (.aload_n 2, 1) := by decide +kernel
theorem dL_liftReason_12 : decode cL_liftReason 12 = .ok (.iconst 0, 1) := by decide +kernel
theorem dL_liftReason_13 : decode cL_liftReason 13 = .ok (.iaload, 1) := by decide +kernel
theorem dL_liftReason_14 : decode cL_liftReason 14 = .ok (.aload_n 2, 1) := by decide +kernel
theorem dL_liftReason_15 : decode cL_liftReason 15 = .ok (.invokestatic 23, 3) := by decide +kernel
theorem dL_liftReason_18 : decode cL_liftReason 18 = .ok (.aload_n 3, 1) := by decide +kernel
theorem dL_liftReason_19 : decode cL_liftReason 19 = .ok (.iload_n 0, 1) := by decide +kernel
theorem dL_liftReason_20 : decode cL_liftReason 20 = .ok (.iconst 2, 1) := by decide +kernel
theorem dL_liftReason_21 : decode cL_liftReason 21 = .ok (.invokestatic 9, 3) := by decide +kernel
theorem dL_liftReason_24 : decode cL_liftReason 24 = .ok (.if_icmp .ge 5, 3) := by decide +kernel
theorem dL_liftReason_27 : decode cL_liftReason 27 = .ok (.iconst 2, 1) := by decide +kernel
theorem dL_liftReason_28 : decode cL_liftReason 28 = .ok (.ireturn, 1) := by decide +kernel
theorem dL_liftReason_29 : decode cL_liftReason 29 = .ok (.aload_n 3, 1) := by decide +kernel
theorem dL_liftReason_30 : decode cL_liftReason 30 = .ok (.iload_n 0, 1) := by decide +kernel
theorem dL_liftReason_31 : decode cL_liftReason 31 = .ok (.iconst 3, 1) := by decide +kernel
theorem dL_liftReason_32 : decode cL_liftReason 32 = .ok (.invokestatic 9, 3) := by decide +kernel
theorem dL_liftReason_35 : decode cL_liftReason 35 = .ok (.aload_n 2, 1) := by decide +kernel
theorem dL_liftReason_36 : decode cL_liftReason 36 = .ok (.iconst 4, 1) := by decide +kernel
theorem dL_liftReason_37 : decode cL_liftReason 37 = .ok (.iaload, 1) := by decide +kernel
theorem dL_liftReason_38 : decode cL_liftReason 38 = .ok (.if_icmp .le 5, 3) := by decide +kernel
theorem dL_liftReason_41 : decode cL_liftReason 41 = .ok (.iconst 3, 1) := by decide +kernel
theorem dL_liftReason_42 : decode cL_liftReason 42 = .ok (.ireturn, 1) := by decide +kernel
theorem dL_liftReason_43 : decode cL_liftReason 43 = .ok (.iload_n 0, 1) := by decide +kernel
theorem dL_liftReason_44 : decode cL_liftReason 44 = .ok (.aload_n 2, 1) := by decide +kernel
theorem dL_liftReason_45 : decode cL_liftReason 45 = .ok (.aload_n 3, 1) := by decide +kernel
theorem dL_liftReason_46 : decode cL_liftReason 46 = .ok (.invokestatic 26, 3) := by decide +kernel
theorem dL_liftReason_49 : decode cL_liftReason 49 = .ok (.ifCond .ge 5, 3) := by decide +kernel
theorem dL_liftReason_52 : decode cL_liftReason 52 = .ok (.iconst 4, 1) := by decide +kernel
theorem dL_liftReason_53 : decode cL_liftReason 53 = .ok (.ireturn, 1) := by decide +kernel
theorem dL_liftReason_54 : decode cL_liftReason 54 = .ok (.iload_n 1, 1) := by decide +kernel
theorem dL_liftReason_55 : decode cL_liftReason 55 = .ok (.aload_n 2, 1) := by decide +kernel
theorem dL_liftReason_56 : decode cL_liftReason 56 = .ok (.aload_n 3, 1) := by decide +kernel
theorem dL_liftReason_57 : decode cL_liftReason 57 = .ok (.aload 4, 2) := by decide +kernel
theorem dL_liftReason_59 : decode cL_liftReason 59 = .ok (.invokestatic 30, 3) := by decide +kernel
theorem dL_liftReason_62 : decode cL_liftReason 62 = .ok (.aload_n 3, 1) := by decide +kernel
theorem dL_liftReason_63 : decode cL_liftReason 63 = .ok (.iload_n 0, 1) := by decide +kernel
theorem dL_liftReason_64 : decode cL_liftReason 64 = .ok (.iconst 1, 1) := by decide +kernel
theorem dL_liftReason_65 : decode cL_liftReason 65 = .ok (.invokestatic 9, 3) := by decide +kernel
theorem dL_liftReason_68 : decode cL_liftReason 68 = .ok (.iconst 1, 1) := by decide +kernel
theorem dL_liftReason_69 : decode cL_liftReason 69 = .ok (.iadd, 1) := by decide +kernel
theorem dL_liftReason_70 : decode cL_liftReason 70 = .ok (.if_icmp .ge 5, 3) := by decide +kernel
theorem dL_liftReason_73 : decode cL_liftReason 73 = .ok (.iconst 5, 1) := by decide +kernel
theorem dL_liftReason_74 : decode cL_liftReason 74 = .ok (.ireturn, 1) := by decide +kernel
theorem dL_liftReason_75 : decode cL_liftReason 75 = .ok (.aload_n 3, 1) := by decide +kernel
theorem dL_liftReason_76 : decode cL_liftReason 76 = .ok (.iload_n 0, 1) := by decide +kernel
theorem dL_liftReason_77 : decode cL_liftReason 77 = .ok (.iconst 1, 1) := by decide +kernel
theorem dL_liftReason_78 : decode cL_liftReason 78 = .ok (.invokestatic 9, 3) := by decide +kernel
theorem dL_liftReason_81 : decode cL_liftReason 81 = .ok (.bipush 9, 2) := by decide +kernel
theorem dL_liftReason_83 : decode cL_liftReason 83 = .ok (.if_icmp .le 16, 3) := by decide +kernel
theorem dL_liftReason_86 : decode cL_liftReason 86 = .ok (.aload_n 3, 1) := by decide +kernel
theorem dL_liftReason_87 : decode cL_liftReason 87 = .ok (.iload_n 0, 1) := by decide +kernel
theorem dL_liftReason_88 : decode cL_liftReason 88 = .ok (.bipush 7, 2) := by decide +kernel
theorem dL_liftReason_90 : decode cL_liftReason 90 = .ok (.invokestatic 9, 3) := by decide +kernel
theorem dL_liftReason_93 : decode cL_liftReason 93 = .ok (.ifCond .ge 6, 3) := by decide +kernel
theorem dL_liftReason_96 : decode cL_liftReason 96 = .ok (.bipush 6, 2) := by decide +kernel
theorem dL_liftReason_98 : decode cL_liftReason 98 = .ok (.ireturn, 1) := by decide +kernel
theorem dL_liftReason_99 : decode cL_liftReason 99 = .ok (.aload_n 2, 1) := by decide +kernel
theorem dL_liftReason_100 : decode cL_liftReason 100 = .ok (.invokestatic 34, 3) := by decide +kernel
theorem dL_liftReason_103 : decode cL_liftReason 103 = .ok (.ifCond .le 7, 3) := by decide +kernel
theorem dL_liftReason_106 : decode cL_liftReason 106 = .ok (.iconst 0, 1) := by decide +kernel
theorem dL_liftReason_107 : decode cL_liftReason 107 = .ok (.goto 5, 3) := by decide +kernel
theorem dL_liftReason_110 : decode cL_liftReason 110 = .ok (.bipush 7, 2) := by decide +kernel
theorem dL_liftReason_112 : decode cL_liftReason 112 = .ok (.ireturn, 1) := by decide +kernel
theorem dL_launchReason_0 : decode cL_launchReason 0 = .ok (.aload_n 2, 1) := by decide +kernel
theorem dL_launchReason_1 : decode cL_launchReason 1 = .ok (.iload_n 0, 1) := by decide +kernel
theorem dL_launchReason_2 : decode cL_launchReason 2 = .ok (.iconst 5, 1) := by decide +kernel
theorem dL_launchReason_3 : decode cL_launchReason 3 = .ok (.invokestatic 9, 3) := by decide +kernel
theorem dL_launchReason_6 : decode cL_launchReason 6 = .ok (.ifCond .ge 5, 3) := by decide +kernel
theorem dL_launchReason_9 : decode cL_launchReason 9 = .ok (.iconst 1, 1) := by decide +kernel
theorem dL_launchReason_10 : decode cL_launchReason 10 = .ok (.ireturn, 1) := by decide +kernel
theorem dL_launchReason_11 : decode cL_launchReason 11 = .ok (.aload_n 2, 1) := by decide +kernel
theorem dL_launchReason_12 : decode cL_launchReason 12 = .ok (.iload_n 0, 1) := by decide +kernel
theorem dL_launchReason_13 : decode cL_launchReason 13 = .ok (.bipush 8, 2) := by decide +kernel
theorem dL_launchReason_15 : decode cL_launchReason 15 = .ok (.invokestatic 9, 3) := by decide +kernel
theorem dL_launchReason_18 : decode cL_launchReason 18 = .ok (.ifCond .le 5, 3) := by decide +kernel
theorem dL_launchReason_21 : decode cL_launchReason 21 = .ok (.iconst 2, 1) := by decide +kernel
theorem dL_launchReason_22 : decode cL_launchReason 22 = .ok (.ireturn, 1) := by decide +kernel
theorem dL_launchReason_23 : decode cL_launchReason 23 = .ok (.iload_n 0, 1) := by decide +kernel
theorem dL_launchReason_24 : decode cL_launchReason 24 = .ok (.aload_n 2, 1) := by decide +kernel
theorem dL_launchReason_25 : decode cL_launchReason 25 = .ok (.aload_n 3, 1) := by decide +kernel
theorem dL_launchReason_26 : decode cL_launchReason 26 = .ok (.invokestatic 38, 3) := by decide +kernel
theorem dL_launchReason_29 : decode cL_launchReason 29 = .ok (.aload_n 3, 1) := by decide +kernel
theorem dL_launchReason_30 : decode cL_launchReason 30 = .ok (.bipush 7, 2) := by decide +kernel
theorem dL_launchReason_32 : decode cL_launchReason 32 = .ok (.aload_n 2, 1) := by decide +kernel
theorem dL_launchReason_33 : decode cL_launchReason 33 = .ok (.iload_n 0, 1) := by decide +kernel
theorem dL_launchReason_34 : decode cL_launchReason 34 = .ok (.iconst 5, 1) := by decide +kernel
theorem dL_launchReason_35 : decode cL_launchReason 35 = .ok (.invokestatic 9, 3) := by decide +kernel
theorem dL_launchReason_38 : decode cL_launchReason 38 = .ok (.imul, 1) := by decide +kernel
theorem dL_launchReason_39 : decode cL_launchReason 39 = .ok (.iaload, 1) := by decide +kernel
theorem dL_launchReason_40 : decode cL_launchReason 40 = .ok (.iconst 1, 1) := by decide +kernel
theorem dL_launchReason_41 : decode cL_launchReason 41 = .ok (.isub, 1) := by decide +kernel
theorem dL_launchReason_42 : decode cL_launchReason 42 = .ok (.if_icmp .ge 5, 3) := by decide +kernel
theorem dL_launchReason_45 : decode cL_launchReason 45 = .ok (.iconst 3, 1) := by decide +kernel
theorem dL_launchReason_46 : decode cL_launchReason 46 = .ok (.ireturn, 1) := by decide +kernel
theorem dL_launchReason_47 : decode cL_launchReason 47 = .ok (.aload_n 1, 1) := by decide +kernel
theorem dL_launchReason_48 : decode cL_launchReason 48 = .ok (.iconst 0, 1) := by decide +kernel
theorem dL_launchReason_49 : decode cL_launchReason 49 = .ok (.iaload, 1) := by decide +kernel
theorem dL_launchReason_50 : decode cL_launchReason 50 = .ok (.aload_n 1, 1) := by decide +kernel
theorem dL_launchReason_51 : decode cL_launchReason 51 = .ok (.invokestatic 23, 3) := by decide +kernel
theorem dL_launchReason_54 : decode cL_launchReason 54 = .ok (.aload_n 2, 1) := by decide +kernel
theorem dL_launchReason_55 : decode cL_launchReason 55 = .ok (.iload_n 0, 1) := by decide +kernel
theorem dL_launchReason_56 : decode cL_launchReason 56 = .ok (.iconst 2, 1) := by decide +kernel
theorem dL_launchReason_57 : decode cL_launchReason 57 = .ok (.invokestatic 9, 3) := by decide +kernel
theorem dL_launchReason_60 : decode cL_launchReason 60 = .ok (.if_icmp .ge 5, 3) := by decide +kernel
theorem dL_launchReason_63 : decode cL_launchReason 63 = .ok (.iconst 4, 1) := by decide +kernel
theorem dL_launchReason_64 : decode cL_launchReason 64 = .ok (.ireturn, 1) := by decide +kernel
theorem dL_launchReason_65 : decode cL_launchReason 65 = .ok (.aload_n 2, 1) := by decide +kernel
theorem dL_launchReason_66 : decode cL_launchReason 66 = .ok (.iload_n 0, 1) := by decide +kernel
theorem dL_launchReason_67 : decode cL_launchReason 67 = .ok (.iconst 3, 1) := by decide +kernel
theorem dL_launchReason_68 : decode cL_launchReason 68 = .ok (.invokestatic 9, 3) := by decide +kernel
theorem dL_launchReason_71 : decode cL_launchReason 71 = .ok (.aload_n 1, 1) := by decide +kernel
theorem dL_launchReason_72 : decode cL_launchReason 72 = .ok (.iconst 4, 1) := by decide +kernel
theorem dL_launchReason_73 : decode cL_launchReason 73 = .ok (.iaload, 1) := by decide +kernel
theorem dL_launchReason_74 : decode cL_launchReason 74 = .ok (.if_icmp .le 5, 3) := by decide +kernel
theorem dL_launchReason_77 : decode cL_launchReason 77 = .ok (.iconst 5, 1) := by decide +kernel
theorem dL_launchReason_78 : decode cL_launchReason 78 = .ok (.ireturn, 1) := by decide +kernel
theorem dL_launchReason_79 : decode cL_launchReason 79 = .ok (.aload_n 1, 1) := by decide +kernel
theorem dL_launchReason_80 : decode cL_launchReason 80 = .ok (.invokestatic 34, 3) := by decide +kernel
theorem dL_launchReason_83 : decode cL_launchReason 83 = .ok (.ifCond .le 7, 3) := by decide +kernel
theorem dL_launchReason_86 : decode cL_launchReason 86 = .ok (.iconst 0, 1) := by decide +kernel
theorem dL_launchReason_87 : decode cL_launchReason 87 = .ok (.goto 5, 3) := by decide +kernel
theorem dL_launchReason_90 : decode cL_launchReason 90 = .ok (.bipush 6, 2) := by decide +kernel
theorem dL_launchReason_92 : decode cL_launchReason 92 = .ok (.ireturn, 1) := by decide +kernel
theorem dL_stand_0 : decode cL_stand 0 = .ok (.aload_n 2, 1) := by decide +kernel
theorem dL_stand_1 : decode cL_stand 1 = .ok (.bipush 10, 2) := by decide +kernel
theorem dL_stand_3 : decode cL_stand 3 = .ok (.iload_n 0, 1) := by decide +kernel
theorem dL_stand_4 : decode cL_stand 4 = .ok (.imul, 1) := by decide +kernel
theorem dL_stand_5 : decode cL_stand 5 = .ok (.iconst 5, 1) := by decide +kernel
theorem dL_stand_6 : decode cL_stand 6 = .ok (.iadd, 1) := by decide +kernel
theorem dL_stand_7 : decode cL_stand 7 = .ok (.iload_n 1, 1) := by decide +kernel
theorem dL_stand_8 : decode cL_stand 8 = .ok (.iastore, 1) := by decide +kernel
theorem dL_stand_9 : decode cL_stand 9 = .ok (.aload_n 3, 1) := by decide +kernel
theorem dL_stand_10 : decode cL_stand 10 = .ok (.bipush 7, 2) := by decide +kernel
theorem dL_stand_12 : decode cL_stand 12 = .ok (.iload_n 1, 1) := by decide +kernel
theorem dL_stand_13 : decode cL_stand 13 = .ok (.imul, 1) := by decide +kernel
theorem dL_stand_14 : decode cL_stand 14 = .ok (.dup2, 1) := by decide +kernel
theorem dL_stand_15 : decode cL_stand 15 = .ok (.iaload, 1) := by decide +kernel
theorem dL_stand_16 : decode cL_stand 16 = .ok (.iconst 1, 1) := by decide +kernel
theorem dL_stand_17 : decode cL_stand 17 = .ok (.iadd, 1) := by decide +kernel
theorem dL_stand_18 : decode cL_stand 18 = .ok (.iastore, 1) := by decide +kernel
theorem dL_stand_19 : decode cL_stand 19 = .ok (.aload_n 3, 1) := by decide +kernel
theorem dL_stand_20 : decode cL_stand 20 = .ok (.bipush 7, 2) := by decide +kernel
theorem dL_stand_22 : decode cL_stand 22 = .ok (.iload_n 1, 1) := by decide +kernel
theorem dL_stand_23 : decode cL_stand 23 = .ok (.imul, 1) := by decide +kernel
theorem dL_stand_24 : decode cL_stand 24 = .ok (.aload_n 3, 1) := by decide +kernel
theorem dL_stand_25 : decode cL_stand 25 = .ok (.bipush 7, 2) := by decide +kernel
theorem dL_stand_27 : decode cL_stand 27 = .ok (.iload_n 1, 1) := by decide +kernel
theorem dL_stand_28 : decode cL_stand 28 = .ok (.imul, 1) := by decide +kernel
theorem dL_stand_29 : decode cL_stand 29 = .ok (.iaload, 1) := by decide +kernel
theorem dL_stand_30 : decode cL_stand 30 = .ok (.iadd, 1) := by decide +kernel
theorem dL_stand_31 : decode cL_stand 31 = .ok (.iload_n 0, 1) := by decide +kernel
theorem dL_stand_32 : decode cL_stand 32 = .ok (.iastore, 1) := by decide +kernel
theorem dL_stand_33 : decode cL_stand 33 = .ok (.return_, 1) := by decide +kernel
theorem dL_launchDay_0 : decode cL_launchDay 0 = .ok (.iconst 0, 1) := by decide +kernel
theorem dL_launchDay_1 : decode cL_launchDay 1 = .ok (.istore_n 3, 1) := by decide +kernel
theorem dL_launchDay_2 : decode cL_launchDay 2 = .ok (.iload_n 3, 1) := by decide +kernel
theorem dL_launchDay_3 : decode cL_launchDay 3 = .ok (.sipush 200, 3) := by decide +kernel
theorem dL_launchDay_6 : decode cL_launchDay 6 = .ok (.if_icmp .gt 76, 3) := by decide +kernel
theorem dL_launchDay_9 : decode cL_launchDay 9 = .ok (.aload_n 2, 1) := by decide +kernel
theorem dL_launchDay_10 : decode cL_launchDay 10 = .ok (.iload_n 0, 1) := by decide +kernel
theorem dL_launchDay_11 : decode cL_launchDay 11 = .ok (.iconst 5, 1) := by decide +kernel
theorem dL_launchDay_12 : decode cL_launchDay 12 = .ok (.invokestatic 9, 3) := by decide +kernel
theorem dL_launchDay_15 : decode cL_launchDay 15 = .ok (.ifCond .lt 61, 3) := by decide +kernel
theorem dL_launchDay_18 : decode cL_launchDay 18 = .ok (.aload_n 2, 1) := by decide +kernel
theorem dL_launchDay_19 : decode cL_launchDay 19 = .ok (.iload_n 0, 1) := by decide +kernel
theorem dL_launchDay_20 : decode cL_launchDay 20 = .ok (.iconst 3, 1) := by decide +kernel
theorem dL_launchDay_21 : decode cL_launchDay 21 = .ok (.invokestatic 9, 3) := by decide +kernel
theorem dL_launchDay_24 : decode cL_launchDay 24 = .ok (.aload_n 1, 1) := by decide +kernel
theorem dL_launchDay_25 : decode cL_launchDay 25 = .ok (.iconst 4, 1) := by decide +kernel
theorem dL_launchDay_26 : decode cL_launchDay 26 = .ok (.iaload, 1) := by decide +kernel
theorem dL_launchDay_27 : decode cL_launchDay 27 = .ok (.if_icmp .gt 49, 3) := by decide +kernel
theorem dL_launchDay_30 : decode cL_launchDay 30 = .ok (.aload_n 2, 1) := by decide +kernel
theorem dL_launchDay_31 : decode cL_launchDay 31 = .ok (.iload_n 0, 1) := by decide +kernel
theorem dL_launchDay_32 : decode cL_launchDay 32 = .ok (.bipush 8, 2) := by decide +kernel
theorem dL_launchDay_34 : decode cL_launchDay 34 = .ok (.invokestatic 9, 3) := by decide +kernel
theorem dL_launchDay_37 : decode cL_launchDay 37 = .ok (.iload_n 3, 1) := by decide +kernel
theorem dL_launchDay_38 : decode cL_launchDay 38 = .ok (.if_icmp .gt 38, 3) := by decide +kernel
theorem dL_launchDay_41 : decode cL_launchDay 41 = .ok (.aload_n 1, 1) := by decide +kernel
theorem dL_launchDay_42 : decode cL_launchDay 42 = .ok (.iconst 0, 1) := by decide +kernel
theorem dL_launchDay_43 : decode cL_launchDay 43 = .ok (.iaload, 1) := by decide +kernel
theorem dL_launchDay_44 : decode cL_launchDay 44 = .ok (.iload_n 3, 1) := by decide +kernel
theorem dL_launchDay_45 : decode cL_launchDay 45 = .ok (.iadd, 1) := by decide +kernel
theorem dL_launchDay_46 : decode cL_launchDay 46 = .ok (.aload_n 1, 1) := by decide +kernel
theorem dL_launchDay_47 : decode cL_launchDay 47 = .ok (.invokestatic 23, 3) := by decide +kernel
theorem dL_launchDay_50 : decode cL_launchDay 50 = .ok (.aload_n 2, 1) := by decide +kernel
theorem dL_launchDay_51 : decode cL_launchDay 51 = .ok (.iload_n 0, 1) := by decide +kernel
theorem dL_launchDay_52 : decode cL_launchDay 52 = .ok (.iconst 2, 1) := by decide +kernel
theorem dL_launchDay_53 : decode cL_launchDay 53 = .ok (.invokestatic 9, 3) := by decide +kernel
theorem dL_launchDay_56 : decode cL_launchDay 56 = .ok (.if_icmp .lt 20, 3) := by decide +kernel
theorem dL_launchDay_59 : decode cL_launchDay 59 = .ok (.iload_n 3, 1) := by decide +kernel
theorem dL_launchDay_60 : decode cL_launchDay 60 = .ok (.ifCond .gt 10, 3) := by decide +kernel
theorem dL_launchDay_63 : decode cL_launchDay 63 = .ok (.aload_n 1, 1) := by decide +kernel
theorem dL_launchDay_64 : decode cL_launchDay 64 = .ok (.invokestatic 34, 3) := by decide +kernel
theorem dL_launchDay_67 : decode cL_launchDay 67 = .ok (.ifCond .le 9, 3) := by decide +kernel
theorem dL_launchDay_70 : decode cL_launchDay 70 = .ok (.aload_n 1, 1) := by decide +kernel
theorem dL_launchDay_71 : decode cL_launchDay 71 = .ok (.iconst 0, 1) := by decide +kernel
theorem dL_launchDay_72 : decode cL_launchDay 72 = .ok (.iaload, 1) := by decide +kernel
theorem dL_launchDay_73 : decode cL_launchDay 73 = .ok (.iload_n 3, 1) := by decide +kernel
theorem dL_launchDay_74 : decode cL_launchDay 74 = .ok (.iadd, 1) := by decide +kernel
theorem dL_launchDay_75 : decode cL_launchDay 75 = .ok (.ireturn, 1) := by decide +kernel
theorem dL_launchDay_76 : decode cL_launchDay 76 = .ok (.iinc 3 1, 3) := by decide +kernel
theorem dL_launchDay_79 : decode cL_launchDay 79 = .ok (.goto (-77), 3) := by decide +kernel
theorem dL_launchDay_82 : decode cL_launchDay 82 = .ok (.bipush (-5), 2) := by decide +kernel
theorem dL_launchDay_84 : decode cL_launchDay 84 = .ok (.ireturn, 1) := by decide +kernel
