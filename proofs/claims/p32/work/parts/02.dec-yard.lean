theorem dX2_init_0 : decode cX2_init 0 = .ok (.aload_n 0, 1) := by decide +kernel
theorem dX2_init_1 : decode cX2_init 1 = .ok (.invokespecial 3, 3) := by decide +kernel
theorem dX2_init_4 : decode cX2_init 4 = .ok (.aload_n 0, 1) := by decide +kernel
theorem dX2_init_5 : decode cX2_init 5 = .ok (.sipush 220, 3) := by decide +kernel
theorem dX2_init_8 : decode cX2_init 8 = .ok (.newarray .int, 2) := by decide +kernel
theorem dX2_init_10 : decode cX2_init 10 = .ok (.putfield 11, 3) := by decide +kernel
theorem dX2_init_13 : decode cX2_init 13 = .ok (.aload_n 0, 1) := by decide +kernel
theorem dX2_init_14 : decode cX2_init 14 = .ok (.iconst 3, 1) := by decide +kernel
theorem dX2_init_15 : decode cX2_init 15 = .ok (.newarray .int, 2) := by decide +kernel
theorem dX2_init_17 : decode cX2_init 17 = .ok (.dup, 1) := by decide +kernel
theorem dX2_init_18 : decode cX2_init 18 = .ok (.iconst 0, 1) := by decide +kernel
theorem dX2_init_19 : decode cX2_init 19 = .ok (.iconst 4, 1) := by decide +kernel
theorem dX2_init_20 : decode cX2_init 20 = .ok (.iastore, 1) := by decide +kernel
theorem dX2_init_21 : decode cX2_init 21 = .ok (.dup, 1) := by decide +kernel
theorem dX2_init_22 : decode cX2_init 22 = .ok (.iconst 1, 1) := by decide +kernel
theorem dX2_init_23 : decode cX2_init 23 = .ok (.iconst 4, 1) := by decide +kernel
theorem dX2_init_24 : decode cX2_init 24 = .ok (.iastore, 1) := by decide +kernel
theorem dX2_init_25 : decode cX2_init 25 = .ok (.dup, 1) := by decide +kernel
theorem dX2_init_26 : decode cX2_init 26 = .ok (.iconst 2, 1) := by decide +kernel
theorem dX2_init_27 : decode cX2_init 27 = .ok (.iconst 4, 1) := by decide +kernel
theorem dX2_init_28 : decode cX2_init 28 = .ok (.iastore, 1) := by decide +kernel
theorem dX2_init_29 : decode cX2_init 29 = .ok (.putfield 15, 3) := by decide +kernel
theorem dX2_init_32 : decode cX2_init 32 = .ok (.aload_n 0, 1) := by decide +kernel
theorem dX2_init_33 : decode cX2_init 33 = .ok (.iconst 4, 1) := by decide +kernel
theorem dX2_init_34 : decode cX2_init 34 = .ok (.newarray .int, 2) := by decide +kernel
theorem dX2_init_36 : decode cX2_init 36 = .ok (.dup, 1) := by decide +kernel
theorem dX2_init_37 : decode cX2_init 37 = .ok (.iconst 0, 1) := by decide +kernel
theorem dX2_init_38 : decode cX2_init 38 = .ok (.bipush 40, 2) := by decide +kernel
theorem dX2_init_40 : decode cX2_init 40 = .ok (.iastore, 1) := by decide +kernel
theorem dX2_init_41 : decode cX2_init 41 = .ok (.dup, 1) := by decide +kernel
theorem dX2_init_42 : decode cX2_init 42 = .ok (.iconst 1, 1) := by decide +kernel
theorem dX2_init_43 : decode cX2_init 43 = .ok (.bipush 40, 2) := by decide +kernel
theorem dX2_init_45 : decode cX2_init 45 = .ok (.iastore, 1) := by decide +kernel
theorem dX2_init_46 : decode cX2_init 46 = .ok (.dup, 1) := by decide +kernel
theorem dX2_init_47 : decode cX2_init 47 = .ok (.iconst 2, 1) := by decide +kernel
theorem dX2_init_48 : decode cX2_init 48 = .ok (.bipush 40, 2) := by decide +kernel
theorem dX2_init_50 : decode cX2_init 50 = .ok (.iastore, 1) := by decide +kernel
theorem dX2_init_51 : decode cX2_init 51 = .ok (.dup, 1) := by decide +kernel
theorem dX2_init_52 : decode cX2_init 52 = .ok (.iconst 3, 1) := by decide +kernel
theorem dX2_init_53 : decode cX2_init 53 = .ok (.bipush 40, 2) := by decide +kernel
theorem dX2_init_55 : decode cX2_init 55 = .ok (.iastore, 1) := by decide +kernel
theorem dX2_init_56 : decode cX2_init 56 = .ok (.putfield 18, 3) := by decide +kernel
theorem dX2_init_59 : decode cX2_init 59 = .ok (.aload_n 0, 1) := by decide +kernel
theorem dX2_init_60 : decode cX2_init 60 = .ok (.iconst 3, 1) := by decide +kernel
theorem dX2_init_61 : decode cX2_init 61 = .ok (.newarray .int, 2) := by decide +kernel
theorem dX2_init_63 : decode cX2_init 63 = .ok (.dup, 1) := by decide +kernel
theorem dX2_init_64 : decode cX2_init 64 = .ok (.iconst 0, 1) := by decide +kernel
theorem dX2_init_65 : decode cX2_init 65 = .ok (.iconst 3, 1) := by decide +kernel
theorem dX2_init_66 : decode cX2_init 66 = .ok (.iastore, 1) := by decide +kernel
theorem dX2_init_67 : decode cX2_init 67 = .ok (.dup, 1) := by decide +kernel
theorem dX2_init_68 : decode cX2_init 68 = .ok (.iconst 1, 1) := by decide +kernel
theorem dX2_init_69 : decode cX2_init 69 = .ok (.iconst 4, 1) := by decide +kernel
theorem dX2_init_70 : decode cX2_init 70 = .ok (.iastore, 1) := by decide +kernel
theorem dX2_init_71 : decode cX2_init 71 = .ok (.dup, 1) := by decide +kernel
theorem dX2_init_72 : decode cX2_init 72 = .ok (.iconst 2, 1) := by decide +kernel
theorem dX2_init_73 : decode cX2_init 73 = .ok (.bipush 20, 2) := by decide +kernel
theorem dX2_init_75 : decode cX2_init 75 = .ok (.iastore, 1) := by decide +kernel
theorem dX2_init_76 : decode cX2_init 76 = .ok (.putfield 21, 3) := by decide +kernel
theorem dX2_init_79 : decode cX2_init 79 = .ok (.aload_n 0, 1) := by decide +kernel
theorem dX2_init_80 : decode cX2_init 80 = .ok (.iconst 0, 1) := by decide +kernel
theorem dX2_init_81 : decode cX2_init 81 = .ok (.putfield 24, 3) := by decide +kernel
theorem dX2_init_84 : decode cX2_init 84 = .ok (.aload_n 0, 1) := by decide +kernel
theorem dX2_init_85 : decode cX2_init 85 = .ok (.iconst 0, 1) := by decide +kernel
theorem dX2_init_86 : decode cX2_init 86 = .ok (.putfield 28, 3) := by decide +kernel
theorem dX2_init_89 : decode cX2_init 89 = .ok (.aload_n 0, 1) := by decide +kernel
theorem dX2_init_90 : decode cX2_init 90 = .ok (.iconst 0, 1) := by decide +kernel
theorem dX2_init_91 : decode cX2_init 91 = .ok (.putfield 31, 3) := by decide +kernel
theorem dX2_init_94 : decode cX2_init 94 = .ok (.aload_n 0, 1) := by decide +kernel
theorem dX2_init_95 : decode cX2_init 95 = .ok (.iconst 0, 1) := by decide +kernel
theorem dX2_init_96 : decode cX2_init 96 = .ok (.putfield 34, 3) := by decide +kernel
theorem dX2_init_99 : decode cX2_init 99 = .ok (.iconst 0, 1) := by decide +kernel
theorem dX2_init_100 : decode cX2_init 100 = .ok (.istore_n 1, 1) := by decide +kernel
theorem dX2_init_101 : decode cX2_init 101 = .ok (.iload_n 1, 1) := by decide +kernel
theorem dX2_init_102 : decode cX2_init 102 = .ok (.bipush 20, 2) := by decide +kernel
theorem dX2_init_104 : decode cX2_init 104 = .ok (.if_icmp .ge 14, 3) := by decide +kernel
theorem dX2_init_107 : decode cX2_init 107 = .ok (.aload_n 0, 1) := by decide +kernel
theorem dX2_init_108 : decode cX2_init 108 = .ok (.iload_n 1, 1) := by decide +kernel
theorem dX2_init_109 : decode cX2_init 109 = .ok (.invokevirtual 37, 3) := by decide +kernel
theorem dX2_init_112 : decode cX2_init 112 = .ok (.iinc 1 1, 3) := by decide +kernel
theorem dX2_init_115 : decode cX2_init 115 = .ok (.goto (-14), 3) := by decide +kernel
theorem dX2_init_118 : decode cX2_init 118 = .ok (.return_, 1) := by decide +kernel
theorem dX2_copyFrom_0 : decode cX2_copyFrom 0 = .ok (.aload_n 1, 1) := by decide +kernel
theorem dX2_copyFrom_1 : decode cX2_copyFrom 1 = .ok (.getfield 11, 3) := by decide +kernel
theorem dX2_copyFrom_4 : decode cX2_copyFrom 4 = .ok (.iconst 0, 1) := by decide +kernel
theorem dX2_copyFrom_5 : decode cX2_copyFrom 5 = .ok (.aload_n 0, 1) := by decide +kernel
theorem dX2_copyFrom_6 : decode cX2_copyFrom 6 = .ok (.getfield 11, 3) := by decide +kernel
theorem dX2_copyFrom_9 : decode cX2_copyFrom 9 = .ok (.iconst 0, 1) := by decide +kernel
theorem dX2_copyFrom_10 : decode cX2_copyFrom 10 = .ok (.sipush 220, 3) := by decide +kernel
theorem dX2_copyFrom_13 : decode cX2_copyFrom 13 = .ok (.invokestatic 41, 3) := by decide +kernel
theorem dX2_copyFrom_16 : decode cX2_copyFrom 16 = .ok (.aload_n 1, 1) := by decide +kernel
theorem dX2_copyFrom_17 : decode cX2_copyFrom 17 = .ok (.getfield 15, 3) := by decide +kernel
theorem dX2_copyFrom_20 : decode cX2_copyFrom 20 = .ok (.iconst 0, 1) := by decide +kernel
theorem dX2_copyFrom_21 : decode cX2_copyFrom 21 = .ok (.aload_n 0, 1) := by decide +kernel
theorem dX2_copyFrom_22 : decode cX2_copyFrom 22 = .ok (.getfield 15, 3) := by decide +kernel
theorem dX2_copyFrom_25 : decode cX2_copyFrom 25 = .ok (.iconst 0, 1) := by decide +kernel
theorem dX2_copyFrom_26 : decode cX2_copyFrom 26 = .ok (.iconst 3, 1) := by decide +kernel
theorem dX2_copyFrom_27 : decode cX2_copyFrom 27 = .ok (.invokestatic 41, 3) := by decide +kernel
theorem dX2_copyFrom_30 : decode cX2_copyFrom 30 = .ok (.aload_n 1, 1) := by decide +kernel
theorem dX2_copyFrom_31 : decode cX2_copyFrom 31 = .ok (.getfield 18, 3) := by decide +kernel
theorem dX2_copyFrom_34 : decode cX2_copyFrom 34 = .ok (.iconst 0, 1) := by decide +kernel
theorem dX2_copyFrom_35 : decode cX2_copyFrom 35 = .ok (.aload_n 0, 1) := by decide +kernel
theorem dX2_copyFrom_36 : decode cX2_copyFrom 36 = .ok (.getfield 18, 3) := by decide +kernel
theorem dX2_copyFrom_39 : decode cX2_copyFrom 39 = .ok (.iconst 0, 1) := by decide +kernel
theorem dX2_copyFrom_40 : decode cX2_copyFrom 40 = .ok (.iconst 4, 1) := by decide +kernel
theorem dX2_copyFrom_41 : decode cX2_copyFrom 41 = .ok (.invokestatic 41, 3) := by decide +kernel
theorem dX2_copyFrom_44 : decode cX2_copyFrom 44 = .ok (.aload_n 1, 1) := by decide +kernel
theorem dX2_copyFrom_45 : decode cX2_copyFrom 45 = .ok (.getfield 21, 3) := by decide +kernel
theorem dX2_copyFrom_48 : decode cX2_copyFrom 48 = .ok (.iconst 0, 1) := by decide +kernel
theorem dX2_copyFrom_49 : decode cX2_copyFrom 49 = .ok (.aload_n 0, 1) := by decide +kernel
theorem dX2_copyFrom_50 : decode cX2_copyFrom 50 = .ok (.getfield 21, 3) := by decide +kernel
theorem dX2_copyFrom_53 : decode cX2_copyFrom 53 = .ok (.iconst 0, 1) := by decide +kernel
theorem dX2_copyFrom_54 : decode cX2_copyFrom 54 = .ok (.iconst 3, 1) := by decide +kernel
theorem dX2_copyFrom_55 : decode cX2_copyFrom 55 = .ok (.invokestatic 41, 3) := by decide +kernel
theorem dX2_copyFrom_58 : decode cX2_copyFrom 58 = .ok (.aload_n 0, 1) := by decide +kernel
theorem dX2_copyFrom_59 : decode cX2_copyFrom 59 = .ok (.aload_n 1, 1) := by decide +kernel
theorem dX2_copyFrom_60 : decode cX2_copyFrom 60 = .ok (.getfield 24, 3) := by decide +kernel
theorem dX2_copyFrom_63 : decode cX2_copyFrom 63 = .ok (.putfield 24, 3) := by decide +kernel
theorem dX2_copyFrom_66 : decode cX2_copyFrom 66 = .ok (.aload_n 0, 1) := by decide +kernel
theorem dX2_copyFrom_67 : decode cX2_copyFrom 67 = .ok (.aload_n 1, 1) := by decide +kernel
theorem dX2_copyFrom_68 : decode cX2_copyFrom 68 = .ok (.getfield 28, 3) := by decide +kernel
theorem dX2_copyFrom_71 : decode cX2_copyFrom 71 = .ok (.putfield 28, 3) := by decide +kernel
theorem dX2_copyFrom_74 : decode cX2_copyFrom 74 = .ok (.aload_n 0, 1) := by decide +kernel
theorem dX2_copyFrom_75 : decode cX2_copyFrom 75 = .ok (.aload_n 1, 1) := by decide +kernel
theorem dX2_copyFrom_76 : decode cX2_copyFrom 76 = .ok (.getfield 31, 3) := by decide +kernel
theorem dX2_copyFrom_79 : decode cX2_copyFrom 79 = .ok (.putfield 31, 3) := by decide +kernel
theorem dX2_copyFrom_82 : decode cX2_copyFrom 82 = .ok (.aload_n 0, 1) := by decide +kernel
theorem dX2_copyFrom_83 : decode cX2_copyFrom 83 = .ok (.aload_n 1, 1) := by decide +kernel
theorem dX2_copyFrom_84 : decode cX2_copyFrom 84 = .ok (.getfield 34, 3) := by decide +kernel
theorem dX2_copyFrom_87 : decode cX2_copyFrom 87 = .ok (.putfield 34, 3) := by decide +kernel
theorem dX2_copyFrom_90 : decode cX2_copyFrom 90 = .ok (.return_, 1) := by decide +kernel
theorem dX2_isFact_0 : decode cX2_isFact 0 = .ok (.iload_n 0, 1) := by decide +kernel
theorem dX2_isFact_1 : decode cX2_isFact 1 = .ok (.ifCond .lt 13, 3) := by decide +kernel
theorem dX2_isFact_4 : decode cX2_isFact 4 = .ok (.iload_n 0, 1) := by decide +kernel
theorem dX2_isFact_5 : decode cX2_isFact 5 = .ok (.bipush 11, 2) := by decide +kernel
theorem dX2_isFact_7 : decode cX2_isFact 7 = .ok (.if_icmp .ge 7, 3) := by decide +kernel
theorem dX2_isFact_10 : decode cX2_isFact 10 = .ok (.iconst 1, 1) := by decide +kernel
theorem dX2_isFact_11 : decode cX2_isFact 11 = .ok (.goto 4, 3) := by decide +kernel
theorem dX2_isFact_14 : decode cX2_isFact 14 = .ok (.iconst 0, 1) := by decide +kernel
theorem dX2_isFact_15 : decode cX2_isFact 15 = .ok (.ireturn, 1) := by decide +kernel
theorem dX2_isRow_0 : decode cX2_isRow 0 = .ok (.iload_n 0, 1) := by decide +kernel
theorem dX2_isRow_1 : decode cX2_isRow 1 = .ok (.ifCond .lt 12, 3) := by decide +kernel
theorem dX2_isRow_4 : decode cX2_isRow 4 = .ok (.iload_n 0, 1) := by decide +kernel
theorem dX2_isRow_5 : decode cX2_isRow 5 = .ok (.iconst 4, 1) := by decide +kernel
theorem dX2_isRow_6 : decode cX2_isRow 6 = .ok (.if_icmp .ge 7, 3) := by decide +kernel
theorem dX2_isRow_9 : decode cX2_isRow 9 = .ok (.iconst 1, 1) := by decide +kernel
theorem dX2_isRow_10 : decode cX2_isRow 10 = .ok (.goto 4, 3) := by decide +kernel
theorem dX2_isRow_13 : decode cX2_isRow 13 = .ok (.iconst 0, 1) := by decide +kernel
theorem dX2_isRow_14 : decode cX2_isRow 14 = .ok (.ireturn, 1) := by decide +kernel
theorem dX2_isKind_0 : decode cX2_isKind 0 = .ok (.iload_n 0, 1) := by decide +kernel
theorem dX2_isKind_1 : decode cX2_isKind 1 = .ok (.ifCond .lt 12, 3) := by decide +kernel
theorem dX2_isKind_4 : decode cX2_isKind 4 = .ok (.iload_n 0, 1) := by decide +kernel
theorem dX2_isKind_5 : decode cX2_isKind 5 = .ok (.iconst 3, 1) := by decide +kernel
theorem dX2_isKind_6 : decode cX2_isKind 6 = .ok (.if_icmp .ge 7, 3) := by decide +kernel
theorem dX2_isKind_9 : decode cX2_isKind 9 = .ok (.iconst 1, 1) := by decide +kernel
theorem dX2_isKind_10 : decode cX2_isKind 10 = .ok (.goto 4, 3) := by decide +kernel
theorem dX2_isKind_13 : decode cX2_isKind 13 = .ok (.iconst 0, 1) := by decide +kernel
theorem dX2_isKind_14 : decode cX2_isKind 14 = .ok (.ireturn, 1) := by decide +kernel
theorem dX2_isSetting_0 : decode cX2_isSetting 0 = .ok (.iload_n 0, 1) := by decide +kernel
theorem dX2_isSetting_1 : decode cX2_isSetting 1 = .ok (.ifCond .lt 12, 3) := by decide +kernel
theorem dX2_isSetting_4 : decode cX2_isSetting 4 = .ok (.iload_n 0, 1) := by decide +kernel
theorem dX2_isSetting_5 : decode cX2_isSetting 5 = .ok (.iconst 3, 1) := by decide +kernel
theorem dX2_isSetting_6 : decode cX2_isSetting 6 = .ok (.if_icmp .ge 7, 3) := by decide +kernel
theorem dX2_isSetting_9 : decode cX2_isSetting 9 = .ok (.iconst 1, 1) := by decide +kernel
theorem dX2_isSetting_10 : decode cX2_isSetting 10 = .ok (.goto 4, 3) := by decide +kernel
theorem dX2_isSetting_13 : decode cX2_isSetting 13 = .ok (.iconst 0, 1) := by decide +kernel
theorem dX2_isSetting_14 : decode cX2_isSetting 14 = .ok (.ireturn, 1) := by decide +kernel
theorem dX2_knows_0 : decode cX2_knows 0 = .ok (.aload_n 0, 1) := by decide +kernel
theorem dX2_knows_1 : decode cX2_knows 1 = .ok (.iload_n 1, 1) := by decide +kernel
theorem dX2_knows_2 : decode cX2_knows 2 = .ok (.iconst 0, 1) := by decide +kernel
theorem dX2_knows_3 : decode cX2_knows 3 = .ok (.invokevirtual 47, 3) := by decide +kernel
theorem dX2_knows_6 : decode cX2_knows 6 = .ok (.bipush (-5), 2) := by decide +kernel
theorem dX2_knows_8 : decode cX2_knows 8 = .ok (.if_icmp .eq 7, 3) := by decide +kernel
theorem dX2_knows_11 : decode cX2_knows 11 = .ok (.iconst 1, 1) := by decide +kernel
theorem dX2_knows_12 : decode cX2_knows 12 = .ok (.goto 4, 3) := by decide +kernel
theorem dX2_knows_15 : decode cX2_knows 15 = .ok (.iconst 0, 1) := by decide +kernel
theorem dX2_knows_16 : decode cX2_knows 16 = .ok (.ireturn, 1) := by decide +kernel
theorem dX2_hasPlaceFor_0 : decode cX2_hasPlaceFor 0 = .ok (.iload_n 0, 1) := by decide +kernel
theorem dX2_hasPlaceFor_1 : decode cX2_hasPlaceFor 1 = .ok (.ifCond .lt 20, 3) := by decide +kernel
theorem dX2_hasPlaceFor_4 : decode cX2_hasPlaceFor 4 = .ok (.iload_n 0, 1) := by decide +kernel
theorem dX2_hasPlaceFor_5 : decode cX2_hasPlaceFor 5 = .ok (.bipush 20, 2) := by decide +kernel
theorem dX2_hasPlaceFor_7 : decode cX2_hasPlaceFor 7 = .ok (.if_icmp .ge 14, 3) := by decide +kernel
theorem dX2_hasPlaceFor_10 : decode cX2_hasPlaceFor 10 = .ok (.iload_n 1, 1) := by decide +kernel
theorem dX2_hasPlaceFor_11 : decode cX2_hasPlaceFor 11 = .ok (.invokestatic 51, 3) := by decide +kernel
theorem dX2_hasPlaceFor_14 : decode cX2_hasPlaceFor 14 = .ok (.ifCond .eq 7, 3) := by decide +kernel
theorem dX2_hasPlaceFor_17 : decode cX2_hasPlaceFor 17 = .ok (.iconst 1, 1) := by decide +kernel
theorem dX2_hasPlaceFor_18 : decode cX2_hasPlaceFor 18 = .ok (.goto 4, 3) := by decide +kernel
theorem dX2_hasPlaceFor_21 : decode cX2_hasPlaceFor 21 = .ok (.iconst 0, 1) := by decide +kernel
theorem dX2_hasPlaceFor_22 : decode cX2_hasPlaceFor 22 = .ok (.ireturn, 1) := by decide +kernel
theorem dX2_fact_0 : decode cX2_fact 0 = .ok (.iload_n 1, 1) := by decide +kernel
theorem dX2_fact_1 : decode cX2_fact 1 = .ok (.iload_n 2, 1) := by decide +kernel
theorem dX2_fact_2 : decode cX2_fact 2 = .ok (.invokestatic 55, 3) := by decide +kernel
theorem dX2_fact_5 : decode cX2_fact 5 = .ok (.ifCond .eq 17, 3) := by decide +kernel
theorem dX2_fact_8 : decode cX2_fact 8 = .ok (.aload_n 0, 1) := by decide +kernel
theorem dX2_fact_9 : decode cX2_fact 9 = .ok (.getfield 11, 3) := by decide +kernel
theorem dX2_fact_12 : decode cX2_fact 12 = .ok (.iload_n 1, 1) := by decide +kernel
theorem dX2_fact_13 : decode cX2_fact 13 = .ok (.bipush 11, 2) := by decide +kernel
theorem dX2_fact_15 : decode cX2_fact 15 = .ok (.imul, 1) := by decide +kernel
theorem dX2_fact_16 : decode cX2_fact 16 = .ok (.iload_n 2, 1) := by decide +kernel
theorem dX2_fact_17 : decode cX2_fact 17 = .ok (.iadd, 1) := by decide +kernel
theorem dX2_fact_18 : decode cX2_fact 18 = .ok (.iaload, 1) := by decide +kernel
theorem dX2_fact_19 : decode cX2_fact 19 = .ok (.goto 5, 3) := by decide +kernel
theorem dX2_fact_22 : decode cX2_fact 22 = .ok (.bipush (-5), 2) := by decide +kernel
theorem dX2_fact_24 : decode cX2_fact 24 = .ok (.ireturn, 1) := by decide +kernel
theorem dX2_note_0 : decode cX2_note 0 = .ok (.iload_n 1, 1) := by decide +kernel
theorem dX2_note_1 : decode cX2_note 1 = .ok (.iload_n 2, 1) := by decide +kernel
theorem dX2_note_2 : decode cX2_note 2 = .ok (.invokestatic 55, 3) := by decide +kernel
theorem dX2_note_5 : decode cX2_note 5 = .ok (.ifCond .eq 15, 3) := by decide +kernel
theorem dX2_note_8 : decode cX2_note 8 = .ok (.aload_n 0, 1) := by decide +kernel
theorem dX2_note_9 : decode cX2_note 9 = .ok (.getfield 11, 3) := by decide +kernel
theorem dX2_note_12 : decode cX2_note 12 = .ok (.iload_n 1, 1) := by decide +kernel
theorem dX2_note_13 : decode cX2_note 13 = .ok (.bipush 11, 2) := by decide +kernel
theorem dX2_note_15 : decode cX2_note 15 = .ok (.imul, 1) := by decide +kernel
theorem dX2_note_16 : decode cX2_note 16 = .ok (.iload_n 2, 1) := by decide +kernel
theorem dX2_note_17 : decode cX2_note 17 = .ok (.iadd, 1) := by decide +kernel
theorem dX2_note_18 : decode cX2_note 18 = .ok (.iload_n 3, 1) := by decide +kernel
theorem dX2_note_19 : decode cX2_note 19 = .ok (.iastore, 1) := by decide +kernel
theorem dX2_note_20 : decode cX2_note 20 = .ok (.return_, 1) := by decide +kernel
theorem dX2_forget_0 : decode cX2_forget 0 = .ok (.iconst 0, 1) := by decide +kernel
theorem dX2_forget_1 : decode cX2_forget 1 = .ok (.istore_n 2, 1) := by decide +kernel
theorem dX2_forget_2 : decode cX2_forget 2 = .ok (.iload_n 2, 1) := by decide +kernel
theorem dX2_forget_3 : decode cX2_forget 3 = .ok (.bipush 11, 2) := by decide +kernel
theorem dX2_forget_5 : decode cX2_forget 5 = .ok (.if_icmp .ge 17, 3) := by decide +kernel
theorem dX2_forget_8 : decode cX2_forget 8 = .ok (.aload_n 0, 1) := by decide +kernel
theorem dX2_forget_9 : decode cX2_forget 9 = .ok (.iload_n 1, 1) := by decide +kernel
theorem dX2_forget_10 : decode cX2_forget 10 = .ok (.iload_n 2, 1) := by decide +kernel
theorem dX2_forget_11 : decode cX2_forget 11 = .ok (.bipush (-5), 2) := by decide +kernel
theorem dX2_forget_13 : decode cX2_forget 13 = .ok (.invokevirtual 59, 3) := by decide +kernel
theorem dX2_forget_16 : decode cX2_forget 16 = .ok (.iinc 2 1, 3) := by decide +kernel
theorem dX2_forget_19 : decode cX2_forget 19 = .ok (.goto (-17), 3) := by decide +kernel
theorem dX2_forget_22 : decode cX2_forget 22 = .ok (.return_, 1) := by decide +kernel
theorem dX2_boatsWith_0 : decode cX2_boatsWith 0 = .ok (.iconst 0, 1) := by decide +kernel
theorem dX2_boatsWith_1 : decode cX2_boatsWith 1 = .ok (.istore_n 3, 1) := by decide +kernel
theorem dX2_boatsWith_2 : decode cX2_boatsWith 2 = .ok (.iconst 0, 1) := by decide +kernel
theorem dX2_boatsWith_3 : decode cX2_boatsWith 3 = .ok (.istore 4, 2) := by decide +kernel
theorem dX2_boatsWith_5 : decode cX2_boatsWith 5 = .ok (.iload 4, 2) := by decide +kernel
theorem dX2_boatsWith_7 : decode cX2_boatsWith 7 = .ok (.bipush 11, 2) := by decide +kernel
theorem dX2_boatsWith_9 : decode cX2_boatsWith 9 = .ok (.iadd, 1) := by decide +kernel
theorem dX2_boatsWith_10 : decode cX2_boatsWith 10 = .ok (.aload_n 0, 1) := by decide +kernel
theorem dX2_boatsWith_11 : decode cX2_boatsWith 11 = .ok (.getfield 11, 3) := by decide +kernel
theorem dX2_boatsWith_14 : decode cX2_boatsWith 14 = .ok (.arraylength, 1) := by decide +kernel
theorem dX2_boatsWith_15 : decode cX2_boatsWith 15 = .ok (.if_icmp .gt 32, 3) := by decide +kernel
theorem dX2_boatsWith_18 : decode cX2_boatsWith 18 = .ok (.iload_n 1, 1) := by decide +kernel
theorem dX2_boatsWith_19 : decode cX2_boatsWith 19 = .ok (.invokestatic 51, 3) := by decide +kernel
theorem dX2_boatsWith_22 : decode cX2_boatsWith 22 = .ok (.ifCond .eq 19, 3) := by decide +kernel
theorem dX2_boatsWith_25 : decode cX2_boatsWith 25 = .ok (.aload_n 0, 1) := by decide +kernel
theorem dX2_boatsWith_26 : decode cX2_boatsWith 26 = .ok (.getfield 11, 3) := by decide +kernel
theorem dX2_boatsWith_29 : decode cX2_boatsWith 29 = .ok (.iload 4, 2) := by decide +kernel
theorem dX2_boatsWith_31 : decode cX2_boatsWith 31 = .ok (.iload_n 1, 1) := by decide +kernel
theorem dX2_boatsWith_32 : decode cX2_boatsWith 32 = .ok (.iadd, 1) := by decide +kernel
theorem dX2_boatsWith_33 : decode cX2_boatsWith 33 = .ok (.iaload, 1) := by decide +kernel
theorem dX2_boatsWith_34 : decode cX2_boatsWith 34 = .ok (.iload_n 2, 1) := by decide +kernel
theorem dX2_boatsWith_35 : decode cX2_boatsWith 35 = .ok (.if_icmp .ne 6, 3) := by decide +kernel
theorem dX2_boatsWith_38 : decode cX2_boatsWith 38 = .ok (.iinc 3 1, 3) := by decide +kernel
theorem dX2_boatsWith_41 : decode cX2_boatsWith 41 = .ok (.iinc 4 11, 3) := by decide +kernel
theorem dX2_boatsWith_44 : decode cX2_boatsWith 44 = .ok (.goto (-39), 3) := by decide +kernel
theorem dX2_boatsWith_47 : decode cX2_boatsWith 47 = .ok (.iload_n 3, 1) := by decide +kernel
theorem dX2_boatsWith_48 : decode cX2_boatsWith 48 = .ok (.ireturn, 1) := by decide +kernel
theorem dX2_addBoat_0 : decode cX2_addBoat 0 = .ok (.iload 4, 2) := by decide +kernel
theorem dX2_addBoat_2 : decode cX2_addBoat 2 = .ok (.invokestatic 63, 3) := by decide +kernel
theorem dX2_addBoat_5 : decode cX2_addBoat 5 = .ok (.ifCond .ne 5, 3) := by decide +kernel
theorem dX2_addBoat_8 : decode cX2_addBoat 8 = .ok (.iconst (-1), 1) := by decide +kernel
theorem dX2_addBoat_9 : decode cX2_addBoat 9 = .ok (.ireturn, 1) := by decide +kernel
theorem dX2_addBoat_10 : decode cX2_addBoat 10 = .ok (.iload_n 1, 1) := by decide +kernel
theorem dX2_addBoat_11 : decode cX2_addBoat 11 = .ok (.iconst 3, 1) := by decide +kernel
theorem dX2_addBoat_12 : decode cX2_addBoat 12 = .ok (.bipush 20, 2) := by decide +kernel
theorem dX2_addBoat_14 : decode cX2_addBoat 14 = .ok (.invokestatic 66, 3) := by decide +kernel
theorem dX2_addBoat_17 : decode cX2_addBoat 17 = .ok (.ifCond .eq 23, 3) := by decide +kernel
theorem dX2_addBoat_20 : decode cX2_addBoat 20 = .ok (.iload_n 2, 1) := by decide +kernel
theorem dX2_addBoat_21 : decode cX2_addBoat 21 = .ok (.iconst 5, 1) := by decide +kernel
theorem dX2_addBoat_22 : decode cX2_addBoat 22 = .ok (.bipush 40, 2) := by decide +kernel
theorem dX2_addBoat_24 : decode cX2_addBoat 24 = .ok (.invokestatic 66, 3) := by decide +kernel
theorem dX2_addBoat_27 : decode cX2_addBoat 27 = .ok (.ifCond .eq 13, 3) := by decide +kernel
theorem dX2_addBoat_30 : decode cX2_addBoat 30 = .ok (.iload_n 3, 1) := by decide +kernel
theorem dX2_addBoat_31 : decode cX2_addBoat 31 = .ok (.iconst 1, 1) := by decide +kernel
theorem dX2_addBoat_32 : decode cX2_addBoat 32 = .ok (.bipush 30, 2) := by decide +kernel
theorem dX2_addBoat_34 : decode cX2_addBoat 34 = .ok (.invokestatic 66, 3) := by decide +kernel
theorem dX2_addBoat_37 : decode cX2_addBoat 37 = .ok (.ifCond .ne 6, 3) := by decide +kernel
theorem dX2_addBoat_40 : decode cX2_addBoat 40 = .ok (.bipush (-2), 2) := by decide +kernel
theorem dX2_addBoat_42 : decode cX2_addBoat 42 = .ok (.ireturn, 1) := by decide +kernel
theorem dX2_addBoat_43 : decode cX2_addBoat 43 = .ok (.aload_n 0, 1) := by decide +kernel
theorem dX2_addBoat_44 : decode cX2_addBoat 44 = .ok (.invokevirtual 70, 3) := by decide +kernel
theorem dX2_addBoat_47 : decode cX2_addBoat 47 = .ok (.istore 5, 2) := by decide +kernel
theorem dX2_addBoat_49 : decode cX2_addBoat 49 = .ok (.iload 5, 2) := by decide +kernel
theorem dX2_addBoat_51 : decode cX2_addBoat 51 = .ok (.bipush (-5), 2) := by decide +kernel
theorem dX2_addBoat_53 : decode cX2_addBoat 53 = .ok (.if_icmp .ne 6, 3) := by decide +kernel
theorem dX2_addBoat_56 : decode cX2_addBoat 56 = .ok (.bipush (-3), 2) := by decide +kernel
theorem dX2_addBoat_58 : decode cX2_addBoat 58 = .ok (.ireturn, 1) := by decide +kernel
theorem dX2_addBoat_59 : decode cX2_addBoat 59 = .ok (.aload_n 0, 1) := by decide +kernel
theorem dX2_addBoat_60 : decode cX2_addBoat 60 = .ok (.iload 5, 2) := by decide +kernel
theorem dX2_addBoat_62 : decode cX2_addBoat 62 = .ok (.iconst 0, 1) := by decide +kernel
theorem dX2_addBoat_63 : decode cX2_addBoat 63 = .ok (.iload_n 1, 1) := by decide +kernel
theorem dX2_addBoat_64 : decode cX2_addBoat 64 = .ok (.invokevirtual 59, 3) := by decide +kernel
theorem dX2_addBoat_67 : decode cX2_addBoat 67 = .ok (.aload_n 0, 1) := by decide +kernel
theorem dX2_addBoat_68 : decode cX2_addBoat 68 = .ok (.iload 5, 2) := by decide +kernel
theorem dX2_addBoat_70 : decode cX2_addBoat 70 = .ok (.iconst 1, 1) := by decide +kernel
theorem dX2_addBoat_71 : decode cX2_addBoat 71 = .ok (.iload_n 2, 1) := by decide +kernel
theorem dX2_addBoat_72 : decode cX2_addBoat 72 = .ok (.invokevirtual 59, 3) := by decide +kernel
theorem dX2_addBoat_75 : decode cX2_addBoat 75 = .ok (.aload_n 0, 1) := by decide +kernel
theorem dX2_addBoat_76 : decode cX2_addBoat 76 = .ok (.iload 5, 2) := by decide +kernel
theorem dX2_addBoat_78 : decode cX2_addBoat 78 = .ok (.iconst 2, 1) := by decide +kernel
theorem dX2_addBoat_79 : decode cX2_addBoat 79 = .ok (.iload_n 3, 1) := by decide +kernel
theorem dX2_addBoat_80 : decode cX2_addBoat 80 = .ok (.invokevirtual 59, 3) := by decide +kernel
theorem dX2_addBoat_83 : decode cX2_addBoat 83 = .ok (.aload_n 0, 1) := by decide +kernel
theorem dX2_addBoat_84 : decode cX2_addBoat 84 = .ok (.iload 5, 2) := by decide +kernel
theorem dX2_addBoat_86 : decode cX2_addBoat 86 = .ok (.iconst 3, 1) := by decide +kernel
theorem dX2_addBoat_87 : decode cX2_addBoat 87 = .ok (.iload 4, 2) := by decide +kernel
theorem dX2_addBoat_89 : decode cX2_addBoat 89 = .ok (.invokevirtual 59, 3) := by decide +kernel
theorem dX2_addBoat_92 : decode cX2_addBoat 92 = .ok (.aload_n 0, 1) := by decide +kernel
theorem dX2_addBoat_93 : decode cX2_addBoat 93 = .ok (.iload 5, 2) := by decide +kernel
theorem dX2_addBoat_95 : decode cX2_addBoat 95 = .ok (.bipush 7, 2) := by decide +kernel
theorem dX2_addBoat_97 : decode cX2_addBoat 97 = .ok (.bipush (-5), 2) := by decide +kernel
theorem dX2_addBoat_99 : decode cX2_addBoat 99 = .ok (.invokevirtual 59, 3) := by decide +kernel
theorem dX2_addBoat_102 : decode cX2_addBoat 102 = .ok (.aload_n 0, 1) := by decide +kernel
theorem dX2_addBoat_103 : decode cX2_addBoat 103 = .ok (.iload 5, 2) := by decide +kernel
theorem dX2_addBoat_105 : decode cX2_addBoat 105 = .ok (.bipush 8, 2) := by decide +kernel
theorem dX2_addBoat_107 : decode cX2_addBoat 107 = .ok (.iconst 0, 1) := by decide +kernel
theorem dX2_addBoat_108 : decode cX2_addBoat 108 = .ok (.invokevirtual 59, 3) := by decide +kernel
theorem dX2_addBoat_111 : decode cX2_addBoat 111 = .ok (.aload_n 0, 1) := by decide +kernel
theorem dX2_addBoat_112 : decode cX2_addBoat 112 = .ok (.iload 5, 2) := by decide +kernel
theorem dX2_addBoat_114 : decode cX2_addBoat 114 = .ok (.bipush 10, 2) := by decide +kernel
theorem dX2_addBoat_116 : decode cX2_addBoat 116 = .ok (.iconst 0, 1) := by decide +kernel
theorem dX2_addBoat_117 : decode cX2_addBoat 117 = .ok (.invokevirtual 59, 3) := by decide +kernel
theorem dX2_addBoat_120 : decode cX2_addBoat 120 = .ok (.aload_n 0, 1) := by decide +kernel
theorem dX2_addBoat_121 : decode cX2_addBoat 121 = .ok (.iload 5, 2) := by decide +kernel
theorem dX2_addBoat_123 : decode cX2_addBoat 123 = .ok (.invokevirtual 74, 3) := by decide +kernel
theorem dX2_addBoat_126 : decode cX2_addBoat 126 = .ok (.iload 5, 2) := by decide +kernel
theorem dX2_addBoat_128 : decode cX2_addBoat 128 = .ok (.ireturn, 1) := by decide +kernel
theorem dX2_lowestFreeNumber_0 : decode cX2_lowestFreeNumber 0 = .ok (.iconst 0, 1) := by decide +kernel
theorem dX2_lowestFreeNumber_1 : decode cX2_lowestFreeNumber 1 = .ok (.istore_n 1, 1) := by decide +kernel
theorem dX2_lowestFreeNumber_2 : decode cX2_lowestFreeNumber 2 = .ok (.iload_n 1, 1) := by decide +kernel
theorem dX2_lowestFreeNumber_3 : decode cX2_lowestFreeNumber 3 = .ok (.bipush 20, 2) := by decide +kernel
theorem dX2_lowestFreeNumber_5 : decode cX2_lowestFreeNumber 5 = .ok (.if_icmp .ge 19, 3) := by decide +kernel
theorem dX2_lowestFreeNumber_8 : decode cX2_lowestFreeNumber 8 = .ok (.aload_n 0, 1) := by decide +kernel
theorem dX2_lowestFreeNumber_9 : decode cX2_lowestFreeNumber 9 = .ok (.iload_n 1, 1) := by decide +kernel
theorem dX2_lowestFreeNumber_10 : decode cX2_lowestFreeNumber 10 = .ok (.invokevirtual 77, 3) := by decide +kernel
theorem dX2_lowestFreeNumber_13 : decode cX2_lowestFreeNumber 13 = .ok (.ifCond .ne 5, 3) := by decide +kernel
theorem dX2_lowestFreeNumber_16 : decode cX2_lowestFreeNumber 16 = .ok (.iload_n 1, 1) := by decide +kernel
theorem dX2_lowestFreeNumber_17 : decode cX2_lowestFreeNumber 17 = .ok (.ireturn, 1) := by decide +kernel
theorem dX2_lowestFreeNumber_18 : decode cX2_lowestFreeNumber 18 = .ok (.iinc 1 1, 3) := by decide +kernel
theorem dX2_lowestFreeNumber_21 : decode cX2_lowestFreeNumber 21 = .ok (.goto (-19), 3) := by decide +kernel
theorem dX2_lowestFreeNumber_24 : decode cX2_lowestFreeNumber 24 = .ok (.bipush (-5), 2) := by decide +kernel
theorem dX2_lowestFreeNumber_26 : decode cX2_lowestFreeNumber 26 = .ok (.ireturn, 1) := by decide +kernel
theorem dX2_noteAfloat_0 : decode cX2_noteAfloat 0 = .ok (.aload_n 0, 1) := by decide +kernel
theorem dX2_noteAfloat_1 : decode cX2_noteAfloat 1 = .ok (.iload_n 1, 1) := by decide +kernel
theorem dX2_noteAfloat_2 : decode cX2_noteAfloat 2 = .ok (.iconst 4, 1) := by decide +kernel
theorem dX2_noteAfloat_3 : decode cX2_noteAfloat 3 = .ok (.bipush (-5), 2) := by decide +kernel
theorem dX2_noteAfloat_5 : decode cX2_noteAfloat 5 = .ok (.invokevirtual 59, 3) := by decide +kernel
theorem dX2_noteAfloat_8 : decode cX2_noteAfloat 8 = .ok (.aload_n 0, 1) := by decide +kernel
theorem dX2_noteAfloat_9 : decode cX2_noteAfloat 9 = .ok (.iload_n 1, 1) := by decide +kernel
theorem dX2_noteAfloat_10 : decode cX2_noteAfloat 10 = .ok (.iconst 5, 1) := by decide +kernel
theorem dX2_noteAfloat_11 : decode cX2_noteAfloat 11 = .ok (.bipush (-5), 2) := by decide +kernel
theorem dX2_noteAfloat_13 : decode cX2_noteAfloat 13 = .ok (.invokevirtual 59, 3) := by decide +kernel
theorem dX2_noteAfloat_16 : decode cX2_noteAfloat 16 = .ok (.aload_n 0, 1) := by decide +kernel
theorem dX2_noteAfloat_17 : decode cX2_noteAfloat 17 = .ok (.iload_n 1, 1) := by decide +kernel
theorem dX2_noteAfloat_18 : decode cX2_noteAfloat 18 = .ok (.bipush 6, 2) := by decide +kernel
theorem dX2_noteAfloat_20 : decode cX2_noteAfloat 20 = .ok (.bipush (-5), 2) := by decide +kernel
theorem dX2_noteAfloat_22 : decode cX2_noteAfloat 22 = .ok (.invokevirtual 59, 3) := by decide +kernel
theorem dX2_noteAfloat_25 : decode cX2_noteAfloat 25 = .ok (.aload_n 0, 1) := by decide +kernel
theorem dX2_noteAfloat_26 : decode cX2_noteAfloat 26 = .ok (.iload_n 1, 1) := by decide +kernel
theorem dX2_noteAfloat_27 : decode cX2_noteAfloat 27 = .ok (.bipush 9, 2) := by decide +kernel
theorem dX2_noteAfloat_29 : decode cX2_noteAfloat 29 = .ok (.iconst 0, 1) := by decide +kernel
theorem dX2_noteAfloat_30 : decode cX2_noteAfloat 30 = .ok (.invokevirtual 59, 3) := by decide +kernel
theorem dX2_noteAfloat_33 : decode cX2_noteAfloat 33 = .ok (.return_, 1) := by decide +kernel
theorem dX2_removeBoat_0 : decode cX2_removeBoat 0 = .ok (.aload_n 0, 1) := by decide +kernel
theorem dX2_removeBoat_1 : decode cX2_removeBoat 1 = .ok (.iload_n 1, 1) := by decide +kernel
theorem dX2_removeBoat_2 : decode cX2_removeBoat 2 = .ok (.invokevirtual 77, 3) := by decide +kernel
theorem dX2_removeBoat_5 : decode cX2_removeBoat 5 = .ok (.ifCond .ne 5, 3) := by decide +kernel
theorem dX2_removeBoat_8 : decode cX2_removeBoat 8 = .ok (.iconst (-1), 1) := by decide +kernel
theorem dX2_removeBoat_9 : decode cX2_removeBoat 9 = .ok (.ireturn, 1) := by decide +kernel
theorem dX2_removeBoat_10 : decode cX2_removeBoat 10 = .ok (.aload_n 0, 1) := by decide +kernel
theorem dX2_removeBoat_11 : decode cX2_removeBoat 11 = .ok (.iload_n 1, 1) := by decide +kernel
theorem dX2_removeBoat_12 : decode cX2_removeBoat 12 = .ok (.invokevirtual 80, 3) := by decide +kernel
theorem dX2_removeBoat_15 : decode cX2_removeBoat 15 = .ok (.ifCond .ne 11, 3) := by decide +kernel
theorem dX2_removeBoat_18 : decode cX2_removeBoat 18 = .ok (.aload_n 0, 1) := by decide +kernel
theorem dX2_removeBoat_19 : decode cX2_removeBoat 19 = .ok (.iload_n 1, 1) := by decide +kernel
theorem dX2_removeBoat_20 : decode cX2_removeBoat 20 = .ok (.invokevirtual 83, 3) := by decide +kernel
theorem dX2_removeBoat_23 : decode cX2_removeBoat 23 = .ok (.ifCond .ne 6, 3) := by decide +kernel
theorem dX2_removeBoat_26 : decode cX2_removeBoat 26 = .ok (.bipush (-4), 2) := by decide +kernel
theorem dX2_removeBoat_28 : decode cX2_removeBoat 28 = .ok (.ireturn, 1) := by decide +kernel
theorem dX2_removeBoat_29 : decode cX2_removeBoat 29 = .ok (.aload_n 0, 1) := by decide +kernel
theorem dX2_removeBoat_30 : decode cX2_removeBoat 30 = .ok (.iload_n 1, 1) := by decide +kernel
theorem dX2_removeBoat_31 : decode cX2_removeBoat 31 = .ok (.invokevirtual 37, 3) := by decide +kernel
theorem dX2_removeBoat_34 : decode cX2_removeBoat 34 = .ok (.aload_n 0, 1) := by decide +kernel
theorem dX2_removeBoat_35 : decode cX2_removeBoat 35 = .ok (.invokevirtual 86, 3) := by decide +kernel
theorem dX2_removeBoat_38 : decode cX2_removeBoat 38 = .ok (.ireturn, 1) := by decide +kernel
theorem dX2_boats_0 : decode cX2_boats 0 = .ok (.bipush 20, 2) := by decide +kernel
theorem dX2_boats_2 : decode cX2_boats 2 = .ok (.aload_n 0, 1) := by decide +kernel
theorem dX2_boats_3 : decode cX2_boats 3 = .ok (.iconst 0, 1) := by decide +kernel
theorem dX2_boats_4 : decode cX2_boats 4 = .ok (.bipush (-5), 2) := by decide +kernel
theorem dX2_boats_6 : decode cX2_boats 6 = .ok (.invokevirtual 89, 3) := by decide +kernel
theorem dX2_boats_9 : decode cX2_boats 9 = .ok (.isub, 1) := by decide +kernel
theorem dX2_boats_10 : decode cX2_boats 10 = .ok (.ireturn, 1) := by decide +kernel
theorem dX2_isAshore_0 : decode cX2_isAshore 0 = .ok (.aload_n 0, 1) := by decide +kernel
theorem dX2_isAshore_1 : decode cX2_isAshore 1 = .ok (.iload_n 1, 1) := by decide +kernel
theorem dX2_isAshore_2 : decode cX2_isAshore 2 = .ok (.iconst 4, 1) := by decide +kernel
theorem dX2_isAshore_3 : decode cX2_isAshore 3 = .ok (.invokevirtual 47, 3) := by decide +kernel
theorem dX2_isAshore_6 : decode cX2_isAshore 6 = .ok (.bipush (-5), 2) := by decide +kernel
theorem dX2_isAshore_8 : decode cX2_isAshore 8 = .ok (.if_icmp .eq 7, 3) := by decide +kernel
theorem dX2_isAshore_11 : decode cX2_isAshore 11 = .ok (.iconst 1, 1) := by decide +kernel
theorem dX2_isAshore_12 : decode cX2_isAshore 12 = .ok (.goto 4, 3) := by decide +kernel
theorem dX2_isAshore_15 : decode cX2_isAshore 15 = .ok (.iconst 0, 1) := by decide +kernel
theorem dX2_isAshore_16 : decode cX2_isAshore 16 = .ok (.ireturn, 1) := by decide +kernel
theorem dX2_boatsAshore_0 : decode cX2_boatsAshore 0 = .ok (.bipush 20, 2) := by decide +kernel
theorem dX2_boatsAshore_2 : decode cX2_boatsAshore 2 = .ok (.aload_n 0, 1) := by decide +kernel
theorem dX2_boatsAshore_3 : decode cX2_boatsAshore 3 = .ok (.iconst 4, 1) := by decide +kernel
theorem dX2_boatsAshore_4 : decode cX2_boatsAshore 4 = .ok (.bipush (-5), 2) := by decide +kernel
theorem dX2_boatsAshore_6 : decode cX2_boatsAshore 6 = .ok (.invokevirtual 89, 3) := by decide +kernel
theorem dX2_boatsAshore_9 : decode cX2_boatsAshore 9 = .ok (.isub, 1) := by decide +kernel
theorem dX2_boatsAshore_10 : decode cX2_boatsAshore 10 = .ok (.ireturn, 1) := by decide +kernel
theorem dX2_cradlesOf_0 : decode cX2_cradlesOf 0 = .ok (.iload_n 1, 1) := by decide +kernel
theorem dX2_cradlesOf_1 : decode cX2_cradlesOf 1 = .ok (.invokestatic 63, 3) := by decide +kernel
theorem dX2_cradlesOf_4 : decode cX2_cradlesOf 4 = .ok (.ifCond .eq 12, 3) := by decide +kernel
theorem dX2_cradlesOf_7 : decode cX2_cradlesOf 7 = .ok (.aload_n 0, 1) := by decide +kernel
theorem dX2_cradlesOf_8 : decode cX2_cradlesOf 8 = .ok (.getfield 15, 3) := by decide +kernel
theorem dX2_cradlesOf_11 : decode cX2_cradlesOf 11 = .ok (.iload_n 1, 1) := by decide +kernel
theorem dX2_cradlesOf_12 : decode cX2_cradlesOf 12 = .ok (.iaload, 1) := by decide +kernel
theorem dX2_cradlesOf_13 : decode cX2_cradlesOf 13 = .ok (.goto 5, 3) := by decide +kernel
theorem dX2_cradlesOf_16 : decode cX2_cradlesOf 16 = .ok (.bipush (-5), 2) := by decide +kernel
theorem dX2_cradlesOf_18 : decode cX2_cradlesOf 18 = .ok (.ireturn, 1) := by decide +kernel
theorem dX2_cradlesTaken_0 : decode cX2_cradlesTaken 0 = .ok (.aload_n 0, 1) := by decide +kernel
theorem dX2_cradlesTaken_1 : decode cX2_cradlesTaken 1 = .ok (.bipush 6, 2) := by decide +kernel
theorem dX2_cradlesTaken_3 : decode cX2_cradlesTaken 3 = .ok (.iload_n 1, 1) := by decide +kernel
theorem dX2_cradlesTaken_4 : decode cX2_cradlesTaken 4 = .ok (.invokevirtual 89, 3) := by decide +kernel
theorem dX2_cradlesTaken_7 : decode cX2_cradlesTaken 7 = .ok (.ireturn, 1) := by decide +kernel
theorem dX2_bears_0 : decode cX2_bears 0 = .ok (.iload_n 0, 1) := by decide +kernel
theorem dX2_bears_1 : decode cX2_bears 1 = .ok (.invokestatic 63, 3) := by decide +kernel
theorem dX2_bears_4 : decode cX2_bears 4 = .ok (.ifCond .eq 11, 3) := by decide +kernel
theorem dX2_bears_7 : decode cX2_bears 7 = .ok (.getstatic 92, 3) := by decide +kernel
theorem dX2_bears_10 : decode cX2_bears 10 = .ok (.iload_n 0, 1) := by decide +kernel
theorem dX2_bears_11 : decode cX2_bears 11 = .ok (.iaload, 1) := by decide +kernel
theorem dX2_bears_12 : decode cX2_bears 12 = .ok (.goto 5, 3) := by decide +kernel
theorem dX2_bears_15 : decode cX2_bears 15 = .ok (.bipush (-5), 2) := by decide +kernel
theorem dX2_bears_17 : decode cX2_bears 17 = .ok (.ireturn, 1) := by decide +kernel
theorem dX2_changeCradles_0 : decode cX2_changeCradles 0 = .ok (.iload_n 1, 1) := by decide +kernel
theorem dX2_changeCradles_1 : decode cX2_changeCradles 1 = .ok (.invokestatic 63, 3) := by decide +kernel
theorem dX2_changeCradles_4 : decode cX2_changeCradles 4 = .ok (.ifCond .ne 5, 3) := by decide +kernel
theorem dX2_changeCradles_7 : decode cX2_changeCradles 7 = .ok (.iconst (-1), 1) := by decide +kernel
theorem dX2_changeCradles_8 : decode cX2_changeCradles 8 = .ok (.ireturn, 1) := by decide +kernel
theorem dX2_changeCradles_9 : decode cX2_changeCradles 9 = .ok (.iload_n 2, 1) := by decide +kernel
theorem dX2_changeCradles_10 : decode cX2_changeCradles 10 = .ok (.iconst 0, 1) := by decide +kernel
theorem dX2_changeCradles_11 : decode cX2_changeCradles 11 = .ok (.bipush 9, 2) := by decide +kernel
theorem dX2_changeCradles_13 : decode cX2_changeCradles 13 = .ok (.invokestatic 66, 3) := by decide +kernel
theorem dX2_changeCradles_16 : decode cX2_changeCradles 16 = .ok (.ifCond .ne 6, 3) := by decide +kernel
theorem dX2_changeCradles_19 : decode cX2_changeCradles 19 = .ok (.bipush (-2), 2) := by decide +kernel
theorem dX2_changeCradles_21 : decode cX2_changeCradles 21 = .ok (.ireturn, 1) := by decide +kernel
theorem dX2_changeCradles_22 : decode cX2_changeCradles 22 = .ok (.aload_n 0, 1) := by decide +kernel
theorem dX2_changeCradles_23 : decode cX2_changeCradles 23 = .ok (.iload_n 1, 1) := by decide +kernel
theorem dX2_changeCradles_24 : decode cX2_changeCradles 24 = .ok (.invokevirtual 95, 3) := by decide +kernel
theorem dX2_changeCradles_27 : decode cX2_changeCradles 27 = .ok (.iload_n 2, 1) := by decide +kernel
theorem dX2_changeCradles_28 : decode cX2_changeCradles 28 = .ok (.if_icmp .le 6, 3) := by decide +kernel
theorem dX2_changeCradles_31 : decode cX2_changeCradles 31 = .ok (.bipush (-4), 2) := by decide +kernel
theorem dX2_changeCradles_33 : decode cX2_changeCradles 33 = .ok (.ireturn, 1) := by decide +kernel
theorem dX2_changeCradles_34 : decode cX2_changeCradles 34 = .ok (.aload_n 0, 1) := by decide +kernel
theorem dX2_changeCradles_35 : decode cX2_changeCradles 35 = .ok (.getfield 15, 3) := by decide +kernel
theorem dX2_changeCradles_38 : decode cX2_changeCradles 38 = .ok (.iload_n 1, 1) := by decide +kernel
theorem dX2_changeCradles_39 : decode cX2_changeCradles 39 = .ok (.iaload, 1) := by decide +kernel
theorem dX2_changeCradles_40 : decode cX2_changeCradles 40 = .ok (.istore_n 3, 1) := by decide +kernel
theorem dX2_changeCradles_41 : decode cX2_changeCradles 41 = .ok (.iload_n 3, 1) := by decide +kernel
theorem dX2_changeCradles_42 : decode cX2_changeCradles 42 = .ok (.iload_n 2, 1) := by decide +kernel
theorem dX2_changeCradles_43 : decode cX2_changeCradles 43 = .ok (.if_icmp .ne 6, 3) := by decide +kernel
theorem dX2_changeCradles_46 : decode cX2_changeCradles 46 = .ok (.bipush (-5), 2) := by decide +kernel
theorem dX2_changeCradles_48 : decode cX2_changeCradles 48 = .ok (.ireturn, 1) := by decide +kernel
theorem dX2_changeCradles_49 : decode cX2_changeCradles 49 = .ok (.aload_n 0, 1) := by decide +kernel
theorem dX2_changeCradles_50 : decode cX2_changeCradles 50 = .ok (.getfield 15, 3) := by decide +kernel
theorem dX2_changeCradles_53 : decode cX2_changeCradles 53 = .ok (.iload_n 1, 1) := by decide +kernel
theorem dX2_changeCradles_54 : decode cX2_changeCradles 54 = .ok (.iload_n 2, 1) := by decide +kernel
theorem dX2_changeCradles_55 : decode cX2_changeCradles 55 = .ok (.iastore, 1) := by decide +kernel
theorem dX2_changeCradles_56 : decode cX2_changeCradles 56 = .ok (.iload_n 3, 1) := by decide +kernel
theorem dX2_changeCradles_57 : decode cX2_changeCradles 57 = .ok (.ireturn, 1) := by decide +kernel
theorem dX2_hasFreeCradle_0 : decode cX2_hasFreeCradle 0 = .ok (.aload_n 0, 1) := by decide +kernel
theorem dX2_hasFreeCradle_1 : decode cX2_hasFreeCradle 1 = .ok (.bipush 6, 2) := by decide +kernel
theorem dX2_hasFreeCradle_3 : decode cX2_hasFreeCradle 3 = .ok (.iload_n 1, 1) := by decide +kernel
theorem dX2_hasFreeCradle_4 : decode cX2_hasFreeCradle 4 = .ok (.invokevirtual 89, 3) := by decide +kernel
theorem dX2_hasFreeCradle_7 : decode cX2_hasFreeCradle 7 = .ok (.aload_n 0, 1) := by decide +kernel
theorem dX2_hasFreeCradle_8 : decode cX2_hasFreeCradle 8 = .ok (.iload_n 1, 1) := by decide +kernel
theorem dX2_hasFreeCradle_9 : decode cX2_hasFreeCradle 9 = .ok (.invokevirtual 99, 3) := by decide +kernel
theorem dX2_hasFreeCradle_12 : decode cX2_hasFreeCradle 12 = .ok (.if_icmp .ge 7, 3) := by decide +kernel
theorem dX2_hasFreeCradle_15 : decode cX2_hasFreeCradle 15 = .ok (.iconst 1, 1) := by decide +kernel
theorem dX2_hasFreeCradle_16 : decode cX2_hasFreeCradle 16 = .ok (.goto 4, 3) := by decide +kernel
theorem dX2_hasFreeCradle_19 : decode cX2_hasFreeCradle 19 = .ok (.iconst 0, 1) := by decide +kernel
theorem dX2_hasFreeCradle_20 : decode cX2_hasFreeCradle 20 = .ok (.ireturn, 1) := by decide +kernel
theorem dX2_cradleFor_0 : decode cX2_cradleFor 0 = .ok (.aload_n 0, 1) := by decide +kernel
theorem dX2_cradleFor_1 : decode cX2_cradleFor 1 = .ok (.iload_n 1, 1) := by decide +kernel
theorem dX2_cradleFor_2 : decode cX2_cradleFor 2 = .ok (.iconst 3, 1) := by decide +kernel
theorem dX2_cradleFor_3 : decode cX2_cradleFor 3 = .ok (.invokevirtual 47, 3) := by decide +kernel
theorem dX2_cradleFor_6 : decode cX2_cradleFor 6 = .ok (.istore_n 2, 1) := by decide +kernel
theorem dX2_cradleFor_7 : decode cX2_cradleFor 7 = .ok (.aload_n 0, 1) := by decide +kernel
theorem dX2_cradleFor_8 : decode cX2_cradleFor 8 = .ok (.iload_n 1, 1) := by decide +kernel
theorem dX2_cradleFor_9 : decode cX2_cradleFor 9 = .ok (.iconst 2, 1) := by decide +kernel
theorem dX2_cradleFor_10 : decode cX2_cradleFor 10 = .ok (.invokevirtual 47, 3) := by decide +kernel
theorem dX2_cradleFor_13 : decode cX2_cradleFor 13 = .ok (.istore_n 3, 1) := by decide +kernel
theorem dX2_cradleFor_14 : decode cX2_cradleFor 14 = .ok (.aload_n 0, 1) := by decide +kernel
theorem dX2_cradleFor_15 : decode cX2_cradleFor 15 = .ok (.iload_n 2, 1) := by decide +kernel
theorem dX2_cradleFor_16 : decode cX2_cradleFor 16 = .ok (.invokevirtual 102, 3) := by decide +kernel
theorem dX2_cradleFor_19 : decode cX2_cradleFor 19 = .ok (.ifCond .eq 13, 3) := by decide +kernel
theorem dX2_cradleFor_22 : decode cX2_cradleFor 22 = .ok (.iload_n 3, 1) := by decide +kernel
theorem dX2_cradleFor_23 : decode cX2_cradleFor 23 = .ok (.iload_n 2, 1) := by decide +kernel
theorem dX2_cradleFor_24 : decode cX2_cradleFor 24 = .ok (.invokestatic 105, 3) := by decide +kernel
theorem dX2_cradleFor_27 : decode cX2_cradleFor 27 = .ok (.if_icmp .gt 5, 3) := by decide +kernel
theorem dX2_cradleFor_30 : decode cX2_cradleFor 30 = .ok (.iload_n 2, 1) := by decide +kernel
theorem dX2_cradleFor_31 : decode cX2_cradleFor 31 = .ok (.ireturn, 1) := by decide +kernel
theorem dX2_cradleFor_32 : decode cX2_cradleFor 32 = .ok (.iload_n 2, 1) := by decide +kernel
theorem dX2_cradleFor_33 : decode cX2_cradleFor 33 = .ok (.invokestatic 108, 3) := by decide +kernel
theorem dX2_cradleFor_36 : decode cX2_cradleFor 36 = .ok (.istore 4, 2) := by decide +kernel
theorem dX2_cradleFor_38 : decode cX2_cradleFor 38 = .ok (.iload 4, 2) := by decide +kernel
theorem dX2_cradleFor_40 : decode cX2_cradleFor 40 = .ok (.bipush (-5), 2) := by decide +kernel
theorem dX2_cradleFor_42 : decode cX2_cradleFor 42 = .ok (.if_icmp .eq 26, 3) := by decide +kernel
theorem dX2_cradleFor_45 : decode cX2_cradleFor 45 = .ok (.aload_n 0, 1) := by decide +kernel
theorem dX2_cradleFor_46 : decode cX2_cradleFor 46 = .ok (.iload 4, 2) := by decide +kernel
theorem dX2_cradleFor_48 : decode cX2_cradleFor 48 = .ok (.invokevirtual 102, 3) := by decide +kernel
theorem dX2_cradleFor_51 : decode cX2_cradleFor 51 = .ok (.ifCond .eq 17, 3) := by decide +kernel
theorem dX2_cradleFor_54 : decode cX2_cradleFor 54 = .ok (.iconst 2, 1) := by decide +kernel
theorem dX2_cradleFor_55 : decode cX2_cradleFor 55 = .ok (.iload_n 3, 1) := by decide +kernel
theorem dX2_cradleFor_56 : decode cX2_cradleFor 56 = .ok (.imul, 1) := by decide +kernel
theorem dX2_cradleFor_57 : decode cX2_cradleFor 57 = .ok (.iload 4, 2) := by decide +kernel
theorem dX2_cradleFor_59 : decode cX2_cradleFor 59 = .ok (.invokestatic 105, 3) := by decide +kernel
theorem dX2_cradleFor_62 : decode cX2_cradleFor 62 = .ok (.if_icmp .gt 6, 3) := by decide +kernel
theorem dX2_cradleFor_65 : decode cX2_cradleFor 65 = .ok (.iload 4, 2) := by decide +kernel
theorem dX2_cradleFor_67 : decode cX2_cradleFor 67 = .ok (.ireturn, 1) := by decide +kernel
theorem dX2_cradleFor_68 : decode cX2_cradleFor 68 = .ok (.bipush (-5), 2) := by decide +kernel
theorem dX2_cradleFor_70 : decode cX2_cradleFor 70 = .ok (.ireturn, 1) := by decide +kernel
theorem dX2_otherKindFor_0 : decode cX2_otherKindFor 0 = .ok (.iload_n 0, 1) := by decide +kernel
theorem dX2_otherKindFor_1 : decode cX2_otherKindFor 1 = .ok (.ifCond .ne 5, 3) := by decide +kernel
theorem dX2_otherKindFor_4 : decode cX2_otherKindFor 4 = .ok (.iconst 2, 1) := by decide +kernel
theorem dX2_otherKindFor_5 : decode cX2_otherKindFor 5 = .ok (.ireturn, 1) := by decide +kernel
theorem dX2_otherKindFor_6 : decode cX2_otherKindFor 6 = .ok (.iload_n 0, 1) := by decide +kernel
theorem dX2_otherKindFor_7 : decode cX2_otherKindFor 7 = .ok (.iconst 2, 1) := by decide +kernel
theorem dX2_otherKindFor_8 : decode cX2_otherKindFor 8 = .ok (.if_icmp .ne 7, 3) := by decide +kernel
theorem dX2_otherKindFor_11 : decode cX2_otherKindFor 11 = .ok (.iconst 0, 1) := by decide +kernel
theorem dX2_otherKindFor_12 : decode cX2_otherKindFor 12 = .ok (.goto 5, 3) := by decide +kernel
theorem dX2_otherKindFor_15 : decode cX2_otherKindFor 15 = .ok (.bipush (-5), 2) := by decide +kernel
theorem dX2_otherKindFor_17 : decode cX2_otherKindFor 17 = .ok (.ireturn, 1) := by decide +kernel
theorem dX2_metresOf_0 : decode cX2_metresOf 0 = .ok (.iload_n 1, 1) := by decide +kernel
theorem dX2_metresOf_1 : decode cX2_metresOf 1 = .ok (.invokestatic 111, 3) := by decide +kernel
theorem dX2_metresOf_4 : decode cX2_metresOf 4 = .ok (.ifCond .eq 12, 3) := by decide +kernel
theorem dX2_metresOf_7 : decode cX2_metresOf 7 = .ok (.aload_n 0, 1) := by decide +kernel
theorem dX2_metresOf_8 : decode cX2_metresOf 8 = .ok (.getfield 18, 3) := by decide +kernel
theorem dX2_metresOf_11 : decode cX2_metresOf 11 = .ok (.iload_n 1, 1) := by decide +kernel
theorem dX2_metresOf_12 : decode cX2_metresOf 12 = .ok (.iaload, 1) := by decide +kernel
theorem dX2_metresOf_13 : decode cX2_metresOf 13 = .ok (.goto 5, 3) := by decide +kernel
theorem dX2_metresOf_16 : decode cX2_metresOf 16 = .ok (.bipush (-5), 2) := by decide +kernel
theorem dX2_metresOf_18 : decode cX2_metresOf 18 = .ok (.ireturn, 1) := by decide +kernel
theorem dX2_standsIn_0 : decode cX2_standsIn 0 = .ok (.aload_n 0, 1) := by decide +kernel
theorem dX2_standsIn_1 : decode cX2_standsIn 1 = .ok (.iload_n 1, 1) := by decide +kernel
theorem dX2_standsIn_2 : decode cX2_standsIn 2 = .ok (.iconst 4, 1) := by decide +kernel
theorem dX2_standsIn_3 : decode cX2_standsIn 3 = .ok (.invokevirtual 47, 3) := by decide +kernel
theorem dX2_standsIn_6 : decode cX2_standsIn 6 = .ok (.iload_n 2, 1) := by decide +kernel
theorem dX2_standsIn_7 : decode cX2_standsIn 7 = .ok (.if_icmp .ne 7, 3) := by decide +kernel
theorem dX2_standsIn_10 : decode cX2_standsIn 10 = .ok (.iconst 1, 1) := by decide +kernel
theorem dX2_standsIn_11 : decode cX2_standsIn 11 = .ok (.goto 4, 3) := by decide +kernel
theorem dX2_standsIn_14 : decode cX2_standsIn 14 = .ok (.iconst 0, 1) := by decide +kernel
theorem dX2_standsIn_15 : decode cX2_standsIn 15 = .ok (.ireturn, 1) := by decide +kernel
theorem dX2_metresTaken_0 : decode cX2_metresTaken 0 = .ok (.iconst 0, 1) := by decide +kernel
theorem dX2_metresTaken_1 : decode cX2_metresTaken 1 = .ok (.istore_n 2, 1) := by decide +kernel
theorem dX2_metresTaken_2 : decode cX2_metresTaken 2 = .ok (.iconst 0, 1) := by decide +kernel
theorem dX2_metresTaken_3 : decode cX2_metresTaken 3 = .ok (.istore_n 3, 1) := by decide +kernel
theorem dX2_metresTaken_4 : decode cX2_metresTaken 4 = .ok (.iload_n 3, 1) := by decide +kernel
theorem dX2_metresTaken_5 : decode cX2_metresTaken 5 = .ok (.bipush 11, 2) := by decide +kernel
theorem dX2_metresTaken_7 : decode cX2_metresTaken 7 = .ok (.iadd, 1) := by decide +kernel
theorem dX2_metresTaken_8 : decode cX2_metresTaken 8 = .ok (.aload_n 0, 1) := by decide +kernel
theorem dX2_metresTaken_9 : decode cX2_metresTaken 9 = .ok (.getfield 11, 3) := by decide +kernel
theorem dX2_metresTaken_12 : decode cX2_metresTaken 12 = .ok (.arraylength, 1) := by decide +kernel
theorem dX2_metresTaken_13 : decode cX2_metresTaken 13 = .ok (.if_icmp .gt 34, 3) := by decide +kernel
theorem dX2_metresTaken_16 : decode cX2_metresTaken 16 = .ok (.aload_n 0, 1) := by decide +kernel
theorem dX2_metresTaken_17 : decode cX2_metresTaken 17 = .ok (.getfield 11, 3) := by decide +kernel
theorem dX2_metresTaken_20 : decode cX2_metresTaken 20 = .ok (.iload_n 3, 1) := by decide +kernel
theorem dX2_metresTaken_21 : decode cX2_metresTaken 21 = .ok (.iconst 4, 1) := by decide +kernel
theorem dX2_metresTaken_22 : decode cX2_metresTaken 22 = .ok (.iadd, 1) := by decide +kernel
theorem dX2_metresTaken_23 : decode cX2_metresTaken 23 = .ok (.iaload, 1) := by decide +kernel
theorem dX2_metresTaken_24 : decode cX2_metresTaken 24 = .ok (.iload_n 1, 1) := by decide +kernel
theorem dX2_metresTaken_25 : decode cX2_metresTaken 25 = .ok (.if_icmp .ne 16, 3) := by decide +kernel
theorem dX2_metresTaken_28 : decode cX2_metresTaken 28 = .ok (.iload_n 2, 1) := by decide +kernel
theorem dX2_metresTaken_29 : decode cX2_metresTaken 29 = .ok (.aload_n 0, 1) := by decide +kernel
theorem dX2_metresTaken_30 : decode cX2_metresTaken 30 = .ok (.getfield 11, 3) := by decide +kernel
theorem dX2_metresTaken_33 : decode cX2_metresTaken 33 = .ok (.iload_n 3, 1) := by decide +kernel
theorem dX2_metresTaken_34 : decode cX2_metresTaken 34 = .ok (.iconst 0, 1) := by decide +kernel
theorem dX2_metresTaken_35 : decode cX2_metresTaken 35 = .ok (.iadd, 1) := by decide +kernel
theorem dX2_metresTaken_36 : decode cX2_metresTaken 36 = .ok (.iaload, 1) := by decide +kernel
theorem dX2_metresTaken_37 : decode cX2_metresTaken 37 = .ok (.iconst 1, 1) := by decide +kernel
theorem dX2_metresTaken_38 : decode cX2_metresTaken 38 = .ok (.iadd, 1) := by decide +kernel
theorem dX2_metresTaken_39 : decode cX2_metresTaken 39 = .ok (.iadd, 1) := by decide +kernel
theorem dX2_metresTaken_40 : decode cX2_metresTaken 40 = .ok (.istore_n 2, 1) := by decide +kernel
theorem dX2_metresTaken_41 : decode cX2_metresTaken 41 = .ok (.iinc 3 11, 3) := by decide +kernel
theorem dX2_metresTaken_44 : decode cX2_metresTaken 44 = .ok (.goto (-40), 3) := by decide +kernel
theorem dX2_metresTaken_47 : decode cX2_metresTaken 47 = .ok (.iload_n 2, 1) := by decide +kernel
theorem dX2_metresTaken_48 : decode cX2_metresTaken 48 = .ok (.ireturn, 1) := by decide +kernel
theorem dX2_metresLeft_0 : decode cX2_metresLeft 0 = .ok (.aload_n 0, 1) := by decide +kernel
theorem dX2_metresLeft_1 : decode cX2_metresLeft 1 = .ok (.iload_n 1, 1) := by decide +kernel
theorem dX2_metresLeft_2 : decode cX2_metresLeft 2 = .ok (.invokevirtual 114, 3) := by decide +kernel
theorem dX2_metresLeft_5 : decode cX2_metresLeft 5 = .ok (.aload_n 0, 1) := by decide +kernel
theorem dX2_metresLeft_6 : decode cX2_metresLeft 6 = .ok (.iload_n 1, 1) := by decide +kernel
theorem dX2_metresLeft_7 : decode cX2_metresLeft 7 = .ok (.invokevirtual 117, 3) := by decide +kernel
theorem dX2_metresLeft_10 : decode cX2_metresLeft 10 = .ok (.isub, 1) := by decide +kernel
theorem dX2_metresLeft_11 : decode cX2_metresLeft 11 = .ok (.ireturn, 1) := by decide +kernel
theorem dX2_hasRoom_0 : decode cX2_hasRoom 0 = .ok (.aload_n 0, 1) := by decide +kernel
theorem dX2_hasRoom_1 : decode cX2_hasRoom 1 = .ok (.iload_n 2, 1) := by decide +kernel
theorem dX2_hasRoom_2 : decode cX2_hasRoom 2 = .ok (.iconst 0, 1) := by decide +kernel
theorem dX2_hasRoom_3 : decode cX2_hasRoom 3 = .ok (.invokevirtual 47, 3) := by decide +kernel
theorem dX2_hasRoom_6 : decode cX2_hasRoom 6 = .ok (.iconst 1, 1) := by decide +kernel
theorem dX2_hasRoom_7 : decode cX2_hasRoom 7 = .ok (.iadd, 1) := by decide +kernel
theorem dX2_hasRoom_8 : decode cX2_hasRoom 8 = .ok (.aload_n 0, 1) := by decide +kernel
theorem dX2_hasRoom_9 : decode cX2_hasRoom 9 = .ok (.iload_n 1, 1) := by decide +kernel
theorem dX2_hasRoom_10 : decode cX2_hasRoom 10 = .ok (.invokevirtual 120, 3) := by decide +kernel
theorem dX2_hasRoom_13 : decode cX2_hasRoom 13 = .ok (.if_icmp .gt 7, 3) := by decide +kernel
theorem dX2_hasRoom_16 : decode cX2_hasRoom 16 = .ok (.iconst 1, 1) := by decide +kernel
theorem dX2_hasRoom_17 : decode cX2_hasRoom 17 = .ok (.goto 4, 3) := by decide +kernel
theorem dX2_hasRoom_20 : decode cX2_hasRoom 20 = .ok (.iconst 0, 1) := by decide +kernel
theorem dX2_hasRoom_21 : decode cX2_hasRoom 21 = .ok (.ireturn, 1) := by decide +kernel
theorem dX2_boatsIn_0 : decode cX2_boatsIn 0 = .ok (.aload_n 0, 1) := by decide +kernel
theorem dX2_boatsIn_1 : decode cX2_boatsIn 1 = .ok (.iconst 4, 1) := by decide +kernel
theorem dX2_boatsIn_2 : decode cX2_boatsIn 2 = .ok (.iload_n 1, 1) := by decide +kernel
theorem dX2_boatsIn_3 : decode cX2_boatsIn 3 = .ok (.invokevirtual 89, 3) := by decide +kernel
theorem dX2_boatsIn_6 : decode cX2_boatsIn 6 = .ok (.ireturn, 1) := by decide +kernel
theorem dX2_boatAt_0 : decode cX2_boatAt 0 = .ok (.iconst 0, 1) := by decide +kernel
theorem dX2_boatAt_1 : decode cX2_boatAt 1 = .ok (.istore_n 3, 1) := by decide +kernel
theorem dX2_boatAt_2 : decode cX2_boatAt 2 = .ok (.iload_n 3, 1) := by decide +kernel
theorem dX2_boatAt_3 : decode cX2_boatAt 3 = .ok (.bipush 20, 2) := by decide +kernel
theorem dX2_boatAt_5 : decode cX2_boatAt 5 = .ok (.if_icmp .ge 30, 3) := by decide +kernel
theorem dX2_boatAt_8 : decode cX2_boatAt 8 = .ok (.aload_n 0, 1) := by decide +kernel
theorem dX2_boatAt_9 : decode cX2_boatAt 9 = .ok (.iload_n 3, 1) := by decide +kernel
theorem dX2_boatAt_10 : decode cX2_boatAt 10 = .ok (.iload_n 1, 1) := by decide +kernel
theorem dX2_boatAt_11 : decode cX2_boatAt 11 = .ok (.invokevirtual 123, 3) := by decide +kernel
theorem dX2_boatAt_14 : decode cX2_boatAt 14 = .ok (.ifCond .eq 15, 3) := by decide +kernel
theorem dX2_boatAt_17 : decode cX2_boatAt 17 = .ok (.aload_n 0, 1) := by decide +kernel
theorem dX2_boatAt_18 : decode cX2_boatAt 18 = .ok (.iload_n 3, 1) := by decide +kernel
theorem dX2_boatAt_19 : decode cX2_boatAt 19 = .ok (.iconst 5, 1) := by decide +kernel
theorem dX2_boatAt_20 : decode cX2_boatAt 20 = .ok (.invokevirtual 47, 3) := by decide +kernel
theorem dX2_boatAt_23 : decode cX2_boatAt 23 = .ok (.iload_n 2, 1) := by decide +kernel
theorem dX2_boatAt_24 : decode cX2_boatAt 24 = .ok (.if_icmp .ne 5, 3) := by decide +kernel
theorem dX2_boatAt_27 : decode cX2_boatAt 27 = .ok (.iload_n 3, 1) := by decide +kernel
theorem dX2_boatAt_28 : decode cX2_boatAt 28 = .ok (.ireturn, 1) := by decide +kernel
theorem dX2_boatAt_29 : decode cX2_boatAt 29 = .ok (.iinc 3 1, 3) := by decide +kernel
theorem dX2_boatAt_32 : decode cX2_boatAt 32 = .ok (.goto (-30), 3) := by decide +kernel
theorem dX2_boatAt_35 : decode cX2_boatAt 35 = .ok (.bipush (-5), 2) := by decide +kernel
theorem dX2_boatAt_37 : decode cX2_boatAt 37 = .ok (.ireturn, 1) := by decide +kernel
theorem dX2_boatsFartherOut_0 : decode cX2_boatsFartherOut 0 = .ok (.aload_n 0, 1) := by decide +kernel
theorem dX2_boatsFartherOut_1 : decode cX2_boatsFartherOut 1 = .ok (.aload_n 0, 1) := by decide +kernel
theorem dX2_boatsFartherOut_2 : decode cX2_boatsFartherOut 2 = .ok (.iload_n 1, 1) := by decide +kernel
theorem dX2_boatsFartherOut_3 : decode cX2_boatsFartherOut 3 = .ok (.iconst 4, 1) := by decide +kernel
theorem dX2_boatsFartherOut_4 : decode cX2_boatsFartherOut 4 = .ok (.invokevirtual 47, 3) := by decide +kernel
theorem dX2_boatsFartherOut_7 : decode cX2_boatsFartherOut 7 = .ok (.invokevirtual 126, 3) := by decide +kernel
theorem dX2_boatsFartherOut_10 : decode cX2_boatsFartherOut 10 = .ok (.iconst 1, 1) := by decide +kernel
theorem dX2_boatsFartherOut_11 : decode cX2_boatsFartherOut 11 = .ok (.isub, 1) := by decide +kernel
theorem dX2_boatsFartherOut_12 : decode cX2_boatsFartherOut 12 = .ok (.aload_n 0, 1) := by decide +kernel
theorem dX2_boatsFartherOut_13 : decode cX2_boatsFartherOut 13 = .ok (.iload_n 1, 1) := by decide +kernel
theorem dX2_boatsFartherOut_14 : decode cX2_boatsFartherOut 14 = .ok (.iconst 5, 1) := by decide +kernel
theorem dX2_boatsFartherOut_15 : decode cX2_boatsFartherOut 15 = .ok (.invokevirtual 47, 3) := by decide +kernel
theorem dX2_boatsFartherOut_18 : decode cX2_boatsFartherOut 18 = .ok (.isub, 1) := by decide +kernel
theorem dX2_boatsFartherOut_19 : decode cX2_boatsFartherOut 19 = .ok (.ireturn, 1) := by decide +kernel
theorem dX2_changeRow_0 : decode cX2_changeRow 0 = .ok (.iload_n 1, 1) := by decide +kernel
theorem dX2_changeRow_1 : decode cX2_changeRow 1 = .ok (.invokestatic 111, 3) := by decide +kernel
theorem dX2_changeRow_4 : decode cX2_changeRow 4 = .ok (.ifCond .ne 5, 3) := by decide +kernel
theorem dX2_changeRow_7 : decode cX2_changeRow 7 = .ok (.iconst (-1), 1) := by decide +kernel
theorem dX2_changeRow_8 : decode cX2_changeRow 8 = .ok (.ireturn, 1) := by decide +kernel
theorem dX2_changeRow_9 : decode cX2_changeRow 9 = .ok (.iload_n 2, 1) := by decide +kernel
theorem dX2_changeRow_10 : decode cX2_changeRow 10 = .ok (.bipush 10, 2) := by decide +kernel
theorem dX2_changeRow_12 : decode cX2_changeRow 12 = .ok (.bipush 60, 2) := by decide +kernel
theorem dX2_changeRow_14 : decode cX2_changeRow 14 = .ok (.invokestatic 66, 3) := by decide +kernel
theorem dX2_changeRow_17 : decode cX2_changeRow 17 = .ok (.ifCond .ne 6, 3) := by decide +kernel
theorem dX2_changeRow_20 : decode cX2_changeRow 20 = .ok (.bipush (-2), 2) := by decide +kernel
theorem dX2_changeRow_22 : decode cX2_changeRow 22 = .ok (.ireturn, 1) := by decide +kernel
theorem dX2_changeRow_23 : decode cX2_changeRow 23 = .ok (.aload_n 0, 1) := by decide +kernel
theorem dX2_changeRow_24 : decode cX2_changeRow 24 = .ok (.iload_n 1, 1) := by decide +kernel
theorem dX2_changeRow_25 : decode cX2_changeRow 25 = .ok (.invokevirtual 117, 3) := by decide +kernel
theorem dX2_changeRow_28 : decode cX2_changeRow 28 = .ok (.iload_n 2, 1) := by decide +kernel
theorem dX2_changeRow_29 : decode cX2_changeRow 29 = .ok (.if_icmp .le 6, 3) := by decide +kernel
theorem dX2_changeRow_32 : decode cX2_changeRow 32 = .ok (.bipush (-4), 2) := by decide +kernel
theorem dX2_changeRow_34 : decode cX2_changeRow 34 = .ok (.ireturn, 1) := by decide +kernel
theorem dX2_changeRow_35 : decode cX2_changeRow 35 = .ok (.aload_n 0, 1) := by decide +kernel
theorem dX2_changeRow_36 : decode cX2_changeRow 36 = .ok (.getfield 18, 3) := by decide +kernel
theorem dX2_changeRow_39 : decode cX2_changeRow 39 = .ok (.iload_n 1, 1) := by decide +kernel
theorem dX2_changeRow_40 : decode cX2_changeRow 40 = .ok (.iaload, 1) := by decide +kernel
theorem dX2_changeRow_41 : decode cX2_changeRow 41 = .ok (.istore_n 3, 1) := by decide +kernel
theorem dX2_changeRow_42 : decode cX2_changeRow 42 = .ok (.iload_n 3, 1) := by decide +kernel
theorem dX2_changeRow_43 : decode cX2_changeRow 43 = .ok (.iload_n 2, 1) := by decide +kernel
theorem dX2_changeRow_44 : decode cX2_changeRow 44 = .ok (.if_icmp .ne 6, 3) := by decide +kernel
theorem dX2_changeRow_47 : decode cX2_changeRow 47 = .ok (.bipush (-5), 2) := by decide +kernel
theorem dX2_changeRow_49 : decode cX2_changeRow 49 = .ok (.ireturn, 1) := by decide +kernel
theorem dX2_changeRow_50 : decode cX2_changeRow 50 = .ok (.aload_n 0, 1) := by decide +kernel
theorem dX2_changeRow_51 : decode cX2_changeRow 51 = .ok (.getfield 18, 3) := by decide +kernel
theorem dX2_changeRow_54 : decode cX2_changeRow 54 = .ok (.iload_n 1, 1) := by decide +kernel
theorem dX2_changeRow_55 : decode cX2_changeRow 55 = .ok (.iload_n 2, 1) := by decide +kernel
theorem dX2_changeRow_56 : decode cX2_changeRow 56 = .ok (.iastore, 1) := by decide +kernel
theorem dX2_changeRow_57 : decode cX2_changeRow 57 = .ok (.iload_n 3, 1) := by decide +kernel
theorem dX2_changeRow_58 : decode cX2_changeRow 58 = .ok (.ireturn, 1) := by decide +kernel
theorem dX2_tightestRow_0 : decode cX2_tightestRow 0 = .ok (.bipush (-5), 2) := by decide +kernel
theorem dX2_tightestRow_2 : decode cX2_tightestRow 2 = .ok (.istore_n 2, 1) := by decide +kernel
theorem dX2_tightestRow_3 : decode cX2_tightestRow 3 = .ok (.iconst 0, 1) := by decide +kernel
theorem dX2_tightestRow_4 : decode cX2_tightestRow 4 = .ok (.istore_n 3, 1) := by decide +kernel
theorem dX2_tightestRow_5 : decode cX2_tightestRow 5 = .ok (.iload_n 3, 1) := by decide +kernel
theorem dX2_tightestRow_6 : decode cX2_tightestRow 6 = .ok (.iconst 4, 1) := by decide +kernel
theorem dX2_tightestRow_7 : decode cX2_tightestRow 7 = .ok (.if_icmp .ge 60, 3) := by decide +kernel
theorem dX2_tightestRow_10 : decode cX2_tightestRow 10 = .ok (.aload_n 0, 1) := by decide +kernel
theorem dX2_tightestRow_11 : decode cX2_tightestRow 11 = .ok (.iload_n 1, 1) := by decide +kernel
theorem dX2_tightestRow_12 : decode cX2_tightestRow 12 = .ok (.iload_n 3, 1) := by decide +kernel
theorem dX2_tightestRow_13 : decode cX2_tightestRow 13 = .ok (.invokevirtual 123, 3) := by decide +kernel
theorem dX2_tightestRow_16 : decode cX2_tightestRow 16 = .ok (.ifCond .ne 16, 3) := by decide +kernel
theorem dX2_tightestRow_19 : decode cX2_tightestRow 19 = .ok (.aload_n 0, 1) := by decide +kernel
theorem dX2_tightestRow_20 : decode cX2_tightestRow 20 = .ok (.iload_n 3, 1) := by decide +kernel
theorem dX2_tightestRow_21 : decode cX2_tightestRow 21 = .ok (.iload_n 1, 1) := by decide +kernel
theorem dX2_tightestRow_22 : decode cX2_tightestRow 22 = .ok (.invokevirtual 129, 3) := by decide +kernel
theorem dX2_tightestRow_25 : decode cX2_tightestRow 25 = .ok (.ifCond .eq 7, 3) := by decide +kernel
theorem dX2_tightestRow_28 : decode cX2_tightestRow 28 = .ok (.iconst 1, 1) := by decide +kernel
theorem dX2_tightestRow_29 : decode cX2_tightestRow 29 = .ok (.goto 4, 3) := by decide +kernel
theorem dX2_tightestRow_32 : decode cX2_tightestRow 32 = .ok (.iconst 0, 1) := by decide +kernel
theorem dX2_tightestRow_33 : decode cX2_tightestRow 33 = .ok (.istore 4, 2) := by decide +kernel
theorem dX2_tightestRow_35 : decode cX2_tightestRow 35 = .ok (.iload 4, 2) := by decide +kernel
theorem dX2_tightestRow_37 : decode cX2_tightestRow 37 = .ok (.ifCond .eq 24, 3) := by decide +kernel
theorem dX2_tightestRow_40 : decode cX2_tightestRow 40 = .ok (.iload_n 2, 1) := by decide +kernel
theorem dX2_tightestRow_41 : decode cX2_tightestRow 41 = .ok (.bipush (-5), 2) := by decide +kernel
theorem dX2_tightestRow_43 : decode cX2_tightestRow 43 = .ok (.if_icmp .eq 16, 3) := by decide +kernel
theorem dX2_tightestRow_46 : decode cX2_tightestRow 46 = .ok (.aload_n 0, 1) := by decide +kernel
theorem dX2_tightestRow_47 : decode cX2_tightestRow 47 = .ok (.iload_n 3, 1) := by decide +kernel
theorem dX2_tightestRow_48 : decode cX2_tightestRow 48 = .ok (.invokevirtual 120, 3) := by decide +kernel
theorem dX2_tightestRow_51 : decode cX2_tightestRow 51 = .ok (.aload_n 0, 1) := by decide +kernel
theorem dX2_tightestRow_52 : decode cX2_tightestRow 52 = .ok (.iload_n 2, 1) := by decide +kernel
theorem dX2_tightestRow_53 : decode cX2_tightestRow 53 = .ok (.invokevirtual 120, 3) := by decide +kernel
theorem dX2_tightestRow_56 : decode cX2_tightestRow 56 = .ok (.if_icmp .ge 5, 3) := by decide +kernel
theorem dX2_tightestRow_59 : decode cX2_tightestRow 59 = .ok (.iload_n 3, 1) := by decide +kernel
theorem dX2_tightestRow_60 : decode cX2_tightestRow 60 = .ok (.istore_n 2, 1) := by decide +kernel
theorem dX2_tightestRow_61 : decode cX2_tightestRow 61 = .ok (.iinc 3 1, 3) := by decide +kernel
theorem dX2_tightestRow_64 : decode cX2_tightestRow 64 = .ok (.goto (-59), 3) := by decide +kernel
theorem dX2_tightestRow_67 : decode cX2_tightestRow 67 = .ok (.iload_n 2, 1) := by decide +kernel
theorem dX2_tightestRow_68 : decode cX2_tightestRow 68 = .ok (.ireturn, 1) := by decide +kernel
theorem dX2_putAtOuterEnd_0 : decode cX2_putAtOuterEnd 0 = .ok (.aload_n 0, 1) := by decide +kernel
theorem dX2_putAtOuterEnd_1 : decode cX2_putAtOuterEnd 1 = .ok (.iload_n 1, 1) := by decide +kernel
theorem dX2_putAtOuterEnd_2 : decode cX2_putAtOuterEnd 2 = .ok (.iconst 5, 1) := by decide +kernel
theorem dX2_putAtOuterEnd_3 : decode cX2_putAtOuterEnd 3 = .ok (.aload_n 0, 1) := by decide +kernel
theorem dX2_putAtOuterEnd_4 : decode cX2_putAtOuterEnd 4 = .ok (.iload_n 2, 1) := by decide +kernel
theorem dX2_putAtOuterEnd_5 : decode cX2_putAtOuterEnd 5 = .ok (.invokevirtual 126, 3) := by decide +kernel
theorem dX2_putAtOuterEnd_8 : decode cX2_putAtOuterEnd 8 = .ok (.invokevirtual 59, 3) := by decide +kernel
theorem dX2_putAtOuterEnd_11 : decode cX2_putAtOuterEnd 11 = .ok (.aload_n 0, 1) := by decide +kernel
theorem dX2_putAtOuterEnd_12 : decode cX2_putAtOuterEnd 12 = .ok (.iload_n 1, 1) := by decide +kernel
theorem dX2_putAtOuterEnd_13 : decode cX2_putAtOuterEnd 13 = .ok (.iconst 4, 1) := by decide +kernel
theorem dX2_putAtOuterEnd_14 : decode cX2_putAtOuterEnd 14 = .ok (.iload_n 2, 1) := by decide +kernel
theorem dX2_putAtOuterEnd_15 : decode cX2_putAtOuterEnd 15 = .ok (.invokevirtual 59, 3) := by decide +kernel
theorem dX2_putAtOuterEnd_18 : decode cX2_putAtOuterEnd 18 = .ok (.return_, 1) := by decide +kernel
theorem dX2_setting_0 : decode cX2_setting 0 = .ok (.iload_n 1, 1) := by decide +kernel
theorem dX2_setting_1 : decode cX2_setting 1 = .ok (.invokestatic 132, 3) := by decide +kernel
theorem dX2_setting_4 : decode cX2_setting 4 = .ok (.ifCond .eq 12, 3) := by decide +kernel
theorem dX2_setting_7 : decode cX2_setting 7 = .ok (.aload_n 0, 1) := by decide +kernel
theorem dX2_setting_8 : decode cX2_setting 8 = .ok (.getfield 21, 3) := by decide +kernel
theorem dX2_setting_11 : decode cX2_setting 11 = .ok (.iload_n 1, 1) := by decide +kernel
theorem dX2_setting_12 : decode cX2_setting 12 = .ok (.iaload, 1) := by decide +kernel
theorem dX2_setting_13 : decode cX2_setting 13 = .ok (.goto 5, 3) := by decide +kernel
theorem dX2_setting_16 : decode cX2_setting 16 = .ok (.bipush (-5), 2) := by decide +kernel
theorem dX2_setting_18 : decode cX2_setting 18 = .ok (.ireturn, 1) := by decide +kernel
theorem dX2_changeSetting_0 : decode cX2_changeSetting 0 = .ok (.iload_n 1, 1) := by decide +kernel
theorem dX2_changeSetting_1 : decode cX2_changeSetting 1 = .ok (.invokestatic 132, 3) := by decide +kernel
theorem dX2_changeSetting_4 : decode cX2_changeSetting 4 = .ok (.ifCond .ne 5, 3) := by decide +kernel
theorem dX2_changeSetting_7 : decode cX2_changeSetting 7 = .ok (.iconst (-1), 1) := by decide +kernel
theorem dX2_changeSetting_8 : decode cX2_changeSetting 8 = .ok (.ireturn, 1) := by decide +kernel
theorem dX2_changeSetting_9 : decode cX2_changeSetting 9 = .ok (.iload_n 2, 1) := by decide +kernel
theorem dX2_changeSetting_10 : decode cX2_changeSetting 10 = .ok (.getstatic 135, 3) := by decide +kernel
theorem dX2_changeSetting_13 : decode cX2_changeSetting 13 = .ok (.iload_n 1, 1) := by decide +kernel
theorem dX2_changeSetting_14 : decode cX2_changeSetting 14 = .ok (.iaload, 1) := by decide +kernel
theorem dX2_changeSetting_15 : decode cX2_changeSetting 15 = .ok (.getstatic 138, 3) := by decide +kernel
theorem dX2_changeSetting_18 : decode cX2_changeSetting 18 = .ok (.iload_n 1, 1) := by decide +kernel
theorem dX2_changeSetting_19 : decode cX2_changeSetting 19 = .ok (.iaload, 1) := by decide +kernel
theorem dX2_changeSetting_20 : decode cX2_changeSetting 20 = .ok (.invokestatic 66, 3) := by decide +kernel
theorem dX2_changeSetting_23 : decode cX2_changeSetting 23 = .ok (.ifCond .ne 6, 3) := by decide +kernel
theorem dX2_changeSetting_26 : decode cX2_changeSetting 26 = .ok (.bipush (-2), 2) := by decide +kernel
theorem dX2_changeSetting_28 : decode cX2_changeSetting 28 = .ok (.ireturn, 1) := by decide +kernel
theorem dX2_changeSetting_29 : decode cX2_changeSetting 29 = .ok (.aload_n 0, 1) := by decide +kernel
theorem dX2_changeSetting_30 : decode cX2_changeSetting 30 = .ok (.getfield 21, 3) := by decide +kernel
theorem dX2_changeSetting_33 : decode cX2_changeSetting 33 = .ok (.iload_n 1, 1) := by decide +kernel
theorem dX2_changeSetting_34 : decode cX2_changeSetting 34 = .ok (.iaload, 1) := by decide +kernel
theorem dX2_changeSetting_35 : decode cX2_changeSetting 35 = .ok (.istore_n 3, 1) := by decide +kernel
theorem dX2_changeSetting_36 : decode cX2_changeSetting 36 = .ok (.iload_n 3, 1) := by decide +kernel
theorem dX2_changeSetting_37 : decode cX2_changeSetting 37 = .ok (.iload_n 2, 1) := by decide +kernel
theorem dX2_changeSetting_38 : decode cX2_changeSetting 38 = .ok (.if_icmp .ne 6, 3) := by decide +kernel
theorem dX2_changeSetting_41 : decode cX2_changeSetting 41 = .ok (.bipush (-5), 2) := by decide +kernel
theorem dX2_changeSetting_43 : decode cX2_changeSetting 43 = .ok (.ireturn, 1) := by decide +kernel
theorem dX2_changeSetting_44 : decode cX2_changeSetting 44 = .ok (.aload_n 0, 1) := by decide +kernel
theorem dX2_changeSetting_45 : decode cX2_changeSetting 45 = .ok (.getfield 21, 3) := by decide +kernel
theorem dX2_changeSetting_48 : decode cX2_changeSetting 48 = .ok (.iload_n 1, 1) := by decide +kernel
theorem dX2_changeSetting_49 : decode cX2_changeSetting 49 = .ok (.iload_n 2, 1) := by decide +kernel
theorem dX2_changeSetting_50 : decode cX2_changeSetting 50 = .ok (.iastore, 1) := by decide +kernel
theorem dX2_changeSetting_51 : decode cX2_changeSetting 51 = .ok (.iload_n 3, 1) := by decide +kernel
theorem dX2_changeSetting_52 : decode cX2_changeSetting 52 = .ok (.ireturn, 1) := by decide +kernel
theorem dX2_liftsLeft_0 : decode cX2_liftsLeft 0 = .ok (.iconst 0, 1) := by decide +kernel
theorem dX2_liftsLeft_1 : decode cX2_liftsLeft 1 = .ok (.aload_n 0, 1) := by decide +kernel
theorem dX2_liftsLeft_2 : decode cX2_liftsLeft 2 = .ok (.getfield 21, 3) := by decide +kernel
theorem dX2_liftsLeft_5 : decode cX2_liftsLeft 5 = .ok (.iconst 1, 1) := by decide +kernel
theorem dX2_liftsLeft_6 : decode cX2_liftsLeft 6 = .ok (.iaload, 1) := by decide +kernel
theorem dX2_liftsLeft_7 : decode cX2_liftsLeft 7 = .ok (.aload_n 0, 1) := by decide +kernel
theorem dX2_liftsLeft_8 : decode cX2_liftsLeft 8 = .ok (.getfield 28, 3) := by decide +kernel
theorem dX2_liftsLeft_11 : decode cX2_liftsLeft 11 = .ok (.isub, 1) := by decide +kernel
theorem dX2_liftsLeft_12 : decode cX2_liftsLeft 12 = .ok (.invokestatic 141, 3) := by decide +kernel
theorem dX2_liftsLeft_15 : decode cX2_liftsLeft 15 = .ok (.ireturn, 1) := by decide +kernel
theorem dX2_liftsSoFar_0 : decode cX2_liftsSoFar 0 = .ok (.aload_n 0, 1) := by decide +kernel
theorem dX2_liftsSoFar_1 : decode cX2_liftsSoFar 1 = .ok (.getfield 31, 3) := by decide +kernel
theorem dX2_liftsSoFar_4 : decode cX2_liftsSoFar 4 = .ok (.ireturn, 1) := by decide +kernel
theorem dX2_launchesSoFar_0 : decode cX2_launchesSoFar 0 = .ok (.aload_n 0, 1) := by decide +kernel
theorem dX2_launchesSoFar_1 : decode cX2_launchesSoFar 1 = .ok (.getfield 34, 3) := by decide +kernel
theorem dX2_launchesSoFar_4 : decode cX2_launchesSoFar 4 = .ok (.ireturn, 1) := by decide +kernel
theorem dX2_takeLift_0 : decode cX2_takeLift 0 = .ok (.aload_n 0, 1) := by decide +kernel
theorem dX2_takeLift_1 : decode cX2_takeLift 1 = .ok (.dup, 1) := by decide +kernel
theorem dX2_takeLift_2 : decode cX2_takeLift 2 = .ok (.getfield 28, 3) := by decide +kernel
theorem dX2_takeLift_5 : decode cX2_takeLift 5 = .ok (.iconst 1, 1) := by decide +kernel
theorem dX2_takeLift_6 : decode cX2_takeLift 6 = .ok (.iadd, 1) := by decide +kernel
theorem dX2_takeLift_7 : decode cX2_takeLift 7 = .ok (.putfield 28, 3) := by decide +kernel
theorem dX2_takeLift_10 : decode cX2_takeLift 10 = .ok (.aload_n 0, 1) := by decide +kernel
theorem dX2_takeLift_11 : decode cX2_takeLift 11 = .ok (.dup, 1) := by decide +kernel
theorem dX2_takeLift_12 : decode cX2_takeLift 12 = .ok (.getfield 31, 3) := by decide +kernel
theorem dX2_takeLift_15 : decode cX2_takeLift 15 = .ok (.iconst 1, 1) := by decide +kernel
theorem dX2_takeLift_16 : decode cX2_takeLift 16 = .ok (.iadd, 1) := by decide +kernel
theorem dX2_takeLift_17 : decode cX2_takeLift 17 = .ok (.putfield 31, 3) := by decide +kernel
theorem dX2_takeLift_20 : decode cX2_takeLift 20 = .ok (.return_, 1) := by decide +kernel
theorem dX2_craneBears_0 : decode cX2_craneBears 0 = .ok (.aload_n 0, 1) := by decide +kernel
theorem dX2_craneBears_1 : decode cX2_craneBears 1 = .ok (.iload_n 1, 1) := by decide +kernel
theorem dX2_craneBears_2 : decode cX2_craneBears 2 = .ok (.iconst 2, 1) := by decide +kernel
theorem dX2_craneBears_3 : decode cX2_craneBears 3 = .ok (.invokevirtual 47, 3) := by decide +kernel
theorem dX2_craneBears_6 : decode cX2_craneBears 6 = .ok (.aload_n 0, 1) := by decide +kernel
theorem dX2_craneBears_7 : decode cX2_craneBears 7 = .ok (.getfield 21, 3) := by decide +kernel
theorem dX2_craneBears_10 : decode cX2_craneBears 10 = .ok (.iconst 2, 1) := by decide +kernel
theorem dX2_craneBears_11 : decode cX2_craneBears 11 = .ok (.iaload, 1) := by decide +kernel
theorem dX2_craneBears_12 : decode cX2_craneBears 12 = .ok (.if_icmp .gt 7, 3) := by decide +kernel
theorem dX2_craneBears_15 : decode cX2_craneBears 15 = .ok (.iconst 1, 1) := by decide +kernel
theorem dX2_craneBears_16 : decode cX2_craneBears 16 = .ok (.goto 4, 3) := by decide +kernel
theorem dX2_craneBears_19 : decode cX2_craneBears 19 = .ok (.iconst 0, 1) := by decide +kernel
theorem dX2_craneBears_20 : decode cX2_craneBears 20 = .ok (.ireturn, 1) := by decide +kernel
theorem dX2_isDeepEnough_0 : decode cX2_isDeepEnough 0 = .ok (.aload_n 0, 1) := by decide +kernel
theorem dX2_isDeepEnough_1 : decode cX2_isDeepEnough 1 = .ok (.iload_n 1, 1) := by decide +kernel
theorem dX2_isDeepEnough_2 : decode cX2_isDeepEnough 2 = .ok (.iconst 1, 1) := by decide +kernel
theorem dX2_isDeepEnough_3 : decode cX2_isDeepEnough 3 = .ok (.invokevirtual 47, 3) := by decide +kernel
theorem dX2_isDeepEnough_6 : decode cX2_isDeepEnough 6 = .ok (.aload_n 0, 1) := by decide +kernel
theorem dX2_isDeepEnough_7 : decode cX2_isDeepEnough 7 = .ok (.iload_n 2, 1) := by decide +kernel
theorem dX2_isDeepEnough_8 : decode cX2_isDeepEnough 8 = .ok (.invokevirtual 146, 3) := by decide +kernel
theorem dX2_isDeepEnough_11 : decode cX2_isDeepEnough 11 = .ok (.if_icmp .gt 7, 3) := by decide +kernel
theorem dX2_isDeepEnough_14 : decode cX2_isDeepEnough 14 = .ok (.iconst 1, 1) := by decide +kernel
theorem dX2_isDeepEnough_15 : decode cX2_isDeepEnough 15 = .ok (.goto 4, 3) := by decide +kernel
theorem dX2_isDeepEnough_18 : decode cX2_isDeepEnough 18 = .ok (.iconst 0, 1) := by decide +kernel
theorem dX2_isDeepEnough_19 : decode cX2_isDeepEnough 19 = .ok (.ireturn, 1) := by decide +kernel
theorem dX2_whyNoLift_0 : decode cX2_whyNoLift 0 = .ok (.aload_n 0, 1) := by decide +kernel
theorem dX2_whyNoLift_1 : decode cX2_whyNoLift 1 = .ok (.iload_n 1, 1) := by decide +kernel
theorem dX2_whyNoLift_2 : decode cX2_whyNoLift 2 = .ok (.invokevirtual 80, 3) := by decide +kernel
theorem dX2_whyNoLift_5 : decode cX2_whyNoLift 5 = .ok (.ifCond .eq 5, 3) := by decide +kernel
theorem dX2_whyNoLift_8 : decode cX2_whyNoLift 8 = .ok (.iconst 1, 1) := by decide +kernel
theorem dX2_whyNoLift_9 : decode cX2_whyNoLift 9 = .ok (.ireturn, 1) := by decide +kernel
theorem dX2_whyNoLift_10 : decode cX2_whyNoLift 10 = .ok (.aload_n 0, 1) := by decide +kernel
theorem dX2_whyNoLift_11 : decode cX2_whyNoLift 11 = .ok (.iload_n 1, 1) := by decide +kernel
theorem dX2_whyNoLift_12 : decode cX2_whyNoLift 12 = .ok (.aload_n 0, 1) := by decide +kernel
theorem dX2_whyNoLift_13 : decode cX2_whyNoLift 13 = .ok (.getfield 24, 3) := by decide +kernel
theorem dX2_whyNoLift_16 : decode cX2_whyNoLift 16 = .ok (.invokevirtual 149, 3) := by decide +kernel
theorem dX2_whyNoLift_19 : decode cX2_whyNoLift 19 = .ok (.ifCond .ne 5, 3) := by decide +kernel
theorem dX2_whyNoLift_22 : decode cX2_whyNoLift 22 = .ok (.iconst 2, 1) := by decide +kernel
theorem dX2_whyNoLift_23 : decode cX2_whyNoLift 23 = .ok (.ireturn, 1) := by decide +kernel
theorem dX2_whyNoLift_24 : decode cX2_whyNoLift 24 = .ok (.aload_n 0, 1) := by decide +kernel
theorem dX2_whyNoLift_25 : decode cX2_whyNoLift 25 = .ok (.iload_n 1, 1) := by decide +kernel
theorem dX2_whyNoLift_26 : decode cX2_whyNoLift 26 = .ok (.invokevirtual 152, 3) := by decide +kernel
theorem dX2_whyNoLift_29 : decode cX2_whyNoLift 29 = .ok (.ifCond .ne 5, 3) := by decide +kernel
theorem dX2_whyNoLift_32 : decode cX2_whyNoLift 32 = .ok (.iconst 3, 1) := by decide +kernel
theorem dX2_whyNoLift_33 : decode cX2_whyNoLift 33 = .ok (.ireturn, 1) := by decide +kernel
theorem dX2_whyNoLift_34 : decode cX2_whyNoLift 34 = .ok (.aload_n 0, 1) := by decide +kernel
theorem dX2_whyNoLift_35 : decode cX2_whyNoLift 35 = .ok (.iload_n 1, 1) := by decide +kernel
theorem dX2_whyNoLift_36 : decode cX2_whyNoLift 36 = .ok (.invokevirtual 155, 3) := by decide +kernel
theorem dX2_whyNoLift_39 : decode cX2_whyNoLift 39 = .ok (.bipush (-5), 2) := by decide +kernel
theorem dX2_whyNoLift_41 : decode cX2_whyNoLift 41 = .ok (.if_icmp .ne 5, 3) := by decide +kernel
theorem dX2_whyNoLift_44 : decode cX2_whyNoLift 44 = .ok (.iconst 4, 1) := by decide +kernel
theorem dX2_whyNoLift_45 : decode cX2_whyNoLift 45 = .ok (.ireturn, 1) := by decide +kernel
theorem dX2_whyNoLift_46 : decode cX2_whyNoLift 46 = .ok (.aload_n 0, 1) := by decide +kernel
theorem dX2_whyNoLift_47 : decode cX2_whyNoLift 47 = .ok (.iload_n 2, 1) := by decide +kernel
theorem dX2_whyNoLift_48 : decode cX2_whyNoLift 48 = .ok (.iload_n 1, 1) := by decide +kernel
theorem dX2_whyNoLift_49 : decode cX2_whyNoLift 49 = .ok (.invokevirtual 129, 3) := by decide +kernel
theorem dX2_whyNoLift_52 : decode cX2_whyNoLift 52 = .ok (.ifCond .ne 5, 3) := by decide +kernel
theorem dX2_whyNoLift_55 : decode cX2_whyNoLift 55 = .ok (.iconst 5, 1) := by decide +kernel
theorem dX2_whyNoLift_56 : decode cX2_whyNoLift 56 = .ok (.ireturn, 1) := by decide +kernel
theorem dX2_whyNoLift_57 : decode cX2_whyNoLift 57 = .ok (.aload_n 0, 1) := by decide +kernel
theorem dX2_whyNoLift_58 : decode cX2_whyNoLift 58 = .ok (.iload_n 1, 1) := by decide +kernel
theorem dX2_whyNoLift_59 : decode cX2_whyNoLift 59 = .ok (.invokevirtual 83, 3) := by decide +kernel
theorem dX2_whyNoLift_62 : decode cX2_whyNoLift 62 = .ok (.ifCond .eq 17, 3) := by decide +kernel
theorem dX2_whyNoLift_65 : decode cX2_whyNoLift 65 = .ok (.aload_n 0, 1) := by decide +kernel
theorem dX2_whyNoLift_66 : decode cX2_whyNoLift 66 = .ok (.iload_n 1, 1) := by decide +kernel
theorem dX2_whyNoLift_67 : decode cX2_whyNoLift 67 = .ok (.iconst 0, 1) := by decide +kernel
theorem dX2_whyNoLift_68 : decode cX2_whyNoLift 68 = .ok (.invokevirtual 47, 3) := by decide +kernel
theorem dX2_whyNoLift_71 : decode cX2_whyNoLift 71 = .ok (.bipush 10, 2) := by decide +kernel
theorem dX2_whyNoLift_73 : decode cX2_whyNoLift 73 = .ok (.if_icmp .lt 6, 3) := by decide +kernel
theorem dX2_whyNoLift_76 : decode cX2_whyNoLift 76 = .ok (.bipush 6, 2) := by decide +kernel
theorem dX2_whyNoLift_78 : decode cX2_whyNoLift 78 = .ok (.ireturn, 1) := by decide +kernel
theorem dX2_whyNoLift_79 : decode cX2_whyNoLift 79 = .ok (.aload_n 0, 1) := by decide +kernel
theorem dX2_whyNoLift_80 : decode cX2_whyNoLift 80 = .ok (.invokevirtual 158, 3) := by decide +kernel
theorem dX2_whyNoLift_83 : decode cX2_whyNoLift 83 = .ok (.ifCond .le 7, 3) := by decide +kernel
theorem dX2_whyNoLift_86 : decode cX2_whyNoLift 86 = .ok (.iconst 0, 1) := by decide +kernel
theorem dX2_whyNoLift_87 : decode cX2_whyNoLift 87 = .ok (.goto 5, 3) := by decide +kernel
theorem dX2_whyNoLift_90 : decode cX2_whyNoLift 90 = .ok (.bipush 7, 2) := by decide +kernel
theorem dX2_whyNoLift_92 : decode cX2_whyNoLift 92 = .ok (.ireturn, 1) := by decide +kernel
theorem dX2_liftInto_0 : decode cX2_liftInto 0 = .ok (.aload_n 0, 1) := by decide +kernel
theorem dX2_liftInto_1 : decode cX2_liftInto 1 = .ok (.iload_n 1, 1) := by decide +kernel
theorem dX2_liftInto_2 : decode cX2_liftInto 2 = .ok (.invokevirtual 77, 3) := by decide +kernel
theorem dX2_liftInto_5 : decode cX2_liftInto 5 = .ok (.ifCond .eq 10, 3) := by decide +kernel
theorem dX2_liftInto_8 : decode cX2_liftInto 8 = .ok (.iload_n 2, 1) := by decide +kernel
theorem dX2_liftInto_9 : decode cX2_liftInto 9 = .ok (.invokestatic 111, 3) := by decide +kernel
theorem dX2_liftInto_12 : decode cX2_liftInto 12 = .ok (.ifCond .ne 5, 3) := by decide +kernel
theorem dX2_liftInto_15 : decode cX2_liftInto 15 = .ok (.iconst (-1), 1) := by decide +kernel
theorem dX2_liftInto_16 : decode cX2_liftInto 16 = .ok (.ireturn, 1) := by decide +kernel
theorem dX2_liftInto_17 : decode cX2_liftInto 17 = .ok (.aload_n 0, 1) := by decide +kernel
theorem dX2_liftInto_18 : decode cX2_liftInto 18 = .ok (.iload_n 1, 1) := by decide +kernel
theorem dX2_liftInto_19 : decode cX2_liftInto 19 = .ok (.iload_n 2, 1) := by decide +kernel
theorem dX2_liftInto_20 : decode cX2_liftInto 20 = .ok (.invokevirtual 161, 3) := by decide +kernel
theorem dX2_liftInto_23 : decode cX2_liftInto 23 = .ok (.istore_n 3, 1) := by decide +kernel
theorem dX2_liftInto_24 : decode cX2_liftInto 24 = .ok (.iload_n 3, 1) := by decide +kernel
theorem dX2_liftInto_25 : decode cX2_liftInto 25 = .ok (.ifCond .eq 8, 3) := by decide +kernel
theorem dX2_liftInto_28 : decode cX2_liftInto 28 = .ok (.bipush (-10), 2) := by decide +kernel
theorem dX2_liftInto_30 : decode cX2_liftInto 30 = .ok (.iload_n 3, 1) := by decide +kernel
theorem dX2_liftInto_31 : decode cX2_liftInto 31 = .ok (.isub, 1) := by decide +kernel
theorem dX2_liftInto_32 : decode cX2_liftInto 32 = .ok (.ireturn, 1) := by decide +kernel
theorem dX2_liftInto_33 : decode cX2_liftInto 33 = .ok (.aload_n 0, 1) := by decide +kernel
theorem dX2_liftInto_34 : decode cX2_liftInto 34 = .ok (.iload_n 1, 1) := by decide +kernel
theorem dX2_liftInto_35 : decode cX2_liftInto 35 = .ok (.bipush 6, 2) := by decide +kernel
theorem dX2_liftInto_37 : decode cX2_liftInto 37 = .ok (.aload_n 0, 1) := by decide +kernel
theorem dX2_liftInto_38 : decode cX2_liftInto 38 = .ok (.iload_n 1, 1) := by decide +kernel
theorem dX2_liftInto_39 : decode cX2_liftInto 39 = .ok (.invokevirtual 155, 3) := by decide +kernel
theorem dX2_liftInto_42 : decode cX2_liftInto 42 = .ok (.invokevirtual 59, 3) := by decide +kernel
theorem dX2_liftInto_45 : decode cX2_liftInto 45 = .ok (.aload_n 0, 1) := by decide +kernel
theorem dX2_liftInto_46 : decode cX2_liftInto 46 = .ok (.iload_n 1, 1) := by decide +kernel
theorem dX2_liftInto_47 : decode cX2_liftInto 47 = .ok (.iload_n 2, 1) := by decide +kernel
theorem dX2_liftInto_48 : decode cX2_liftInto 48 = .ok (.invokevirtual 164, 3) := by decide +kernel
theorem dX2_liftInto_51 : decode cX2_liftInto 51 = .ok (.aload_n 0, 1) := by decide +kernel
theorem dX2_liftInto_52 : decode cX2_liftInto 52 = .ok (.iload_n 1, 1) := by decide +kernel
theorem dX2_liftInto_53 : decode cX2_liftInto 53 = .ok (.bipush 10, 2) := by decide +kernel
theorem dX2_liftInto_55 : decode cX2_liftInto 55 = .ok (.aload_n 0, 1) := by decide +kernel
theorem dX2_liftInto_56 : decode cX2_liftInto 56 = .ok (.iload_n 1, 1) := by decide +kernel
theorem dX2_liftInto_57 : decode cX2_liftInto 57 = .ok (.bipush 10, 2) := by decide +kernel
theorem dX2_liftInto_59 : decode cX2_liftInto 59 = .ok (.invokevirtual 47, 3) := by decide +kernel
theorem dX2_liftInto_62 : decode cX2_liftInto 62 = .ok (.iconst 1, 1) := by decide +kernel
theorem dX2_liftInto_63 : decode cX2_liftInto 63 = .ok (.iadd, 1) := by decide +kernel
theorem dX2_liftInto_64 : decode cX2_liftInto 64 = .ok (.invokevirtual 59, 3) := by decide +kernel
theorem dX2_liftInto_67 : decode cX2_liftInto 67 = .ok (.aload_n 0, 1) := by decide +kernel
theorem dX2_liftInto_68 : decode cX2_liftInto 68 = .ok (.invokevirtual 168, 3) := by decide +kernel
theorem dX2_liftInto_71 : decode cX2_liftInto 71 = .ok (.aload_n 0, 1) := by decide +kernel
theorem dX2_liftInto_72 : decode cX2_liftInto 72 = .ok (.iload_n 2, 1) := by decide +kernel
theorem dX2_liftInto_73 : decode cX2_liftInto 73 = .ok (.invokevirtual 126, 3) := by decide +kernel
theorem dX2_liftInto_76 : decode cX2_liftInto 76 = .ok (.ireturn, 1) := by decide +kernel
theorem dX2_whyNoLaunch_0 : decode cX2_whyNoLaunch 0 = .ok (.aload_n 0, 1) := by decide +kernel
theorem dX2_whyNoLaunch_1 : decode cX2_whyNoLaunch 1 = .ok (.iload_n 1, 1) := by decide +kernel
theorem dX2_whyNoLaunch_2 : decode cX2_whyNoLaunch 2 = .ok (.invokevirtual 80, 3) := by decide +kernel
theorem dX2_whyNoLaunch_5 : decode cX2_whyNoLaunch 5 = .ok (.ifCond .ne 5, 3) := by decide +kernel
theorem dX2_whyNoLaunch_8 : decode cX2_whyNoLaunch 8 = .ok (.iconst 1, 1) := by decide +kernel
theorem dX2_whyNoLaunch_9 : decode cX2_whyNoLaunch 9 = .ok (.ireturn, 1) := by decide +kernel
theorem dX2_whyNoLaunch_10 : decode cX2_whyNoLaunch 10 = .ok (.aload_n 0, 1) := by decide +kernel
theorem dX2_whyNoLaunch_11 : decode cX2_whyNoLaunch 11 = .ok (.iload_n 1, 1) := by decide +kernel
theorem dX2_whyNoLaunch_12 : decode cX2_whyNoLaunch 12 = .ok (.bipush 8, 2) := by decide +kernel
theorem dX2_whyNoLaunch_14 : decode cX2_whyNoLaunch 14 = .ok (.invokevirtual 47, 3) := by decide +kernel
theorem dX2_whyNoLaunch_17 : decode cX2_whyNoLaunch 17 = .ok (.ifCond .le 5, 3) := by decide +kernel
theorem dX2_whyNoLaunch_20 : decode cX2_whyNoLaunch 20 = .ok (.iconst 2, 1) := by decide +kernel
theorem dX2_whyNoLaunch_21 : decode cX2_whyNoLaunch 21 = .ok (.ireturn, 1) := by decide +kernel
theorem dX2_whyNoLaunch_22 : decode cX2_whyNoLaunch 22 = .ok (.aload_n 0, 1) := by decide +kernel
theorem dX2_whyNoLaunch_23 : decode cX2_whyNoLaunch 23 = .ok (.iload_n 1, 1) := by decide +kernel
theorem dX2_whyNoLaunch_24 : decode cX2_whyNoLaunch 24 = .ok (.invokevirtual 171, 3) := by decide +kernel
theorem dX2_whyNoLaunch_27 : decode cX2_whyNoLaunch 27 = .ok (.ifCond .le 5, 3) := by decide +kernel
theorem dX2_whyNoLaunch_30 : decode cX2_whyNoLaunch 30 = .ok (.iconst 3, 1) := by decide +kernel
theorem dX2_whyNoLaunch_31 : decode cX2_whyNoLaunch 31 = .ok (.ireturn, 1) := by decide +kernel
theorem dX2_whyNoLaunch_32 : decode cX2_whyNoLaunch 32 = .ok (.aload_n 0, 1) := by decide +kernel
theorem dX2_whyNoLaunch_33 : decode cX2_whyNoLaunch 33 = .ok (.iload_n 1, 1) := by decide +kernel
theorem dX2_whyNoLaunch_34 : decode cX2_whyNoLaunch 34 = .ok (.aload_n 0, 1) := by decide +kernel
theorem dX2_whyNoLaunch_35 : decode cX2_whyNoLaunch 35 = .ok (.getfield 24, 3) := by decide +kernel
theorem dX2_whyNoLaunch_38 : decode cX2_whyNoLaunch 38 = .ok (.invokevirtual 149, 3) := by decide +kernel
theorem dX2_whyNoLaunch_41 : decode cX2_whyNoLaunch 41 = .ok (.ifCond .ne 5, 3) := by decide +kernel
theorem dX2_whyNoLaunch_44 : decode cX2_whyNoLaunch 44 = .ok (.iconst 4, 1) := by decide +kernel
theorem dX2_whyNoLaunch_45 : decode cX2_whyNoLaunch 45 = .ok (.ireturn, 1) := by decide +kernel
theorem dX2_whyNoLaunch_46 : decode cX2_whyNoLaunch 46 = .ok (.aload_n 0, 1) := by decide +kernel
theorem dX2_whyNoLaunch_47 : decode cX2_whyNoLaunch 47 = .ok (.iload_n 1, 1) := by decide +kernel
theorem dX2_whyNoLaunch_48 : decode cX2_whyNoLaunch 48 = .ok (.invokevirtual 152, 3) := by decide +kernel
theorem dX2_whyNoLaunch_51 : decode cX2_whyNoLaunch 51 = .ok (.ifCond .ne 5, 3) := by decide +kernel
theorem dX2_whyNoLaunch_54 : decode cX2_whyNoLaunch 54 = .ok (.iconst 5, 1) := by decide +kernel
theorem dX2_whyNoLaunch_55 : decode cX2_whyNoLaunch 55 = .ok (.ireturn, 1) := by decide +kernel
theorem dX2_whyNoLaunch_56 : decode cX2_whyNoLaunch 56 = .ok (.aload_n 0, 1) := by decide +kernel
theorem dX2_whyNoLaunch_57 : decode cX2_whyNoLaunch 57 = .ok (.invokevirtual 158, 3) := by decide +kernel
theorem dX2_whyNoLaunch_60 : decode cX2_whyNoLaunch 60 = .ok (.ifCond .le 7, 3) := by decide +kernel
theorem dX2_whyNoLaunch_63 : decode cX2_whyNoLaunch 63 = .ok (.iconst 0, 1) := by decide +kernel
theorem dX2_whyNoLaunch_64 : decode cX2_whyNoLaunch 64 = .ok (.goto 5, 3) := by decide +kernel
theorem dX2_whyNoLaunch_67 : decode cX2_whyNoLaunch 67 = .ok (.bipush 6, 2) := by decide +kernel
theorem dX2_whyNoLaunch_69 : decode cX2_whyNoLaunch 69 = .ok (.ireturn, 1) := by decide +kernel
theorem dX2_putAfloat_0 : decode cX2_putAfloat 0 = .ok (.aload_n 0, 1) := by decide +kernel
theorem dX2_putAfloat_1 : decode cX2_putAfloat 1 = .ok (.iload_n 1, 1) := by decide +kernel
theorem dX2_putAfloat_2 : decode cX2_putAfloat 2 = .ok (.invokevirtual 77, 3) := by decide +kernel
theorem dX2_putAfloat_5 : decode cX2_putAfloat 5 = .ok (.ifCond .ne 5, 3) := by decide +kernel
theorem dX2_putAfloat_8 : decode cX2_putAfloat 8 = .ok (.iconst (-1), 1) := by decide +kernel
theorem dX2_putAfloat_9 : decode cX2_putAfloat 9 = .ok (.ireturn, 1) := by decide +kernel
theorem dX2_putAfloat_10 : decode cX2_putAfloat 10 = .ok (.aload_n 0, 1) := by decide +kernel
theorem dX2_putAfloat_11 : decode cX2_putAfloat 11 = .ok (.iload_n 1, 1) := by decide +kernel
theorem dX2_putAfloat_12 : decode cX2_putAfloat 12 = .ok (.invokevirtual 174, 3) := by decide +kernel
theorem dX2_putAfloat_15 : decode cX2_putAfloat 15 = .ok (.istore_n 2, 1) := by decide +kernel
theorem dX2_putAfloat_16 : decode cX2_putAfloat 16 = .ok (.iload_n 2, 1) := by decide +kernel
theorem dX2_putAfloat_17 : decode cX2_putAfloat 17 = .ok (.ifCond .eq 8, 3) := by decide +kernel
theorem dX2_putAfloat_20 : decode cX2_putAfloat 20 = .ok (.bipush (-10), 2) := by decide +kernel
theorem dX2_putAfloat_22 : decode cX2_putAfloat 22 = .ok (.iload_n 2, 1) := by decide +kernel
theorem dX2_putAfloat_23 : decode cX2_putAfloat 23 = .ok (.isub, 1) := by decide +kernel
theorem dX2_putAfloat_24 : decode cX2_putAfloat 24 = .ok (.ireturn, 1) := by decide +kernel
theorem dX2_putAfloat_25 : decode cX2_putAfloat 25 = .ok (.aload_n 0, 1) := by decide +kernel
theorem dX2_putAfloat_26 : decode cX2_putAfloat 26 = .ok (.iload_n 1, 1) := by decide +kernel
theorem dX2_putAfloat_27 : decode cX2_putAfloat 27 = .ok (.bipush 9, 2) := by decide +kernel
theorem dX2_putAfloat_29 : decode cX2_putAfloat 29 = .ok (.invokevirtual 47, 3) := by decide +kernel
theorem dX2_putAfloat_32 : decode cX2_putAfloat 32 = .ok (.istore_n 3, 1) := by decide +kernel
theorem dX2_putAfloat_33 : decode cX2_putAfloat 33 = .ok (.aload_n 0, 1) := by decide +kernel
theorem dX2_putAfloat_34 : decode cX2_putAfloat 34 = .ok (.iload_n 1, 1) := by decide +kernel
theorem dX2_putAfloat_35 : decode cX2_putAfloat 35 = .ok (.invokevirtual 74, 3) := by decide +kernel
theorem dX2_putAfloat_38 : decode cX2_putAfloat 38 = .ok (.aload_n 0, 1) := by decide +kernel
theorem dX2_putAfloat_39 : decode cX2_putAfloat 39 = .ok (.invokevirtual 168, 3) := by decide +kernel
theorem dX2_putAfloat_42 : decode cX2_putAfloat 42 = .ok (.aload_n 0, 1) := by decide +kernel
theorem dX2_putAfloat_43 : decode cX2_putAfloat 43 = .ok (.dup, 1) := by decide +kernel
theorem dX2_putAfloat_44 : decode cX2_putAfloat 44 = .ok (.getfield 34, 3) := by decide +kernel
theorem dX2_putAfloat_47 : decode cX2_putAfloat 47 = .ok (.iconst 1, 1) := by decide +kernel
theorem dX2_putAfloat_48 : decode cX2_putAfloat 48 = .ok (.iadd, 1) := by decide +kernel
theorem dX2_putAfloat_49 : decode cX2_putAfloat 49 = .ok (.putfield 34, 3) := by decide +kernel
theorem dX2_putAfloat_52 : decode cX2_putAfloat 52 = .ok (.iload_n 3, 1) := by decide +kernel
theorem dX2_putAfloat_53 : decode cX2_putAfloat 53 = .ok (.ireturn, 1) := by decide +kernel
theorem dX2_firstLaunchDay_0 : decode cX2_firstLaunchDay 0 = .ok (.aload_n 0, 1) := by decide +kernel
theorem dX2_firstLaunchDay_1 : decode cX2_firstLaunchDay 1 = .ok (.iload_n 1, 1) := by decide +kernel
theorem dX2_firstLaunchDay_2 : decode cX2_firstLaunchDay 2 = .ok (.invokevirtual 152, 3) := by decide +kernel
theorem dX2_firstLaunchDay_5 : decode cX2_firstLaunchDay 5 = .ok (.ifCond .ne 6, 3) := by decide +kernel
theorem dX2_firstLaunchDay_8 : decode cX2_firstLaunchDay 8 = .ok (.bipush (-5), 2) := by decide +kernel
theorem dX2_firstLaunchDay_10 : decode cX2_firstLaunchDay 10 = .ok (.ireturn, 1) := by decide +kernel
theorem dX2_firstLaunchDay_11 : decode cX2_firstLaunchDay 11 = .ok (.aload_n 0, 1) := by decide +kernel
theorem dX2_firstLaunchDay_12 : decode cX2_firstLaunchDay 12 = .ok (.iload_n 1, 1) := by decide +kernel
theorem dX2_firstLaunchDay_13 : decode cX2_firstLaunchDay 13 = .ok (.bipush 8, 2) := by decide +kernel
theorem dX2_firstLaunchDay_15 : decode cX2_firstLaunchDay 15 = .ok (.invokevirtual 47, 3) := by decide +kernel
theorem dX2_firstLaunchDay_18 : decode cX2_firstLaunchDay 18 = .ok (.istore_n 2, 1) := by decide +kernel
theorem dX2_firstLaunchDay_19 : decode cX2_firstLaunchDay 19 = .ok (.iload_n 2, 1) := by decide +kernel
theorem dX2_firstLaunchDay_20 : decode cX2_firstLaunchDay 20 = .ok (.sipush 200, 3) := by decide +kernel
theorem dX2_firstLaunchDay_23 : decode cX2_firstLaunchDay 23 = .ok (.if_icmp .gt 51, 3) := by decide +kernel
theorem dX2_firstLaunchDay_26 : decode cX2_firstLaunchDay 26 = .ok (.iload_n 2, 1) := by decide +kernel
theorem dX2_firstLaunchDay_27 : decode cX2_firstLaunchDay 27 = .ok (.ifCond .gt 10, 3) := by decide +kernel
theorem dX2_firstLaunchDay_30 : decode cX2_firstLaunchDay 30 = .ok (.aload_n 0, 1) := by decide +kernel
theorem dX2_firstLaunchDay_31 : decode cX2_firstLaunchDay 31 = .ok (.invokevirtual 158, 3) := by decide +kernel
theorem dX2_firstLaunchDay_34 : decode cX2_firstLaunchDay 34 = .ok (.ifCond .le 7, 3) := by decide +kernel
theorem dX2_firstLaunchDay_37 : decode cX2_firstLaunchDay 37 = .ok (.iconst 1, 1) := by decide +kernel
theorem dX2_firstLaunchDay_38 : decode cX2_firstLaunchDay 38 = .ok (.goto 4, 3) := by decide +kernel
theorem dX2_firstLaunchDay_41 : decode cX2_firstLaunchDay 41 = .ok (.iconst 0, 1) := by decide +kernel
theorem dX2_firstLaunchDay_42 : decode cX2_firstLaunchDay 42 = .ok (.istore_n 3, 1) := by decide +kernel
theorem dX2_firstLaunchDay_43 : decode cX2_firstLaunchDay 43 = .ok (.iload_n 3, 1) := by decide +kernel
theorem dX2_firstLaunchDay_44 : decode cX2_firstLaunchDay 44 = .ok (.ifCond .eq 24, 3) := by decide +kernel
theorem dX2_firstLaunchDay_47 : decode cX2_firstLaunchDay 47 = .ok (.aload_n 0, 1) := by decide +kernel
theorem dX2_firstLaunchDay_48 : decode cX2_firstLaunchDay 48 = .ok (.iload_n 1, 1) := by decide +kernel
theorem dX2_firstLaunchDay_49 : decode cX2_firstLaunchDay 49 = .ok (.aload_n 0, 1) := by decide +kernel
theorem dX2_firstLaunchDay_50 : decode cX2_firstLaunchDay 50 = .ok (.getfield 24, 3) := by decide +kernel
theorem dX2_firstLaunchDay_53 : decode cX2_firstLaunchDay 53 = .ok (.iload_n 2, 1) := by decide +kernel
theorem dX2_firstLaunchDay_54 : decode cX2_firstLaunchDay 54 = .ok (.iadd, 1) := by decide +kernel
theorem dX2_firstLaunchDay_55 : decode cX2_firstLaunchDay 55 = .ok (.invokevirtual 149, 3) := by decide +kernel
theorem dX2_firstLaunchDay_58 : decode cX2_firstLaunchDay 58 = .ok (.ifCond .eq 10, 3) := by decide +kernel
theorem dX2_firstLaunchDay_61 : decode cX2_firstLaunchDay 61 = .ok (.aload_n 0, 1) := by decide +kernel
theorem dX2_firstLaunchDay_62 : decode cX2_firstLaunchDay 62 = .ok (.getfield 24, 3) := by decide +kernel
theorem dX2_firstLaunchDay_65 : decode cX2_firstLaunchDay 65 = .ok (.iload_n 2, 1) := by decide +kernel
theorem dX2_firstLaunchDay_66 : decode cX2_firstLaunchDay 66 = .ok (.iadd, 1) := by decide +kernel
theorem dX2_firstLaunchDay_67 : decode cX2_firstLaunchDay 67 = .ok (.ireturn, 1) := by decide +kernel
theorem dX2_firstLaunchDay_68 : decode cX2_firstLaunchDay 68 = .ok (.iinc 2 1, 3) := by decide +kernel
theorem dX2_firstLaunchDay_71 : decode cX2_firstLaunchDay 71 = .ok (.goto (-52), 3) := by decide +kernel
theorem dX2_firstLaunchDay_74 : decode cX2_firstLaunchDay 74 = .ok (.bipush (-5), 2) := by decide +kernel
theorem dX2_firstLaunchDay_76 : decode cX2_firstLaunchDay 76 = .ok (.ireturn, 1) := by decide +kernel
theorem dX2_moveTo_0 : decode cX2_moveTo 0 = .ok (.aload_n 0, 1) := by decide +kernel
theorem dX2_moveTo_1 : decode cX2_moveTo 1 = .ok (.iload_n 1, 1) := by decide +kernel
theorem dX2_moveTo_2 : decode cX2_moveTo 2 = .ok (.invokevirtual 77, 3) := by decide +kernel
theorem dX2_moveTo_5 : decode cX2_moveTo 5 = .ok (.ifCond .eq 10, 3) := by decide +kernel
theorem dX2_moveTo_8 : decode cX2_moveTo 8 = .ok (.iload_n 2, 1) := by decide +kernel
theorem dX2_moveTo_9 : decode cX2_moveTo 9 = .ok (.invokestatic 111, 3) := by decide +kernel
theorem dX2_moveTo_12 : decode cX2_moveTo 12 = .ok (.ifCond .ne 5, 3) := by decide +kernel
theorem dX2_moveTo_15 : decode cX2_moveTo 15 = .ok (.iconst (-1), 1) := by decide +kernel
theorem dX2_moveTo_16 : decode cX2_moveTo 16 = .ok (.ireturn, 1) := by decide +kernel
theorem dX2_moveTo_17 : decode cX2_moveTo 17 = .ok (.aload_n 0, 1) := by decide +kernel
theorem dX2_moveTo_18 : decode cX2_moveTo 18 = .ok (.iload_n 1, 1) := by decide +kernel
theorem dX2_moveTo_19 : decode cX2_moveTo 19 = .ok (.invokevirtual 80, 3) := by decide +kernel
theorem dX2_moveTo_22 : decode cX2_moveTo 22 = .ok (.ifCond .eq 20, 3) := by decide +kernel
theorem dX2_moveTo_25 : decode cX2_moveTo 25 = .ok (.aload_n 0, 1) := by decide +kernel
theorem dX2_moveTo_26 : decode cX2_moveTo 26 = .ok (.iload_n 1, 1) := by decide +kernel
theorem dX2_moveTo_27 : decode cX2_moveTo 27 = .ok (.invokevirtual 171, 3) := by decide +kernel
theorem dX2_moveTo_30 : decode cX2_moveTo 30 = .ok (.ifCond .gt 12, 3) := by decide +kernel
theorem dX2_moveTo_33 : decode cX2_moveTo 33 = .ok (.aload_n 0, 1) := by decide +kernel
theorem dX2_moveTo_34 : decode cX2_moveTo 34 = .ok (.iload_n 1, 1) := by decide +kernel
theorem dX2_moveTo_35 : decode cX2_moveTo 35 = .ok (.iload_n 2, 1) := by decide +kernel
theorem dX2_moveTo_36 : decode cX2_moveTo 36 = .ok (.invokevirtual 123, 3) := by decide +kernel
theorem dX2_moveTo_39 : decode cX2_moveTo 39 = .ok (.ifCond .eq 6, 3) := by decide +kernel
theorem dX2_moveTo_42 : decode cX2_moveTo 42 = .ok (.bipush (-4), 2) := by decide +kernel
theorem dX2_moveTo_44 : decode cX2_moveTo 44 = .ok (.ireturn, 1) := by decide +kernel
theorem dX2_moveTo_45 : decode cX2_moveTo 45 = .ok (.aload_n 0, 1) := by decide +kernel
theorem dX2_moveTo_46 : decode cX2_moveTo 46 = .ok (.iload_n 2, 1) := by decide +kernel
theorem dX2_moveTo_47 : decode cX2_moveTo 47 = .ok (.iload_n 1, 1) := by decide +kernel
theorem dX2_moveTo_48 : decode cX2_moveTo 48 = .ok (.invokevirtual 129, 3) := by decide +kernel
theorem dX2_moveTo_51 : decode cX2_moveTo 51 = .ok (.ifCond .eq 10, 3) := by decide +kernel
theorem dX2_moveTo_54 : decode cX2_moveTo 54 = .ok (.aload_n 0, 1) := by decide +kernel
theorem dX2_moveTo_55 : decode cX2_moveTo 55 = .ok (.invokevirtual 158, 3) := by decide +kernel
theorem dX2_moveTo_58 : decode cX2_moveTo 58 = .ok (.ifCond .ne 6, 3) := by decide +kernel
theorem dX2_moveTo_61 : decode cX2_moveTo 61 = .ok (.bipush (-3), 2) := by decide +kernel
theorem dX2_moveTo_63 : decode cX2_moveTo 63 = .ok (.ireturn, 1) := by decide +kernel
theorem dX2_moveTo_64 : decode cX2_moveTo 64 = .ok (.aload_n 0, 1) := by decide +kernel
theorem dX2_moveTo_65 : decode cX2_moveTo 65 = .ok (.iload_n 1, 1) := by decide +kernel
theorem dX2_moveTo_66 : decode cX2_moveTo 66 = .ok (.iload_n 2, 1) := by decide +kernel
theorem dX2_moveTo_67 : decode cX2_moveTo 67 = .ok (.invokevirtual 164, 3) := by decide +kernel
theorem dX2_moveTo_70 : decode cX2_moveTo 70 = .ok (.aload_n 0, 1) := by decide +kernel
theorem dX2_moveTo_71 : decode cX2_moveTo 71 = .ok (.invokevirtual 168, 3) := by decide +kernel
theorem dX2_moveTo_74 : decode cX2_moveTo 74 = .ok (.aload_n 0, 1) := by decide +kernel
theorem dX2_moveTo_75 : decode cX2_moveTo 75 = .ok (.iload_n 2, 1) := by decide +kernel
theorem dX2_moveTo_76 : decode cX2_moveTo 76 = .ok (.invokevirtual 126, 3) := by decide +kernel
theorem dX2_moveTo_79 : decode cX2_moveTo 79 = .ok (.ireturn, 1) := by decide +kernel
theorem dX2_hasMast_0 : decode cX2_hasMast 0 = .ok (.aload_n 0, 1) := by decide +kernel
theorem dX2_hasMast_1 : decode cX2_hasMast 1 = .ok (.iload_n 1, 1) := by decide +kernel
theorem dX2_hasMast_2 : decode cX2_hasMast 2 = .ok (.bipush 7, 2) := by decide +kernel
theorem dX2_hasMast_4 : decode cX2_hasMast 4 = .ok (.invokevirtual 47, 3) := by decide +kernel
theorem dX2_hasMast_7 : decode cX2_hasMast 7 = .ok (.bipush (-5), 2) := by decide +kernel
theorem dX2_hasMast_9 : decode cX2_hasMast 9 = .ok (.if_icmp .ne 7, 3) := by decide +kernel
theorem dX2_hasMast_12 : decode cX2_hasMast 12 = .ok (.iconst 1, 1) := by decide +kernel
theorem dX2_hasMast_13 : decode cX2_hasMast 13 = .ok (.goto 4, 3) := by decide +kernel
theorem dX2_hasMast_16 : decode cX2_hasMast 16 = .ok (.iconst 0, 1) := by decide +kernel
theorem dX2_hasMast_17 : decode cX2_hasMast 17 = .ok (.ireturn, 1) := by decide +kernel
theorem dX2_mastsIn_0 : decode cX2_mastsIn 0 = .ok (.aload_n 0, 1) := by decide +kernel
theorem dX2_mastsIn_1 : decode cX2_mastsIn 1 = .ok (.bipush 7, 2) := by decide +kernel
theorem dX2_mastsIn_3 : decode cX2_mastsIn 3 = .ok (.iload_n 1, 1) := by decide +kernel
theorem dX2_mastsIn_4 : decode cX2_mastsIn 4 = .ok (.invokevirtual 89, 3) := by decide +kernel
theorem dX2_mastsIn_7 : decode cX2_mastsIn 7 = .ok (.ireturn, 1) := by decide +kernel
theorem dX2_rackFor_0 : decode cX2_rackFor 0 = .ok (.aload_n 0, 1) := by decide +kernel
theorem dX2_rackFor_1 : decode cX2_rackFor 1 = .ok (.iload_n 1, 1) := by decide +kernel
theorem dX2_rackFor_2 : decode cX2_rackFor 2 = .ok (.iconst 0, 1) := by decide +kernel
theorem dX2_rackFor_3 : decode cX2_rackFor 3 = .ok (.invokevirtual 47, 3) := by decide +kernel
theorem dX2_rackFor_6 : decode cX2_rackFor 6 = .ok (.bipush 12, 2) := by decide +kernel
theorem dX2_rackFor_8 : decode cX2_rackFor 8 = .ok (.if_icmp .gt 7, 3) := by decide +kernel
theorem dX2_rackFor_11 : decode cX2_rackFor 11 = .ok (.iconst 1, 1) := by decide +kernel
theorem dX2_rackFor_12 : decode cX2_rackFor 12 = .ok (.goto 4, 3) := by decide +kernel
theorem dX2_rackFor_15 : decode cX2_rackFor 15 = .ok (.iconst 0, 1) := by decide +kernel
theorem dX2_rackFor_16 : decode cX2_rackFor 16 = .ok (.istore_n 2, 1) := by decide +kernel
theorem dX2_rackFor_17 : decode cX2_rackFor 17 = .ok (.iload_n 2, 1) := by decide +kernel
theorem dX2_rackFor_18 : decode cX2_rackFor 18 = .ok (.ifCond .eq 15, 3) := by decide +kernel
theorem dX2_rackFor_21 : decode cX2_rackFor 21 = .ok (.aload_n 0, 1) := by decide +kernel
theorem dX2_rackFor_22 : decode cX2_rackFor 22 = .ok (.iconst 0, 1) := by decide +kernel
theorem dX2_rackFor_23 : decode cX2_rackFor 23 = .ok (.invokevirtual 177, 3) := by decide +kernel
theorem dX2_rackFor_26 : decode cX2_rackFor 26 = .ok (.bipush 6, 2) := by decide +kernel
theorem dX2_rackFor_28 : decode cX2_rackFor 28 = .ok (.if_icmp .ge 5, 3) := by decide +kernel
theorem dX2_rackFor_31 : decode cX2_rackFor 31 = .ok (.iconst 0, 1) := by decide +kernel
theorem dX2_rackFor_32 : decode cX2_rackFor 32 = .ok (.ireturn, 1) := by decide +kernel
theorem dX2_rackFor_33 : decode cX2_rackFor 33 = .ok (.aload_n 0, 1) := by decide +kernel
theorem dX2_rackFor_34 : decode cX2_rackFor 34 = .ok (.iconst 1, 1) := by decide +kernel
theorem dX2_rackFor_35 : decode cX2_rackFor 35 = .ok (.invokevirtual 177, 3) := by decide +kernel
theorem dX2_rackFor_38 : decode cX2_rackFor 38 = .ok (.bipush 6, 2) := by decide +kernel
theorem dX2_rackFor_40 : decode cX2_rackFor 40 = .ok (.if_icmp .ge 7, 3) := by decide +kernel
theorem dX2_rackFor_43 : decode cX2_rackFor 43 = .ok (.iconst 1, 1) := by decide +kernel
theorem dX2_rackFor_44 : decode cX2_rackFor 44 = .ok (.goto 5, 3) := by decide +kernel
theorem dX2_rackFor_47 : decode cX2_rackFor 47 = .ok (.bipush (-5), 2) := by decide +kernel
theorem dX2_rackFor_49 : decode cX2_rackFor 49 = .ok (.ireturn, 1) := by decide +kernel
theorem dX2_takeMastOff_0 : decode cX2_takeMastOff 0 = .ok (.aload_n 0, 1) := by decide +kernel
theorem dX2_takeMastOff_1 : decode cX2_takeMastOff 1 = .ok (.iload_n 1, 1) := by decide +kernel
theorem dX2_takeMastOff_2 : decode cX2_takeMastOff 2 = .ok (.invokevirtual 77, 3) := by decide +kernel
theorem dX2_takeMastOff_5 : decode cX2_takeMastOff 5 = .ok (.ifCond .ne 5, 3) := by decide +kernel
theorem dX2_takeMastOff_8 : decode cX2_takeMastOff 8 = .ok (.iconst (-1), 1) := by decide +kernel
theorem dX2_takeMastOff_9 : decode cX2_takeMastOff 9 = .ok (.ireturn, 1) := by decide +kernel
theorem dX2_takeMastOff_10 : decode cX2_takeMastOff 10 = .ok (.aload_n 0, 1) := by decide +kernel
theorem dX2_takeMastOff_11 : decode cX2_takeMastOff 11 = .ok (.iload_n 1, 1) := by decide +kernel
theorem dX2_takeMastOff_12 : decode cX2_takeMastOff 12 = .ok (.invokevirtual 80, 3) := by decide +kernel
theorem dX2_takeMastOff_15 : decode cX2_takeMastOff 15 = .ok (.ifCond .eq 6, 3) := by decide +kernel
theorem dX2_takeMastOff_18 : decode cX2_takeMastOff 18 = .ok (.bipush (-4), 2) := by decide +kernel
theorem dX2_takeMastOff_20 : decode cX2_takeMastOff 20 = .ok (.ireturn, 1) := by decide +kernel
theorem dX2_takeMastOff_21 : decode cX2_takeMastOff 21 = .ok (.aload_n 0, 1) := by decide +kernel
theorem dX2_takeMastOff_22 : decode cX2_takeMastOff 22 = .ok (.iload_n 1, 1) := by decide +kernel
theorem dX2_takeMastOff_23 : decode cX2_takeMastOff 23 = .ok (.invokevirtual 83, 3) := by decide +kernel
theorem dX2_takeMastOff_26 : decode cX2_takeMastOff 26 = .ok (.ifCond .ne 6, 3) := by decide +kernel
theorem dX2_takeMastOff_29 : decode cX2_takeMastOff 29 = .ok (.bipush (-5), 2) := by decide +kernel
theorem dX2_takeMastOff_31 : decode cX2_takeMastOff 31 = .ok (.ireturn, 1) := by decide +kernel
theorem dX2_takeMastOff_32 : decode cX2_takeMastOff 32 = .ok (.aload_n 0, 1) := by decide +kernel
theorem dX2_takeMastOff_33 : decode cX2_takeMastOff 33 = .ok (.iload_n 1, 1) := by decide +kernel
theorem dX2_takeMastOff_34 : decode cX2_takeMastOff 34 = .ok (.invokevirtual 180, 3) := by decide +kernel
theorem dX2_takeMastOff_37 : decode cX2_takeMastOff 37 = .ok (.istore_n 2, 1) := by decide +kernel
theorem dX2_takeMastOff_38 : decode cX2_takeMastOff 38 = .ok (.iload_n 2, 1) := by decide +kernel
theorem dX2_takeMastOff_39 : decode cX2_takeMastOff 39 = .ok (.bipush (-5), 2) := by decide +kernel
theorem dX2_takeMastOff_41 : decode cX2_takeMastOff 41 = .ok (.if_icmp .ne 6, 3) := by decide +kernel
theorem dX2_takeMastOff_44 : decode cX2_takeMastOff 44 = .ok (.bipush (-3), 2) := by decide +kernel
theorem dX2_takeMastOff_46 : decode cX2_takeMastOff 46 = .ok (.ireturn, 1) := by decide +kernel
theorem dX2_takeMastOff_47 : decode cX2_takeMastOff 47 = .ok (.aload_n 0, 1) := by decide +kernel
theorem dX2_takeMastOff_48 : decode cX2_takeMastOff 48 = .ok (.iload_n 1, 1) := by decide +kernel
theorem dX2_takeMastOff_49 : decode cX2_takeMastOff 49 = .ok (.bipush 7, 2) := by decide +kernel
theorem dX2_takeMastOff_51 : decode cX2_takeMastOff 51 = .ok (.iload_n 2, 1) := by decide +kernel
theorem dX2_takeMastOff_52 : decode cX2_takeMastOff 52 = .ok (.invokevirtual 59, 3) := by decide +kernel
theorem dX2_takeMastOff_55 : decode cX2_takeMastOff 55 = .ok (.iload_n 2, 1) := by decide +kernel
theorem dX2_takeMastOff_56 : decode cX2_takeMastOff 56 = .ok (.ireturn, 1) := by decide +kernel
theorem dX2_putMastUp_0 : decode cX2_putMastUp 0 = .ok (.aload_n 0, 1) := by decide +kernel
theorem dX2_putMastUp_1 : decode cX2_putMastUp 1 = .ok (.iload_n 1, 1) := by decide +kernel
theorem dX2_putMastUp_2 : decode cX2_putMastUp 2 = .ok (.invokevirtual 77, 3) := by decide +kernel
theorem dX2_putMastUp_5 : decode cX2_putMastUp 5 = .ok (.ifCond .ne 5, 3) := by decide +kernel
theorem dX2_putMastUp_8 : decode cX2_putMastUp 8 = .ok (.iconst (-1), 1) := by decide +kernel
theorem dX2_putMastUp_9 : decode cX2_putMastUp 9 = .ok (.ireturn, 1) := by decide +kernel
theorem dX2_putMastUp_10 : decode cX2_putMastUp 10 = .ok (.aload_n 0, 1) := by decide +kernel
theorem dX2_putMastUp_11 : decode cX2_putMastUp 11 = .ok (.iload_n 1, 1) := by decide +kernel
theorem dX2_putMastUp_12 : decode cX2_putMastUp 12 = .ok (.invokevirtual 80, 3) := by decide +kernel
theorem dX2_putMastUp_15 : decode cX2_putMastUp 15 = .ok (.ifCond .eq 6, 3) := by decide +kernel
theorem dX2_putMastUp_18 : decode cX2_putMastUp 18 = .ok (.bipush (-4), 2) := by decide +kernel
theorem dX2_putMastUp_20 : decode cX2_putMastUp 20 = .ok (.ireturn, 1) := by decide +kernel
theorem dX2_putMastUp_21 : decode cX2_putMastUp 21 = .ok (.aload_n 0, 1) := by decide +kernel
theorem dX2_putMastUp_22 : decode cX2_putMastUp 22 = .ok (.iload_n 1, 1) := by decide +kernel
theorem dX2_putMastUp_23 : decode cX2_putMastUp 23 = .ok (.bipush 7, 2) := by decide +kernel
theorem dX2_putMastUp_25 : decode cX2_putMastUp 25 = .ok (.invokevirtual 47, 3) := by decide +kernel
theorem dX2_putMastUp_28 : decode cX2_putMastUp 28 = .ok (.istore_n 2, 1) := by decide +kernel
theorem dX2_putMastUp_29 : decode cX2_putMastUp 29 = .ok (.aload_n 0, 1) := by decide +kernel
theorem dX2_putMastUp_30 : decode cX2_putMastUp 30 = .ok (.iload_n 1, 1) := by decide +kernel
theorem dX2_putMastUp_31 : decode cX2_putMastUp 31 = .ok (.bipush 7, 2) := by decide +kernel
theorem dX2_putMastUp_33 : decode cX2_putMastUp 33 = .ok (.bipush (-5), 2) := by decide +kernel
theorem dX2_putMastUp_35 : decode cX2_putMastUp 35 = .ok (.invokevirtual 59, 3) := by decide +kernel
theorem dX2_putMastUp_38 : decode cX2_putMastUp 38 = .ok (.iload_n 2, 1) := by decide +kernel
theorem dX2_putMastUp_39 : decode cX2_putMastUp 39 = .ok (.ireturn, 1) := by decide +kernel
theorem dX2_orderWork_0 : decode cX2_orderWork 0 = .ok (.aload_n 0, 1) := by decide +kernel
theorem dX2_orderWork_1 : decode cX2_orderWork 1 = .ok (.iload_n 1, 1) := by decide +kernel
theorem dX2_orderWork_2 : decode cX2_orderWork 2 = .ok (.invokevirtual 77, 3) := by decide +kernel
theorem dX2_orderWork_5 : decode cX2_orderWork 5 = .ok (.ifCond .ne 5, 3) := by decide +kernel
theorem dX2_orderWork_8 : decode cX2_orderWork 8 = .ok (.iconst (-1), 1) := by decide +kernel
theorem dX2_orderWork_9 : decode cX2_orderWork 9 = .ok (.ireturn, 1) := by decide +kernel
theorem dX2_orderWork_10 : decode cX2_orderWork 10 = .ok (.iload_n 2, 1) := by decide +kernel
theorem dX2_orderWork_11 : decode cX2_orderWork 11 = .ok (.iconst 1, 1) := by decide +kernel
theorem dX2_orderWork_12 : decode cX2_orderWork 12 = .ok (.bipush 99, 2) := by decide +kernel
theorem dX2_orderWork_14 : decode cX2_orderWork 14 = .ok (.invokestatic 66, 3) := by decide +kernel
theorem dX2_orderWork_17 : decode cX2_orderWork 17 = .ok (.ifCond .ne 6, 3) := by decide +kernel
theorem dX2_orderWork_20 : decode cX2_orderWork 20 = .ok (.bipush (-2), 2) := by decide +kernel
theorem dX2_orderWork_22 : decode cX2_orderWork 22 = .ok (.ireturn, 1) := by decide +kernel
theorem dX2_orderWork_23 : decode cX2_orderWork 23 = .ok (.aload_n 0, 1) := by decide +kernel
theorem dX2_orderWork_24 : decode cX2_orderWork 24 = .ok (.iload_n 1, 1) := by decide +kernel
theorem dX2_orderWork_25 : decode cX2_orderWork 25 = .ok (.bipush 8, 2) := by decide +kernel
theorem dX2_orderWork_27 : decode cX2_orderWork 27 = .ok (.invokevirtual 47, 3) := by decide +kernel
theorem dX2_orderWork_30 : decode cX2_orderWork 30 = .ok (.iload_n 2, 1) := by decide +kernel
theorem dX2_orderWork_31 : decode cX2_orderWork 31 = .ok (.iadd, 1) := by decide +kernel
theorem dX2_orderWork_32 : decode cX2_orderWork 32 = .ok (.istore_n 3, 1) := by decide +kernel
theorem dX2_orderWork_33 : decode cX2_orderWork 33 = .ok (.iload_n 3, 1) := by decide +kernel
theorem dX2_orderWork_34 : decode cX2_orderWork 34 = .ok (.bipush 99, 2) := by decide +kernel
theorem dX2_orderWork_36 : decode cX2_orderWork 36 = .ok (.if_icmp .le 6, 3) := by decide +kernel
theorem dX2_orderWork_39 : decode cX2_orderWork 39 = .ok (.bipush (-3), 2) := by decide +kernel
theorem dX2_orderWork_41 : decode cX2_orderWork 41 = .ok (.ireturn, 1) := by decide +kernel
theorem dX2_orderWork_42 : decode cX2_orderWork 42 = .ok (.aload_n 0, 1) := by decide +kernel
theorem dX2_orderWork_43 : decode cX2_orderWork 43 = .ok (.iload_n 1, 1) := by decide +kernel
theorem dX2_orderWork_44 : decode cX2_orderWork 44 = .ok (.bipush 8, 2) := by decide +kernel
theorem dX2_orderWork_46 : decode cX2_orderWork 46 = .ok (.iload_n 3, 1) := by decide +kernel
theorem dX2_orderWork_47 : decode cX2_orderWork 47 = .ok (.invokevirtual 59, 3) := by decide +kernel
theorem dX2_orderWork_50 : decode cX2_orderWork 50 = .ok (.iload_n 3, 1) := by decide +kernel
theorem dX2_orderWork_51 : decode cX2_orderWork 51 = .ok (.ireturn, 1) := by decide +kernel
theorem dX2_boatsWithWork_0 : decode cX2_boatsWithWork 0 = .ok (.iconst 0, 1) := by decide +kernel
theorem dX2_boatsWithWork_1 : decode cX2_boatsWithWork 1 = .ok (.istore_n 1, 1) := by decide +kernel
theorem dX2_boatsWithWork_2 : decode cX2_boatsWithWork 2 = .ok (.iconst 0, 1) := by decide +kernel
theorem dX2_boatsWithWork_3 : decode cX2_boatsWithWork 3 = .ok (.istore_n 2, 1) := by decide +kernel
theorem dX2_boatsWithWork_4 : decode cX2_boatsWithWork 4 = .ok (.iload_n 2, 1) := by decide +kernel
theorem dX2_boatsWithWork_5 : decode cX2_boatsWithWork 5 = .ok (.bipush 20, 2) := by decide +kernel
theorem dX2_boatsWithWork_7 : decode cX2_boatsWithWork 7 = .ok (.if_icmp .ge 22, 3) := by decide +kernel
theorem dX2_boatsWithWork_10 : decode cX2_boatsWithWork 10 = .ok (.aload_n 0, 1) := by decide +kernel
theorem dX2_boatsWithWork_11 : decode cX2_boatsWithWork 11 = .ok (.iload_n 2, 1) := by decide +kernel
theorem dX2_boatsWithWork_12 : decode cX2_boatsWithWork 12 = .ok (.bipush 8, 2) := by decide +kernel
theorem dX2_boatsWithWork_14 : decode cX2_boatsWithWork 14 = .ok (.invokevirtual 47, 3) := by decide +kernel
theorem dX2_boatsWithWork_17 : decode cX2_boatsWithWork 17 = .ok (.ifCond .le 6, 3) := by decide +kernel
theorem dX2_boatsWithWork_20 : decode cX2_boatsWithWork 20 = .ok (.iinc 1 1, 3) := by decide +kernel
theorem dX2_boatsWithWork_23 : decode cX2_boatsWithWork 23 = .ok (.iinc 2 1, 3) := by decide +kernel
theorem dX2_boatsWithWork_26 : decode cX2_boatsWithWork 26 = .ok (.goto (-22), 3) := by decide +kernel
theorem dX2_boatsWithWork_29 : decode cX2_boatsWithWork 29 = .ok (.iload_n 1, 1) := by decide +kernel
theorem dX2_boatsWithWork_30 : decode cX2_boatsWithWork 30 = .ok (.ireturn, 1) := by decide +kernel
theorem dX2_today_0 : decode cX2_today 0 = .ok (.aload_n 0, 1) := by decide +kernel
theorem dX2_today_1 : decode cX2_today 1 = .ok (.getfield 24, 3) := by decide +kernel
theorem dX2_today_4 : decode cX2_today 4 = .ok (.ireturn, 1) := by decide +kernel
theorem dX2_tideOn_0 : decode cX2_tideOn 0 = .ok (.bipush 30, 2) := by decide +kernel
theorem dX2_tideOn_2 : decode cX2_tideOn 2 = .ok (.aload_n 0, 1) := by decide +kernel
theorem dX2_tideOn_3 : decode cX2_tideOn 3 = .ok (.getfield 21, 3) := by decide +kernel
theorem dX2_tideOn_6 : decode cX2_tideOn 6 = .ok (.iconst 0, 1) := by decide +kernel
theorem dX2_tideOn_7 : decode cX2_tideOn 7 = .ok (.iaload, 1) := by decide +kernel
theorem dX2_tideOn_8 : decode cX2_tideOn 8 = .ok (.iload_n 1, 1) := by decide +kernel
theorem dX2_tideOn_9 : decode cX2_tideOn 9 = .ok (.bipush 14, 2) := by decide +kernel
theorem dX2_tideOn_11 : decode cX2_tideOn 11 = .ok (.irem, 1) := by decide +kernel
theorem dX2_tideOn_12 : decode cX2_tideOn 12 = .ok (.bipush 7, 2) := by decide +kernel
theorem dX2_tideOn_14 : decode cX2_tideOn 14 = .ok (.isub, 1) := by decide +kernel
theorem dX2_tideOn_15 : decode cX2_tideOn 15 = .ok (.invokestatic 183, 3) := by decide +kernel
theorem dX2_tideOn_18 : decode cX2_tideOn 18 = .ok (.imul, 1) := by decide +kernel
theorem dX2_tideOn_19 : decode cX2_tideOn 19 = .ok (.iadd, 1) := by decide +kernel
theorem dX2_tideOn_20 : decode cX2_tideOn 20 = .ok (.ireturn, 1) := by decide +kernel
theorem dX2_letPass_0 : decode cX2_letPass 0 = .ok (.iload_n 1, 1) := by decide +kernel
theorem dX2_letPass_1 : decode cX2_letPass 1 = .ok (.iconst 1, 1) := by decide +kernel
theorem dX2_letPass_2 : decode cX2_letPass 2 = .ok (.bipush 99, 2) := by decide +kernel
theorem dX2_letPass_4 : decode cX2_letPass 4 = .ok (.invokestatic 66, 3) := by decide +kernel
theorem dX2_letPass_7 : decode cX2_letPass 7 = .ok (.ifCond .ne 6, 3) := by decide +kernel
theorem dX2_letPass_10 : decode cX2_letPass 10 = .ok (.bipush (-2), 2) := by decide +kernel
theorem dX2_letPass_12 : decode cX2_letPass 12 = .ok (.ireturn, 1) := by decide +kernel
theorem dX2_letPass_13 : decode cX2_letPass 13 = .ok (.aload_n 0, 1) := by decide +kernel
theorem dX2_letPass_14 : decode cX2_letPass 14 = .ok (.getfield 24, 3) := by decide +kernel
theorem dX2_letPass_17 : decode cX2_letPass 17 = .ok (.iload_n 1, 1) := by decide +kernel
theorem dX2_letPass_18 : decode cX2_letPass 18 = .ok (.iadd, 1) := by decide +kernel
theorem dX2_letPass_19 : decode cX2_letPass 19 = .ok (.sipush 9999, 3) := by decide +kernel
theorem dX2_letPass_22 : decode cX2_letPass 22 = .ok (.if_icmp .le 6, 3) := by decide +kernel
theorem dX2_letPass_25 : decode cX2_letPass 25 = .ok (.bipush (-3), 2) := by decide +kernel
theorem dX2_letPass_27 : decode cX2_letPass 27 = .ok (.ireturn, 1) := by decide +kernel
theorem dX2_letPass_28 : decode cX2_letPass 28 = .ok (.aload_n 0, 1) := by decide +kernel
theorem dX2_letPass_29 : decode cX2_letPass 29 = .ok (.dup, 1) := by decide +kernel
theorem dX2_letPass_30 : decode cX2_letPass 30 = .ok (.getfield 24, 3) := by decide +kernel
theorem dX2_letPass_33 : decode cX2_letPass 33 = .ok (.iload_n 1, 1) := by decide +kernel
theorem dX2_letPass_34 : decode cX2_letPass 34 = .ok (.iadd, 1) := by decide +kernel
theorem dX2_letPass_35 : decode cX2_letPass 35 = .ok (.putfield 24, 3) := by decide +kernel
theorem dX2_letPass_38 : decode cX2_letPass 38 = .ok (.aload_n 0, 1) := by decide +kernel
theorem dX2_letPass_39 : decode cX2_letPass 39 = .ok (.iconst 0, 1) := by decide +kernel
theorem dX2_letPass_40 : decode cX2_letPass 40 = .ok (.putfield 28, 3) := by decide +kernel
theorem dX2_letPass_43 : decode cX2_letPass 43 = .ok (.iconst 0, 1) := by decide +kernel
theorem dX2_letPass_44 : decode cX2_letPass 44 = .ok (.istore_n 2, 1) := by decide +kernel
theorem dX2_letPass_45 : decode cX2_letPass 45 = .ok (.iload_n 2, 1) := by decide +kernel
theorem dX2_letPass_46 : decode cX2_letPass 46 = .ok (.bipush 20, 2) := by decide +kernel
theorem dX2_letPass_48 : decode cX2_letPass 48 = .ok (.if_icmp .ge 53, 3) := by decide +kernel
theorem dX2_letPass_51 : decode cX2_letPass 51 = .ok (.aload_n 0, 1) := by decide +kernel
theorem dX2_letPass_52 : decode cX2_letPass 52 = .ok (.iload_n 2, 1) := by decide +kernel
theorem dX2_letPass_53 : decode cX2_letPass 53 = .ok (.invokevirtual 80, 3) := by decide +kernel
theorem dX2_letPass_56 : decode cX2_letPass 56 = .ok (.ifCond .eq 39, 3) := by decide +kernel
theorem dX2_letPass_59 : decode cX2_letPass 59 = .ok (.aload_n 0, 1) := by decide +kernel
theorem dX2_letPass_60 : decode cX2_letPass 60 = .ok (.iload_n 2, 1) := by decide +kernel
theorem dX2_letPass_61 : decode cX2_letPass 61 = .ok (.bipush 9, 2) := by decide +kernel
theorem dX2_letPass_63 : decode cX2_letPass 63 = .ok (.aload_n 0, 1) := by decide +kernel
theorem dX2_letPass_64 : decode cX2_letPass 64 = .ok (.iload_n 2, 1) := by decide +kernel
theorem dX2_letPass_65 : decode cX2_letPass 65 = .ok (.bipush 9, 2) := by decide +kernel
theorem dX2_letPass_67 : decode cX2_letPass 67 = .ok (.invokevirtual 47, 3) := by decide +kernel
theorem dX2_letPass_70 : decode cX2_letPass 70 = .ok (.iload_n 1, 1) := by decide +kernel
theorem dX2_letPass_71 : decode cX2_letPass 71 = .ok (.iadd, 1) := by decide +kernel
theorem dX2_letPass_72 : decode cX2_letPass 72 = .ok (.invokevirtual 59, 3) := by decide +kernel
theorem dX2_letPass_75 : decode cX2_letPass 75 = .ok (.aload_n 0, 1) := by decide +kernel
theorem dX2_letPass_76 : decode cX2_letPass 76 = .ok (.iload_n 2, 1) := by decide +kernel
theorem dX2_letPass_77 : decode cX2_letPass 77 = .ok (.bipush 8, 2) := by decide +kernel
theorem dX2_letPass_79 : decode cX2_letPass 79 = .ok (.iconst 0, 1) := by decide +kernel
theorem dX2_letPass_80 : decode cX2_letPass 80 = .ok (.aload_n 0, 1) := by decide +kernel
theorem dX2_letPass_81 : decode cX2_letPass 81 = .ok (.iload_n 2, 1) := by decide +kernel
theorem dX2_letPass_82 : decode cX2_letPass 82 = .ok (.bipush 8, 2) := by decide +kernel
theorem dX2_letPass_84 : decode cX2_letPass 84 = .ok (.invokevirtual 47, 3) := by decide +kernel
theorem dX2_letPass_87 : decode cX2_letPass 87 = .ok (.iload_n 1, 1) := by decide +kernel
theorem dX2_letPass_88 : decode cX2_letPass 88 = .ok (.isub, 1) := by decide +kernel
theorem dX2_letPass_89 : decode cX2_letPass 89 = .ok (.invokestatic 141, 3) := by decide +kernel
theorem dX2_letPass_92 : decode cX2_letPass 92 = .ok (.invokevirtual 59, 3) := by decide +kernel
theorem dX2_letPass_95 : decode cX2_letPass 95 = .ok (.iinc 2 1, 3) := by decide +kernel
theorem dX2_letPass_98 : decode cX2_letPass 98 = .ok (.goto (-53), 3) := by decide +kernel
theorem dX2_letPass_101 : decode cX2_letPass 101 = .ok (.aload_n 0, 1) := by decide +kernel
theorem dX2_letPass_102 : decode cX2_letPass 102 = .ok (.aload_n 0, 1) := by decide +kernel
theorem dX2_letPass_103 : decode cX2_letPass 103 = .ok (.getfield 24, 3) := by decide +kernel
theorem dX2_letPass_106 : decode cX2_letPass 106 = .ok (.invokevirtual 146, 3) := by decide +kernel
theorem dX2_letPass_109 : decode cX2_letPass 109 = .ok (.ireturn, 1) := by decide +kernel
