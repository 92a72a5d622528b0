theorem dX5_hasCell_0 : decode cX5_hasCell 0 = .ok (.iload_n 1, 1) := by decide +kernel
theorem dX5_hasCell_1 : decode cX5_hasCell 1 = .ok (.ifCond .lt 27, 3) := by decide +kernel
theorem dX5_hasCell_4 : decode cX5_hasCell 4 = .ok (.iload_n 1, 1) := by decide +kernel
theorem dX5_hasCell_5 : decode cX5_hasCell 5 = .ok (.aload_n 0, 1) := by decide +kernel
theorem dX5_hasCell_6 : decode cX5_hasCell 6 = .ok (.getfield 47, 3) := by decide +kernel
theorem dX5_hasCell_9 : decode cX5_hasCell 9 = .ok (.if_icmp .ge 19, 3) := by decide +kernel
theorem dX5_hasCell_12 : decode cX5_hasCell 12 = .ok (.iload_n 2, 1) := by decide +kernel
theorem dX5_hasCell_13 : decode cX5_hasCell 13 = .ok (.ifCond .lt 15, 3) := by decide +kernel
theorem dX5_hasCell_16 : decode cX5_hasCell 16 = .ok (.iload_n 2, 1) := by decide +kernel
theorem dX5_hasCell_17 : decode cX5_hasCell 17 = .ok (.aload_n 0, 1) := by decide +kernel
theorem dX5_hasCell_18 : decode cX5_hasCell 18 = .ok (.getfield 51, 3) := by decide +kernel
theorem dX5_hasCell_21 : decode cX5_hasCell 21 = .ok (.if_icmp .ge 7, 3) := by decide +kernel
theorem dX5_hasCell_24 : decode cX5_hasCell 24 = .ok (.iconst 1, 1) := by decide +kernel
theorem dX5_hasCell_25 : decode cX5_hasCell 25 = .ok (.goto 4, 3) := by decide +kernel
theorem dX5_hasCell_28 : decode cX5_hasCell 28 = .ok (.iconst 0, 1) := by decide +kernel
theorem dX5_hasCell_29 : decode cX5_hasCell 29 = .ok (.ireturn, 1) := by decide +kernel
theorem dX5_hasTune_0 : decode cX5_hasTune 0 = .ok (.iload_n 1, 1) := by decide +kernel
theorem dX5_hasTune_1 : decode cX5_hasTune 1 = .ok (.ifCond .lt 15, 3) := by decide +kernel
theorem dX5_hasTune_4 : decode cX5_hasTune 4 = .ok (.iload_n 1, 1) := by decide +kernel
theorem dX5_hasTune_5 : decode cX5_hasTune 5 = .ok (.aload_n 0, 1) := by decide +kernel
theorem dX5_hasTune_6 : decode cX5_hasTune 6 = .ok (.getfield 60, 3) := by decide +kernel
theorem dX5_hasTune_9 : decode cX5_hasTune 9 = .ok (.if_icmp .ge 7, 3) := by decide +kernel
theorem dX5_hasTune_12 : decode cX5_hasTune 12 = .ok (.iconst 1, 1) := by decide +kernel
theorem dX5_hasTune_13 : decode cX5_hasTune 13 = .ok (.goto 4, 3) := by decide +kernel
theorem dX5_hasTune_16 : decode cX5_hasTune 16 = .ok (.iconst 0, 1) := by decide +kernel
theorem dX5_hasTune_17 : decode cX5_hasTune 17 = .ok (.ireturn, 1) := by decide +kernel
theorem dX5_hasSkater_0 : decode cX5_hasSkater 0 = .ok (.iload_n 1, 1) := by decide +kernel
theorem dX5_hasSkater_1 : decode cX5_hasSkater 1 = .ok (.ifCond .lt 15, 3) := by decide +kernel
theorem dX5_hasSkater_4 : decode cX5_hasSkater 4 = .ok (.iload_n 1, 1) := by decide +kernel
theorem dX5_hasSkater_5 : decode cX5_hasSkater 5 = .ok (.aload_n 0, 1) := by decide +kernel
theorem dX5_hasSkater_6 : decode cX5_hasSkater 6 = .ok (.getfield 67, 3) := by decide +kernel
theorem dX5_hasSkater_9 : decode cX5_hasSkater 9 = .ok (.if_icmp .ge 7, 3) := by decide +kernel
theorem dX5_hasSkater_12 : decode cX5_hasSkater 12 = .ok (.iconst 1, 1) := by decide +kernel
theorem dX5_hasSkater_13 : decode cX5_hasSkater 13 = .ok (.goto 4, 3) := by decide +kernel
theorem dX5_hasSkater_16 : decode cX5_hasSkater 16 = .ok (.iconst 0, 1) := by decide +kernel
theorem dX5_hasSkater_17 : decode cX5_hasSkater 17 = .ok (.ireturn, 1) := by decide +kernel
theorem dX5_hasTunes_0 : decode cX5_hasTunes 0 = .ok (.iload_n 1, 1) := by decide +kernel
theorem dX5_hasTunes_1 : decode cX5_hasTunes 1 = .ok (.ifCond .lt 17, 3) := by decide +kernel
theorem dX5_hasTunes_4 : decode cX5_hasTunes 4 = .ok (.iload_n 1, 1) := by decide +kernel
theorem dX5_hasTunes_5 : decode cX5_hasTunes 5 = .ok (.iconst 1, 1) := by decide +kernel
theorem dX5_hasTunes_6 : decode cX5_hasTunes 6 = .ok (.aload_n 0, 1) := by decide +kernel
theorem dX5_hasTunes_7 : decode cX5_hasTunes 7 = .ok (.getfield 60, 3) := by decide +kernel
theorem dX5_hasTunes_10 : decode cX5_hasTunes 10 = .ok (.ishl, 1) := by decide +kernel
theorem dX5_hasTunes_11 : decode cX5_hasTunes 11 = .ok (.if_icmp .ge 7, 3) := by decide +kernel
theorem dX5_hasTunes_14 : decode cX5_hasTunes 14 = .ok (.iconst 1, 1) := by decide +kernel
theorem dX5_hasTunes_15 : decode cX5_hasTunes 15 = .ok (.goto 4, 3) := by decide +kernel
theorem dX5_hasTunes_18 : decode cX5_hasTunes 18 = .ok (.iconst 0, 1) := by decide +kernel
theorem dX5_hasTunes_19 : decode cX5_hasTunes 19 = .ok (.ireturn, 1) := by decide +kernel
theorem dX2_countUp_0 : decode cX2_countUp 0 = .ok (.aload_n 1, 1) := by decide +kernel
theorem dX2_countUp_1 : decode cX2_countUp 1 = .ok (.getfield 40, 3) := by decide +kernel
theorem dX2_countUp_4 : decode cX2_countUp 4 = .ok (.aload_n 0, 1) := by decide +kernel
theorem dX2_countUp_5 : decode cX2_countUp 5 = .ok (.getfield 31, 3) := by decide +kernel
theorem dX2_countUp_8 : decode cX2_countUp 8 = .ok (.isub, 1) := by decide +kernel
theorem dX2_countUp_9 : decode cX2_countUp 9 = .ok (.ireturn, 1) := by decide +kernel
theorem dX2_copy_0 : decode cX2_copy 0 = .ok (.aload_n 0, 1) := by decide +kernel
theorem dX2_copy_1 : decode cX2_copy 1 = .ok (.aload_n 1, 1) := by decide +kernel
theorem dX2_copy_2 : decode cX2_copy 2 = .ok (.getfield 27, 3) := by decide +kernel
theorem dX2_copy_5 : decode cX2_copy 5 = .ok (.putfield 27, 3) := by decide +kernel
theorem dX2_copy_8 : decode cX2_copy 8 = .ok (.aload_n 0, 1) := by decide +kernel
theorem dX2_copy_9 : decode cX2_copy 9 = .ok (.aload_n 1, 1) := by decide +kernel
theorem dX2_copy_10 : decode cX2_copy 10 = .ok (.getfield 31, 3) := by decide +kernel
theorem dX2_copy_13 : decode cX2_copy 13 = .ok (.putfield 31, 3) := by decide +kernel
theorem dX2_copy_16 : decode cX2_copy 16 = .ok (.aload_n 1, 1) := by decide +kernel
theorem dX2_copy_17 : decode cX2_copy 17 = .ok (.getfield 9, 3) := by decide +kernel
theorem dX2_copy_20 : decode cX2_copy 20 = .ok (.iconst 0, 1) := by decide +kernel
theorem dX2_copy_21 : decode cX2_copy 21 = .ok (.aload_n 0, 1) := by decide +kernel
theorem dX2_copy_22 : decode cX2_copy 22 = .ok (.getfield 9, 3) := by decide +kernel
theorem dX2_copy_25 : decode cX2_copy 25 = .ok (.iconst 0, 1) := by decide +kernel
theorem dX2_copy_26 : decode cX2_copy 26 = .ok (.bipush 25, 2) := by decide +kernel
theorem dX2_copy_28 : decode cX2_copy 28 = .ok (.invokestatic 46, 3) := by decide +kernel
theorem dX2_copy_31 : decode cX2_copy 31 = .ok (.aload_n 1, 1) := by decide +kernel
theorem dX2_copy_32 : decode cX2_copy 32 = .ok (.getfield 15, 3) := by decide +kernel
theorem dX2_copy_35 : decode cX2_copy 35 = .ok (.iconst 0, 1) := by decide +kernel
theorem dX2_copy_36 : decode cX2_copy 36 = .ok (.aload_n 0, 1) := by decide +kernel
theorem dX2_copy_37 : decode cX2_copy 37 = .ok (.getfield 15, 3) := by decide +kernel
theorem dX2_copy_40 : decode cX2_copy 40 = .ok (.iconst 0, 1) := by decide +kernel
theorem dX2_copy_41 : decode cX2_copy 41 = .ok (.bipush 6, 2) := by decide +kernel
theorem dX2_copy_43 : decode cX2_copy 43 = .ok (.invokestatic 46, 3) := by decide +kernel
theorem dX2_copy_46 : decode cX2_copy 46 = .ok (.aload_n 1, 1) := by decide +kernel
theorem dX2_copy_47 : decode cX2_copy 47 = .ok (.getfield 18, 3) := by decide +kernel
theorem dX2_copy_50 : decode cX2_copy 50 = .ok (.iconst 0, 1) := by decide +kernel
theorem dX2_copy_51 : decode cX2_copy 51 = .ok (.aload_n 0, 1) := by decide +kernel
theorem dX2_copy_52 : decode cX2_copy 52 = .ok (.getfield 18, 3) := by decide +kernel
theorem dX2_copy_55 : decode cX2_copy 55 = .ok (.iconst 0, 1) := by decide +kernel
theorem dX2_copy_56 : decode cX2_copy 56 = .ok (.bipush 6, 2) := by decide +kernel
theorem dX2_copy_58 : decode cX2_copy 58 = .ok (.invokestatic 46, 3) := by decide +kernel
theorem dX2_copy_61 : decode cX2_copy 61 = .ok (.aload_n 1, 1) := by decide +kernel
theorem dX2_copy_62 : decode cX2_copy 62 = .ok (.getfield 21, 3) := by decide +kernel
theorem dX2_copy_65 : decode cX2_copy 65 = .ok (.iconst 0, 1) := by decide +kernel
theorem dX2_copy_66 : decode cX2_copy 66 = .ok (.aload_n 0, 1) := by decide +kernel
theorem dX2_copy_67 : decode cX2_copy 67 = .ok (.getfield 21, 3) := by decide +kernel
theorem dX2_copy_70 : decode cX2_copy 70 = .ok (.iconst 0, 1) := by decide +kernel
theorem dX2_copy_71 : decode cX2_copy 71 = .ok (.bipush 6, 2) := by decide +kernel
theorem dX2_copy_73 : decode cX2_copy 73 = .ok (.invokestatic 46, 3) := by decide +kernel
theorem dX2_copy_76 : decode cX2_copy 76 = .ok (.aload_n 1, 1) := by decide +kernel
theorem dX2_copy_77 : decode cX2_copy 77 = .ok (.getfield 24, 3) := by decide +kernel
theorem dX2_copy_80 : decode cX2_copy 80 = .ok (.iconst 0, 1) := by decide +kernel
theorem dX2_copy_81 : decode cX2_copy 81 = .ok (.aload_n 0, 1) := by decide +kernel
theorem dX2_copy_82 : decode cX2_copy 82 = .ok (.getfield 24, 3) := by decide +kernel
theorem dX2_copy_85 : decode cX2_copy 85 = .ok (.iconst 0, 1) := by decide +kernel
theorem dX2_copy_86 : decode cX2_copy 86 = .ok (.bipush 6, 2) := by decide +kernel
theorem dX2_copy_88 : decode cX2_copy 88 = .ok (.invokestatic 46, 3) := by decide +kernel
theorem dX2_copy_91 : decode cX2_copy 91 = .ok (.return_, 1) := by decide +kernel
theorem dX4_goOn_0 : decode cX4_goOn 0 = .ok (.aload_n 0, 1) := by decide +kernel
theorem dX4_goOn_1 : decode cX4_goOn 1 = .ok (.invokevirtual 23, 3) := by decide +kernel
theorem dX4_goOn_4 : decode cX4_goOn 4 = .ok (.astore_n 1, 1) := by decide +kernel
theorem dX4_goOn_5 : decode cX4_goOn 5 = .ok (.aload_n 0, 1) := by decide +kernel
theorem dX4_goOn_6 : decode cX4_goOn 6 = .ok (.iconst 0, 1) := by decide +kernel
theorem dX4_goOn_7 : decode cX4_goOn 7 = .ok (.putfield 27, 3) := by decide +kernel
theorem dX4_goOn_10 : decode cX4_goOn 10 = .ok (.aload_n 0, 1) := by decide +kernel
theorem dX4_goOn_11 : decode cX4_goOn 11 = .ok (.getfield 20, 3) := by decide +kernel
theorem dX4_goOn_14 : decode cX4_goOn 14 = .ok (.bipush 40, 2) := by decide +kernel
theorem dX4_goOn_16 : decode cX4_goOn 16 = .ok (.if_icmp .ge 16, 3) := by decide +kernel
theorem dX4_goOn_19 : decode cX4_goOn 19 = .ok (.aload_n 0, 1) := by decide +kernel
theorem dX4_goOn_20 : decode cX4_goOn 20 = .ok (.dup, 1) := by decide +kernel
theorem dX4_goOn_21 : decode cX4_goOn 21 = .ok (.getfield 20, 3) := by decide +kernel
theorem dX4_goOn_24 : decode cX4_goOn 24 = .ok (.iconst 1, 1) := by decide +kernel
theorem dX4_goOn_25 : decode cX4_goOn 25 = .ok (.iadd, 1) := by decide +kernel
theorem dX4_goOn_26 : decode cX4_goOn 26 = .ok (.putfield 20, 3) := by decide +kernel
theorem dX4_goOn_29 : decode cX4_goOn 29 = .ok (.goto 16, 3) := by decide +kernel
theorem dX4_goOn_32 : decode cX4_goOn 32 = .ok (.aload_n 0, 1) := by decide +kernel
theorem dX4_goOn_33 : decode cX4_goOn 33 = .ok (.aload_n 0, 1) := by decide +kernel
theorem dX4_goOn_34 : decode cX4_goOn 34 = .ok (.getfield 16, 3) := by decide +kernel
theorem dX4_goOn_37 : decode cX4_goOn 37 = .ok (.iconst 1, 1) := by decide +kernel
theorem dX4_goOn_38 : decode cX4_goOn 38 = .ok (.iadd, 1) := by decide +kernel
theorem dX4_goOn_39 : decode cX4_goOn 39 = .ok (.bipush 41, 2) := by decide +kernel
theorem dX4_goOn_41 : decode cX4_goOn 41 = .ok (.irem, 1) := by decide +kernel
theorem dX4_goOn_42 : decode cX4_goOn 42 = .ok (.putfield 16, 3) := by decide +kernel
theorem dX4_goOn_45 : decode cX4_goOn 45 = .ok (.aload_n 0, 1) := by decide +kernel
theorem dX4_goOn_46 : decode cX4_goOn 46 = .ok (.invokevirtual 23, 3) := by decide +kernel
theorem dX4_goOn_49 : decode cX4_goOn 49 = .ok (.aload_n 1, 1) := by decide +kernel
theorem dX4_goOn_50 : decode cX4_goOn 50 = .ok (.invokevirtual 30, 3) := by decide +kernel
theorem dX4_goOn_53 : decode cX4_goOn 53 = .ok (.aload_n 0, 1) := by decide +kernel
theorem dX4_goOn_54 : decode cX4_goOn 54 = .ok (.invokevirtual 23, 3) := by decide +kernel
theorem dX4_goOn_57 : decode cX4_goOn 57 = .ok (.areturn, 1) := by decide +kernel
theorem dX4_takeBack_0 : decode cX4_takeBack 0 = .ok (.aload_n 0, 1) := by decide +kernel
theorem dX4_takeBack_1 : decode cX4_takeBack 1 = .ok (.getfield 20, 3) := by decide +kernel
theorem dX4_takeBack_4 : decode cX4_takeBack 4 = .ok (.ifCond .ne 5, 3) := by decide +kernel
theorem dX4_takeBack_7 : decode cX4_takeBack 7 = .ok (.iconst 0, 1) := by decide +kernel
theorem dX4_takeBack_8 : decode cX4_takeBack 8 = .ok (.ireturn, 1) := by decide +kernel
theorem dX4_takeBack_9 : decode cX4_takeBack 9 = .ok (.aload_n 0, 1) := by decide +kernel
theorem dX4_takeBack_10 : decode cX4_takeBack 10 = .ok (.dup, 1) := by decide +kernel
theorem dX4_takeBack_11 : decode cX4_takeBack 11 = .ok (.getfield 20, 3) := by decide +kernel
theorem dX4_takeBack_14 : decode cX4_takeBack 14 = .ok (.iconst 1, 1) := by decide +kernel
theorem dX4_takeBack_15 : decode cX4_takeBack 15 = .ok (.isub, 1) := by decide +kernel
theorem dX4_takeBack_16 : decode cX4_takeBack 16 = .ok (.putfield 20, 3) := by decide +kernel
theorem dX4_takeBack_19 : decode cX4_takeBack 19 = .ok (.aload_n 0, 1) := by decide +kernel
theorem dX4_takeBack_20 : decode cX4_takeBack 20 = .ok (.dup, 1) := by decide +kernel
theorem dX4_takeBack_21 : decode cX4_takeBack 21 = .ok (.getfield 27, 3) := by decide +kernel
theorem dX4_takeBack_24 : decode cX4_takeBack 24 = .ok (.iconst 1, 1) := by decide +kernel
theorem dX4_takeBack_25 : decode cX4_takeBack 25 = .ok (.iadd, 1) := by decide +kernel
theorem dX4_takeBack_26 : decode cX4_takeBack 26 = .ok (.putfield 27, 3) := by decide +kernel
theorem dX4_takeBack_29 : decode cX4_takeBack 29 = .ok (.iconst 1, 1) := by decide +kernel
theorem dX4_takeBack_30 : decode cX4_takeBack 30 = .ok (.ireturn, 1) := by decide +kernel
theorem dX4_doAgain_0 : decode cX4_doAgain 0 = .ok (.aload_n 0, 1) := by decide +kernel
theorem dX4_doAgain_1 : decode cX4_doAgain 1 = .ok (.getfield 27, 3) := by decide +kernel
theorem dX4_doAgain_4 : decode cX4_doAgain 4 = .ok (.ifCond .ne 5, 3) := by decide +kernel
theorem dX4_doAgain_7 : decode cX4_doAgain 7 = .ok (.iconst 0, 1) := by decide +kernel
theorem dX4_doAgain_8 : decode cX4_doAgain 8 = .ok (.ireturn, 1) := by decide +kernel
theorem dX4_doAgain_9 : decode cX4_doAgain 9 = .ok (.aload_n 0, 1) := by decide +kernel
theorem dX4_doAgain_10 : decode cX4_doAgain 10 = .ok (.dup, 1) := by decide +kernel
theorem dX4_doAgain_11 : decode cX4_doAgain 11 = .ok (.getfield 20, 3) := by decide +kernel
theorem dX4_doAgain_14 : decode cX4_doAgain 14 = .ok (.iconst 1, 1) := by decide +kernel
theorem dX4_doAgain_15 : decode cX4_doAgain 15 = .ok (.iadd, 1) := by decide +kernel
theorem dX4_doAgain_16 : decode cX4_doAgain 16 = .ok (.putfield 20, 3) := by decide +kernel
theorem dX4_doAgain_19 : decode cX4_doAgain 19 = .ok (.aload_n 0, 1) := by decide +kernel
theorem dX4_doAgain_20 : decode cX4_doAgain 20 = .ok (.dup, 1) := by decide +kernel
theorem dX4_doAgain_21 : decode cX4_doAgain 21 = .ok (.getfield 27, 3) := by decide +kernel
theorem dX4_doAgain_24 : decode cX4_doAgain 24 = .ok (.iconst 1, 1) := by decide +kernel
theorem dX4_doAgain_25 : decode cX4_doAgain 25 = .ok (.isub, 1) := by decide +kernel
theorem dX4_doAgain_26 : decode cX4_doAgain 26 = .ok (.putfield 27, 3) := by decide +kernel
theorem dX4_doAgain_29 : decode cX4_doAgain 29 = .ok (.iconst 1, 1) := by decide +kernel
theorem dX4_doAgain_30 : decode cX4_doAgain 30 = .ok (.ireturn, 1) := by decide +kernel
theorem dX4_forget_0 : decode cX4_forget 0 = .ok (.aload_n 0, 1) := by decide +kernel
theorem dX4_forget_1 : decode cX4_forget 1 = .ok (.iconst 0, 1) := by decide +kernel
theorem dX4_forget_2 : decode cX4_forget 2 = .ok (.putfield 16, 3) := by decide +kernel
theorem dX4_forget_5 : decode cX4_forget 5 = .ok (.aload_n 0, 1) := by decide +kernel
theorem dX4_forget_6 : decode cX4_forget 6 = .ok (.iconst 0, 1) := by decide +kernel
theorem dX4_forget_7 : decode cX4_forget 7 = .ok (.putfield 20, 3) := by decide +kernel
theorem dX4_forget_10 : decode cX4_forget 10 = .ok (.aload_n 0, 1) := by decide +kernel
theorem dX4_forget_11 : decode cX4_forget 11 = .ok (.iconst 0, 1) := by decide +kernel
theorem dX4_forget_12 : decode cX4_forget 12 = .ok (.putfield 27, 3) := by decide +kernel
theorem dX4_forget_15 : decode cX4_forget 15 = .ok (.return_, 1) := by decide +kernel
theorem dX8_clear_0 : decode cX8_clear 0 = .ok (.aload_n 0, 1) := by decide +kernel
theorem dX8_clear_1 : decode cX8_clear 1 = .ok (.iconst 0, 1) := by decide +kernel
theorem dX8_clear_2 : decode cX8_clear 2 = .ok (.putfield 33, 3) := by decide +kernel
theorem dX8_clear_5 : decode cX8_clear 5 = .ok (.return_, 1) := by decide +kernel
theorem dX8_takeAway_0 : decode cX8_takeAway 0 = .ok (.iload_n 1, 1) := by decide +kernel
theorem dX8_takeAway_1 : decode cX8_takeAway 1 = .ok (.ifCond .lt 21, 3) := by decide +kernel
theorem dX8_takeAway_4 : decode cX8_takeAway 4 = .ok (.iload_n 1, 1) := by decide +kernel
theorem dX8_takeAway_5 : decode cX8_takeAway 5 = .ok (.aload_n 0, 1) := by decide +kernel
theorem dX8_takeAway_6 : decode cX8_takeAway 6 = .ok (.getfield 33, 3) := by decide +kernel
theorem dX8_takeAway_9 : decode cX8_takeAway 9 = .ok (.if_icmp .ge 13, 3) := by decide +kernel
theorem dX8_takeAway_12 : decode cX8_takeAway 12 = .ok (.aload_n 0, 1) := by decide +kernel
theorem dX8_takeAway_13 : decode cX8_takeAway 13 = .ok (.getfield 30, 3) := by decide +kernel
theorem dX8_takeAway_16 : decode cX8_takeAway 16 = .ok (.iload_n 1, 1) := by decide +kernel
theorem dX8_takeAway_17 : decode cX8_takeAway 17 = .ok (.iaload, 1) := by decide +kernel
theorem dX8_takeAway_18 : decode cX8_takeAway 18 = .ok (.iconst (-1), 1) := by decide +kernel
theorem dX8_takeAway_19 : decode cX8_takeAway 19 = .ok (.if_icmp .eq 5, 3) := by decide +kernel
theorem dX8_takeAway_22 : decode cX8_takeAway 22 = .ok (.iconst 0, 1) := by decide +kernel
theorem dX8_takeAway_23 : decode cX8_takeAway 23 = .ok (.ireturn, 1) := by decide +kernel
theorem dX8_takeAway_24 : decode cX8_takeAway 24 = .ok (.aload_n 0, 1) := by decide +kernel
theorem dX8_takeAway_25 : decode cX8_takeAway 25 = .ok (.getfield 30, 3) := by decide +kernel
theorem dX8_takeAway_28 : decode cX8_takeAway 28 = .ok (.iload_n 1, 1) := by decide +kernel
theorem dX8_takeAway_29 : decode cX8_takeAway 29 = .ok (.iload_n 2, 1) := by decide +kernel
theorem dX8_takeAway_30 : decode cX8_takeAway 30 = .ok (.iastore, 1) := by decide +kernel
theorem dX8_takeAway_31 : decode cX8_takeAway 31 = .ok (.iconst 1, 1) := by decide +kernel
theorem dX8_takeAway_32 : decode cX8_takeAway 32 = .ok (.ireturn, 1) := by decide +kernel
theorem dX8_lastBar_0 : decode cX8_lastBar 0 = .ok (.iconst 0, 1) := by decide +kernel
theorem dX8_lastBar_1 : decode cX8_lastBar 1 = .ok (.istore_n 2, 1) := by decide +kernel
theorem dX8_lastBar_2 : decode cX8_lastBar 2 = .ok (.iconst 0, 1) := by decide +kernel
theorem dX8_lastBar_3 : decode cX8_lastBar 3 = .ok (.istore_n 3, 1) := by decide +kernel
theorem dX8_lastBar_4 : decode cX8_lastBar 4 = .ok (.iload_n 3, 1) := by decide +kernel
theorem dX8_lastBar_5 : decode cX8_lastBar 5 = .ok (.aload_n 0, 1) := by decide +kernel
theorem dX8_lastBar_6 : decode cX8_lastBar 6 = .ok (.getfield 33, 3) := by decide +kernel
theorem dX8_lastBar_9 : decode cX8_lastBar 9 = .ok (.if_icmp .ge 29, 3) := by decide +kernel
theorem dX8_lastBar_12 : decode cX8_lastBar 12 = .ok (.aload_n 0, 1) := by decide +kernel
theorem dX8_lastBar_13 : decode cX8_lastBar 13 = .ok (.iload_n 3, 1) := by decide +kernel
theorem dX8_lastBar_14 : decode cX8_lastBar 14 = .ok (.iload_n 1, 1) := by decide +kernel
theorem dX8_lastBar_15 : decode cX8_lastBar 15 = .ok (.invokevirtual 41, 3) := by decide +kernel
theorem dX8_lastBar_18 : decode cX8_lastBar 18 = .ok (.ifCond .eq 14, 3) := by decide +kernel
theorem dX8_lastBar_21 : decode cX8_lastBar 21 = .ok (.iload_n 2, 1) := by decide +kernel
theorem dX8_lastBar_22 : decode cX8_lastBar 22 = .ok (.aload_n 0, 1) := by decide +kernel
theorem dX8_lastBar_23 : decode cX8_lastBar 23 = .ok (.getfield 11, 3) := by decide +kernel
theorem dX8_lastBar_26 : decode cX8_lastBar 26 = .ok (.iload_n 3, 1) := by decide +kernel
theorem dX8_lastBar_27 : decode cX8_lastBar 27 = .ok (.iaload, 1) := by decide +kernel
theorem dX8_lastBar_28 : decode cX8_lastBar 28 = .ok (.invokestatic 45, 3) := by decide +kernel
theorem dX8_lastBar_31 : decode cX8_lastBar 31 = .ok (.istore_n 2, 1) := by decide +kernel
theorem dX8_lastBar_32 : decode cX8_lastBar 32 = .ok (.iinc 3 1, 3) := by decide +kernel
theorem dX8_lastBar_35 : decode cX8_lastBar 35 = .ok (.goto (-31), 3) := by decide +kernel
theorem dX8_lastBar_38 : decode cX8_lastBar 38 = .ok (.iload_n 2, 1) := by decide +kernel
theorem dX8_lastBar_39 : decode cX8_lastBar 39 = .ok (.ireturn, 1) := by decide +kernel
theorem dX10_init_0 : decode cX10_init 0 = .ok (.aload_n 0, 1) := by decide +kernel
theorem dX10_init_1 : decode cX10_init 1 = .ok (.invokespecial 3, 3) := by decide +kernel
theorem dX10_init_4 : decode cX10_init 4 = .ok (.aload_n 0, 1) := by decide +kernel
theorem dX10_init_5 : decode cX10_init 5 = .ok (.sipush 1600, 3) := by decide +kernel
theorem dX10_init_8 : decode cX10_init 8 = .ok (.newarray .byte, 2) := by decide +kernel
theorem dX10_init_10 : decode cX10_init 10 = .ok (.putfield 9, 3) := by decide +kernel
theorem dX10_init_13 : decode cX10_init 13 = .ok (.aload_n 0, 1) := by decide +kernel
theorem dX10_init_14 : decode cX10_init 14 = .ok (.new 13, 3) := by decide +kernel
theorem dX10_init_17 : decode cX10_init 17 = .ok (.dup, 1) := by decide +kernel
theorem dX10_init_18 : decode cX10_init 18 = .ok (.invokespecial 15, 3) := by decide +kernel
theorem dX10_init_21 : decode cX10_init 21 = .ok (.putfield 16, 3) := by decide +kernel
theorem dX10_init_24 : decode cX10_init 24 = .ok (.aload_n 0, 1) := by decide +kernel
theorem dX10_init_25 : decode cX10_init 25 = .ok (.new 13, 3) := by decide +kernel
theorem dX10_init_28 : decode cX10_init 28 = .ok (.dup, 1) := by decide +kernel
theorem dX10_init_29 : decode cX10_init 29 = .ok (.invokespecial 15, 3) := by decide +kernel
theorem dX10_init_32 : decode cX10_init 32 = .ok (.putfield 20, 3) := by decide +kernel
theorem dX10_init_35 : decode cX10_init 35 = .ok (.aload_n 0, 1) := by decide +kernel
theorem dX10_init_36 : decode cX10_init 36 = .ok (.new 23, 3) := by decide +kernel
theorem dX10_init_39 : decode cX10_init 39 = .ok (.dup, 1) := by decide +kernel
theorem dX10_init_40 : decode cX10_init 40 = .ok (.invokespecial 25, 3) := by decide +kernel
theorem dX10_init_43 : decode cX10_init 43 = .ok (.putfield 26, 3) := by decide +kernel
theorem dX10_init_46 : decode cX10_init 46 = .ok (.aload_n 0, 1) := by decide +kernel
theorem dX10_init_47 : decode cX10_init 47 = .ok (.new 30, 3) := by decide +kernel
theorem dX10_init_50 : decode cX10_init 50 = .ok (.dup, 1) := by decide +kernel
theorem dX10_init_51 : decode cX10_init 51 = .ok (.aload_n 0, 1) := by decide +kernel
theorem dX10_init_52 : decode cX10_init 52 = .ok (.getfield 16, 3) := by decide +kernel
theorem dX10_init_55 : decode cX10_init 55 = .ok (.invokespecial 32, 3) := by decide +kernel
theorem dX10_init_58 : decode cX10_init 58 = .ok (.putfield 35, 3) := by decide +kernel
theorem dX10_init_61 : decode cX10_init 61 = .ok (.aload_n 0, 1) := by decide +kernel
theorem dX10_init_62 : decode cX10_init 62 = .ok (.new 39, 3) := by decide +kernel
theorem dX10_init_65 : decode cX10_init 65 = .ok (.dup, 1) := by decide +kernel
theorem dX10_init_66 : decode cX10_init 66 = .ok (.invokespecial 41, 3) := by decide +kernel
theorem dX10_init_69 : decode cX10_init 69 = .ok (.putfield 42, 3) := by decide +kernel
theorem dX10_init_72 : decode cX10_init 72 = .ok (.aload_n 0, 1) := by decide +kernel
theorem dX10_init_73 : decode cX10_init 73 = .ok (.iconst 3, 1) := by decide +kernel
theorem dX10_init_74 : decode cX10_init 74 = .ok (.anewarray 46, 3) := by decide +kernel
theorem dX10_init_77 : decode cX10_init 77 = .ok (.putfield 48, 3) := by decide +kernel
theorem dX10_init_80 : decode cX10_init 80 = .ok (.aload_n 0, 1) := by decide +kernel
theorem dX10_init_81 : decode cX10_init 81 = .ok (.iconst 3, 1) := by decide +kernel
theorem dX10_init_82 : decode cX10_init 82 = .ok (.newarray .boolean, 2) := by decide +kernel
theorem dX10_init_84 : decode cX10_init 84 = .ok (.putfield 52, 3) := by decide +kernel
theorem dX10_init_87 : decode cX10_init 87 = .ok (.aload_n 0, 1) := by decide +kernel
theorem dX10_init_88 : decode cX10_init 88 = .ok (.new 56, 3) := by decide +kernel
theorem dX10_init_91 : decode cX10_init 91 = .ok (.dup, 1) := by decide +kernel
theorem dX10_init_92 : decode cX10_init 92 = .ok (.invokespecial 58, 3) := by decide +kernel
theorem dX10_init_95 : decode cX10_init 95 = .ok (.putfield 59, 3) := by decide +kernel
theorem dX10_init_98 : decode cX10_init 98 = .ok (.aload_n 0, 1) := by decide +kernel
theorem dX10_init_99 : decode cX10_init 99 = .ok (.bipush 6, 2) := by decide +kernel
theorem dX10_init_101 : decode cX10_init 101 = .ok (.newarray .int, 2) := by decide +kernel
theorem dX10_init_103 : decode cX10_init 103 = .ok (.putfield 63, 3) := by decide +kernel
theorem dX10_init_106 : decode cX10_init 106 = .ok (.iconst 0, 1) := by decide +kernel
theorem dX10_init_107 : decode cX10_init 107 = .ok (.istore_n 1, 1) := by decide +kernel
theorem dX10_init_108 : decode cX10_init 108 = .ok (.iload_n 1, 1) := by decide +kernel
theorem dX10_init_109 : decode cX10_init 109 = .ok (.iconst 3, 1) := by decide +kernel
theorem dX10_init_110 : decode cX10_init 110 = .ok (.if_icmp .ge 22, 3) := by decide +kernel
theorem dX10_init_113 : decode cX10_init 113 = .ok (.aload_n 0, 1) := by decide +kernel
theorem dX10_init_114 : decode cX10_init 114 = .ok (.getfield 48, 3) := by decide +kernel
theorem dX10_init_117 : decode cX10_init 117 = .ok (.iload_n 1, 1) := by decide +kernel
theorem dX10_init_118 : decode cX10_init 118 = .ok (.new 46, 3) := by decide +kernel
theorem dX10_init_121 : decode cX10_init 121 = .ok (.dup, 1) := by decide +kernel
theorem dX10_init_122 : decode cX10_init 122 = .ok (.invokespecial 67, 3) := by decide +kernel
theorem dX10_init_125 : decode cX10_init 125 = .ok (.aastore, 1) := by decide +kernel
theorem dX10_init_126 : decode cX10_init 126 = .ok (.iinc 1 1, 3) := by decide +kernel
theorem dX10_init_129 : decode cX10_init 129 = .ok (.goto (-21), 3) := by decide +kernel
theorem dX10_init_132 : decode cX10_init 132 = .ok (.bipush 7, 2) := by decide +kernel
theorem dX10_init_134 : decode cX10_init 134 = .ok (.anewarray 46, 3) := by decide +kernel
theorem dX10_init_137 : decode cX10_init 137 = .ok (.astore_n 1, 1) := by decide +kernel
theorem dX10_init_138 : decode cX10_init 138 = .ok (.iconst 0, 1) := by decide +kernel
theorem dX10_init_139 : decode cX10_init 139 = .ok (.istore_n 2, 1) := by decide +kernel
theorem dX10_init_140 : decode cX10_init 140 = .ok (.iload_n 2, 1) := by decide +kernel
theorem dX10_init_141 : decode cX10_init 141 = .ok (.aload_n 1, 1) := by decide +kernel
theorem dX10_init_142 : decode cX10_init 142 = .ok (.arraylength, 1) := by decide +kernel
theorem dX10_init_143 : decode cX10_init 143 = .ok (.if_icmp .ge 19, 3) := by decide +kernel
theorem dX10_init_146 : decode cX10_init 146 = .ok (.aload_n 1, 1) := by decide +kernel
theorem dX10_init_147 : decode cX10_init 147 = .ok (.iload_n 2, 1) := by decide +kernel
theorem dX10_init_148 : decode cX10_init 148 = .ok (.new 46, 3) := by decide +kernel
theorem dX10_init_151 : decode cX10_init 151 = .ok (.dup, 1) := by decide +kernel
theorem dX10_init_152 : decode cX10_init 152 = .ok (.invokespecial 67, 3) := by decide +kernel
theorem dX10_init_155 : decode cX10_init 155 = .ok (.aastore, 1) := by decide +kernel
theorem dX10_init_156 : decode cX10_init 156 = .ok (.iinc 2 1, 3) := by decide +kernel
theorem dX10_init_159 : decode cX10_init 159 = .ok (.goto (-19), 3) := by decide +kernel
theorem dX10_init_162 : decode cX10_init 162 = .ok (.aload_n 0, 1) := by decide +kernel
theorem dX10_init_163 : decode cX10_init 163 = .ok (.new 68, 3) := by decide +kernel
theorem dX10_init_166 : decode cX10_init 166 = .ok (.dup, 1) := by decide +kernel
theorem dX10_init_167 : decode cX10_init 167 = .ok (.aload_n 0, 1) := by decide +kernel
theorem dX10_init_168 : decode cX10_init 168 = .ok (.getfield 35, 3) := by decide +kernel
theorem dX10_init_171 : decode cX10_init 171 = .ok (.aload_n 1, 1) := by decide +kernel
theorem dX10_init_172 : decode cX10_init 172 = .ok (.invokespecial 70, 3) := by decide +kernel
theorem dX10_init_175 : decode cX10_init 175 = .ok (.putfield 73, 3) := by decide +kernel
theorem dX10_init_178 : decode cX10_init 178 = .ok (.aload_n 0, 1) := by decide +kernel
theorem dX10_init_179 : decode cX10_init 179 = .ok (.new 77, 3) := by decide +kernel
theorem dX10_init_182 : decode cX10_init 182 = .ok (.dup, 1) := by decide +kernel
theorem dX10_init_183 : decode cX10_init 183 = .ok (.aload_n 0, 1) := by decide +kernel
theorem dX10_init_184 : decode cX10_init 184 = .ok (.getfield 35, 3) := by decide +kernel
theorem dX10_init_187 : decode cX10_init 187 = .ok (.aload_n 1, 1) := by decide +kernel
theorem dX10_init_188 : decode cX10_init 188 = .ok (.invokespecial 79, 3) := by decide +kernel
theorem dX10_init_191 : decode cX10_init 191 = .ok (.putfield 80, 3) := by decide +kernel
theorem dX10_init_194 : decode cX10_init 194 = .ok (.aload_n 0, 1) := by decide +kernel
theorem dX10_init_195 : decode cX10_init 195 = .ok (.new 84, 3) := by decide +kernel
theorem dX10_init_198 : decode cX10_init 198 = .ok (.dup, 1) := by decide +kernel
theorem dX10_init_199 : decode cX10_init 199 = .ok (.aload_n 0, 1) := by decide +kernel
theorem dX10_init_200 : decode cX10_init 200 = .ok (.getfield 35, 3) := by decide +kernel
theorem dX10_init_203 : decode cX10_init 203 = .ok (.aload_n 1, 1) := by decide +kernel
theorem dX10_init_204 : decode cX10_init 204 = .ok (.aload_n 0, 1) := by decide +kernel
theorem dX10_init_205 : decode cX10_init 205 = .ok (.getfield 59, 3) := by decide +kernel
theorem dX10_init_208 : decode cX10_init 208 = .ok (.invokespecial 86, 3) := by decide +kernel
theorem dX10_init_211 : decode cX10_init 211 = .ok (.putfield 89, 3) := by decide +kernel
theorem dX10_init_214 : decode cX10_init 214 = .ok (.aload_n 0, 1) := by decide +kernel
theorem dX10_init_215 : decode cX10_init 215 = .ok (.getfield 42, 3) := by decide +kernel
theorem dX10_init_218 : decode cX10_init 218 = .ok (.invokevirtual 93, 3) := by decide +kernel
theorem dX10_init_221 : decode cX10_init 221 = .ok (.aload_n 0, 1) := by decide +kernel
theorem dX10_init_222 : decode cX10_init 222 = .ok (.getfield 16, 3) := by decide +kernel
theorem dX10_init_225 : decode cX10_init 225 = .ok (.invokevirtual 97, 3) := by decide +kernel
theorem dX10_init_228 : decode cX10_init 228 = .ok (.return_, 1) := by decide +kernel
