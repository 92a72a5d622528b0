theorem dX10_tapeNumber_0 : decode cX10_tapeNumber 0 = .ok (.bipush 24, 2) := by decide +kernel
theorem dX10_tapeNumber_2 : decode cX10_tapeNumber 2 = .ok (.istore_n 2, 1) := by decide +kernel
theorem dX10_tapeNumber_3 : decode cX10_tapeNumber 3 = .ok (.iload_n 2, 1) := by decide +kernel
theorem dX10_tapeNumber_4 : decode cX10_tapeNumber 4 = .ok (.ifCond .lt 42, 3) := by decide +kernel
theorem dX10_tapeNumber_7 : decode cX10_tapeNumber 7 = .ok (.aload_n 0, 1) := by decide +kernel
theorem dX10_tapeNumber_8 : decode cX10_tapeNumber 8 = .ok (.getfield 100, 3) := by decide +kernel
theorem dX10_tapeNumber_11 : decode cX10_tapeNumber 11 = .ok (.sipush 1600, 3) := by decide +kernel
theorem dX10_tapeNumber_14 : decode cX10_tapeNumber 14 = .ok (.if_icmp .ge 32, 3) := by decide +kernel
theorem dX10_tapeNumber_17 : decode cX10_tapeNumber 17 = .ok (.aload_n 0, 1) := by decide +kernel
theorem dX10_tapeNumber_18 : decode cX10_tapeNumber 18 = .ok (.getfield 9, 3) := by decide +kernel
theorem dX10_tapeNumber_21 : decode cX10_tapeNumber 21 = .ok (.aload_n 0, 1) := by decide +kernel
theorem dX10_tapeNumber_22 : decode cX10_tapeNumber 22 = .ok (.getfield 100, 3) := by decide +kernel
theorem dX10_tapeNumber_25 : decode cX10_tapeNumber 25 = .ok (.iload_n 1, 1) := by decide +kernel
theorem dX10_tapeNumber_26 : decode cX10_tapeNumber 26 = .ok (.iload_n 2, 1) := by decide +kernel
theorem dX10_tapeNumber_27 : decode cX10_tapeNumber 27 = .ok (.ishr, 1) := by decide +kernel
theorem dX10_tapeNumber_28 : decode cX10_tapeNumber 28 = .ok (.i2b, 1) := by decide +kernel
theorem dX10_tapeNumber_29 : decode cX10_tapeNumber 29 = .ok (.bastore, 1) := by decide +kernel
theorem dX10_tapeNumber_30 : decode cX10_tapeNumber 30 = .ok (.aload_n 0, 1) := by decide +kernel
theorem dX10_tapeNumber_31 : decode cX10_tapeNumber 31 = .ok (.dup, 1) := by decide +kernel
theorem dX10_tapeNumber_32 : decode cX10_tapeNumber 32 = .ok (.getfield 100, 3) := by decide +kernel
theorem dX10_tapeNumber_35 : decode cX10_tapeNumber 35 = .ok (.iconst 1, 1) := by decide +kernel
theorem dX10_tapeNumber_36 : decode cX10_tapeNumber 36 = .ok (.iadd, 1) := by decide +kernel
theorem dX10_tapeNumber_37 : decode cX10_tapeNumber 37 = .ok (.putfield 100, 3) := by decide +kernel
theorem dX10_tapeNumber_40 : decode cX10_tapeNumber 40 = .ok (.iinc 2 (-8), 3) := by decide +kernel
theorem dX10_tapeNumber_43 : decode cX10_tapeNumber 43 = .ok (.goto (-40), 3) := by decide +kernel
theorem dX10_tapeNumber_46 : decode cX10_tapeNumber 46 = .ok (.return_, 1) := by decide +kernel
theorem dX10_feed_0 : decode cX10_feed 0 = .ok (.aload_n 0, 1) := by decide +kernel
theorem dX10_feed_1 : decode cX10_feed 1 = .ok (.getfield 100, 3) := by decide +kernel
theorem dX10_feed_4 : decode cX10_feed 4 = .ok (.sipush 1580, 3) := by decide +kernel
theorem dX10_feed_7 : decode cX10_feed 7 = .ok (.if_icmp .le 5, 3) := by decide +kernel
theorem dX10_feed_10 : decode cX10_feed 10 = .ok (.iconst (-1), 1) := by decide +kernel
theorem dX10_feed_11 : decode cX10_feed 11 = .ok (.ireturn, 1) := by decide +kernel
theorem dX10_feed_12 : decode cX10_feed 12 = .ok (.aload_n 0, 1) := by decide +kernel
theorem dX10_feed_13 : decode cX10_feed 13 = .ok (.iload_n 1, 1) := by decide +kernel
theorem dX10_feed_14 : decode cX10_feed 14 = .ok (.invokevirtual 104, 3) := by decide +kernel
theorem dX10_feed_17 : decode cX10_feed 17 = .ok (.aload_n 0, 1) := by decide +kernel
theorem dX10_feed_18 : decode cX10_feed 18 = .ok (.iload_n 2, 1) := by decide +kernel
theorem dX10_feed_19 : decode cX10_feed 19 = .ok (.invokevirtual 104, 3) := by decide +kernel
theorem dX10_feed_22 : decode cX10_feed 22 = .ok (.aload_n 0, 1) := by decide +kernel
theorem dX10_feed_23 : decode cX10_feed 23 = .ok (.iload_n 3, 1) := by decide +kernel
theorem dX10_feed_24 : decode cX10_feed 24 = .ok (.invokevirtual 104, 3) := by decide +kernel
theorem dX10_feed_27 : decode cX10_feed 27 = .ok (.aload_n 0, 1) := by decide +kernel
theorem dX10_feed_28 : decode cX10_feed 28 = .ok (.iload 4, 2) := by decide +kernel
theorem dX10_feed_30 : decode cX10_feed 30 = .ok (.invokevirtual 104, 3) := by decide +kernel
theorem dX10_feed_33 : decode cX10_feed 33 = .ok (.aload_n 0, 1) := by decide +kernel
theorem dX10_feed_34 : decode cX10_feed 34 = .ok (.iload 5, 2) := by decide +kernel
theorem dX10_feed_36 : decode cX10_feed 36 = .ok (.invokevirtual 104, 3) := by decide +kernel
theorem dX10_feed_39 : decode cX10_feed 39 = .ok (.aload_n 0, 1) := by decide +kernel
theorem dX10_feed_40 : decode cX10_feed 40 = .ok (.getfield 100, 3) := by decide +kernel
theorem dX10_feed_43 : decode cX10_feed 43 = .ok (.ireturn, 1) := by decide +kernel
theorem dX10_end_0 : decode cX10_end 0 = .ok (.iload_n 1, 1) := by decide +kernel
theorem dX10_end_1 : decode cX10_end 1 = .ok (.ifCond .lt 11, 3) := by decide +kernel
theorem dX10_end_4 : decode cX10_end 4 = .ok (.iload_n 1, 1) := by decide +kernel
theorem dX10_end_5 : decode cX10_end 5 = .ok (.aload_n 0, 1) := by decide +kernel
theorem dX10_end_6 : decode cX10_end 6 = .ok (.getfield 100, 3) := by decide +kernel
theorem dX10_end_9 : decode cX10_end 9 = .ok (.if_icmp .le 5, 3) := by decide +kernel
theorem dX10_end_12 : decode cX10_end 12 = .ok (.iconst (-1), 1) := by decide +kernel
theorem dX10_end_13 : decode cX10_end 13 = .ok (.ireturn, 1) := by decide +kernel
theorem dX10_end_14 : decode cX10_end 14 = .ok (.aload_n 0, 1) := by decide +kernel
theorem dX10_end_15 : decode cX10_end 15 = .ok (.iload_n 1, 1) := by decide +kernel
theorem dX10_end_16 : decode cX10_end 16 = .ok (.putfield 100, 3) := by decide +kernel
theorem dX10_end_19 : decode cX10_end 19 = .ok (.iload_n 1, 1) := by decide +kernel
theorem dX10_end_20 : decode cX10_end 20 = .ok (.ireturn, 1) := by decide +kernel
theorem dX10_fault_0 : decode cX10_fault 0 = .ok (.iload_n 1, 1) := by decide +kernel
theorem dX10_fault_1 : decode cX10_fault 1 = .ok (.lookupswitch 43 #[(0, 27), (1, 35)], 27) := by decide +kernel
theorem dX10_fault_28 : decode cX10_fault 28 = .ok (.aload_n 0, 1) := by decide +kernel
theorem dX10_fault_29 : decode cX10_fault 29 = .ok (.getfield 26, 3) := by decide +kernel
theorem dX10_fault_32 : decode cX10_fault 32 = .ok (.getfield 130, 3) := by decide +kernel
theorem dX10_fault_35 : decode cX10_fault 35 = .ok (.ireturn, 1) := by decide +kernel
theorem dX10_fault_36 : decode cX10_fault 36 = .ok (.aload_n 0, 1) := by decide +kernel
theorem dX10_fault_37 : decode cX10_fault 37 = .ok (.getfield 26, 3) := by decide +kernel
theorem dX10_fault_40 : decode cX10_fault 40 = .ok (.getfield 133, 3) := by decide +kernel
theorem dX10_fault_43 : decode cX10_fault 43 = .ok (.ireturn, 1) := by decide +kernel
theorem dX10_fault_44 : decode cX10_fault 44 = .ok (.iconst (-1), 1) := by decide +kernel
theorem dX10_fault_45 : decode cX10_fault 45 = .ok (.ireturn, 1) := by decide +kernel
theorem dX10_ice_0 : decode cX10_ice 0 = .ok (.aload_n 0, 1) := by decide +kernel
theorem dX10_ice_1 : decode cX10_ice 1 = .ok (.getfield 16, 3) := by decide +kernel
theorem dX10_ice_4 : decode cX10_ice 4 = .ok (.iload_n 1, 1) := by decide +kernel
theorem dX10_ice_5 : decode cX10_ice 5 = .ok (.iload_n 2, 1) := by decide +kernel
theorem dX10_ice_6 : decode cX10_ice 6 = .ok (.invokevirtual 136, 3) := by decide +kernel
theorem dX10_ice_9 : decode cX10_ice 9 = .ok (.ifCond .ne 5, 3) := by decide +kernel
theorem dX10_ice_12 : decode cX10_ice 12 = .ok (.iconst (-1), 1) := by decide +kernel
theorem dX10_ice_13 : decode cX10_ice 13 = .ok (.ireturn, 1) := by decide +kernel
theorem dX10_ice_14 : decode cX10_ice 14 = .ok (.aload_n 0, 1) := by decide +kernel
theorem dX10_ice_15 : decode cX10_ice 15 = .ok (.getfield 42, 3) := by decide +kernel
theorem dX10_ice_18 : decode cX10_ice 18 = .ok (.invokevirtual 93, 3) := by decide +kernel
theorem dX10_ice_21 : decode cX10_ice 21 = .ok (.getfield 140, 3) := by decide +kernel
theorem dX10_ice_24 : decode cX10_ice 24 = .ok (.iload_n 1, 1) := by decide +kernel
theorem dX10_ice_25 : decode cX10_ice 25 = .ok (.iconst 5, 1) := by decide +kernel
theorem dX10_ice_26 : decode cX10_ice 26 = .ok (.iload_n 2, 1) := by decide +kernel
theorem dX10_ice_27 : decode cX10_ice 27 = .ok (.imul, 1) := by decide +kernel
theorem dX10_ice_28 : decode cX10_ice 28 = .ok (.iadd, 1) := by decide +kernel
theorem dX10_ice_29 : decode cX10_ice 29 = .ok (.iaload, 1) := by decide +kernel
theorem dX10_ice_30 : decode cX10_ice 30 = .ok (.ireturn, 1) := by decide +kernel
theorem dX10_load_0 : decode cX10_load 0 = .ok (.aload_n 0, 1) := by decide +kernel
theorem dX10_load_1 : decode cX10_load 1 = .ok (.getfield 16, 3) := by decide +kernel
theorem dX10_load_4 : decode cX10_load 4 = .ok (.iload_n 1, 1) := by decide +kernel
theorem dX10_load_5 : decode cX10_load 5 = .ok (.iload_n 2, 1) := by decide +kernel
theorem dX10_load_6 : decode cX10_load 6 = .ok (.invokevirtual 136, 3) := by decide +kernel
theorem dX10_load_9 : decode cX10_load 9 = .ok (.ifCond .ne 5, 3) := by decide +kernel
theorem dX10_load_12 : decode cX10_load 12 = .ok (.iconst (-1), 1) := by decide +kernel
theorem dX10_load_13 : decode cX10_load 13 = .ok (.ireturn, 1) := by decide +kernel
theorem dX10_load_14 : decode cX10_load 14 = .ok (.aload_n 0, 1) := by decide +kernel
theorem dX10_load_15 : decode cX10_load 15 = .ok (.getfield 42, 3) := by decide +kernel
theorem dX10_load_18 : decode cX10_load 18 = .ok (.invokevirtual 93, 3) := by decide +kernel
theorem dX10_load_21 : decode cX10_load 21 = .ok (.iload_n 1, 1) := by decide +kernel
theorem dX10_load_22 : decode cX10_load 22 = .ok (.iconst 5, 1) := by decide +kernel
theorem dX10_load_23 : decode cX10_load 23 = .ok (.iload_n 2, 1) := by decide +kernel
theorem dX10_load_24 : decode cX10_load 24 = .ok (.imul, 1) := by decide +kernel
theorem dX10_load_25 : decode cX10_load 25 = .ok (.iadd, 1) := by decide +kernel
theorem dX10_load_26 : decode cX10_load 26 = .ok (.aload_n 0, 1) := by decide +kernel
theorem dX10_load_27 : decode cX10_load 27 = .ok (.getfield 16, 3) := by decide +kernel
theorem dX10_load_30 : decode cX10_load 30 = .ok (.invokevirtual 143, 3) := by decide +kernel
theorem dX10_load_33 : decode cX10_load 33 = .ok (.ireturn, 1) := by decide +kernel
theorem dX10_skater_0 : decode cX10_skater 0 = .ok (.aload_n 0, 1) := by decide +kernel
theorem dX10_skater_1 : decode cX10_skater 1 = .ok (.getfield 16, 3) := by decide +kernel
theorem dX10_skater_4 : decode cX10_skater 4 = .ok (.iload_n 1, 1) := by decide +kernel
theorem dX10_skater_5 : decode cX10_skater 5 = .ok (.invokevirtual 147, 3) := by decide +kernel
theorem dX10_skater_8 : decode cX10_skater 8 = .ok (.ifCond .ne 6, 3) := by decide +kernel
theorem dX10_skater_11 : decode cX10_skater 11 = .ok (.bipush (-2), 2) := by decide +kernel
theorem dX10_skater_13 : decode cX10_skater 13 = .ok (.ireturn, 1) := by decide +kernel
theorem dX10_skater_14 : decode cX10_skater 14 = .ok (.aload_n 0, 1) := by decide +kernel
theorem dX10_skater_15 : decode cX10_skater 15 = .ok (.getfield 42, 3) := by decide +kernel
theorem dX10_skater_18 : decode cX10_skater 18 = .ok (.invokevirtual 93, 3) := by decide +kernel
theorem dX10_skater_21 : decode cX10_skater 21 = .ok (.astore_n 3, 1) := by decide +kernel
theorem dX10_skater_22 : decode cX10_skater 22 = .ok (.iload_n 2, 1) := by decide +kernel
theorem dX10_skater_23 : decode cX10_skater 23 = .ok (.tableswitch 90 0 5 #[37, 46, 55, 69, 76, 83], 37) := by decide +kernel
theorem dX10_skater_60 : decode cX10_skater 60 = .ok (.aload_n 3, 1) := by decide +kernel
theorem dX10_skater_61 : decode cX10_skater 61 = .ok (.getfield 151, 3) := by decide +kernel
theorem dX10_skater_64 : decode cX10_skater 64 = .ok (.iload_n 1, 1) := by decide +kernel
theorem dX10_skater_65 : decode cX10_skater 65 = .ok (.iaload, 1) := by decide +kernel
theorem dX10_skater_66 : decode cX10_skater 66 = .ok (.iconst 5, 1) := by decide +kernel
theorem dX10_skater_67 : decode cX10_skater 67 = .ok (.irem, 1) := by decide +kernel
theorem dX10_skater_68 : decode cX10_skater 68 = .ok (.ireturn, 1) := by decide +kernel
theorem dX10_skater_69 : decode cX10_skater 69 = .ok (.aload_n 3, 1) := by decide +kernel
theorem dX10_skater_70 : decode cX10_skater 70 = .ok (.getfield 151, 3) := by decide +kernel
theorem dX10_skater_73 : decode cX10_skater 73 = .ok (.iload_n 1, 1) := by decide +kernel
theorem dX10_skater_74 : decode cX10_skater 74 = .ok (.iaload, 1) := by decide +kernel
theorem dX10_skater_75 : decode cX10_skater 75 = .ok (.iconst 5, 1) := by decide +kernel
theorem dX10_skater_76 : decode cX10_skater 76 = .ok (.idiv, 1) := by decide +kernel
theorem dX10_skater_77 : decode cX10_skater 77 = .ok (.ireturn, 1) := by decide +kernel
theorem dX10_skater_78 : decode cX10_skater 78 = .ok (.aload_n 3, 1) := by decide +kernel
theorem dX10_skater_79 : decode cX10_skater 79 = .ok (.iload_n 1, 1) := by decide +kernel
theorem dX10_skater_80 : decode cX10_skater 80 = .ok (.invokevirtual 154, 3) := by decide +kernel
theorem dX10_skater_83 : decode cX10_skater 83 = .ok (.ifCond .eq 7, 3) := by decide +kernel
theorem dX10_skater_86 : decode cX10_skater 86 = .ok (.iconst 1, 1) := by decide +kernel
theorem dX10_skater_87 : decode cX10_skater 87 = .ok (.goto 4, 3) := by decide +kernel
theorem dX10_skater_90 : decode cX10_skater 90 = .ok (.iconst 0, 1) := by decide +kernel
theorem dX10_skater_91 : decode cX10_skater 91 = .ok (.ireturn, 1) := by decide +kernel
theorem dX10_skater_92 : decode cX10_skater 92 = .ok (.aload_n 3, 1) := by decide +kernel
theorem dX10_skater_93 : decode cX10_skater 93 = .ok (.getfield 157, 3) := by decide +kernel
theorem dX10_skater_96 : decode cX10_skater 96 = .ok (.iload_n 1, 1) := by decide +kernel
theorem dX10_skater_97 : decode cX10_skater 97 = .ok (.iaload, 1) := by decide +kernel
theorem dX10_skater_98 : decode cX10_skater 98 = .ok (.ireturn, 1) := by decide +kernel
theorem dX10_skater_99 : decode cX10_skater 99 = .ok (.aload_n 3, 1) := by decide +kernel
theorem dX10_skater_100 : decode cX10_skater 100 = .ok (.getfield 160, 3) := by decide +kernel
theorem dX10_skater_103 : decode cX10_skater 103 = .ok (.iload_n 1, 1) := by decide +kernel
theorem dX10_skater_104 : decode cX10_skater 104 = .ok (.iaload, 1) := by decide +kernel
theorem dX10_skater_105 : decode cX10_skater 105 = .ok (.ireturn, 1) := by decide +kernel
theorem dX10_skater_106 : decode cX10_skater 106 = .ok (.aload_n 3, 1) := by decide +kernel
theorem dX10_skater_107 : decode cX10_skater 107 = .ok (.getfield 163, 3) := by decide +kernel
theorem dX10_skater_110 : decode cX10_skater 110 = .ok (.iload_n 1, 1) := by decide +kernel
theorem dX10_skater_111 : decode cX10_skater 111 = .ok (.iaload, 1) := by decide +kernel
theorem dX10_skater_112 : decode cX10_skater 112 = .ok (.ireturn, 1) := by decide +kernel
theorem dX10_skater_113 : decode cX10_skater 113 = .ok (.bipush (-2), 2) := by decide +kernel
theorem dX10_skater_115 : decode cX10_skater 115 = .ok (.ireturn, 1) := by decide +kernel
theorem dX10_play_0 : decode cX10_play 0 = .ok (.aload_n 0, 1) := by decide +kernel
theorem dX10_play_1 : decode cX10_play 1 = .ok (.getfield 16, 3) := by decide +kernel
theorem dX10_play_4 : decode cX10_play 4 = .ok (.iload_n 1, 1) := by decide +kernel
theorem dX10_play_5 : decode cX10_play 5 = .ok (.invokevirtual 166, 3) := by decide +kernel
theorem dX10_play_8 : decode cX10_play 8 = .ok (.ifCond .eq 29, 3) := by decide +kernel
theorem dX10_play_11 : decode cX10_play 11 = .ok (.aload_n 0, 1) := by decide +kernel
theorem dX10_play_12 : decode cX10_play 12 = .ok (.getfield 42, 3) := by decide +kernel
theorem dX10_play_15 : decode cX10_play 15 = .ok (.invokevirtual 93, 3) := by decide +kernel
theorem dX10_play_18 : decode cX10_play 18 = .ok (.getfield 169, 3) := by decide +kernel
theorem dX10_play_21 : decode cX10_play 21 = .ok (.aload_n 0, 1) := by decide +kernel
theorem dX10_play_22 : decode cX10_play 22 = .ok (.getfield 16, 3) := by decide +kernel
theorem dX10_play_25 : decode cX10_play 25 = .ok (.getfield 172, 3) := by decide +kernel
theorem dX10_play_28 : decode cX10_play 28 = .ok (.iload_n 1, 1) := by decide +kernel
theorem dX10_play_29 : decode cX10_play 29 = .ok (.iaload, 1) := by decide +kernel
theorem dX10_play_30 : decode cX10_play 30 = .ok (.iadd, 1) := by decide +kernel
theorem dX10_play_31 : decode cX10_play 31 = .ok (.sipush 2000, 3) := by decide +kernel
theorem dX10_play_34 : decode cX10_play 34 = .ok (.if_icmp .le 5, 3) := by decide +kernel
theorem dX10_play_37 : decode cX10_play 37 = .ok (.iconst (-1), 1) := by decide +kernel
theorem dX10_play_38 : decode cX10_play 38 = .ok (.ireturn, 1) := by decide +kernel
theorem dX10_play_39 : decode cX10_play 39 = .ok (.aload_n 0, 1) := by decide +kernel
theorem dX10_play_40 : decode cX10_play 40 = .ok (.getfield 42, 3) := by decide +kernel
theorem dX10_play_43 : decode cX10_play 43 = .ok (.invokevirtual 174, 3) := by decide +kernel
theorem dX10_play_46 : decode cX10_play 46 = .ok (.astore_n 2, 1) := by decide +kernel
theorem dX10_play_47 : decode cX10_play 47 = .ok (.aload_n 0, 1) := by decide +kernel
theorem dX10_play_48 : decode cX10_play 48 = .ok (.getfield 35, 3) := by decide +kernel
theorem dX10_play_51 : decode cX10_play 51 = .ok (.aload_n 2, 1) := by decide +kernel
theorem dX10_play_52 : decode cX10_play 52 = .ok (.iload_n 1, 1) := by decide +kernel
theorem dX10_play_53 : decode cX10_play 53 = .ok (.invokevirtual 177, 3) := by decide +kernel
theorem dX10_play_56 : decode cX10_play 56 = .ok (.aload_n 2, 1) := by decide +kernel
theorem dX10_play_57 : decode cX10_play 57 = .ok (.aload_n 0, 1) := by decide +kernel
theorem dX10_play_58 : decode cX10_play 58 = .ok (.getfield 16, 3) := by decide +kernel
theorem dX10_play_61 : decode cX10_play 61 = .ok (.invokevirtual 181, 3) := by decide +kernel
theorem dX10_play_64 : decode cX10_play 64 = .ok (.ireturn, 1) := by decide +kernel
theorem dX10_undo_0 : decode cX10_undo 0 = .ok (.aload_n 0, 1) := by decide +kernel
theorem dX10_undo_1 : decode cX10_undo 1 = .ok (.getfield 42, 3) := by decide +kernel
theorem dX10_undo_4 : decode cX10_undo 4 = .ok (.invokevirtual 188, 3) := by decide +kernel
theorem dX10_undo_7 : decode cX10_undo 7 = .ok (.ireturn, 1) := by decide +kernel
theorem dX10_redo_0 : decode cX10_redo 0 = .ok (.aload_n 0, 1) := by decide +kernel
theorem dX10_redo_1 : decode cX10_redo 1 = .ok (.getfield 42, 3) := by decide +kernel
theorem dX10_redo_4 : decode cX10_redo 4 = .ok (.invokevirtual 192, 3) := by decide +kernel
theorem dX10_redo_7 : decode cX10_redo 7 = .ok (.ireturn, 1) := by decide +kernel
theorem dX10_duel_0 : decode cX10_duel 0 = .ok (.iload_n 1, 1) := by decide +kernel
theorem dX10_duel_1 : decode cX10_duel 1 = .ok (.ifCond .eq 33, 3) := by decide +kernel
theorem dX10_duel_4 : decode cX10_duel 4 = .ok (.aload_n 0, 1) := by decide +kernel
theorem dX10_duel_5 : decode cX10_duel 5 = .ok (.getfield 16, 3) := by decide +kernel
theorem dX10_duel_8 : decode cX10_duel 8 = .ok (.iload_n 1, 1) := by decide +kernel
theorem dX10_duel_9 : decode cX10_duel 9 = .ok (.invokevirtual 195, 3) := by decide +kernel
theorem dX10_duel_12 : decode cX10_duel 12 = .ok (.ifCond .eq 22, 3) := by decide +kernel
theorem dX10_duel_15 : decode cX10_duel 15 = .ok (.iload_n 2, 1) := by decide +kernel
theorem dX10_duel_16 : decode cX10_duel 16 = .ok (.iconst 1, 1) := by decide +kernel
theorem dX10_duel_17 : decode cX10_duel 17 = .ok (.if_icmp .lt 17, 3) := by decide +kernel
theorem dX10_duel_20 : decode cX10_duel 20 = .ok (.iload_n 2, 1) := by decide +kernel
theorem dX10_duel_21 : decode cX10_duel 21 = .ok (.iconst 4, 1) := by decide +kernel
theorem dX10_duel_22 : decode cX10_duel 22 = .ok (.if_icmp .gt 12, 3) := by decide +kernel
theorem dX10_duel_25 : decode cX10_duel 25 = .ok (.iload_n 3, 1) := by decide +kernel
theorem dX10_duel_26 : decode cX10_duel 26 = .ok (.ifCond .lt 8, 3) := by decide +kernel
theorem dX10_duel_29 : decode cX10_duel 29 = .ok (.iload_n 3, 1) := by decide +kernel
theorem dX10_duel_30 : decode cX10_duel 30 = .ok (.iconst 1, 1) := by decide +kernel
theorem dX10_duel_31 : decode cX10_duel 31 = .ok (.if_icmp .le 5, 3) := by decide +kernel
theorem dX10_duel_34 : decode cX10_duel 34 = .ok (.iconst (-1), 1) := by decide +kernel
theorem dX10_duel_35 : decode cX10_duel 35 = .ok (.ireturn, 1) := by decide +kernel
theorem dX10_duel_36 : decode cX10_duel 36 = .ok (.aload_n 0, 1) := by decide +kernel
theorem dX10_duel_37 : decode cX10_duel 37 = .ok (.getfield 80, 3) := by decide +kernel
theorem dX10_duel_40 : decode cX10_duel 40 = .ok (.aload_n 0, 1) := by decide +kernel
theorem dX10_duel_41 : decode cX10_duel 41 = .ok (.getfield 42, 3) := by decide +kernel
theorem dX10_duel_44 : decode cX10_duel 44 = .ok (.invokevirtual 93, 3) := by decide +kernel
theorem dX10_duel_47 : decode cX10_duel 47 = .ok (.iload_n 1, 1) := by decide +kernel
theorem dX10_duel_48 : decode cX10_duel 48 = .ok (.iload_n 2, 1) := by decide +kernel
theorem dX10_duel_49 : decode cX10_duel 49 = .ok (.invokevirtual 215, 3) := by decide +kernel
theorem dX10_duel_52 : decode cX10_duel 52 = .ok (.istore 4, 2) := by decide +kernel
theorem dX10_duel_54 : decode cX10_duel 54 = .ok (.iload_n 3, 1) := by decide +kernel
theorem dX10_duel_55 : decode cX10_duel 55 = .ok (.ifCond .ne 8, 3) := by decide +kernel
theorem dX10_duel_58 : decode cX10_duel 58 = .ok (.iload 4, 2) := by decide +kernel
theorem dX10_duel_60 : decode cX10_duel 60 = .ok (.goto 10, 3) := by decide +kernel
theorem dX10_duel_63 : decode cX10_duel 63 = .ok (.aload_n 0, 1) := by decide +kernel
theorem dX10_duel_64 : decode cX10_duel 64 = .ok (.getfield 80, 3) := by decide +kernel
theorem dX10_duel_67 : decode cX10_duel 67 = .ok (.getfield 219, 3) := by decide +kernel
theorem dX10_duel_70 : decode cX10_duel 70 = .ok (.ireturn, 1) := by decide +kernel
theorem dX10_planks_0 : decode cX10_planks 0 = .ok (.aload_n 0, 1) := by decide +kernel
theorem dX10_planks_1 : decode cX10_planks 1 = .ok (.iconst 0, 1) := by decide +kernel
theorem dX10_planks_2 : decode cX10_planks 2 = .ok (.putfield 121, 3) := by decide +kernel
theorem dX10_planks_5 : decode cX10_planks 5 = .ok (.aload_n 0, 1) := by decide +kernel
theorem dX10_planks_6 : decode cX10_planks 6 = .ok (.getfield 16, 3) := by decide +kernel
theorem dX10_planks_9 : decode cX10_planks 9 = .ok (.iload_n 1, 1) := by decide +kernel
theorem dX10_planks_10 : decode cX10_planks 10 = .ok (.invokevirtual 166, 3) := by decide +kernel
theorem dX10_planks_13 : decode cX10_planks 13 = .ok (.ifCond .ne 6, 3) := by decide +kernel
theorem dX10_planks_16 : decode cX10_planks 16 = .ok (.bipush (-2), 2) := by decide +kernel
theorem dX10_planks_18 : decode cX10_planks 18 = .ok (.ireturn, 1) := by decide +kernel
theorem dX10_planks_19 : decode cX10_planks 19 = .ok (.aload_n 0, 1) := by decide +kernel
theorem dX10_planks_20 : decode cX10_planks 20 = .ok (.getfield 73, 3) := by decide +kernel
theorem dX10_planks_23 : decode cX10_planks 23 = .ok (.aload_n 0, 1) := by decide +kernel
theorem dX10_planks_24 : decode cX10_planks 24 = .ok (.getfield 42, 3) := by decide +kernel
theorem dX10_planks_27 : decode cX10_planks 27 = .ok (.invokevirtual 93, 3) := by decide +kernel
theorem dX10_planks_30 : decode cX10_planks 30 = .ok (.iload_n 1, 1) := by decide +kernel
theorem dX10_planks_31 : decode cX10_planks 31 = .ok (.invokevirtual 222, 3) := by decide +kernel
theorem dX10_planks_34 : decode cX10_planks 34 = .ok (.istore_n 2, 1) := by decide +kernel
theorem dX10_planks_35 : decode cX10_planks 35 = .ok (.aload_n 0, 1) := by decide +kernel
theorem dX10_planks_36 : decode cX10_planks 36 = .ok (.aload_n 0, 1) := by decide +kernel
theorem dX10_planks_37 : decode cX10_planks 37 = .ok (.getfield 73, 3) := by decide +kernel
theorem dX10_planks_40 : decode cX10_planks 40 = .ok (.getfield 202, 3) := by decide +kernel
theorem dX10_planks_43 : decode cX10_planks 43 = .ok (.iload_n 2, 1) := by decide +kernel
theorem dX10_planks_44 : decode cX10_planks 44 = .ok (.invokevirtual 211, 3) := by decide +kernel
theorem dX10_planks_47 : decode cX10_planks 47 = .ok (.iload_n 2, 1) := by decide +kernel
theorem dX10_planks_48 : decode cX10_planks 48 = .ok (.ireturn, 1) := by decide +kernel
theorem dX10_hush_0 : decode cX10_hush 0 = .ok (.aload_n 0, 1) := by decide +kernel
theorem dX10_hush_1 : decode cX10_hush 1 = .ok (.getfield 16, 3) := by decide +kernel
theorem dX10_hush_4 : decode cX10_hush 4 = .ok (.iload_n 1, 1) := by decide +kernel
theorem dX10_hush_5 : decode cX10_hush 5 = .ok (.invokevirtual 166, 3) := by decide +kernel
theorem dX10_hush_8 : decode cX10_hush 8 = .ok (.ifCond .eq 12, 3) := by decide +kernel
theorem dX10_hush_11 : decode cX10_hush 11 = .ok (.iload_n 2, 1) := by decide +kernel
theorem dX10_hush_12 : decode cX10_hush 12 = .ok (.ifCond .lt 8, 3) := by decide +kernel
theorem dX10_hush_15 : decode cX10_hush 15 = .ok (.iload_n 2, 1) := by decide +kernel
theorem dX10_hush_16 : decode cX10_hush 16 = .ok (.iconst 1, 1) := by decide +kernel
theorem dX10_hush_17 : decode cX10_hush 17 = .ok (.if_icmp .le 5, 3) := by decide +kernel
theorem dX10_hush_20 : decode cX10_hush 20 = .ok (.iconst (-1), 1) := by decide +kernel
theorem dX10_hush_21 : decode cX10_hush 21 = .ok (.ireturn, 1) := by decide +kernel
theorem dX10_hush_22 : decode cX10_hush 22 = .ok (.aload_n 0, 1) := by decide +kernel
theorem dX10_hush_23 : decode cX10_hush 23 = .ok (.getfield 73, 3) := by decide +kernel
theorem dX10_hush_26 : decode cX10_hush 26 = .ok (.aload_n 0, 1) := by decide +kernel
theorem dX10_hush_27 : decode cX10_hush 27 = .ok (.getfield 42, 3) := by decide +kernel
theorem dX10_hush_30 : decode cX10_hush 30 = .ok (.invokevirtual 93, 3) := by decide +kernel
theorem dX10_hush_33 : decode cX10_hush 33 = .ok (.iload_n 1, 1) := by decide +kernel
theorem dX10_hush_34 : decode cX10_hush 34 = .ok (.invokevirtual 225, 3) := by decide +kernel
theorem dX10_hush_37 : decode cX10_hush 37 = .ok (.istore_n 3, 1) := by decide +kernel
theorem dX10_hush_38 : decode cX10_hush 38 = .ok (.iload_n 2, 1) := by decide +kernel
theorem dX10_hush_39 : decode cX10_hush 39 = .ok (.ifCond .ne 7, 3) := by decide +kernel
theorem dX10_hush_42 : decode cX10_hush 42 = .ok (.iload_n 3, 1) := by decide +kernel
theorem dX10_hush_43 : decode cX10_hush 43 = .ok (.goto 10, 3) := by decide +kernel
theorem dX10_hush_46 : decode cX10_hush 46 = .ok (.aload_n 0, 1) := by decide +kernel
theorem dX10_hush_47 : decode cX10_hush 47 = .ok (.getfield 73, 3) := by decide +kernel
theorem dX10_hush_50 : decode cX10_hush 50 = .ok (.getfield 228, 3) := by decide +kernel
theorem dX10_hush_53 : decode cX10_hush 53 = .ok (.ireturn, 1) := by decide +kernel
theorem dX10_breaks_0 : decode cX10_breaks 0 = .ok (.aload_n 0, 1) := by decide +kernel
theorem dX10_breaks_1 : decode cX10_breaks 1 = .ok (.getfield 16, 3) := by decide +kernel
theorem dX10_breaks_4 : decode cX10_breaks 4 = .ok (.iload_n 1, 1) := by decide +kernel
theorem dX10_breaks_5 : decode cX10_breaks 5 = .ok (.invokevirtual 166, 3) := by decide +kernel
theorem dX10_breaks_8 : decode cX10_breaks 8 = .ok (.ifCond .eq 15, 3) := by decide +kernel
theorem dX10_breaks_11 : decode cX10_breaks 11 = .ok (.iload_n 2, 1) := by decide +kernel
theorem dX10_breaks_12 : decode cX10_breaks 12 = .ok (.bipush (-9), 2) := by decide +kernel
theorem dX10_breaks_14 : decode cX10_breaks 14 = .ok (.if_icmp .lt 9, 3) := by decide +kernel
theorem dX10_breaks_17 : decode cX10_breaks 17 = .ok (.iload_n 2, 1) := by decide +kernel
theorem dX10_breaks_18 : decode cX10_breaks 18 = .ok (.bipush 9, 2) := by decide +kernel
theorem dX10_breaks_20 : decode cX10_breaks 20 = .ok (.if_icmp .le 6, 3) := by decide +kernel
theorem dX10_breaks_23 : decode cX10_breaks 23 = .ok (.bipush (-2), 2) := by decide +kernel
theorem dX10_breaks_25 : decode cX10_breaks 25 = .ok (.ireturn, 1) := by decide +kernel
theorem dX10_breaks_26 : decode cX10_breaks 26 = .ok (.aload_n 0, 1) := by decide +kernel
theorem dX10_breaks_27 : decode cX10_breaks 27 = .ok (.getfield 73, 3) := by decide +kernel
theorem dX10_breaks_30 : decode cX10_breaks 30 = .ok (.aload_n 0, 1) := by decide +kernel
theorem dX10_breaks_31 : decode cX10_breaks 31 = .ok (.getfield 42, 3) := by decide +kernel
theorem dX10_breaks_34 : decode cX10_breaks 34 = .ok (.invokevirtual 93, 3) := by decide +kernel
theorem dX10_breaks_37 : decode cX10_breaks 37 = .ok (.iload_n 1, 1) := by decide +kernel
theorem dX10_breaks_38 : decode cX10_breaks 38 = .ok (.iload_n 2, 1) := by decide +kernel
theorem dX10_breaks_39 : decode cX10_breaks 39 = .ok (.invokevirtual 231, 3) := by decide +kernel
theorem dX10_breaks_42 : decode cX10_breaks 42 = .ok (.ireturn, 1) := by decide +kernel
theorem dX10_lies_0 : decode cX10_lies 0 = .ok (.iload_n 1, 1) := by decide +kernel
theorem dX10_lies_1 : decode cX10_lies 1 = .ok (.ifCond .lt 11, 3) := by decide +kernel
theorem dX10_lies_4 : decode cX10_lies 4 = .ok (.iload_n 1, 1) := by decide +kernel
theorem dX10_lies_5 : decode cX10_lies 5 = .ok (.aload_n 0, 1) := by decide +kernel
theorem dX10_lies_6 : decode cX10_lies 6 = .ok (.getfield 121, 3) := by decide +kernel
theorem dX10_lies_9 : decode cX10_lies 9 = .ok (.if_icmp .lt 7, 3) := by decide +kernel
theorem dX10_lies_12 : decode cX10_lies 12 = .ok (.iconst (-1), 1) := by decide +kernel
theorem dX10_lies_13 : decode cX10_lies 13 = .ok (.goto 9, 3) := by decide +kernel
theorem dX10_lies_16 : decode cX10_lies 16 = .ok (.aload_n 0, 1) := by decide +kernel
theorem dX10_lies_17 : decode cX10_lies 17 = .ok (.getfield 63, 3) := by decide +kernel
theorem dX10_lies_20 : decode cX10_lies 20 = .ok (.iload_n 1, 1) := by decide +kernel
theorem dX10_lies_21 : decode cX10_lies 21 = .ok (.iaload, 1) := by decide +kernel
theorem dX10_lies_22 : decode cX10_lies 22 = .ok (.ireturn, 1) := by decide +kernel
theorem dX10_isSightBar_0 : decode cX10_isSightBar 0 = .ok (.iload_n 0, 1) := by decide +kernel
theorem dX10_isSightBar_1 : decode cX10_isSightBar 1 = .ok (.iconst 1, 1) := by decide +kernel
theorem dX10_isSightBar_2 : decode cX10_isSightBar 2 = .ok (.if_icmp .lt 13, 3) := by decide +kernel
theorem dX10_isSightBar_5 : decode cX10_isSightBar 5 = .ok (.iload_n 0, 1) := by decide +kernel
theorem dX10_isSightBar_6 : decode cX10_isSightBar 6 = .ok (.bipush 36, 2) := by decide +kernel
theorem dX10_isSightBar_8 : decode cX10_isSightBar 8 = .ok (.if_icmp .gt 7, 3) := by decide +kernel
theorem dX10_isSightBar_11 : decode cX10_isSightBar 11 = .ok (.iconst 1, 1) := by decide +kernel
theorem dX10_isSightBar_12 : decode cX10_isSightBar 12 = .ok (.goto 4, 3) := by decide +kernel
theorem dX10_isSightBar_15 : decode cX10_isSightBar 15 = .ok (.iconst 0, 1) := by decide +kernel
theorem dX10_isSightBar_16 : decode cX10_isSightBar 16 = .ok (.ireturn, 1) := by decide +kernel
theorem dX10_sight_0 : decode cX10_sight 0 = .ok (.iload_n 1, 1) := by decide +kernel
theorem dX10_sight_1 : decode cX10_sight 1 = .ok (.invokestatic 234, 3) := by decide +kernel
theorem dX10_sight_4 : decode cX10_sight 4 = .ok (.ifCond .eq 34, 3) := by decide +kernel
theorem dX10_sight_7 : decode cX10_sight 7 = .ok (.aload_n 0, 1) := by decide +kernel
theorem dX10_sight_8 : decode cX10_sight 8 = .ok (.getfield 16, 3) := by decide +kernel
theorem dX10_sight_11 : decode cX10_sight 11 = .ok (.iload_n 2, 1) := by decide +kernel
theorem dX10_sight_12 : decode cX10_sight 12 = .ok (.iload_n 3, 1) := by decide +kernel
theorem dX10_sight_13 : decode cX10_sight 13 = .ok (.invokevirtual 136, 3) := by decide +kernel
theorem dX10_sight_16 : decode cX10_sight 16 = .ok (.ifCond .eq 22, 3) := by decide +kernel
theorem dX10_sight_19 : decode cX10_sight 19 = .ok (.iload 4, 2) := by decide +kernel
theorem dX10_sight_21 : decode cX10_sight 21 = .ok (.ifCond .lt 17, 3) := by decide +kernel
theorem dX10_sight_24 : decode cX10_sight 24 = .ok (.iload 5, 2) := by decide +kernel
theorem dX10_sight_26 : decode cX10_sight 26 = .ok (.iload 4, 2) := by decide +kernel
theorem dX10_sight_28 : decode cX10_sight 28 = .ok (.if_icmp .lt 10, 3) := by decide +kernel
theorem dX10_sight_31 : decode cX10_sight 31 = .ok (.iload 5, 2) := by decide +kernel
theorem dX10_sight_33 : decode cX10_sight 33 = .ok (.bipush 99, 2) := by decide +kernel
theorem dX10_sight_35 : decode cX10_sight 35 = .ok (.if_icmp .le 5, 3) := by decide +kernel
theorem dX10_sight_38 : decode cX10_sight 38 = .ok (.iconst (-1), 1) := by decide +kernel
theorem dX10_sight_39 : decode cX10_sight 39 = .ok (.ireturn, 1) := by decide +kernel
theorem dX10_sight_40 : decode cX10_sight 40 = .ok (.aload_n 0, 1) := by decide +kernel
theorem dX10_sight_41 : decode cX10_sight 41 = .ok (.getfield 59, 3) := by decide +kernel
theorem dX10_sight_44 : decode cX10_sight 44 = .ok (.iload_n 1, 1) := by decide +kernel
theorem dX10_sight_45 : decode cX10_sight 45 = .ok (.iload_n 2, 1) := by decide +kernel
theorem dX10_sight_46 : decode cX10_sight 46 = .ok (.iconst 5, 1) := by decide +kernel
theorem dX10_sight_47 : decode cX10_sight 47 = .ok (.iload_n 3, 1) := by decide +kernel
theorem dX10_sight_48 : decode cX10_sight 48 = .ok (.imul, 1) := by decide +kernel
theorem dX10_sight_49 : decode cX10_sight 49 = .ok (.iadd, 1) := by decide +kernel
theorem dX10_sight_50 : decode cX10_sight 50 = .ok (.iload 4, 2) := by decide +kernel
theorem dX10_sight_52 : decode cX10_sight 52 = .ok (.iload 5, 2) := by decide +kernel
theorem dX10_sight_54 : decode cX10_sight 54 = .ok (.aload_n 0, 1) := by decide +kernel
theorem dX10_sight_55 : decode cX10_sight 55 = .ok (.getfield 237, 3) := by decide +kernel
theorem dX10_sight_58 : decode cX10_sight 58 = .ok (.invokevirtual 240, 3) := by decide +kernel
theorem dX10_sight_61 : decode cX10_sight 61 = .ok (.ireturn, 1) := by decide +kernel
theorem dX10_seen_0 : decode cX10_seen 0 = .ok (.iload_n 1, 1) := by decide +kernel
theorem dX10_seen_1 : decode cX10_seen 1 = .ok (.invokestatic 234, 3) := by decide +kernel
theorem dX10_seen_4 : decode cX10_seen 4 = .ok (.ifCond .eq 14, 3) := by decide +kernel
theorem dX10_seen_7 : decode cX10_seen 7 = .ok (.aload_n 0, 1) := by decide +kernel
theorem dX10_seen_8 : decode cX10_seen 8 = .ok (.getfield 16, 3) := by decide +kernel
theorem dX10_seen_11 : decode cX10_seen 11 = .ok (.iload_n 2, 1) := by decide +kernel
theorem dX10_seen_12 : decode cX10_seen 12 = .ok (.invokevirtual 147, 3) := by decide +kernel
theorem dX10_seen_15 : decode cX10_seen 15 = .ok (.ifCond .ne 5, 3) := by decide +kernel
theorem dX10_seen_18 : decode cX10_seen 18 = .ok (.iconst (-1), 1) := by decide +kernel
theorem dX10_seen_19 : decode cX10_seen 19 = .ok (.ireturn, 1) := by decide +kernel
theorem dX10_seen_20 : decode cX10_seen 20 = .ok (.aload_n 0, 1) := by decide +kernel
theorem dX10_seen_21 : decode cX10_seen 21 = .ok (.getfield 59, 3) := by decide +kernel
theorem dX10_seen_24 : decode cX10_seen 24 = .ok (.iload_n 1, 1) := by decide +kernel
theorem dX10_seen_25 : decode cX10_seen 25 = .ok (.iload_n 2, 1) := by decide +kernel
theorem dX10_seen_26 : decode cX10_seen 26 = .ok (.iload_n 3, 1) := by decide +kernel
theorem dX10_seen_27 : decode cX10_seen 27 = .ok (.aload_n 0, 1) := by decide +kernel
theorem dX10_seen_28 : decode cX10_seen 28 = .ok (.getfield 237, 3) := by decide +kernel
theorem dX10_seen_31 : decode cX10_seen 31 = .ok (.invokevirtual 244, 3) := by decide +kernel
theorem dX10_seen_34 : decode cX10_seen 34 = .ok (.ireturn, 1) := by decide +kernel
theorem dX10_untell_0 : decode cX10_untell 0 = .ok (.aload_n 0, 1) := by decide +kernel
theorem dX10_untell_1 : decode cX10_untell 1 = .ok (.getfield 59, 3) := by decide +kernel
theorem dX10_untell_4 : decode cX10_untell 4 = .ok (.iload_n 1, 1) := by decide +kernel
theorem dX10_untell_5 : decode cX10_untell 5 = .ok (.aload_n 0, 1) := by decide +kernel
theorem dX10_untell_6 : decode cX10_untell 6 = .ok (.getfield 237, 3) := by decide +kernel
theorem dX10_untell_9 : decode cX10_untell 9 = .ok (.invokevirtual 248, 3) := by decide +kernel
theorem dX10_untell_12 : decode cX10_untell 12 = .ok (.ireturn, 1) := by decide +kernel
theorem dX10_later_0 : decode cX10_later 0 = .ok (.iload_n 1, 1) := by decide +kernel
theorem dX10_later_1 : decode cX10_later 1 = .ok (.ifCond .lt 21, 3) := by decide +kernel
theorem dX10_later_4 : decode cX10_later 4 = .ok (.iload_n 1, 1) := by decide +kernel
theorem dX10_later_5 : decode cX10_later 5 = .ok (.sipush 1000, 3) := by decide +kernel
theorem dX10_later_8 : decode cX10_later 8 = .ok (.if_icmp .gt 14, 3) := by decide +kernel
theorem dX10_later_11 : decode cX10_later 11 = .ok (.aload_n 0, 1) := by decide +kernel
theorem dX10_later_12 : decode cX10_later 12 = .ok (.getfield 237, 3) := by decide +kernel
theorem dX10_later_15 : decode cX10_later 15 = .ok (.iload_n 1, 1) := by decide +kernel
theorem dX10_later_16 : decode cX10_later 16 = .ok (.iadd, 1) := by decide +kernel
theorem dX10_later_17 : decode cX10_later 17 = .ok (.ldc 251, 2) := by decide +kernel
theorem dX10_later_19 : decode cX10_later 19 = .ok (.if_icmp .le 5, 3) := by decide +kernel
theorem dX10_later_22 : decode cX10_later 22 = .ok (.iconst (-1), 1) := by decide +kernel
theorem dX10_later_23 : decode cX10_later 23 = .ok (.ireturn, 1) := by decide +kernel
theorem dX10_later_24 : decode cX10_later 24 = .ok (.aload_n 0, 1) := by decide +kernel
theorem dX10_later_25 : decode cX10_later 25 = .ok (.dup, 1) := by decide +kernel
theorem dX10_later_26 : decode cX10_later 26 = .ok (.getfield 237, 3) := by decide +kernel
theorem dX10_later_29 : decode cX10_later 29 = .ok (.iload_n 1, 1) := by decide +kernel
theorem dX10_later_30 : decode cX10_later 30 = .ok (.iadd, 1) := by decide +kernel
theorem dX10_later_31 : decode cX10_later 31 = .ok (.putfield 237, 3) := by decide +kernel
theorem dX10_later_34 : decode cX10_later 34 = .ok (.aload_n 0, 1) := by decide +kernel
theorem dX10_later_35 : decode cX10_later 35 = .ok (.getfield 237, 3) := by decide +kernel
theorem dX10_later_38 : decode cX10_later 38 = .ok (.ireturn, 1) := by decide +kernel
theorem dX10_back_0 : decode cX10_back 0 = .ok (.iload_n 1, 1) := by decide +kernel
theorem dX10_back_1 : decode cX10_back 1 = .ok (.ifCond .lt 17, 3) := by decide +kernel
theorem dX10_back_4 : decode cX10_back 4 = .ok (.iload_n 1, 1) := by decide +kernel
theorem dX10_back_5 : decode cX10_back 5 = .ok (.iconst 3, 1) := by decide +kernel
theorem dX10_back_6 : decode cX10_back 6 = .ok (.if_icmp .ge 12, 3) := by decide +kernel
theorem dX10_back_9 : decode cX10_back 9 = .ok (.aload_n 0, 1) := by decide +kernel
theorem dX10_back_10 : decode cX10_back 10 = .ok (.getfield 52, 3) := by decide +kernel
theorem dX10_back_13 : decode cX10_back 13 = .ok (.iload_n 1, 1) := by decide +kernel
theorem dX10_back_14 : decode cX10_back 14 = .ok (.baload, 1) := by decide +kernel
theorem dX10_back_15 : decode cX10_back 15 = .ok (.ifCond .ne 5, 3) := by decide +kernel
theorem dX10_back_18 : decode cX10_back 18 = .ok (.iconst (-1), 1) := by decide +kernel
theorem dX10_back_19 : decode cX10_back 19 = .ok (.ireturn, 1) := by decide +kernel
theorem dX10_back_20 : decode cX10_back 20 = .ok (.aload_n 0, 1) := by decide +kernel
theorem dX10_back_21 : decode cX10_back 21 = .ok (.getfield 42, 3) := by decide +kernel
theorem dX10_back_24 : decode cX10_back 24 = .ok (.invokevirtual 115, 3) := by decide +kernel
theorem dX10_back_27 : decode cX10_back 27 = .ok (.aload_n 0, 1) := by decide +kernel
theorem dX10_back_28 : decode cX10_back 28 = .ok (.getfield 42, 3) := by decide +kernel
theorem dX10_back_31 : decode cX10_back 31 = .ok (.invokevirtual 93, 3) := by decide +kernel
theorem dX10_back_34 : decode cX10_back 34 = .ok (.aload_n 0, 1) := by decide +kernel
theorem dX10_back_35 : decode cX10_back 35 = .ok (.getfield 48, 3) := by decide +kernel
theorem dX10_back_38 : decode cX10_back 38 = .ok (.iload_n 1, 1) := by decide +kernel
theorem dX10_back_39 : decode cX10_back 39 = .ok (.aaload, 1) := by decide +kernel
theorem dX10_back_40 : decode cX10_back 40 = .ok (.invokevirtual 262, 3) := by decide +kernel
theorem dX10_back_43 : decode cX10_back 43 = .ok (.aload_n 0, 1) := by decide +kernel
theorem dX10_back_44 : decode cX10_back 44 = .ok (.getfield 48, 3) := by decide +kernel
theorem dX10_back_47 : decode cX10_back 47 = .ok (.iload_n 1, 1) := by decide +kernel
theorem dX10_back_48 : decode cX10_back 48 = .ok (.aaload, 1) := by decide +kernel
theorem dX10_back_49 : decode cX10_back 49 = .ok (.getfield 169, 3) := by decide +kernel
theorem dX10_back_52 : decode cX10_back 52 = .ok (.ireturn, 1) := by decide +kernel
theorem dX10_about_0 : decode cX10_about 0 = .ok (.iload_n 1, 1) := by decide +kernel
theorem dX10_about_1 : decode cX10_about 1 = .ok (.tableswitch 184 0 13 #[71, 79, 87, 95, 103, 111, 122, 130, 138, 146, 151, 156, 164, 169], 71) := by decide +kernel
theorem dX10_about_72 : decode cX10_about 72 = .ok (.aload_n 0, 1) := by decide +kernel
theorem dX10_about_73 : decode cX10_about 73 = .ok (.getfield 16, 3) := by decide +kernel
theorem dX10_about_76 : decode cX10_about 76 = .ok (.getfield 124, 3) := by decide +kernel
theorem dX10_about_79 : decode cX10_about 79 = .ok (.ireturn, 1) := by decide +kernel
theorem dX10_about_80 : decode cX10_about 80 = .ok (.aload_n 0, 1) := by decide +kernel
theorem dX10_about_81 : decode cX10_about 81 = .ok (.getfield 16, 3) := by decide +kernel
theorem dX10_about_84 : decode cX10_about 84 = .ok (.getfield 127, 3) := by decide +kernel
theorem dX10_about_87 : decode cX10_about 87 = .ok (.ireturn, 1) := by decide +kernel
theorem dX10_about_88 : decode cX10_about 88 = .ok (.aload_n 0, 1) := by decide +kernel
theorem dX10_about_89 : decode cX10_about 89 = .ok (.getfield 16, 3) := by decide +kernel
theorem dX10_about_92 : decode cX10_about 92 = .ok (.getfield 266, 3) := by decide +kernel
theorem dX10_about_95 : decode cX10_about 95 = .ok (.ireturn, 1) := by decide +kernel
theorem dX10_about_96 : decode cX10_about 96 = .ok (.aload_n 0, 1) := by decide +kernel
theorem dX10_about_97 : decode cX10_about 97 = .ok (.getfield 16, 3) := by decide +kernel
theorem dX10_about_100 : decode cX10_about 100 = .ok (.getfield 269, 3) := by decide +kernel
theorem dX10_about_103 : decode cX10_about 103 = .ok (.ireturn, 1) := by decide +kernel
theorem dX10_about_104 : decode cX10_about 104 = .ok (.aload_n 0, 1) := by decide +kernel
theorem dX10_about_105 : decode cX10_about 105 = .ok (.getfield 16, 3) := by decide +kernel
theorem dX10_about_108 : decode cX10_about 108 = .ok (.getfield 272, 3) := by decide +kernel
theorem dX10_about_111 : decode cX10_about 111 = .ok (.ireturn, 1) := by decide +kernel
theorem dX10_about_112 : decode cX10_about 112 = .ok (.aload_n 0, 1) := by decide +kernel
theorem dX10_about_113 : decode cX10_about 113 = .ok (.getfield 42, 3) := by decide +kernel
theorem dX10_about_116 : decode cX10_about 116 = .ok (.invokevirtual 93, 3) := by decide +kernel
theorem dX10_about_119 : decode cX10_about 119 = .ok (.getfield 169, 3) := by decide +kernel
theorem dX10_about_122 : decode cX10_about 122 = .ok (.ireturn, 1) := by decide +kernel
theorem dX10_about_123 : decode cX10_about 123 = .ok (.aload_n 0, 1) := by decide +kernel
theorem dX10_about_124 : decode cX10_about 124 = .ok (.getfield 42, 3) := by decide +kernel
theorem dX10_about_127 : decode cX10_about 127 = .ok (.getfield 275, 3) := by decide +kernel
theorem dX10_about_130 : decode cX10_about 130 = .ok (.ireturn, 1) := by decide +kernel
theorem dX10_about_131 : decode cX10_about 131 = .ok (.aload_n 0, 1) := by decide +kernel
theorem dX10_about_132 : decode cX10_about 132 = .ok (.getfield 42, 3) := by decide +kernel
theorem dX10_about_135 : decode cX10_about 135 = .ok (.getfield 278, 3) := by decide +kernel
theorem dX10_about_138 : decode cX10_about 138 = .ok (.ireturn, 1) := by decide +kernel
theorem dX10_about_139 : decode cX10_about 139 = .ok (.aload_n 0, 1) := by decide +kernel
theorem dX10_about_140 : decode cX10_about 140 = .ok (.getfield 59, 3) := by decide +kernel
theorem dX10_about_143 : decode cX10_about 143 = .ok (.getfield 281, 3) := by decide +kernel
theorem dX10_about_146 : decode cX10_about 146 = .ok (.ireturn, 1) := by decide +kernel
theorem dX10_about_147 : decode cX10_about 147 = .ok (.aload_n 0, 1) := by decide +kernel
theorem dX10_about_148 : decode cX10_about 148 = .ok (.getfield 237, 3) := by decide +kernel
theorem dX10_about_151 : decode cX10_about 151 = .ok (.ireturn, 1) := by decide +kernel
theorem dX10_about_152 : decode cX10_about 152 = .ok (.aload_n 0, 1) := by decide +kernel
theorem dX10_about_153 : decode cX10_about 153 = .ok (.getfield 100, 3) := by decide +kernel
theorem dX10_about_156 : decode cX10_about 156 = .ok (.ireturn, 1) := by decide +kernel
theorem dX10_about_157 : decode cX10_about 157 = .ok (.aload_n 0, 1) := by decide +kernel
theorem dX10_about_158 : decode cX10_about 158 = .ok (.getfield 16, 3) := by decide +kernel
theorem dX10_about_161 : decode cX10_about 161 = .ok (.getfield 283, 3) := by decide +kernel
theorem dX10_about_164 : decode cX10_about 164 = .ok (.ireturn, 1) := by decide +kernel
theorem dX10_about_165 : decode cX10_about 165 = .ok (.aload_n 0, 1) := by decide +kernel
theorem dX10_about_166 : decode cX10_about 166 = .ok (.getfield 121, 3) := by decide +kernel
theorem dX10_about_169 : decode cX10_about 169 = .ok (.ireturn, 1) := by decide +kernel
theorem dX10_about_170 : decode cX10_about 170 = .ok (.aload_n 0, 1) := by decide +kernel
theorem dX10_about_171 : decode cX10_about 171 = .ok (.getfield 42, 3) := by decide +kernel
theorem dX10_about_174 : decode cX10_about 174 = .ok (.invokevirtual 93, 3) := by decide +kernel
theorem dX10_about_177 : decode cX10_about 177 = .ok (.aload_n 0, 1) := by decide +kernel
theorem dX10_about_178 : decode cX10_about 178 = .ok (.getfield 16, 3) := by decide +kernel
theorem dX10_about_181 : decode cX10_about 181 = .ok (.invokevirtual 181, 3) := by decide +kernel
theorem dX10_about_184 : decode cX10_about 184 = .ok (.ireturn, 1) := by decide +kernel
theorem dX10_about_185 : decode cX10_about 185 = .ok (.iconst (-1), 1) := by decide +kernel
theorem dX10_about_186 : decode cX10_about 186 = .ok (.ireturn, 1) := by decide +kernel
theorem dX10_image_0 : decode cX10_image 0 = .ok (.iload_n 1, 1) := by decide +kernel
theorem dX10_image_1 : decode cX10_image 1 = .ok (.ifCond .lt 8, 3) := by decide +kernel
theorem dX10_image_4 : decode cX10_image 4 = .ok (.iload_n 1, 1) := by decide +kernel
theorem dX10_image_5 : decode cX10_image 5 = .ok (.iconst 3, 1) := by decide +kernel
theorem dX10_image_6 : decode cX10_image 6 = .ok (.if_icmp .lt 5, 3) := by decide +kernel
theorem dX10_image_9 : decode cX10_image 9 = .ok (.iconst (-1), 1) := by decide +kernel
theorem dX10_image_10 : decode cX10_image 10 = .ok (.ireturn, 1) := by decide +kernel
theorem dX10_image_11 : decode cX10_image 11 = .ok (.aload_n 0, 1) := by decide +kernel
theorem dX10_image_12 : decode cX10_image 12 = .ok (.getfield 48, 3) := by decide +kernel
theorem dX10_image_15 : decode cX10_image 15 = .ok (.iload_n 1, 1) := by decide +kernel
theorem dX10_image_16 : decode cX10_image 16 = .ok (.aaload, 1) := by decide +kernel
theorem dX10_image_17 : decode cX10_image 17 = .ok (.aload_n 0, 1) := by decide +kernel
theorem dX10_image_18 : decode cX10_image 18 = .ok (.getfield 42, 3) := by decide +kernel
theorem dX10_image_21 : decode cX10_image 21 = .ok (.invokevirtual 93, 3) := by decide +kernel
theorem dX10_image_24 : decode cX10_image 24 = .ok (.invokevirtual 262, 3) := by decide +kernel
theorem dX10_image_27 : decode cX10_image 27 = .ok (.aload_n 0, 1) := by decide +kernel
theorem dX10_image_28 : decode cX10_image 28 = .ok (.getfield 52, 3) := by decide +kernel
theorem dX10_image_31 : decode cX10_image 31 = .ok (.iload_n 1, 1) := by decide +kernel
theorem dX10_image_32 : decode cX10_image 32 = .ok (.iconst 1, 1) := by decide +kernel
theorem dX10_image_33 : decode cX10_image 33 = .ok (.bastore, 1) := by decide +kernel
theorem dX10_image_34 : decode cX10_image 34 = .ok (.aload_n 0, 1) := by decide +kernel
theorem dX10_image_35 : decode cX10_image 35 = .ok (.getfield 48, 3) := by decide +kernel
theorem dX10_image_38 : decode cX10_image 38 = .ok (.iload_n 1, 1) := by decide +kernel
theorem dX10_image_39 : decode cX10_image 39 = .ok (.aaload, 1) := by decide +kernel
theorem dX10_image_40 : decode cX10_image 40 = .ok (.getfield 169, 3) := by decide +kernel
theorem dX10_image_43 : decode cX10_image 43 = .ok (.ireturn, 1) := by decide +kernel
theorem dX3_arrange_0 : decode cX3_arrange 0 = .ok (.aload_n 0, 1) := by decide +kernel
theorem dX3_arrange_1 : decode cX3_arrange 1 = .ok (.getfield 22, 3) := by decide +kernel
theorem dX3_arrange_4 : decode cX3_arrange 4 = .ok (.iload_n 1, 1) := by decide +kernel
theorem dX3_arrange_5 : decode cX3_arrange 5 = .ok (.aaload, 1) := by decide +kernel
theorem dX3_arrange_6 : decode cX3_arrange 6 = .ok (.astore_n 3, 1) := by decide +kernel
theorem dX3_arrange_7 : decode cX3_arrange 7 = .ok (.iload_n 2, 1) := by decide +kernel
theorem dX3_arrange_8 : decode cX3_arrange 8 = .ok (.ifCond .eq 9, 3) := by decide +kernel
theorem dX3_arrange_11 : decode cX3_arrange 11 = .ok (.iload_n 1, 1) := by decide +kernel
theorem dX3_arrange_12 : decode cX3_arrange 12 = .ok (.bipush 6, 2) := by decide +kernel
theorem dX3_arrange_14 : decode cX3_arrange 14 = .ok (.if_icmp .lt 27, 3) := by decide +kernel
theorem dX3_arrange_17 : decode cX3_arrange 17 = .ok (.aload_n 0, 1) := by decide +kernel
theorem dX3_arrange_18 : decode cX3_arrange 18 = .ok (.aload_n 3, 1) := by decide +kernel
theorem dX3_arrange_19 : decode cX3_arrange 19 = .ok (.getfield 40, 3) := by decide +kernel
theorem dX3_arrange_22 : decode cX3_arrange 22 = .ok (.putfield 26, 3) := by decide +kernel
theorem dX3_arrange_25 : decode cX3_arrange 25 = .ok (.aload_n 0, 1) := by decide +kernel
theorem dX3_arrange_26 : decode cX3_arrange 26 = .ok (.getfield 9, 3) := by decide +kernel
theorem dX3_arrange_29 : decode cX3_arrange 29 = .ok (.iconst 0, 1) := by decide +kernel
theorem dX3_arrange_30 : decode cX3_arrange 30 = .ok (.aload_n 0, 1) := by decide +kernel
theorem dX3_arrange_31 : decode cX3_arrange 31 = .ok (.getfield 15, 3) := by decide +kernel
theorem dX3_arrange_34 : decode cX3_arrange 34 = .ok (.iconst 0, 1) := by decide +kernel
theorem dX3_arrange_35 : decode cX3_arrange 35 = .ok (.bipush 6, 2) := by decide +kernel
theorem dX3_arrange_37 : decode cX3_arrange 37 = .ok (.invokestatic 43, 3) := by decide +kernel
theorem dX3_arrange_40 : decode cX3_arrange 40 = .ok (.return_, 1) := by decide +kernel
theorem dX3_arrange_41 : decode cX3_arrange 41 = .ok (.iconst 0, 1) := by decide +kernel
theorem dX3_arrange_42 : decode cX3_arrange 42 = .ok (.istore 4, 2) := by decide +kernel
theorem dX3_arrange_44 : decode cX3_arrange 44 = .ok (.iload 4, 2) := by decide +kernel
theorem dX3_arrange_46 : decode cX3_arrange 46 = .ok (.bipush 6, 2) := by decide +kernel
theorem dX3_arrange_48 : decode cX3_arrange 48 = .ok (.if_icmp .ge 105, 3) := by decide +kernel
theorem dX3_arrange_51 : decode cX3_arrange 51 = .ok (.aload_n 0, 1) := by decide +kernel
theorem dX3_arrange_52 : decode cX3_arrange 52 = .ok (.getfield 22, 3) := by decide +kernel
theorem dX3_arrange_55 : decode cX3_arrange 55 = .ok (.iconst 0, 1) := by decide +kernel
theorem dX3_arrange_56 : decode cX3_arrange 56 = .ok (.aaload, 1) := by decide +kernel
theorem dX3_arrange_57 : decode cX3_arrange 57 = .ok (.getfield 40, 3) := by decide +kernel
theorem dX3_arrange_60 : decode cX3_arrange 60 = .ok (.aload_n 0, 1) := by decide +kernel
theorem dX3_arrange_61 : decode cX3_arrange 61 = .ok (.getfield 26, 3) := by decide +kernel
theorem dX3_arrange_64 : decode cX3_arrange 64 = .ok (.if_icmp .ge 89, 3) := by decide +kernel
theorem dX3_arrange_67 : decode cX3_arrange 67 = .ok (.iload_n 2, 1) := by decide +kernel
theorem dX3_arrange_68 : decode cX3_arrange 68 = .ok (.iload 4, 2) := by decide +kernel
theorem dX3_arrange_70 : decode cX3_arrange 70 = .ok (.ishr, 1) := by decide +kernel
theorem dX3_arrange_71 : decode cX3_arrange 71 = .ok (.iconst 1, 1) := by decide +kernel
theorem dX3_arrange_72 : decode cX3_arrange 72 = .ok (.iand, 1) := by decide +kernel
theorem dX3_arrange_73 : decode cX3_arrange 73 = .ok (.iconst 1, 1) := by decide +kernel
theorem dX3_arrange_74 : decode cX3_arrange 74 = .ok (.if_icmp .ne 73, 3) := by decide +kernel
theorem dX3_arrange_77 : decode cX3_arrange 77 = .ok (.aload_n 0, 1) := by decide +kernel
theorem dX3_arrange_78 : decode cX3_arrange 78 = .ok (.getfield 9, 3) := by decide +kernel
theorem dX3_arrange_81 : decode cX3_arrange 81 = .ok (.iload_n 1, 1) := by decide +kernel
theorem dX3_arrange_82 : decode cX3_arrange 82 = .ok (.iload 4, 2) := by decide +kernel
theorem dX3_arrange_84 : decode cX3_arrange 84 = .ok (.iastore, 1) := by decide +kernel
theorem dX3_arrange_85 : decode cX3_arrange 85 = .ok (.aload_n 0, 1) := by decide +kernel
theorem dX3_arrange_86 : decode cX3_arrange 86 = .ok (.getfield 22, 3) := by decide +kernel
theorem dX3_arrange_89 : decode cX3_arrange 89 = .ok (.iload_n 1, 1) := by decide +kernel
theorem dX3_arrange_90 : decode cX3_arrange 90 = .ok (.iconst 1, 1) := by decide +kernel
theorem dX3_arrange_91 : decode cX3_arrange 91 = .ok (.iadd, 1) := by decide +kernel
theorem dX3_arrange_92 : decode cX3_arrange 92 = .ok (.aaload, 1) := by decide +kernel
theorem dX3_arrange_93 : decode cX3_arrange 93 = .ok (.aload_n 3, 1) := by decide +kernel
theorem dX3_arrange_94 : decode cX3_arrange 94 = .ok (.invokevirtual 30, 3) := by decide +kernel
theorem dX3_arrange_97 : decode cX3_arrange 97 = .ok (.aload_n 0, 1) := by decide +kernel
theorem dX3_arrange_98 : decode cX3_arrange 98 = .ok (.getfield 18, 3) := by decide +kernel
theorem dX3_arrange_101 : decode cX3_arrange 101 = .ok (.aload_n 0, 1) := by decide +kernel
theorem dX3_arrange_102 : decode cX3_arrange 102 = .ok (.getfield 22, 3) := by decide +kernel
theorem dX3_arrange_105 : decode cX3_arrange 105 = .ok (.iload_n 1, 1) := by decide +kernel
theorem dX3_arrange_106 : decode cX3_arrange 106 = .ok (.iconst 1, 1) := by decide +kernel
theorem dX3_arrange_107 : decode cX3_arrange 107 = .ok (.iadd, 1) := by decide +kernel
theorem dX3_arrange_108 : decode cX3_arrange 108 = .ok (.aaload, 1) := by decide +kernel
theorem dX3_arrange_109 : decode cX3_arrange 109 = .ok (.iload 4, 2) := by decide +kernel
theorem dX3_arrange_111 : decode cX3_arrange 111 = .ok (.invokevirtual 49, 3) := by decide +kernel
theorem dX3_arrange_114 : decode cX3_arrange 114 = .ok (.aload_n 0, 1) := by decide +kernel
theorem dX3_arrange_115 : decode cX3_arrange 115 = .ok (.getfield 22, 3) := by decide +kernel
theorem dX3_arrange_118 : decode cX3_arrange 118 = .ok (.iload_n 1, 1) := by decide +kernel
theorem dX3_arrange_119 : decode cX3_arrange 119 = .ok (.iconst 1, 1) := by decide +kernel
theorem dX3_arrange_120 : decode cX3_arrange 120 = .ok (.iadd, 1) := by decide +kernel
theorem dX3_arrange_121 : decode cX3_arrange 121 = .ok (.aaload, 1) := by decide +kernel
theorem dX3_arrange_122 : decode cX3_arrange 122 = .ok (.getfield 40, 3) := by decide +kernel
theorem dX3_arrange_125 : decode cX3_arrange 125 = .ok (.aload_n 0, 1) := by decide +kernel
theorem dX3_arrange_126 : decode cX3_arrange 126 = .ok (.getfield 26, 3) := by decide +kernel
theorem dX3_arrange_129 : decode cX3_arrange 129 = .ok (.if_icmp .ge 18, 3) := by decide +kernel
theorem dX3_arrange_132 : decode cX3_arrange 132 = .ok (.aload_n 0, 1) := by decide +kernel
theorem dX3_arrange_133 : decode cX3_arrange 133 = .ok (.iload_n 1, 1) := by decide +kernel
theorem dX3_arrange_134 : decode cX3_arrange 134 = .ok (.iconst 1, 1) := by decide +kernel
theorem dX3_arrange_135 : decode cX3_arrange 135 = .ok (.iadd, 1) := by decide +kernel
theorem dX3_arrange_136 : decode cX3_arrange 136 = .ok (.iload_n 2, 1) := by decide +kernel
theorem dX3_arrange_137 : decode cX3_arrange 137 = .ok (.iconst 1, 1) := by decide +kernel
theorem dX3_arrange_138 : decode cX3_arrange 138 = .ok (.iload 4, 2) := by decide +kernel
theorem dX3_arrange_140 : decode cX3_arrange 140 = .ok (.ishl, 1) := by decide +kernel
theorem dX3_arrange_141 : decode cX3_arrange 141 = .ok (.iconst (-1), 1) := by decide +kernel
theorem dX3_arrange_142 : decode cX3_arrange 142 = .ok (.ixor, 1) := by decide +kernel
theorem dX3_arrange_143 : decode cX3_arrange 143 = .ok (.iand, 1) := by decide +kernel
theorem dX3_arrange_144 : decode cX3_arrange 144 = .ok (.invokevirtual 36, 3) := by decide +kernel
theorem dX3_arrange_147 : decode cX3_arrange 147 = .ok (.iinc 4 1, 3) := by decide +kernel
theorem dX3_arrange_150 : decode cX3_arrange 150 = .ok (.goto (-106), 3) := by decide +kernel
theorem dX3_arrange_153 : decode cX3_arrange 153 = .ok (.return_, 1) := by decide +kernel
theorem dX3_fewestIn_0 : decode cX3_fewestIn 0 = .ok (.aload_n 0, 1) := by decide +kernel
theorem dX3_fewestIn_1 : decode cX3_fewestIn 1 = .ok (.bipush 7, 2) := by decide +kernel
theorem dX3_fewestIn_3 : decode cX3_fewestIn 3 = .ok (.putfield 26, 3) := by decide +kernel
theorem dX3_fewestIn_6 : decode cX3_fewestIn 6 = .ok (.aload_n 0, 1) := by decide +kernel
theorem dX3_fewestIn_7 : decode cX3_fewestIn 7 = .ok (.getfield 22, 3) := by decide +kernel
theorem dX3_fewestIn_10 : decode cX3_fewestIn 10 = .ok (.iconst 0, 1) := by decide +kernel
theorem dX3_fewestIn_11 : decode cX3_fewestIn 11 = .ok (.aaload, 1) := by decide +kernel
theorem dX3_fewestIn_12 : decode cX3_fewestIn 12 = .ok (.aload_n 1, 1) := by decide +kernel
theorem dX3_fewestIn_13 : decode cX3_fewestIn 13 = .ok (.invokevirtual 30, 3) := by decide +kernel
theorem dX3_fewestIn_16 : decode cX3_fewestIn 16 = .ok (.aload_n 0, 1) := by decide +kernel
theorem dX3_fewestIn_17 : decode cX3_fewestIn 17 = .ok (.iconst 0, 1) := by decide +kernel
theorem dX3_fewestIn_18 : decode cX3_fewestIn 18 = .ok (.iload_n 2, 1) := by decide +kernel
theorem dX3_fewestIn_19 : decode cX3_fewestIn 19 = .ok (.invokevirtual 36, 3) := by decide +kernel
theorem dX3_fewestIn_22 : decode cX3_fewestIn 22 = .ok (.aload_n 0, 1) := by decide +kernel
theorem dX3_fewestIn_23 : decode cX3_fewestIn 23 = .ok (.getfield 26, 3) := by decide +kernel
theorem dX3_fewestIn_26 : decode cX3_fewestIn 26 = .ok (.ireturn, 1) := by decide +kernel
theorem dJ6_bitCount_0f7a4_0 : decode cJ6_bitCount_0f7a4 0 = .ok (.iload_n 0, 1) := by decide +kernel
theorem dJ6_bitCount_0f7a4_1 : decode cJ6_bitCount_0f7a4 1 = .ok (.iload_n 0, 1) := by decide +kernel
theorem dJ6_bitCount_0f7a4_2 : decode cJ6_bitCount_0f7a4 2 = .ok (.iconst 1, 1) := by decide +kernel
theorem dJ6_bitCount_0f7a4_3 : decode cJ6_bitCount_0f7a4 3 = .ok (.iushr, 1) := by decide +kernel
theorem dJ6_bitCount_0f7a4_4 : decode cJ6_bitCount_0f7a4 4 = .ok (.ldc_w 265, 3) := by decide +kernel
theorem dJ6_bitCount_0f7a4_7 : decode cJ6_bitCount_0f7a4 7 = .ok (.iand, 1) := by decide +kernel
theorem dJ6_bitCount_0f7a4_8 : decode cJ6_bitCount_0f7a4 8 = .ok (.isub, 1) := by decide +kernel
theorem dJ6_bitCount_0f7a4_9 : decode cJ6_bitCount_0f7a4 9 = .ok (.istore_n 0, 1) := by decide +kernel
theorem dJ6_bitCount_0f7a4_10 : decode cJ6_bitCount_0f7a4 10 = .ok (.iload_n 0, 1) := by decide +kernel
theorem dJ6_bitCount_0f7a4_11 : decode cJ6_bitCount_0f7a4 11 = .ok (.ldc_w 266, 3) := by decide +kernel
theorem dJ6_bitCount_0f7a4_14 : decode cJ6_bitCount_0f7a4 14 = .ok (.iand, 1) := by decide +kernel
theorem dJ6_bitCount_0f7a4_15 : decode cJ6_bitCount_0f7a4 15 = .ok (.iload_n 0, 1) := by decide +kernel
theorem dJ6_bitCount_0f7a4_16 : decode cJ6_bitCount_0f7a4 16 = .ok (.iconst 2, 1) := by decide +kernel
theorem dJ6_bitCount_0f7a4_17 : decode cJ6_bitCount_0f7a4 17 = .ok (.iushr, 1) := by decide +kernel
theorem dJ6_bitCount_0f7a4_18 : decode cJ6_bitCount_0f7a4 18 = .ok (.ldc_w 266, 3) := by decide +kernel
theorem dJ6_bitCount_0f7a4_21 : decode cJ6_bitCount_0f7a4 21 = .ok (.iand, 1) := by decide +kernel
theorem dJ6_bitCount_0f7a4_22 : decode cJ6_bitCount_0f7a4 22 = .ok (.iadd, 1) := by decide +kernel
theorem dJ6_bitCount_0f7a4_23 : decode cJ6_bitCount_0f7a4 23 = .ok (.istore_n 0, 1) := by decide +kernel
theorem dJ6_bitCount_0f7a4_24 : decode cJ6_bitCount_0f7a4 24 = .ok (.iload_n 0, 1) := by decide +kernel
theorem dJ6_bitCount_0f7a4_25 : decode cJ6_bitCount_0f7a4 25 = .ok (.iload_n 0, 1) := by decide +kernel
theorem dJ6_bitCount_0f7a4_26 : decode cJ6_bitCount_0f7a4 26 = .ok (.iconst 4, 1) := by decide +kernel
theorem dJ6_bitCount_0f7a4_27 : decode cJ6_bitCount_0f7a4 27 = .ok (.iushr, 1) := by decide +kernel
theorem dJ6_bitCount_0f7a4_28 : decode cJ6_bitCount_0f7a4 28 = .ok (.iadd, 1) := by decide +kernel
theorem dJ6_bitCount_0f7a4_29 : decode cJ6_bitCount_0f7a4 29 = .ok (.ldc_w 267, 3) := by decide +kernel
theorem dJ6_bitCount_0f7a4_32 : decode cJ6_bitCount_0f7a4 32 = .ok (.iand, 1) := by decide +kernel
theorem dJ6_bitCount_0f7a4_33 : decode cJ6_bitCount_0f7a4 33 = .ok (.istore_n 0, 1) := by decide +kernel
theorem dJ6_bitCount_0f7a4_34 : decode cJ6_bitCount_0f7a4 34 = .ok (.iload_n 0, 1) := by decide +kernel
theorem dJ6_bitCount_0f7a4_35 : decode cJ6_bitCount_0f7a4 35 = .ok (.iload_n 0, 1) := by decide +kernel
theorem dJ6_bitCount_0f7a4_36 : decode cJ6_bitCount_0f7a4 36 = .ok (.bipush 8, 2) := by decide +kernel
theorem dJ6_bitCount_0f7a4_38 : decode cJ6_bitCount_0f7a4 38 = .ok (.iushr, 1) := by decide +kernel
theorem dJ6_bitCount_0f7a4_39 : decode cJ6_bitCount_0f7a4 39 = .ok (.iadd, 1) := by decide +kernel
theorem dJ6_bitCount_0f7a4_40 : decode cJ6_bitCount_0f7a4 40 = .ok (.istore_n 0, 1) := by decide +kernel
theorem dJ6_bitCount_0f7a4_41 : decode cJ6_bitCount_0f7a4 41 = .ok (.iload_n 0, 1) := by decide +kernel
theorem dJ6_bitCount_0f7a4_42 : decode cJ6_bitCount_0f7a4 42 = .ok (.iload_n 0, 1) := by decide +kernel
theorem dJ6_bitCount_0f7a4_43 : decode cJ6_bitCount_0f7a4 43 = .ok (.bipush 16, 2) := by decide +kernel
theorem dJ6_bitCount_0f7a4_45 : decode cJ6_bitCount_0f7a4 45 = .ok (.iushr, 1) := by decide +kernel
theorem dJ6_bitCount_0f7a4_46 : decode cJ6_bitCount_0f7a4 46 = .ok (.iadd, 1) := by decide +kernel
theorem dJ6_bitCount_0f7a4_47 : decode cJ6_bitCount_0f7a4 47 = .ok (.istore_n 0, 1) := by decide +kernel
theorem dJ6_bitCount_0f7a4_48 : decode cJ6_bitCount_0f7a4 48 = .ok (.iload_n 0, 1) := by decide +kernel
theorem dJ6_bitCount_0f7a4_49 : decode cJ6_bitCount_0f7a4 49 = .ok (.bipush 63, 2) := by decide +kernel
theorem dJ6_bitCount_0f7a4_51 : decode cJ6_bitCount_0f7a4 51 = .ok (.iand, 1) := by decide +kernel
theorem dJ6_bitCount_0f7a4_52 : decode cJ6_bitCount_0f7a4 52 = .ok (.ireturn, 1) := by decide +kernel
theorem dX10_layDown_0 : decode cX10_layDown 0 = .ok (.aload_n 0, 1) := by decide +kernel
theorem dX10_layDown_1 : decode cX10_layDown 1 = .ok (.iconst 0, 1) := by decide +kernel
theorem dX10_layDown_2 : decode cX10_layDown 2 = .ok (.putfield 121, 3) := by decide +kernel
theorem dX10_layDown_5 : decode cX10_layDown 5 = .ok (.iconst 0, 1) := by decide +kernel
theorem dX10_layDown_6 : decode cX10_layDown 6 = .ok (.istore_n 3, 1) := by decide +kernel
theorem dX10_layDown_7 : decode cX10_layDown 7 = .ok (.iload_n 3, 1) := by decide +kernel
theorem dX10_layDown_8 : decode cX10_layDown 8 = .ok (.iload_n 2, 1) := by decide +kernel
theorem dX10_layDown_9 : decode cX10_layDown 9 = .ok (.if_icmp .ge 43, 3) := by decide +kernel
theorem dX10_layDown_12 : decode cX10_layDown 12 = .ok (.iload_n 3, 1) := by decide +kernel
theorem dX10_layDown_13 : decode cX10_layDown 13 = .ok (.aload_n 1, 1) := by decide +kernel
theorem dX10_layDown_14 : decode cX10_layDown 14 = .ok (.arraylength, 1) := by decide +kernel
theorem dX10_layDown_15 : decode cX10_layDown 15 = .ok (.if_icmp .ge 37, 3) := by decide +kernel
theorem dX10_layDown_18 : decode cX10_layDown 18 = .ok (.iload_n 3, 1) := by decide +kernel
theorem dX10_layDown_19 : decode cX10_layDown 19 = .ok (.aload_n 0, 1) := by decide +kernel
theorem dX10_layDown_20 : decode cX10_layDown 20 = .ok (.getfield 63, 3) := by decide +kernel
theorem dX10_layDown_23 : decode cX10_layDown 23 = .ok (.arraylength, 1) := by decide +kernel
theorem dX10_layDown_24 : decode cX10_layDown 24 = .ok (.if_icmp .ge 28, 3) := by decide +kernel
theorem dX10_layDown_27 : decode cX10_layDown 27 = .ok (.aload_n 0, 1) := by decide +kernel
theorem dX10_layDown_28 : decode cX10_layDown 28 = .ok (.getfield 63, 3) := by decide +kernel
theorem dX10_layDown_31 : decode cX10_layDown 31 = .ok (.iload_n 3, 1) := by decide +kernel
theorem dX10_layDown_32 : decode cX10_layDown 32 = .ok (.aload_n 1, 1) := by decide +kernel
theorem dX10_layDown_33 : decode cX10_layDown 33 = .ok (.iload_n 3, 1) := by decide +kernel
theorem dX10_layDown_34 : decode cX10_layDown 34 = .ok (.iaload, 1) := by decide +kernel
theorem dX10_layDown_35 : decode cX10_layDown 35 = .ok (.iastore, 1) := by decide +kernel
theorem dX10_layDown_36 : decode cX10_layDown 36 = .ok (.aload_n 0, 1) := by decide +kernel
theorem dX10_layDown_37 : decode cX10_layDown 37 = .ok (.dup, 1) := by decide +kernel
theorem dX10_layDown_38 : decode cX10_layDown 38 = .ok (.getfield 121, 3) := by decide +kernel
theorem dX10_layDown_41 : decode cX10_layDown 41 = .ok (.iconst 1, 1) := by decide +kernel
theorem dX10_layDown_42 : decode cX10_layDown 42 = .ok (.iadd, 1) := by decide +kernel
theorem dX10_layDown_43 : decode cX10_layDown 43 = .ok (.putfield 121, 3) := by decide +kernel
theorem dX10_layDown_46 : decode cX10_layDown 46 = .ok (.iinc 3 1, 3) := by decide +kernel
theorem dX10_layDown_49 : decode cX10_layDown 49 = .ok (.goto (-42), 3) := by decide +kernel
theorem dX10_layDown_52 : decode cX10_layDown 52 = .ok (.return_, 1) := by decide +kernel
theorem dX10_order_0 : decode cX10_order 0 = .ok (.aload_n 0, 1) := by decide +kernel
theorem dX10_order_1 : decode cX10_order 1 = .ok (.iconst 0, 1) := by decide +kernel
theorem dX10_order_2 : decode cX10_order 2 = .ok (.putfield 121, 3) := by decide +kernel
theorem dX10_order_5 : decode cX10_order 5 = .ok (.aload_n 0, 1) := by decide +kernel
theorem dX10_order_6 : decode cX10_order 6 = .ok (.getfield 16, 3) := by decide +kernel
theorem dX10_order_9 : decode cX10_order 9 = .ok (.iload_n 1, 1) := by decide +kernel
theorem dX10_order_10 : decode cX10_order 10 = .ok (.invokevirtual 195, 3) := by decide +kernel
theorem dX10_order_13 : decode cX10_order 13 = .ok (.ifCond .ne 5, 3) := by decide +kernel
theorem dX10_order_16 : decode cX10_order 16 = .ok (.iconst (-1), 1) := by decide +kernel
theorem dX10_order_17 : decode cX10_order 17 = .ok (.ireturn, 1) := by decide +kernel
theorem dX10_order_18 : decode cX10_order 18 = .ok (.aload_n 0, 1) := by decide +kernel
theorem dX10_order_19 : decode cX10_order 19 = .ok (.getfield 73, 3) := by decide +kernel
theorem dX10_order_22 : decode cX10_order 22 = .ok (.aload_n 0, 1) := by decide +kernel
theorem dX10_order_23 : decode cX10_order 23 = .ok (.getfield 42, 3) := by decide +kernel
theorem dX10_order_26 : decode cX10_order 26 = .ok (.invokevirtual 93, 3) := by decide +kernel
theorem dX10_order_29 : decode cX10_order 29 = .ok (.iload_n 1, 1) := by decide +kernel
theorem dX10_order_30 : decode cX10_order 30 = .ok (.invokevirtual 198, 3) := by decide +kernel
theorem dX10_order_33 : decode cX10_order 33 = .ok (.istore_n 2, 1) := by decide +kernel
theorem dX10_order_34 : decode cX10_order 34 = .ok (.aload_n 0, 1) := by decide +kernel
theorem dX10_order_35 : decode cX10_order 35 = .ok (.aload_n 0, 1) := by decide +kernel
theorem dX10_order_36 : decode cX10_order 36 = .ok (.getfield 73, 3) := by decide +kernel
theorem dX10_order_39 : decode cX10_order 39 = .ok (.getfield 202, 3) := by decide +kernel
theorem dX10_order_42 : decode cX10_order 42 = .ok (.iload_n 1, 1) := by decide +kernel
theorem dX10_order_43 : decode cX10_order 43 = .ok (.invokestatic 205, 3) := by decide +kernel
theorem dX10_order_46 : decode cX10_order 46 = .ok (.invokevirtual 211, 3) := by decide +kernel
theorem dX10_order_49 : decode cX10_order 49 = .ok (.iload_n 2, 1) := by decide +kernel
theorem dX10_order_50 : decode cX10_order 50 = .ok (.ireturn, 1) := by decide +kernel
theorem dX0_stepAll_0 : decode cX0_stepAll 0 = .ok (.iconst 0, 1) := by decide +kernel
theorem dX0_stepAll_1 : decode cX0_stepAll 1 = .ok (.istore_n 2, 1) := by decide +kernel
theorem dX0_stepAll_2 : decode cX0_stepAll 2 = .ok (.iload_n 2, 1) := by decide +kernel
theorem dX0_stepAll_3 : decode cX0_stepAll 3 = .ok (.bipush 25, 2) := by decide +kernel
theorem dX0_stepAll_5 : decode cX0_stepAll 5 = .ok (.if_icmp .ge 16, 3) := by decide +kernel
theorem dX0_stepAll_8 : decode cX0_stepAll 8 = .ok (.aload_n 0, 1) := by decide +kernel
theorem dX0_stepAll_9 : decode cX0_stepAll 9 = .ok (.getfield 9, 3) := by decide +kernel
theorem dX0_stepAll_12 : decode cX0_stepAll 12 = .ok (.iload_n 2, 1) := by decide +kernel
theorem dX0_stepAll_13 : decode cX0_stepAll 13 = .ok (.iconst 0, 1) := by decide +kernel
theorem dX0_stepAll_14 : decode cX0_stepAll 14 = .ok (.iastore, 1) := by decide +kernel
theorem dX0_stepAll_15 : decode cX0_stepAll 15 = .ok (.iinc 2 1, 3) := by decide +kernel
theorem dX0_stepAll_18 : decode cX0_stepAll 18 = .ok (.goto (-16), 3) := by decide +kernel
theorem dX0_stepAll_21 : decode cX0_stepAll 21 = .ok (.iconst 0, 1) := by decide +kernel
theorem dX0_stepAll_22 : decode cX0_stepAll 22 = .ok (.istore_n 2, 1) := by decide +kernel
theorem dX0_stepAll_23 : decode cX0_stepAll 23 = .ok (.iload_n 2, 1) := by decide +kernel
theorem dX0_stepAll_24 : decode cX0_stepAll 24 = .ok (.aload_n 0, 1) := by decide +kernel
theorem dX0_stepAll_25 : decode cX0_stepAll 25 = .ok (.getfield 21, 3) := by decide +kernel
theorem dX0_stepAll_28 : decode cX0_stepAll 28 = .ok (.getfield 50, 3) := by decide +kernel
theorem dX0_stepAll_31 : decode cX0_stepAll 31 = .ok (.if_icmp .ge 68, 3) := by decide +kernel
theorem dX0_stepAll_34 : decode cX0_stepAll 34 = .ok (.aload_n 1, 1) := by decide +kernel
theorem dX0_stepAll_35 : decode cX0_stepAll 35 = .ok (.iload_n 2, 1) := by decide +kernel
theorem dX0_stepAll_36 : decode cX0_stepAll 36 = .ok (.invokevirtual 53, 3) := by decide +kernel
theorem dX0_stepAll_39 : decode cX0_stepAll 39 = .ok (.ifCond .eq 54, 3) := by decide +kernel
theorem dX0_stepAll_42 : decode cX0_stepAll 42 = .ok (.aload_n 0, 1) := by decide +kernel
theorem dX0_stepAll_43 : decode cX0_stepAll 43 = .ok (.getfield 21, 3) := by decide +kernel
theorem dX0_stepAll_46 : decode cX0_stepAll 46 = .ok (.aload_n 1, 1) := by decide +kernel
theorem dX0_stepAll_47 : decode cX0_stepAll 47 = .ok (.getfield 57, 3) := by decide +kernel
theorem dX0_stepAll_50 : decode cX0_stepAll 50 = .ok (.iload_n 2, 1) := by decide +kernel
theorem dX0_stepAll_51 : decode cX0_stepAll 51 = .ok (.iaload, 1) := by decide +kernel
theorem dX0_stepAll_52 : decode cX0_stepAll 52 = .ok (.aload_n 0, 1) := by decide +kernel
theorem dX0_stepAll_53 : decode cX0_stepAll 53 = .ok (.getfield 21, 3) := by decide +kernel
theorem dX0_stepAll_56 : decode cX0_stepAll 56 = .ok (.iload_n 2, 1) := by decide +kernel
theorem dX0_stepAll_57 : decode cX0_stepAll 57 = .ok (.aload_n 1, 1) := by decide +kernel
theorem dX0_stepAll_58 : decode cX0_stepAll 58 = .ok (.getfield 45, 3) := by decide +kernel
theorem dX0_stepAll_61 : decode cX0_stepAll 61 = .ok (.invokevirtual 60, 3) := by decide +kernel
theorem dX0_stepAll_64 : decode cX0_stepAll 64 = .ok (.invokevirtual 64, 3) := by decide +kernel
theorem dX0_stepAll_67 : decode cX0_stepAll 67 = .ok (.istore_n 3, 1) := by decide +kernel
theorem dX0_stepAll_68 : decode cX0_stepAll 68 = .ok (.aload_n 1, 1) := by decide +kernel
theorem dX0_stepAll_69 : decode cX0_stepAll 69 = .ok (.getfield 57, 3) := by decide +kernel
theorem dX0_stepAll_72 : decode cX0_stepAll 72 = .ok (.iload_n 2, 1) := by decide +kernel
theorem dX0_stepAll_73 : decode cX0_stepAll 73 = .ok (.iload_n 3, 1) := by decide +kernel
theorem dX0_stepAll_74 : decode cX0_stepAll 74 = .ok (.iastore, 1) := by decide +kernel
theorem dX0_stepAll_75 : decode cX0_stepAll 75 = .ok (.aload_n 0, 1) := by decide +kernel
theorem dX0_stepAll_76 : decode cX0_stepAll 76 = .ok (.getfield 9, 3) := by decide +kernel
theorem dX0_stepAll_79 : decode cX0_stepAll 79 = .ok (.iload_n 3, 1) := by decide +kernel
theorem dX0_stepAll_80 : decode cX0_stepAll 80 = .ok (.dup2, 1) := by decide +kernel
theorem dX0_stepAll_81 : decode cX0_stepAll 81 = .ok (.iaload, 1) := by decide +kernel
theorem dX0_stepAll_82 : decode cX0_stepAll 82 = .ok (.aload_n 0, 1) := by decide +kernel
theorem dX0_stepAll_83 : decode cX0_stepAll 83 = .ok (.getfield 21, 3) := by decide +kernel
theorem dX0_stepAll_86 : decode cX0_stepAll 86 = .ok (.getfield 67, 3) := by decide +kernel
theorem dX0_stepAll_89 : decode cX0_stepAll 89 = .ok (.iload_n 2, 1) := by decide +kernel
theorem dX0_stepAll_90 : decode cX0_stepAll 90 = .ok (.iaload, 1) := by decide +kernel
theorem dX0_stepAll_91 : decode cX0_stepAll 91 = .ok (.iadd, 1) := by decide +kernel
theorem dX0_stepAll_92 : decode cX0_stepAll 92 = .ok (.iastore, 1) := by decide +kernel
theorem dX0_stepAll_93 : decode cX0_stepAll 93 = .ok (.iinc 2 1, 3) := by decide +kernel
theorem dX0_stepAll_96 : decode cX0_stepAll 96 = .ok (.goto (-73), 3) := by decide +kernel
theorem dX0_stepAll_99 : decode cX0_stepAll 99 = .ok (.return_, 1) := by decide +kernel
theorem dX0_freeze_0 : decode cX0_freeze 0 = .ok (.iload_n 2, 1) := by decide +kernel
theorem dX0_freeze_1 : decode cX0_freeze 1 = .ok (.iconst (-1), 1) := by decide +kernel
theorem dX0_freeze_2 : decode cX0_freeze 2 = .ok (.if_icmp .ne 8, 3) := by decide +kernel
theorem dX0_freeze_5 : decode cX0_freeze 5 = .ok (.bipush 6, 2) := by decide +kernel
theorem dX0_freeze_7 : decode cX0_freeze 7 = .ok (.goto 4, 3) := by decide +kernel
theorem dX0_freeze_10 : decode cX0_freeze 10 = .ok (.iload_n 2, 1) := by decide +kernel
theorem dX0_freeze_11 : decode cX0_freeze 11 = .ok (.istore 4, 2) := by decide +kernel
theorem dX0_freeze_13 : decode cX0_freeze 13 = .ok (.aload_n 0, 1) := by decide +kernel
theorem dX0_freeze_14 : decode cX0_freeze 14 = .ok (.getfield 21, 3) := by decide +kernel
theorem dX0_freeze_17 : decode cX0_freeze 17 = .ok (.getfield 70, 3) := by decide +kernel
theorem dX0_freeze_20 : decode cX0_freeze 20 = .ok (.iload 4, 2) := by decide +kernel
theorem dX0_freeze_22 : decode cX0_freeze 22 = .ok (.iaload, 1) := by decide +kernel
theorem dX0_freeze_23 : decode cX0_freeze 23 = .ok (.istore 5, 2) := by decide +kernel
theorem dX0_freeze_25 : decode cX0_freeze 25 = .ok (.aload_n 0, 1) := by decide +kernel
theorem dX0_freeze_26 : decode cX0_freeze 26 = .ok (.getfield 21, 3) := by decide +kernel
theorem dX0_freeze_29 : decode cX0_freeze 29 = .ok (.getfield 73, 3) := by decide +kernel
theorem dX0_freeze_32 : decode cX0_freeze 32 = .ok (.iload 4, 2) := by decide +kernel
theorem dX0_freeze_34 : decode cX0_freeze 34 = .ok (.iaload, 1) := by decide +kernel
theorem dX0_freeze_35 : decode cX0_freeze 35 = .ok (.istore 6, 2) := by decide +kernel
theorem dX0_freeze_37 : decode cX0_freeze 37 = .ok (.aload_n 0, 1) := by decide +kernel
theorem dX0_freeze_38 : decode cX0_freeze 38 = .ok (.iload_n 3, 1) := by decide +kernel
theorem dX0_freeze_39 : decode cX0_freeze 39 = .ok (.putfield 76, 3) := by decide +kernel
theorem dX0_freeze_42 : decode cX0_freeze 42 = .ok (.iconst 0, 1) := by decide +kernel
theorem dX0_freeze_43 : decode cX0_freeze 43 = .ok (.istore 7, 2) := by decide +kernel
theorem dX0_freeze_45 : decode cX0_freeze 45 = .ok (.iload 7, 2) := by decide +kernel
theorem dX0_freeze_47 : decode cX0_freeze 47 = .ok (.aload_n 0, 1) := by decide +kernel
theorem dX0_freeze_48 : decode cX0_freeze 48 = .ok (.getfield 21, 3) := by decide +kernel
theorem dX0_freeze_51 : decode cX0_freeze 51 = .ok (.getfield 79, 3) := by decide +kernel
theorem dX0_freeze_54 : decode cX0_freeze 54 = .ok (.if_icmp .ge 117, 3) := by decide +kernel
theorem dX0_freeze_57 : decode cX0_freeze 57 = .ok (.iconst 0, 1) := by decide +kernel
theorem dX0_freeze_58 : decode cX0_freeze 58 = .ok (.istore 8, 2) := by decide +kernel
theorem dX0_freeze_60 : decode cX0_freeze 60 = .ok (.iload 8, 2) := by decide +kernel
theorem dX0_freeze_62 : decode cX0_freeze 62 = .ok (.aload_n 0, 1) := by decide +kernel
theorem dX0_freeze_63 : decode cX0_freeze 63 = .ok (.getfield 21, 3) := by decide +kernel
theorem dX0_freeze_66 : decode cX0_freeze 66 = .ok (.getfield 82, 3) := by decide +kernel
theorem dX0_freeze_69 : decode cX0_freeze 69 = .ok (.if_icmp .ge 96, 3) := by decide +kernel
theorem dX0_freeze_72 : decode cX0_freeze 72 = .ok (.iload 8, 2) := by decide +kernel
theorem dX0_freeze_74 : decode cX0_freeze 74 = .ok (.iconst 5, 1) := by decide +kernel
theorem dX0_freeze_75 : decode cX0_freeze 75 = .ok (.iload 7, 2) := by decide +kernel
theorem dX0_freeze_77 : decode cX0_freeze 77 = .ok (.imul, 1) := by decide +kernel
theorem dX0_freeze_78 : decode cX0_freeze 78 = .ok (.iadd, 1) := by decide +kernel
theorem dX0_freeze_79 : decode cX0_freeze 79 = .ok (.istore 9, 2) := by decide +kernel
theorem dX0_freeze_81 : decode cX0_freeze 81 = .ok (.aload_n 0, 1) := by decide +kernel
theorem dX0_freeze_82 : decode cX0_freeze 82 = .ok (.aload_n 1, 1) := by decide +kernel
theorem dX0_freeze_83 : decode cX0_freeze 83 = .ok (.getfield 85, 3) := by decide +kernel
theorem dX0_freeze_86 : decode cX0_freeze 86 = .ok (.iload 9, 2) := by decide +kernel
theorem dX0_freeze_88 : decode cX0_freeze 88 = .ok (.iaload, 1) := by decide +kernel
theorem dX0_freeze_89 : decode cX0_freeze 89 = .ok (.putfield 88, 3) := by decide +kernel
theorem dX0_freeze_92 : decode cX0_freeze 92 = .ok (.aload_n 0, 1) := by decide +kernel
theorem dX0_freeze_93 : decode cX0_freeze 93 = .ok (.aload_n 0, 1) := by decide +kernel
theorem dX0_freeze_94 : decode cX0_freeze 94 = .ok (.getfield 9, 3) := by decide +kernel
theorem dX0_freeze_97 : decode cX0_freeze 97 = .ok (.iload 9, 2) := by decide +kernel
theorem dX0_freeze_99 : decode cX0_freeze 99 = .ok (.iaload, 1) := by decide +kernel
theorem dX0_freeze_100 : decode cX0_freeze 100 = .ok (.putfield 90, 3) := by decide +kernel
theorem dX0_freeze_103 : decode cX0_freeze 103 = .ok (.aload_n 0, 1) := by decide +kernel
theorem dX0_freeze_104 : decode cX0_freeze 104 = .ok (.aload_n 0, 1) := by decide +kernel
theorem dX0_freeze_105 : decode cX0_freeze 105 = .ok (.aload_n 1, 1) := by decide +kernel
theorem dX0_freeze_106 : decode cX0_freeze 106 = .ok (.iload 8, 2) := by decide +kernel
theorem dX0_freeze_108 : decode cX0_freeze 108 = .ok (.iload 7, 2) := by decide +kernel
theorem dX0_freeze_110 : decode cX0_freeze 110 = .ok (.invokevirtual 93, 3) := by decide +kernel
theorem dX0_freeze_113 : decode cX0_freeze 113 = .ok (.putfield 97, 3) := by decide +kernel
theorem dX0_freeze_116 : decode cX0_freeze 116 = .ok (.bipush (-99), 2) := by decide +kernel
theorem dX0_freeze_118 : decode cX0_freeze 118 = .ok (.bipush 99, 2) := by decide +kernel
theorem dX0_freeze_120 : decode cX0_freeze 120 = .ok (.aload_n 0, 1) := by decide +kernel
theorem dX0_freeze_121 : decode cX0_freeze 121 = .ok (.iload 5, 2) := by decide +kernel
theorem dX0_freeze_123 : decode cX0_freeze 123 = .ok (.iload 6, 2) := by decide +kernel
theorem dX0_freeze_125 : decode cX0_freeze 125 = .ok (.invokevirtual 100, 3) := by decide +kernel
theorem dX0_freeze_128 : decode cX0_freeze 128 = .ok (.invokestatic 103, 3) := by decide +kernel
theorem dX0_freeze_131 : decode cX0_freeze 131 = .ok (.invokestatic 108, 3) := by decide +kernel
theorem dX0_freeze_134 : decode cX0_freeze 134 = .ok (.istore 10, 2) := by decide +kernel
theorem dX0_freeze_136 : decode cX0_freeze 136 = .ok (.aload_n 0, 1) := by decide +kernel
theorem dX0_freeze_137 : decode cX0_freeze 137 = .ok (.getfield 15, 3) := by decide +kernel
theorem dX0_freeze_140 : decode cX0_freeze 140 = .ok (.iload 9, 2) := by decide +kernel
theorem dX0_freeze_142 : decode cX0_freeze 142 = .ok (.iconst 0, 1) := by decide +kernel
theorem dX0_freeze_143 : decode cX0_freeze 143 = .ok (.bipush 99, 2) := by decide +kernel
theorem dX0_freeze_145 : decode cX0_freeze 145 = .ok (.aload_n 0, 1) := by decide +kernel
theorem dX0_freeze_146 : decode cX0_freeze 146 = .ok (.getfield 88, 3) := by decide +kernel
theorem dX0_freeze_149 : decode cX0_freeze 149 = .ok (.iload 10, 2) := by decide +kernel
theorem dX0_freeze_151 : decode cX0_freeze 151 = .ok (.iadd, 1) := by decide +kernel
theorem dX0_freeze_152 : decode cX0_freeze 152 = .ok (.invokestatic 103, 3) := by decide +kernel
theorem dX0_freeze_155 : decode cX0_freeze 155 = .ok (.invokestatic 108, 3) := by decide +kernel
theorem dX0_freeze_158 : decode cX0_freeze 158 = .ok (.iastore, 1) := by decide +kernel
theorem dX0_freeze_159 : decode cX0_freeze 159 = .ok (.iinc 8 1, 3) := by decide +kernel
theorem dX0_freeze_162 : decode cX0_freeze 162 = .ok (.goto (-102), 3) := by decide +kernel
theorem dX0_freeze_165 : decode cX0_freeze 165 = .ok (.iinc 7 1, 3) := by decide +kernel
theorem dX0_freeze_168 : decode cX0_freeze 168 = .ok (.goto (-123), 3) := by decide +kernel
theorem dX0_freeze_171 : decode cX0_freeze 171 = .ok (.iconst 0, 1) := by decide +kernel
theorem dX0_freeze_172 : decode cX0_freeze 172 = .ok (.istore 7, 2) := by decide +kernel
theorem dX0_freeze_174 : decode cX0_freeze 174 = .ok (.iload 7, 2) := by decide +kernel
theorem dX0_freeze_176 : decode cX0_freeze 176 = .ok (.aload_n 0, 1) := by decide +kernel
theorem dX0_freeze_177 : decode cX0_freeze 177 = .ok (.getfield 21, 3) := by decide +kernel
theorem dX0_freeze_180 : decode cX0_freeze 180 = .ok (.getfield 79, 3) := by decide +kernel
theorem dX0_freeze_183 : decode cX0_freeze 183 = .ok (.if_icmp .ge 35, 3) := by decide +kernel
theorem dX0_freeze_186 : decode cX0_freeze 186 = .ok (.aload_n 0, 1) := by decide +kernel
theorem dX0_freeze_187 : decode cX0_freeze 187 = .ok (.getfield 15, 3) := by decide +kernel
theorem dX0_freeze_190 : decode cX0_freeze 190 = .ok (.iconst 5, 1) := by decide +kernel
theorem dX0_freeze_191 : decode cX0_freeze 191 = .ok (.iload 7, 2) := by decide +kernel
theorem dX0_freeze_193 : decode cX0_freeze 193 = .ok (.imul, 1) := by decide +kernel
theorem dX0_freeze_194 : decode cX0_freeze 194 = .ok (.aload_n 1, 1) := by decide +kernel
theorem dX0_freeze_195 : decode cX0_freeze 195 = .ok (.getfield 85, 3) := by decide +kernel
theorem dX0_freeze_198 : decode cX0_freeze 198 = .ok (.iconst 5, 1) := by decide +kernel
theorem dX0_freeze_199 : decode cX0_freeze 199 = .ok (.iload 7, 2) := by decide +kernel
theorem dX0_freeze_201 : decode cX0_freeze 201 = .ok (.imul, 1) := by decide +kernel
theorem dX0_freeze_202 : decode cX0_freeze 202 = .ok (.aload_n 0, 1) := by decide +kernel
theorem dX0_freeze_203 : decode cX0_freeze 203 = .ok (.getfield 21, 3) := by decide +kernel
theorem dX0_freeze_206 : decode cX0_freeze 206 = .ok (.getfield 82, 3) := by decide +kernel
theorem dX0_freeze_209 : decode cX0_freeze 209 = .ok (.invokestatic 111, 3) := by decide +kernel
theorem dX0_freeze_212 : decode cX0_freeze 212 = .ok (.iinc 7 1, 3) := by decide +kernel
theorem dX0_freeze_215 : decode cX0_freeze 215 = .ok (.goto (-41), 3) := by decide +kernel
theorem dX0_freeze_218 : decode cX0_freeze 218 = .ok (.return_, 1) := by decide +kernel
theorem dX0_isTooHeavy_0 : decode cX0_isTooHeavy 0 = .ok (.aload_n 0, 1) := by decide +kernel
theorem dX0_isTooHeavy_1 : decode cX0_isTooHeavy 1 = .ok (.getfield 21, 3) := by decide +kernel
theorem dX0_isTooHeavy_4 : decode cX0_isTooHeavy 4 = .ok (.getfield 130, 3) := by decide +kernel
theorem dX0_isTooHeavy_7 : decode cX0_isTooHeavy 7 = .ok (.iload_n 2, 1) := by decide +kernel
theorem dX0_isTooHeavy_8 : decode cX0_isTooHeavy 8 = .ok (.baload, 1) := by decide +kernel
theorem dX0_isTooHeavy_9 : decode cX0_isTooHeavy 9 = .ok (.ifCond .ne 22, 3) := by decide +kernel
theorem dX0_isTooHeavy_12 : decode cX0_isTooHeavy 12 = .ok (.aload_n 0, 1) := by decide +kernel
theorem dX0_isTooHeavy_13 : decode cX0_isTooHeavy 13 = .ok (.getfield 9, 3) := by decide +kernel
theorem dX0_isTooHeavy_16 : decode cX0_isTooHeavy 16 = .ok (.iload_n 2, 1) := by decide +kernel
theorem dX0_isTooHeavy_17 : decode cX0_isTooHeavy 17 = .ok (.iaload, 1) := by decide +kernel
theorem dX0_isTooHeavy_18 : decode cX0_isTooHeavy 18 = .ok (.aload_n 1, 1) := by decide +kernel
theorem dX0_isTooHeavy_19 : decode cX0_isTooHeavy 19 = .ok (.getfield 85, 3) := by decide +kernel
theorem dX0_isTooHeavy_22 : decode cX0_isTooHeavy 22 = .ok (.iload_n 2, 1) := by decide +kernel
theorem dX0_isTooHeavy_23 : decode cX0_isTooHeavy 23 = .ok (.iaload, 1) := by decide +kernel
theorem dX0_isTooHeavy_24 : decode cX0_isTooHeavy 24 = .ok (.if_icmp .le 7, 3) := by decide +kernel
theorem dX0_isTooHeavy_27 : decode cX0_isTooHeavy 27 = .ok (.iconst 1, 1) := by decide +kernel
theorem dX0_isTooHeavy_28 : decode cX0_isTooHeavy 28 = .ok (.goto 4, 3) := by decide +kernel
theorem dX0_isTooHeavy_31 : decode cX0_isTooHeavy 31 = .ok (.iconst 0, 1) := by decide +kernel
theorem dX0_isTooHeavy_32 : decode cX0_isTooHeavy 32 = .ok (.ireturn, 1) := by decide +kernel
theorem dX0_sink_0 : decode cX0_sink 0 = .ok (.iconst 0, 1) := by decide +kernel
theorem dX0_sink_1 : decode cX0_sink 1 = .ok (.istore 5, 2) := by decide +kernel
theorem dX0_sink_3 : decode cX0_sink 3 = .ok (.iload 5, 2) := by decide +kernel
theorem dX0_sink_5 : decode cX0_sink 5 = .ok (.aload_n 0, 1) := by decide +kernel
theorem dX0_sink_6 : decode cX0_sink 6 = .ok (.getfield 21, 3) := by decide +kernel
theorem dX0_sink_9 : decode cX0_sink 9 = .ok (.getfield 50, 3) := by decide +kernel
theorem dX0_sink_12 : decode cX0_sink 12 = .ok (.if_icmp .ge 67, 3) := by decide +kernel
theorem dX0_sink_15 : decode cX0_sink 15 = .ok (.aload_n 1, 1) := by decide +kernel
theorem dX0_sink_16 : decode cX0_sink 16 = .ok (.iload 5, 2) := by decide +kernel
theorem dX0_sink_18 : decode cX0_sink 18 = .ok (.invokevirtual 53, 3) := by decide +kernel
theorem dX0_sink_21 : decode cX0_sink 21 = .ok (.ifCond .eq 52, 3) := by decide +kernel
theorem dX0_sink_24 : decode cX0_sink 24 = .ok (.aload_n 1, 1) := by decide +kernel
theorem dX0_sink_25 : decode cX0_sink 25 = .ok (.getfield 57, 3) := by decide +kernel
theorem dX0_sink_28 : decode cX0_sink 28 = .ok (.iload 5, 2) := by decide +kernel
theorem dX0_sink_30 : decode cX0_sink 30 = .ok (.iaload, 1) := by decide +kernel
theorem dX0_sink_31 : decode cX0_sink 31 = .ok (.iload_n 2, 1) := by decide +kernel
theorem dX0_sink_32 : decode cX0_sink 32 = .ok (.if_icmp .ne 41, 3) := by decide +kernel
theorem dX0_sink_35 : decode cX0_sink 35 = .ok (.aload_n 1, 1) := by decide +kernel
theorem dX0_sink_36 : decode cX0_sink 36 = .ok (.getfield 142, 3) := by decide +kernel
theorem dX0_sink_39 : decode cX0_sink 39 = .ok (.iload 5, 2) := by decide +kernel
theorem dX0_sink_41 : decode cX0_sink 41 = .ok (.aload_n 1, 1) := by decide +kernel
theorem dX0_sink_42 : decode cX0_sink 42 = .ok (.getfield 45, 3) := by decide +kernel
theorem dX0_sink_45 : decode cX0_sink 45 = .ok (.iastore, 1) := by decide +kernel
theorem dX0_sink_46 : decode cX0_sink 46 = .ok (.aload_n 1, 1) := by decide +kernel
theorem dX0_sink_47 : decode cX0_sink 47 = .ok (.getfield 145, 3) := by decide +kernel
theorem dX0_sink_50 : decode cX0_sink 50 = .ok (.iload 5, 2) := by decide +kernel
theorem dX0_sink_52 : decode cX0_sink 52 = .ok (.iload_n 3, 1) := by decide +kernel
theorem dX0_sink_53 : decode cX0_sink 53 = .ok (.iastore, 1) := by decide +kernel
theorem dX0_sink_54 : decode cX0_sink 54 = .ok (.aload_n 1, 1) := by decide +kernel
theorem dX0_sink_55 : decode cX0_sink 55 = .ok (.getfield 148, 3) := by decide +kernel
theorem dX0_sink_58 : decode cX0_sink 58 = .ok (.iload 5, 2) := by decide +kernel
theorem dX0_sink_60 : decode cX0_sink 60 = .ok (.iload 4, 2) := by decide +kernel
theorem dX0_sink_62 : decode cX0_sink 62 = .ok (.iastore, 1) := by decide +kernel
theorem dX0_sink_63 : decode cX0_sink 63 = .ok (.aload_n 1, 1) := by decide +kernel
theorem dX0_sink_64 : decode cX0_sink 64 = .ok (.dup, 1) := by decide +kernel
theorem dX0_sink_65 : decode cX0_sink 65 = .ok (.getfield 151, 3) := by decide +kernel
theorem dX0_sink_68 : decode cX0_sink 68 = .ok (.iconst 1, 1) := by decide +kernel
theorem dX0_sink_69 : decode cX0_sink 69 = .ok (.iadd, 1) := by decide +kernel
theorem dX0_sink_70 : decode cX0_sink 70 = .ok (.putfield 151, 3) := by decide +kernel
theorem dX0_sink_73 : decode cX0_sink 73 = .ok (.iinc 5 1, 3) := by decide +kernel
theorem dX0_sink_76 : decode cX0_sink 76 = .ok (.goto (-73), 3) := by decide +kernel
theorem dX0_sink_79 : decode cX0_sink 79 = .ok (.return_, 1) := by decide +kernel
theorem dX0_breakCells_0 : decode cX0_breakCells 0 = .ok (.iconst 0, 1) := by decide +kernel
theorem dX0_breakCells_1 : decode cX0_breakCells 1 = .ok (.istore 4, 2) := by decide +kernel
theorem dX0_breakCells_3 : decode cX0_breakCells 3 = .ok (.iconst 0, 1) := by decide +kernel
theorem dX0_breakCells_4 : decode cX0_breakCells 4 = .ok (.istore 5, 2) := by decide +kernel
theorem dX0_breakCells_6 : decode cX0_breakCells 6 = .ok (.iload 5, 2) := by decide +kernel
theorem dX0_breakCells_8 : decode cX0_breakCells 8 = .ok (.bipush 25, 2) := by decide +kernel
theorem dX0_breakCells_10 : decode cX0_breakCells 10 = .ok (.if_icmp .ge 39, 3) := by decide +kernel
theorem dX0_breakCells_13 : decode cX0_breakCells 13 = .ok (.aload_n 0, 1) := by decide +kernel
theorem dX0_breakCells_14 : decode cX0_breakCells 14 = .ok (.aload_n 1, 1) := by decide +kernel
theorem dX0_breakCells_15 : decode cX0_breakCells 15 = .ok (.iload 5, 2) := by decide +kernel
theorem dX0_breakCells_17 : decode cX0_breakCells 17 = .ok (.invokevirtual 134, 3) := by decide +kernel
theorem dX0_breakCells_20 : decode cX0_breakCells 20 = .ok (.ifCond .eq 23, 3) := by decide +kernel
theorem dX0_breakCells_23 : decode cX0_breakCells 23 = .ok (.iconst 1, 1) := by decide +kernel
theorem dX0_breakCells_24 : decode cX0_breakCells 24 = .ok (.istore 4, 2) := by decide +kernel
theorem dX0_breakCells_26 : decode cX0_breakCells 26 = .ok (.aload_n 1, 1) := by decide +kernel
theorem dX0_breakCells_27 : decode cX0_breakCells 27 = .ok (.getfield 85, 3) := by decide +kernel
theorem dX0_breakCells_30 : decode cX0_breakCells 30 = .ok (.iload 5, 2) := by decide +kernel
theorem dX0_breakCells_32 : decode cX0_breakCells 32 = .ok (.iconst 0, 1) := by decide +kernel
theorem dX0_breakCells_33 : decode cX0_breakCells 33 = .ok (.iastore, 1) := by decide +kernel
theorem dX0_breakCells_34 : decode cX0_breakCells 34 = .ok (.aload_n 0, 1) := by decide +kernel
theorem dX0_breakCells_35 : decode cX0_breakCells 35 = .ok (.aload_n 1, 1) := by decide +kernel
theorem dX0_breakCells_36 : decode cX0_breakCells 36 = .ok (.iload 5, 2) := by decide +kernel
theorem dX0_breakCells_38 : decode cX0_breakCells 38 = .ok (.iload_n 2, 1) := by decide +kernel
theorem dX0_breakCells_39 : decode cX0_breakCells 39 = .ok (.iload_n 3, 1) := by decide +kernel
theorem dX0_breakCells_40 : decode cX0_breakCells 40 = .ok (.invokevirtual 138, 3) := by decide +kernel
theorem dX0_breakCells_43 : decode cX0_breakCells 43 = .ok (.iinc 5 1, 3) := by decide +kernel
theorem dX0_breakCells_46 : decode cX0_breakCells 46 = .ok (.goto (-40), 3) := by decide +kernel
theorem dX0_breakCells_49 : decode cX0_breakCells 49 = .ok (.iload 4, 2) := by decide +kernel
theorem dX0_breakCells_51 : decode cX0_breakCells 51 = .ok (.ireturn, 1) := by decide +kernel
theorem dX0_playBar_0 : decode cX0_playBar 0 = .ok (.aload_n 0, 1) := by decide +kernel
theorem dX0_playBar_1 : decode cX0_playBar 1 = .ok (.aload_n 1, 1) := by decide +kernel
theorem dX0_playBar_2 : decode cX0_playBar 2 = .ok (.invokevirtual 34, 3) := by decide +kernel
theorem dX0_playBar_5 : decode cX0_playBar 5 = .ok (.aload_n 0, 1) := by decide +kernel
theorem dX0_playBar_6 : decode cX0_playBar 6 = .ok (.aload_n 1, 1) := by decide +kernel
theorem dX0_playBar_7 : decode cX0_playBar 7 = .ok (.iload_n 2, 1) := by decide +kernel
theorem dX0_playBar_8 : decode cX0_playBar 8 = .ok (.iload_n 3, 1) := by decide +kernel
theorem dX0_playBar_9 : decode cX0_playBar 9 = .ok (.invokevirtual 38, 3) := by decide +kernel
theorem dX0_playBar_12 : decode cX0_playBar 12 = .ok (.aload_n 0, 1) := by decide +kernel
theorem dX0_playBar_13 : decode cX0_playBar 13 = .ok (.aload_n 1, 1) := by decide +kernel
theorem dX0_playBar_14 : decode cX0_playBar 14 = .ok (.iload_n 2, 1) := by decide +kernel
theorem dX0_playBar_15 : decode cX0_playBar 15 = .ok (.iload_n 3, 1) := by decide +kernel
theorem dX0_playBar_16 : decode cX0_playBar 16 = .ok (.invokevirtual 42, 3) := by decide +kernel
theorem dX0_playBar_19 : decode cX0_playBar 19 = .ok (.istore 4, 2) := by decide +kernel
theorem dX0_playBar_21 : decode cX0_playBar 21 = .ok (.aload_n 1, 1) := by decide +kernel
theorem dX0_playBar_22 : decode cX0_playBar 22 = .ok (.dup, 1) := by decide +kernel
theorem dX0_playBar_23 : decode cX0_playBar 23 = .ok (.getfield 45, 3) := by decide +kernel
theorem dX0_playBar_26 : decode cX0_playBar 26 = .ok (.iconst 1, 1) := by decide +kernel
theorem dX0_playBar_27 : decode cX0_playBar 27 = .ok (.iadd, 1) := by decide +kernel
theorem dX0_playBar_28 : decode cX0_playBar 28 = .ok (.putfield 45, 3) := by decide +kernel
theorem dX0_playBar_31 : decode cX0_playBar 31 = .ok (.iload 4, 2) := by decide +kernel
theorem dX0_playBar_33 : decode cX0_playBar 33 = .ok (.ireturn, 1) := by decide +kernel
theorem dX0_keepSilence_0 : decode cX0_keepSilence 0 = .ok (.iconst 0, 1) := by decide +kernel
theorem dX0_keepSilence_1 : decode cX0_keepSilence 1 = .ok (.istore_n 3, 1) := by decide +kernel
theorem dX0_keepSilence_2 : decode cX0_keepSilence 2 = .ok (.iload_n 3, 1) := by decide +kernel
theorem dX0_keepSilence_3 : decode cX0_keepSilence 3 = .ok (.iload_n 2, 1) := by decide +kernel
theorem dX0_keepSilence_4 : decode cX0_keepSilence 4 = .ok (.if_icmp .ge 17, 3) := by decide +kernel
theorem dX0_keepSilence_7 : decode cX0_keepSilence 7 = .ok (.aload_n 0, 1) := by decide +kernel
theorem dX0_keepSilence_8 : decode cX0_keepSilence 8 = .ok (.aload_n 1, 1) := by decide +kernel
theorem dX0_keepSilence_9 : decode cX0_keepSilence 9 = .ok (.iconst (-1), 1) := by decide +kernel
theorem dX0_keepSilence_10 : decode cX0_keepSilence 10 = .ok (.iload_n 3, 1) := by decide +kernel
theorem dX0_keepSilence_11 : decode cX0_keepSilence 11 = .ok (.invokevirtual 30, 3) := by decide +kernel
theorem dX0_keepSilence_14 : decode cX0_keepSilence 14 = .ok (.pop, 1) := by decide +kernel
theorem dX0_keepSilence_15 : decode cX0_keepSilence 15 = .ok (.iinc 3 1, 3) := by decide +kernel
theorem dX0_keepSilence_18 : decode cX0_keepSilence 18 = .ok (.goto (-16), 3) := by decide +kernel
theorem dX0_keepSilence_21 : decode cX0_keepSilence 21 = .ok (.return_, 1) := by decide +kernel
theorem dX10_hold_0 : decode cX10_hold 0 = .ok (.iload_n 1, 1) := by decide +kernel
theorem dX10_hold_1 : decode cX10_hold 1 = .ok (.ifCond .lt 27, 3) := by decide +kernel
theorem dX10_hold_4 : decode cX10_hold 4 = .ok (.iload_n 1, 1) := by decide +kernel
theorem dX10_hold_5 : decode cX10_hold 5 = .ok (.bipush 20, 2) := by decide +kernel
theorem dX10_hold_7 : decode cX10_hold 7 = .ok (.if_icmp .gt 21, 3) := by decide +kernel
theorem dX10_hold_10 : decode cX10_hold 10 = .ok (.aload_n 0, 1) := by decide +kernel
theorem dX10_hold_11 : decode cX10_hold 11 = .ok (.getfield 42, 3) := by decide +kernel
theorem dX10_hold_14 : decode cX10_hold 14 = .ok (.invokevirtual 93, 3) := by decide +kernel
theorem dX10_hold_17 : decode cX10_hold 17 = .ok (.getfield 169, 3) := by decide +kernel
theorem dX10_hold_20 : decode cX10_hold 20 = .ok (.iload_n 1, 1) := by decide +kernel
theorem dX10_hold_21 : decode cX10_hold 21 = .ok (.iadd, 1) := by decide +kernel
theorem dX10_hold_22 : decode cX10_hold 22 = .ok (.sipush 2000, 3) := by decide +kernel
theorem dX10_hold_25 : decode cX10_hold 25 = .ok (.if_icmp .le 5, 3) := by decide +kernel
theorem dX10_hold_28 : decode cX10_hold 28 = .ok (.iconst (-1), 1) := by decide +kernel
theorem dX10_hold_29 : decode cX10_hold 29 = .ok (.ireturn, 1) := by decide +kernel
theorem dX10_hold_30 : decode cX10_hold 30 = .ok (.aload_n 0, 1) := by decide +kernel
theorem dX10_hold_31 : decode cX10_hold 31 = .ok (.getfield 42, 3) := by decide +kernel
theorem dX10_hold_34 : decode cX10_hold 34 = .ok (.invokevirtual 174, 3) := by decide +kernel
theorem dX10_hold_37 : decode cX10_hold 37 = .ok (.astore_n 2, 1) := by decide +kernel
theorem dX10_hold_38 : decode cX10_hold 38 = .ok (.aload_n 0, 1) := by decide +kernel
theorem dX10_hold_39 : decode cX10_hold 39 = .ok (.getfield 35, 3) := by decide +kernel
theorem dX10_hold_42 : decode cX10_hold 42 = .ok (.aload_n 2, 1) := by decide +kernel
theorem dX10_hold_43 : decode cX10_hold 43 = .ok (.iload_n 1, 1) := by decide +kernel
theorem dX10_hold_44 : decode cX10_hold 44 = .ok (.invokevirtual 185, 3) := by decide +kernel
theorem dX10_hold_47 : decode cX10_hold 47 = .ok (.aload_n 2, 1) := by decide +kernel
theorem dX10_hold_48 : decode cX10_hold 48 = .ok (.aload_n 0, 1) := by decide +kernel
theorem dX10_hold_49 : decode cX10_hold 49 = .ok (.getfield 16, 3) := by decide +kernel
theorem dX10_hold_52 : decode cX10_hold 52 = .ok (.invokevirtual 181, 3) := by decide +kernel
theorem dX10_hold_55 : decode cX10_hold 55 = .ok (.ireturn, 1) := by decide +kernel
theorem dX9_next_0 : decode cX9_next 0 = .ok (.aload_n 0, 1) := by decide +kernel
theorem dX9_next_1 : decode cX9_next 1 = .ok (.getfield 23, 3) := by decide +kernel
theorem dX9_next_4 : decode cX9_next 4 = .ok (.aload_n 0, 1) := by decide +kernel
theorem dX9_next_5 : decode cX9_next 5 = .ok (.getfield 19, 3) := by decide +kernel
theorem dX9_next_8 : decode cX9_next 8 = .ok (.if_icmp .ge 44, 3) := by decide +kernel
theorem dX9_next_11 : decode cX9_next 11 = .ok (.aload_n 0, 1) := by decide +kernel
theorem dX9_next_12 : decode cX9_next 12 = .ok (.getfield 7, 3) := by decide +kernel
theorem dX9_next_15 : decode cX9_next 15 = .ok (.aload_n 0, 1) := by decide +kernel
theorem dX9_next_16 : decode cX9_next 16 = .ok (.getfield 23, 3) := by decide +kernel
theorem dX9_next_19 : decode cX9_next 19 = .ok (.baload, 1) := by decide +kernel
theorem dX9_next_20 : decode cX9_next 20 = .ok (.bipush 32, 2) := by decide +kernel
theorem dX9_next_22 : decode cX9_next 22 = .ok (.if_icmp .eq 17, 3) := by decide +kernel
theorem dX9_next_25 : decode cX9_next 25 = .ok (.aload_n 0, 1) := by decide +kernel
theorem dX9_next_26 : decode cX9_next 26 = .ok (.getfield 7, 3) := by decide +kernel
theorem dX9_next_29 : decode cX9_next 29 = .ok (.aload_n 0, 1) := by decide +kernel
theorem dX9_next_30 : decode cX9_next 30 = .ok (.getfield 23, 3) := by decide +kernel
theorem dX9_next_33 : decode cX9_next 33 = .ok (.baload, 1) := by decide +kernel
theorem dX9_next_34 : decode cX9_next 34 = .ok (.bipush 10, 2) := by decide +kernel
theorem dX9_next_36 : decode cX9_next 36 = .ok (.if_icmp .ne 16, 3) := by decide +kernel
theorem dX9_next_39 : decode cX9_next 39 = .ok (.aload_n 0, 1) := by decide +kernel
theorem dX9_next_40 : decode cX9_next 40 = .ok (.dup, 1) := by decide +kernel
theorem dX9_next_41 : decode cX9_next 41 = .ok (.getfield 23, 3) := by decide +kernel
theorem dX9_next_44 : decode cX9_next 44 = .ok (.iconst 1, 1) := by decide +kernel
theorem dX9_next_45 : decode cX9_next 45 = .ok (.iadd, 1) := by decide +kernel
theorem dX9_next_46 : decode cX9_next 46 = .ok (.putfield 23, 3) := by decide +kernel
theorem dX9_next_49 : decode cX9_next 49 = .ok (.goto (-49), 3) := by decide +kernel
theorem dX9_next_52 : decode cX9_next 52 = .ok (.aload_n 0, 1) := by decide +kernel
theorem dX9_next_53 : decode cX9_next 53 = .ok (.aload_n 0, 1) := by decide +kernel
theorem dX9_next_54 : decode cX9_next 54 = .ok (.getfield 23, 3) := by decide +kernel
theorem dX9_next_57 : decode cX9_next 57 = .ok (.putfield 29, 3) := by decide +kernel
theorem dX9_next_60 : decode cX9_next 60 = .ok (.aload_n 0, 1) := by decide +kernel
theorem dX9_next_61 : decode cX9_next 61 = .ok (.getfield 29, 3) := by decide +kernel
theorem dX9_next_64 : decode cX9_next 64 = .ok (.aload_n 0, 1) := by decide +kernel
theorem dX9_next_65 : decode cX9_next 65 = .ok (.getfield 19, 3) := by decide +kernel
theorem dX9_next_68 : decode cX9_next 68 = .ok (.if_icmp .lt 11, 3) := by decide +kernel
theorem dX9_next_71 : decode cX9_next 71 = .ok (.aload_n 0, 1) := by decide +kernel
theorem dX9_next_72 : decode cX9_next 72 = .ok (.iconst 0, 1) := by decide +kernel
theorem dX9_next_73 : decode cX9_next 73 = .ok (.putfield 32, 3) := by decide +kernel
theorem dX9_next_76 : decode cX9_next 76 = .ok (.goto 88, 3) := by decide +kernel
theorem dX9_next_79 : decode cX9_next 79 = .ok (.aload_n 0, 1) := by decide +kernel
theorem dX9_next_80 : decode cX9_next 80 = .ok (.aload_n 0, 1) := by decide +kernel
theorem dX9_next_81 : decode cX9_next 81 = .ok (.getfield 29, 3) := by decide +kernel
theorem dX9_next_84 : decode cX9_next 84 = .ok (.invokevirtual 35, 3) := by decide +kernel
theorem dX9_next_87 : decode cX9_next 87 = .ok (.ifCond .eq 10, 3) := by decide +kernel
theorem dX9_next_90 : decode cX9_next 90 = .ok (.aload_n 0, 1) := by decide +kernel
theorem dX9_next_91 : decode cX9_next 91 = .ok (.invokevirtual 39, 3) := by decide +kernel
theorem dX9_next_94 : decode cX9_next 94 = .ok (.goto 70, 3) := by decide +kernel
theorem dX9_next_97 : decode cX9_next 97 = .ok (.aload_n 0, 1) := by decide +kernel
theorem dX9_next_98 : decode cX9_next 98 = .ok (.aload_n 0, 1) := by decide +kernel
theorem dX9_next_99 : decode cX9_next 99 = .ok (.getfield 29, 3) := by decide +kernel
theorem dX9_next_102 : decode cX9_next 102 = .ok (.invokevirtual 42, 3) := by decide +kernel
theorem dX9_next_105 : decode cX9_next 105 = .ok (.ifCond .eq 10, 3) := by decide +kernel
theorem dX9_next_108 : decode cX9_next 108 = .ok (.aload_n 0, 1) := by decide +kernel
theorem dX9_next_109 : decode cX9_next 109 = .ok (.invokevirtual 45, 3) := by decide +kernel
theorem dX9_next_112 : decode cX9_next 112 = .ok (.goto 52, 3) := by decide +kernel
theorem dX9_next_115 : decode cX9_next 115 = .ok (.aload_n 0, 1) := by decide +kernel
theorem dX9_next_116 : decode cX9_next 116 = .ok (.dup, 1) := by decide +kernel
theorem dX9_next_117 : decode cX9_next 117 = .ok (.getfield 23, 3) := by decide +kernel
theorem dX9_next_120 : decode cX9_next 120 = .ok (.iconst 1, 1) := by decide +kernel
theorem dX9_next_121 : decode cX9_next 121 = .ok (.iadd, 1) := by decide +kernel
theorem dX9_next_122 : decode cX9_next 122 = .ok (.putfield 23, 3) := by decide +kernel
theorem dX9_next_125 : decode cX9_next 125 = .ok (.aload_n 0, 1) := by decide +kernel
theorem dX9_next_126 : decode cX9_next 126 = .ok (.ldc 48, 2) := by decide +kernel
theorem dX9_next_128 : decode cX9_next 128 = .ok (.aload_n 0, 1) := by decide +kernel
theorem dX9_next_129 : decode cX9_next 129 = .ok (.getfield 7, 3) := by decide +kernel
theorem dX9_next_132 : decode cX9_next 132 = .ok (.aload_n 0, 1) := by decide +kernel
theorem dX9_next_133 : decode cX9_next 133 = .ok (.getfield 29, 3) := by decide +kernel
theorem dX9_next_136 : decode cX9_next 136 = .ok (.baload, 1) := by decide +kernel
theorem dX9_next_137 : decode cX9_next 137 = .ok (.sipush 255, 3) := by decide +kernel
theorem dX9_next_140 : decode cX9_next 140 = .ok (.iand, 1) := by decide +kernel
theorem dX9_next_141 : decode cX9_next 141 = .ok (.i2c, 1) := by decide +kernel
theorem dX9_next_142 : decode cX9_next 142 = .ok (.invokevirtual 50, 3) := by decide +kernel
theorem dX9_next_145 : decode cX9_next 145 = .ok (.ifCond .lt 15, 3) := by decide +kernel
theorem dX9_next_148 : decode cX9_next 148 = .ok (.aload_n 0, 1) := by decide +kernel
theorem dX9_next_149 : decode cX9_next 149 = .ok (.getfield 7, 3) := by decide +kernel
theorem dX9_next_152 : decode cX9_next 152 = .ok (.aload_n 0, 1) := by decide +kernel
theorem dX9_next_153 : decode cX9_next 153 = .ok (.getfield 29, 3) := by decide +kernel
theorem dX9_next_156 : decode cX9_next 156 = .ok (.baload, 1) := by decide +kernel
theorem dX9_next_157 : decode cX9_next 157 = .ok (.goto 4, 3) := by decide +kernel
theorem dX9_next_160 : decode cX9_next 160 = .ok (.iconst 1, 1) := by decide +kernel
theorem dX9_next_161 : decode cX9_next 161 = .ok (.putfield 32, 3) := by decide +kernel
theorem dX9_next_164 : decode cX9_next 164 = .ok (.return_, 1) := by decide +kernel
theorem dX9_begin_0 : decode cX9_begin 0 = .ok (.aload_n 0, 1) := by decide +kernel
theorem dX9_begin_1 : decode cX9_begin 1 = .ok (.aload_n 1, 1) := by decide +kernel
theorem dX9_begin_2 : decode cX9_begin 2 = .ok (.putfield 7, 3) := by decide +kernel
theorem dX9_begin_5 : decode cX9_begin 5 = .ok (.aload_n 0, 1) := by decide +kernel
theorem dX9_begin_6 : decode cX9_begin 6 = .ok (.aload_n 1, 1) := by decide +kernel
theorem dX9_begin_7 : decode cX9_begin 7 = .ok (.ifnonnull 7, 3) := by decide +kernel
theorem dX9_begin_10 : decode cX9_begin 10 = .ok (.iconst 0, 1) := by decide +kernel
theorem dX9_begin_11 : decode cX9_begin 11 = .ok (.goto 9, 3) := by decide +kernel
theorem dX9_begin_14 : decode cX9_begin 14 = .ok (.iload_n 2, 1) := by decide +kernel
theorem dX9_begin_15 : decode cX9_begin 15 = .ok (.aload_n 1, 1) := by decide +kernel
theorem dX9_begin_16 : decode cX9_begin 16 = .ok (.arraylength, 1) := by decide +kernel
theorem dX9_begin_17 : decode cX9_begin 17 = .ok (.invokestatic 13, 3) := by decide +kernel
theorem dX9_begin_20 : decode cX9_begin 20 = .ok (.putfield 19, 3) := by decide +kernel
theorem dX9_begin_23 : decode cX9_begin 23 = .ok (.aload_n 0, 1) := by decide +kernel
theorem dX9_begin_24 : decode cX9_begin 24 = .ok (.iconst 0, 1) := by decide +kernel
theorem dX9_begin_25 : decode cX9_begin 25 = .ok (.putfield 23, 3) := by decide +kernel
theorem dX9_begin_28 : decode cX9_begin 28 = .ok (.aload_n 0, 1) := by decide +kernel
theorem dX9_begin_29 : decode cX9_begin 29 = .ok (.invokevirtual 26, 3) := by decide +kernel
theorem dX9_begin_32 : decode cX9_begin 32 = .ok (.return_, 1) := by decide +kernel
theorem dX6_read_0 : decode cX6_read 0 = .ok (.aload_n 0, 1) := by decide +kernel
theorem dX6_read_1 : decode cX6_read 1 = .ok (.iconst 0, 1) := by decide +kernel
theorem dX6_read_2 : decode cX6_read 2 = .ok (.putfield 29, 3) := by decide +kernel
theorem dX6_read_5 : decode cX6_read 5 = .ok (.aload_n 0, 1) := by decide +kernel
theorem dX6_read_6 : decode cX6_read 6 = .ok (.iconst (-1), 1) := by decide +kernel
theorem dX6_read_7 : decode cX6_read 7 = .ok (.putfield 18, 3) := by decide +kernel
theorem dX6_read_10 : decode cX6_read 10 = .ok (.aload_n 0, 1) := by decide +kernel
theorem dX6_read_11 : decode cX6_read 11 = .ok (.aload_n 3, 1) := by decide +kernel
theorem dX6_read_12 : decode cX6_read 12 = .ok (.putfield 32, 3) := by decide +kernel
theorem dX6_read_15 : decode cX6_read 15 = .ok (.aload_n 0, 1) := by decide +kernel
theorem dX6_read_16 : decode cX6_read 16 = .ok (.getfield 32, 3) := by decide +kernel
theorem dX6_read_19 : decode cX6_read 19 = .ok (.invokevirtual 36, 3) := by decide +kernel
theorem dX6_read_22 : decode cX6_read 22 = .ok (.aload_n 0, 1) := by decide +kernel
theorem dX6_read_23 : decode cX6_read 23 = .ok (.getfield 12, 3) := by decide +kernel
theorem dX6_read_26 : decode cX6_read 26 = .ok (.aload_n 1, 1) := by decide +kernel
theorem dX6_read_27 : decode cX6_read 27 = .ok (.iload_n 2, 1) := by decide +kernel
theorem dX6_read_28 : decode cX6_read 28 = .ok (.invokevirtual 41, 3) := by decide +kernel
theorem dX6_read_31 : decode cX6_read 31 = .ok (.iconst 1, 1) := by decide +kernel
theorem dX6_read_32 : decode cX6_read 32 = .ok (.istore 4, 2) := by decide +kernel
theorem dX6_read_34 : decode cX6_read 34 = .ok (.iconst 0, 1) := by decide +kernel
theorem dX6_read_35 : decode cX6_read 35 = .ok (.istore 5, 2) := by decide +kernel
theorem dX6_read_37 : decode cX6_read 37 = .ok (.iload 5, 2) := by decide +kernel
theorem dX6_read_39 : decode cX6_read 39 = .ok (.sipush 1600, 3) := by decide +kernel
theorem dX6_read_42 : decode cX6_read 42 = .ok (.if_icmp .ge 229, 3) := by decide +kernel
theorem dX6_read_45 : decode cX6_read 45 = .ok (.iload 4, 2) := by decide +kernel
theorem dX6_read_47 : decode cX6_read 47 = .ok (.ifCond .eq 224, 3) := by decide +kernel
theorem dX6_read_50 : decode cX6_read 50 = .ok (.aload_n 0, 1) := by decide +kernel
theorem dX6_read_51 : decode cX6_read 51 = .ok (.getfield 12, 3) := by decide +kernel
theorem dX6_read_54 : decode cX6_read 54 = .ok (.getfield 45, 3) := by decide +kernel
theorem dX6_read_57 : decode cX6_read 57 = .ok (.ifCond .eq 214, 3) := by decide +kernel
theorem dX6_read_60 : decode cX6_read 60 = .ok (.aload_n 0, 1) := by decide +kernel
theorem dX6_read_61 : decode cX6_read 61 = .ok (.getfield 12, 3) := by decide +kernel
theorem dX6_read_64 : decode cX6_read 64 = .ok (.getfield 45, 3) := by decide +kernel
theorem dX6_read_67 : decode cX6_read 67 = .ok (.istore 6, 2) := by decide +kernel
theorem dX6_read_69 : decode cX6_read 69 = .ok (.aload_n 0, 1) := by decide +kernel
theorem dX6_read_70 : decode cX6_read 70 = .ok (.iload 6, 2) := by decide +kernel
theorem dX6_read_72 : decode cX6_read 72 = .ok (.invokevirtual 48, 3) := by decide +kernel
theorem dX6_read_75 : decode cX6_read 75 = .ok (.ifCond .ne 9, 3) := by decide +kernel
theorem dX6_read_78 : decode cX6_read 78 = .ok (.aload_n 0, 1) := by decide +kernel
theorem dX6_read_79 : decode cX6_read 79 = .ok (.iconst 2, 1) := by decide +kernel
theorem dX6_read_80 : decode cX6_read 80 = .ok (.invokevirtual 52, 3) := by decide +kernel
theorem dX6_read_83 : decode cX6_read 83 = .ok (.ireturn, 1) := by decide +kernel
theorem dX6_read_84 : decode cX6_read 84 = .ok (.aload_n 0, 1) := by decide +kernel
theorem dX6_read_85 : decode cX6_read 85 = .ok (.getfield 12, 3) := by decide +kernel
theorem dX6_read_88 : decode cX6_read 88 = .ok (.invokevirtual 55, 3) := by decide +kernel
theorem dX6_read_91 : decode cX6_read 91 = .ok (.iload 6, 2) := by decide +kernel
theorem dX6_read_93 : decode cX6_read 93 = .ok (.tableswitch 145 128 146 #[91, 145, 109, 118, 145, 127, 145, 136, 145, 145, 145, 145, 145, 145, 145, 145, 145, 145, 100], 91) := by decide +kernel
theorem dX6_read_184 : decode cX6_read 184 = .ok (.aload_n 0, 1) := by decide +kernel
theorem dX6_read_185 : decode cX6_read 185 = .ok (.invokevirtual 58, 3) := by decide +kernel
theorem dX6_read_188 : decode cX6_read 188 = .ok (.istore 4, 2) := by decide +kernel
theorem dX6_read_190 : decode cX6_read 190 = .ok (.goto 54, 3) := by decide +kernel
theorem dX6_read_193 : decode cX6_read 193 = .ok (.aload_n 0, 1) := by decide +kernel
theorem dX6_read_194 : decode cX6_read 194 = .ok (.invokevirtual 62, 3) := by decide +kernel
theorem dX6_read_197 : decode cX6_read 197 = .ok (.istore 4, 2) := by decide +kernel
theorem dX6_read_199 : decode cX6_read 199 = .ok (.goto 45, 3) := by decide +kernel
theorem dX6_read_202 : decode cX6_read 202 = .ok (.aload_n 0, 1) := by decide +kernel
theorem dX6_read_203 : decode cX6_read 203 = .ok (.invokevirtual 65, 3) := by decide +kernel
theorem dX6_read_206 : decode cX6_read 206 = .ok (.istore 4, 2) := by decide +kernel
theorem dX6_read_208 : decode cX6_read 208 = .ok (.goto 36, 3) := by decide +kernel
theorem dX6_read_211 : decode cX6_read 211 = .ok (.aload_n 0, 1) := by decide +kernel
theorem dX6_read_212 : decode cX6_read 212 = .ok (.invokevirtual 68, 3) := by decide +kernel
theorem dX6_read_215 : decode cX6_read 215 = .ok (.istore 4, 2) := by decide +kernel
theorem dX6_read_217 : decode cX6_read 217 = .ok (.goto 27, 3) := by decide +kernel
theorem dX6_read_220 : decode cX6_read 220 = .ok (.aload_n 0, 1) := by decide +kernel
theorem dX6_read_221 : decode cX6_read 221 = .ok (.invokevirtual 71, 3) := by decide +kernel
theorem dX6_read_224 : decode cX6_read 224 = .ok (.istore 4, 2) := by decide +kernel
theorem dX6_read_226 : decode cX6_read 226 = .ok (.goto 18, 3) := by decide +kernel
theorem dX6_read_229 : decode cX6_read 229 = .ok (.aload_n 0, 1) := by decide +kernel
theorem dX6_read_230 : decode cX6_read 230 = .ok (.invokevirtual 74, 3) := by decide +kernel
theorem dX6_read_233 : decode cX6_read 233 = .ok (.istore 4, 2) := by decide +kernel
theorem dX6_read_235 : decode cX6_read 235 = .ok (.goto 9, 3) := by decide +kernel
theorem dX6_read_238 : decode cX6_read 238 = .ok (.aload_n 0, 1) := by decide +kernel
theorem dX6_read_239 : decode cX6_read 239 = .ok (.invokevirtual 77, 3) := by decide +kernel
theorem dX6_read_242 : decode cX6_read 242 = .ok (.istore 4, 2) := by decide +kernel
theorem dX6_read_244 : decode cX6_read 244 = .ok (.iload 4, 2) := by decide +kernel
theorem dX6_read_246 : decode cX6_read 246 = .ok (.ifCond .eq 16, 3) := by decide +kernel
theorem dX6_read_249 : decode cX6_read 249 = .ok (.aload_n 0, 1) := by decide +kernel
theorem dX6_read_250 : decode cX6_read 250 = .ok (.bipush 59, 2) := by decide +kernel
theorem dX6_read_252 : decode cX6_read 252 = .ok (.invokevirtual 80, 3) := by decide +kernel
theorem dX6_read_255 : decode cX6_read 255 = .ok (.ifCond .eq 7, 3) := by decide +kernel
theorem dX6_read_258 : decode cX6_read 258 = .ok (.iconst 1, 1) := by decide +kernel
theorem dX6_read_259 : decode cX6_read 259 = .ok (.goto 4, 3) := by decide +kernel
theorem dX6_read_262 : decode cX6_read 262 = .ok (.iconst 0, 1) := by decide +kernel
theorem dX6_read_263 : decode cX6_read 263 = .ok (.istore 4, 2) := by decide +kernel
theorem dX6_read_265 : decode cX6_read 265 = .ok (.iinc 5 1, 3) := by decide +kernel
theorem dX6_read_268 : decode cX6_read 268 = .ok (.goto (-231), 3) := by decide +kernel
theorem dX6_read_271 : decode cX6_read 271 = .ok (.iload 4, 2) := by decide +kernel
theorem dX6_read_273 : decode cX6_read 273 = .ok (.ireturn, 1) := by decide +kernel
theorem dX10_pond_0 : decode cX10_pond 0 = .ok (.aload_n 0, 1) := by decide +kernel
theorem dX10_pond_1 : decode cX10_pond 1 = .ok (.getfield 26, 3) := by decide +kernel
theorem dX10_pond_4 : decode cX10_pond 4 = .ok (.aload_n 0, 1) := by decide +kernel
theorem dX10_pond_5 : decode cX10_pond 5 = .ok (.getfield 9, 3) := by decide +kernel
theorem dX10_pond_8 : decode cX10_pond 8 = .ok (.aload_n 0, 1) := by decide +kernel
theorem dX10_pond_9 : decode cX10_pond 9 = .ok (.getfield 100, 3) := by decide +kernel
theorem dX10_pond_12 : decode cX10_pond 12 = .ok (.aload_n 0, 1) := by decide +kernel
theorem dX10_pond_13 : decode cX10_pond 13 = .ok (.getfield 20, 3) := by decide +kernel
theorem dX10_pond_16 : decode cX10_pond 16 = .ok (.invokevirtual 108, 3) := by decide +kernel
theorem dX10_pond_19 : decode cX10_pond 19 = .ok (.ifCond .ne 5, 3) := by decide +kernel
theorem dX10_pond_22 : decode cX10_pond 22 = .ok (.iconst (-1), 1) := by decide +kernel
theorem dX10_pond_23 : decode cX10_pond 23 = .ok (.ireturn, 1) := by decide +kernel
theorem dX10_pond_24 : decode cX10_pond 24 = .ok (.aload_n 0, 1) := by decide +kernel
theorem dX10_pond_25 : decode cX10_pond 25 = .ok (.getfield 16, 3) := by decide +kernel
theorem dX10_pond_28 : decode cX10_pond 28 = .ok (.astore_n 1, 1) := by decide +kernel
theorem dX10_pond_29 : decode cX10_pond 29 = .ok (.aload_n 0, 1) := by decide +kernel
theorem dX10_pond_30 : decode cX10_pond 30 = .ok (.aload_n 0, 1) := by decide +kernel
theorem dX10_pond_31 : decode cX10_pond 31 = .ok (.getfield 20, 3) := by decide +kernel
theorem dX10_pond_34 : decode cX10_pond 34 = .ok (.putfield 16, 3) := by decide +kernel
theorem dX10_pond_37 : decode cX10_pond 37 = .ok (.aload_n 0, 1) := by decide +kernel
theorem dX10_pond_38 : decode cX10_pond 38 = .ok (.aload_n 1, 1) := by decide +kernel
theorem dX10_pond_39 : decode cX10_pond 39 = .ok (.putfield 20, 3) := by decide +kernel
theorem dX10_pond_42 : decode cX10_pond 42 = .ok (.aload_n 0, 1) := by decide +kernel
theorem dX10_pond_43 : decode cX10_pond 43 = .ok (.getfield 35, 3) := by decide +kernel
theorem dX10_pond_46 : decode cX10_pond 46 = .ok (.aload_n 0, 1) := by decide +kernel
theorem dX10_pond_47 : decode cX10_pond 47 = .ok (.getfield 16, 3) := by decide +kernel
theorem dX10_pond_50 : decode cX10_pond 50 = .ok (.putfield 112, 3) := by decide +kernel
theorem dX10_pond_53 : decode cX10_pond 53 = .ok (.aload_n 0, 1) := by decide +kernel
theorem dX10_pond_54 : decode cX10_pond 54 = .ok (.iconst 0, 1) := by decide +kernel
theorem dX10_pond_55 : decode cX10_pond 55 = .ok (.putfield 100, 3) := by decide +kernel
theorem dX10_pond_58 : decode cX10_pond 58 = .ok (.aload_n 0, 1) := by decide +kernel
theorem dX10_pond_59 : decode cX10_pond 59 = .ok (.getfield 42, 3) := by decide +kernel
theorem dX10_pond_62 : decode cX10_pond 62 = .ok (.invokevirtual 115, 3) := by decide +kernel
theorem dX10_pond_65 : decode cX10_pond 65 = .ok (.aload_n 0, 1) := by decide +kernel
theorem dX10_pond_66 : decode cX10_pond 66 = .ok (.getfield 42, 3) := by decide +kernel
theorem dX10_pond_69 : decode cX10_pond 69 = .ok (.invokevirtual 93, 3) := by decide +kernel
theorem dX10_pond_72 : decode cX10_pond 72 = .ok (.aload_n 0, 1) := by decide +kernel
theorem dX10_pond_73 : decode cX10_pond 73 = .ok (.getfield 16, 3) := by decide +kernel
theorem dX10_pond_76 : decode cX10_pond 76 = .ok (.invokevirtual 97, 3) := by decide +kernel
theorem dX10_pond_79 : decode cX10_pond 79 = .ok (.aload_n 0, 1) := by decide +kernel
theorem dX10_pond_80 : decode cX10_pond 80 = .ok (.getfield 59, 3) := by decide +kernel
theorem dX10_pond_83 : decode cX10_pond 83 = .ok (.invokevirtual 118, 3) := by decide +kernel
theorem dX10_pond_86 : decode cX10_pond 86 = .ok (.aload_n 0, 1) := by decide +kernel
theorem dX10_pond_87 : decode cX10_pond 87 = .ok (.iconst 0, 1) := by decide +kernel
theorem dX10_pond_88 : decode cX10_pond 88 = .ok (.putfield 121, 3) := by decide +kernel
theorem dX10_pond_91 : decode cX10_pond 91 = .ok (.iconst 0, 1) := by decide +kernel
theorem dX10_pond_92 : decode cX10_pond 92 = .ok (.istore_n 2, 1) := by decide +kernel
theorem dX10_pond_93 : decode cX10_pond 93 = .ok (.iload_n 2, 1) := by decide +kernel
theorem dX10_pond_94 : decode cX10_pond 94 = .ok (.iconst 3, 1) := by decide +kernel
theorem dX10_pond_95 : decode cX10_pond 95 = .ok (.if_icmp .ge 16, 3) := by decide +kernel
theorem dX10_pond_98 : decode cX10_pond 98 = .ok (.aload_n 0, 1) := by decide +kernel
theorem dX10_pond_99 : decode cX10_pond 99 = .ok (.getfield 52, 3) := by decide +kernel
theorem dX10_pond_102 : decode cX10_pond 102 = .ok (.iload_n 2, 1) := by decide +kernel
theorem dX10_pond_103 : decode cX10_pond 103 = .ok (.iconst 0, 1) := by decide +kernel
theorem dX10_pond_104 : decode cX10_pond 104 = .ok (.bastore, 1) := by decide +kernel
theorem dX10_pond_105 : decode cX10_pond 105 = .ok (.iinc 2 1, 3) := by decide +kernel
theorem dX10_pond_108 : decode cX10_pond 108 = .ok (.goto (-15), 3) := by decide +kernel
theorem dX10_pond_111 : decode cX10_pond 111 = .ok (.aload_n 0, 1) := by decide +kernel
theorem dX10_pond_112 : decode cX10_pond 112 = .ok (.getfield 16, 3) := by decide +kernel
theorem dX10_pond_115 : decode cX10_pond 115 = .ok (.getfield 124, 3) := by decide +kernel
theorem dX10_pond_118 : decode cX10_pond 118 = .ok (.aload_n 0, 1) := by decide +kernel
theorem dX10_pond_119 : decode cX10_pond 119 = .ok (.getfield 16, 3) := by decide +kernel
theorem dX10_pond_122 : decode cX10_pond 122 = .ok (.getfield 127, 3) := by decide +kernel
theorem dX10_pond_125 : decode cX10_pond 125 = .ok (.imul, 1) := by decide +kernel
theorem dX10_pond_126 : decode cX10_pond 126 = .ok (.ireturn, 1) := by decide +kernel
theorem dX7_extend_0 : decode cX7_extend 0 = .ok (.iload_n 1, 1) := by decide +kernel
theorem dX7_extend_1 : decode cX7_extend 1 = .ok (.aload_n 0, 1) := by decide +kernel
theorem dX7_extend_2 : decode cX7_extend 2 = .ok (.getfield 37, 3) := by decide +kernel
theorem dX7_extend_5 : decode cX7_extend 5 = .ok (.if_icmp .ge 8, 3) := by decide +kernel
theorem dX7_extend_8 : decode cX7_extend 8 = .ok (.iload_n 1, 1) := by decide +kernel
theorem dX7_extend_9 : decode cX7_extend 9 = .ok (.iconst 3, 1) := by decide +kernel
theorem dX7_extend_10 : decode cX7_extend 10 = .ok (.if_icmp .lt 24, 3) := by decide +kernel
theorem dX7_extend_13 : decode cX7_extend 13 = .ok (.aload_n 0, 1) := by decide +kernel
theorem dX7_extend_14 : decode cX7_extend 14 = .ok (.getfield 25, 3) := by decide +kernel
theorem dX7_extend_17 : decode cX7_extend 17 = .ok (.iload_n 1, 1) := by decide +kernel
theorem dX7_extend_18 : decode cX7_extend 18 = .ok (.aaload, 1) := by decide +kernel
theorem dX7_extend_19 : decode cX7_extend 19 = .ok (.getfield 67, 3) := by decide +kernel
theorem dX7_extend_22 : decode cX7_extend 22 = .ok (.aload_n 0, 1) := by decide +kernel
theorem dX7_extend_23 : decode cX7_extend 23 = .ok (.getfield 49, 3) := by decide +kernel
theorem dX7_extend_26 : decode cX7_extend 26 = .ok (.if_icmp .lt 7, 3) := by decide +kernel
theorem dX7_extend_29 : decode cX7_extend 29 = .ok (.aload_n 0, 1) := by decide +kernel
theorem dX7_extend_30 : decode cX7_extend 30 = .ok (.invokevirtual 70, 3) := by decide +kernel
theorem dX7_extend_33 : decode cX7_extend 33 = .ok (.return_, 1) := by decide +kernel
theorem dX7_extend_34 : decode cX7_extend 34 = .ok (.iconst 0, 1) := by decide +kernel
theorem dX7_extend_35 : decode cX7_extend 35 = .ok (.istore_n 2, 1) := by decide +kernel
theorem dX7_extend_36 : decode cX7_extend 36 = .ok (.iload_n 2, 1) := by decide +kernel
theorem dX7_extend_37 : decode cX7_extend 37 = .ok (.aload_n 0, 1) := by decide +kernel
theorem dX7_extend_38 : decode cX7_extend 38 = .ok (.getfield 21, 3) := by decide +kernel
theorem dX7_extend_41 : decode cX7_extend 41 = .ok (.getfield 51, 3) := by decide +kernel
theorem dX7_extend_44 : decode cX7_extend 44 = .ok (.getfield 73, 3) := by decide +kernel
theorem dX7_extend_47 : decode cX7_extend 47 = .ok (.if_icmp .ge 56, 3) := by decide +kernel
theorem dX7_extend_50 : decode cX7_extend 50 = .ok (.aload_n 0, 1) := by decide +kernel
theorem dX7_extend_51 : decode cX7_extend 51 = .ok (.getfield 9, 3) := by decide +kernel
theorem dX7_extend_54 : decode cX7_extend 54 = .ok (.iload_n 1, 1) := by decide +kernel
theorem dX7_extend_55 : decode cX7_extend 55 = .ok (.iload_n 2, 1) := by decide +kernel
theorem dX7_extend_56 : decode cX7_extend 56 = .ok (.iastore, 1) := by decide +kernel
theorem dX7_extend_57 : decode cX7_extend 57 = .ok (.aload_n 0, 1) := by decide +kernel
theorem dX7_extend_58 : decode cX7_extend 58 = .ok (.getfield 25, 3) := by decide +kernel
theorem dX7_extend_61 : decode cX7_extend 61 = .ok (.iload_n 1, 1) := by decide +kernel
theorem dX7_extend_62 : decode cX7_extend 62 = .ok (.iconst 1, 1) := by decide +kernel
theorem dX7_extend_63 : decode cX7_extend 63 = .ok (.iadd, 1) := by decide +kernel
theorem dX7_extend_64 : decode cX7_extend 64 = .ok (.aaload, 1) := by decide +kernel
theorem dX7_extend_65 : decode cX7_extend 65 = .ok (.aload_n 0, 1) := by decide +kernel
theorem dX7_extend_66 : decode cX7_extend 66 = .ok (.getfield 25, 3) := by decide +kernel
theorem dX7_extend_69 : decode cX7_extend 69 = .ok (.iload_n 1, 1) := by decide +kernel
theorem dX7_extend_70 : decode cX7_extend 70 = .ok (.aaload, 1) := by decide +kernel
theorem dX7_extend_71 : decode cX7_extend 71 = .ok (.invokevirtual 76, 3) := by decide +kernel
theorem dX7_extend_74 : decode cX7_extend 74 = .ok (.aload_n 0, 1) := by decide +kernel
theorem dX7_extend_75 : decode cX7_extend 75 = .ok (.aload_n 0, 1) := by decide +kernel
theorem dX7_extend_76 : decode cX7_extend 76 = .ok (.getfield 25, 3) := by decide +kernel
theorem dX7_extend_79 : decode cX7_extend 79 = .ok (.iload_n 1, 1) := by decide +kernel
theorem dX7_extend_80 : decode cX7_extend 80 = .ok (.iconst 1, 1) := by decide +kernel
theorem dX7_extend_81 : decode cX7_extend 81 = .ok (.iadd, 1) := by decide +kernel
theorem dX7_extend_82 : decode cX7_extend 82 = .ok (.aaload, 1) := by decide +kernel
theorem dX7_extend_83 : decode cX7_extend 83 = .ok (.iload_n 2, 1) := by decide +kernel
theorem dX7_extend_84 : decode cX7_extend 84 = .ok (.invokevirtual 80, 3) := by decide +kernel
theorem dX7_extend_87 : decode cX7_extend 87 = .ok (.ifCond .eq 10, 3) := by decide +kernel
theorem dX7_extend_90 : decode cX7_extend 90 = .ok (.aload_n 0, 1) := by decide +kernel
theorem dX7_extend_91 : decode cX7_extend 91 = .ok (.iload_n 1, 1) := by decide +kernel
theorem dX7_extend_92 : decode cX7_extend 92 = .ok (.iconst 1, 1) := by decide +kernel
theorem dX7_extend_93 : decode cX7_extend 93 = .ok (.iadd, 1) := by decide +kernel
theorem dX7_extend_94 : decode cX7_extend 94 = .ok (.invokevirtual 63, 3) := by decide +kernel
theorem dX7_extend_97 : decode cX7_extend 97 = .ok (.iinc 2 1, 3) := by decide +kernel
theorem dX7_extend_100 : decode cX7_extend 100 = .ok (.goto (-64), 3) := by decide +kernel
theorem dX7_extend_103 : decode cX7_extend 103 = .ok (.return_, 1) := by decide +kernel
theorem dX7_count_0 : decode cX7_count 0 = .ok (.aload_n 0, 1) := by decide +kernel
theorem dX7_count_1 : decode cX7_count 1 = .ok (.iconst 0, 1) := by decide +kernel
theorem dX7_count_2 : decode cX7_count 2 = .ok (.putfield 33, 3) := by decide +kernel
theorem dX7_count_5 : decode cX7_count 5 = .ok (.aload_n 0, 1) := by decide +kernel
theorem dX7_count_6 : decode cX7_count 6 = .ok (.iload_n 1, 1) := by decide +kernel
theorem dX7_count_7 : decode cX7_count 7 = .ok (.putfield 37, 3) := by decide +kernel
theorem dX7_count_10 : decode cX7_count 10 = .ok (.aload_n 0, 1) := by decide +kernel
theorem dX7_count_11 : decode cX7_count 11 = .ok (.iload_n 2, 1) := by decide +kernel
theorem dX7_count_12 : decode cX7_count 12 = .ok (.putfield 40, 3) := by decide +kernel
theorem dX7_count_15 : decode cX7_count 15 = .ok (.aload_n 0, 1) := by decide +kernel
theorem dX7_count_16 : decode cX7_count 16 = .ok (.aload_n 0, 1) := by decide +kernel
theorem dX7_count_17 : decode cX7_count 17 = .ok (.getfield 29, 3) := by decide +kernel
theorem dX7_count_20 : decode cX7_count 20 = .ok (.iload_n 2, 1) := by decide +kernel
theorem dX7_count_21 : decode cX7_count 21 = .ok (.invokevirtual 43, 3) := by decide +kernel
theorem dX7_count_24 : decode cX7_count 24 = .ok (.putfield 49, 3) := by decide +kernel
theorem dX7_count_27 : decode cX7_count 27 = .ok (.aload_n 0, 1) := by decide +kernel
theorem dX7_count_28 : decode cX7_count 28 = .ok (.getfield 25, 3) := by decide +kernel
theorem dX7_count_31 : decode cX7_count 31 = .ok (.iconst 0, 1) := by decide +kernel
theorem dX7_count_32 : decode cX7_count 32 = .ok (.aaload, 1) := by decide +kernel
theorem dX7_count_33 : decode cX7_count 33 = .ok (.aload_n 0, 1) := by decide +kernel
theorem dX7_count_34 : decode cX7_count 34 = .ok (.getfield 21, 3) := by decide +kernel
theorem dX7_count_37 : decode cX7_count 37 = .ok (.getfield 51, 3) := by decide +kernel
theorem dX7_count_40 : decode cX7_count 40 = .ok (.invokevirtual 57, 3) := by decide +kernel
theorem dX7_count_43 : decode cX7_count 43 = .ok (.aload_n 0, 1) := by decide +kernel
theorem dX7_count_44 : decode cX7_count 44 = .ok (.iconst 0, 1) := by decide +kernel
theorem dX7_count_45 : decode cX7_count 45 = .ok (.invokevirtual 63, 3) := by decide +kernel
theorem dX7_count_48 : decode cX7_count 48 = .ok (.aload_n 0, 1) := by decide +kernel
theorem dX7_count_49 : decode cX7_count 49 = .ok (.getfield 33, 3) := by decide +kernel
theorem dX7_count_52 : decode cX7_count 52 = .ok (.ireturn, 1) := by decide +kernel
theorem dX10_asked_0 : decode cX10_asked 0 = .ok (.aload_n 0, 1) := by decide +kernel
theorem dX10_asked_1 : decode cX10_asked 1 = .ok (.iconst 0, 1) := by decide +kernel
theorem dX10_asked_2 : decode cX10_asked 2 = .ok (.putfield 121, 3) := by decide +kernel
theorem dX10_asked_5 : decode cX10_asked 5 = .ok (.iload_n 1, 1) := by decide +kernel
theorem dX10_asked_6 : decode cX10_asked 6 = .ok (.iconst 1, 1) := by decide +kernel
theorem dX10_asked_7 : decode cX10_asked 7 = .ok (.if_icmp .lt 8, 3) := by decide +kernel
theorem dX10_asked_10 : decode cX10_asked 10 = .ok (.iload_n 1, 1) := by decide +kernel
theorem dX10_asked_11 : decode cX10_asked 11 = .ok (.iconst 3, 1) := by decide +kernel
theorem dX10_asked_12 : decode cX10_asked 12 = .ok (.if_icmp .le 5, 3) := by decide +kernel
theorem dX10_asked_15 : decode cX10_asked 15 = .ok (.iconst (-1), 1) := by decide +kernel
theorem dX10_asked_16 : decode cX10_asked 16 = .ok (.ireturn, 1) := by decide +kernel
theorem dX10_asked_17 : decode cX10_asked 17 = .ok (.aload_n 0, 1) := by decide +kernel
theorem dX10_asked_18 : decode cX10_asked 18 = .ok (.getfield 89, 3) := by decide +kernel
theorem dX10_asked_21 : decode cX10_asked 21 = .ok (.iload_n 1, 1) := by decide +kernel
theorem dX10_asked_22 : decode cX10_asked 22 = .ok (.iload_n 2, 1) := by decide +kernel
theorem dX10_asked_23 : decode cX10_asked 23 = .ok (.invokevirtual 252, 3) := by decide +kernel
theorem dX10_asked_26 : decode cX10_asked 26 = .ok (.istore_n 3, 1) := by decide +kernel
theorem dX10_asked_27 : decode cX10_asked 27 = .ok (.iload_n 3, 1) := by decide +kernel
theorem dX10_asked_28 : decode cX10_asked 28 = .ok (.ifCond .le 15, 3) := by decide +kernel
theorem dX10_asked_31 : decode cX10_asked 31 = .ok (.aload_n 0, 1) := by decide +kernel
theorem dX10_asked_32 : decode cX10_asked 32 = .ok (.aload_n 0, 1) := by decide +kernel
theorem dX10_asked_33 : decode cX10_asked 33 = .ok (.getfield 89, 3) := by decide +kernel
theorem dX10_asked_36 : decode cX10_asked 36 = .ok (.getfield 256, 3) := by decide +kernel
theorem dX10_asked_39 : decode cX10_asked 39 = .ok (.iload_n 1, 1) := by decide +kernel
theorem dX10_asked_40 : decode cX10_asked 40 = .ok (.invokevirtual 211, 3) := by decide +kernel
theorem dX10_asked_43 : decode cX10_asked 43 = .ok (.iload_n 3, 1) := by decide +kernel
theorem dX10_asked_44 : decode cX10_asked 44 = .ok (.ireturn, 1) := by decide +kernel
theorem dX10_sure_0 : decode cX10_sure 0 = .ok (.iload_n 1, 1) := by decide +kernel
theorem dX10_sure_1 : decode cX10_sure 1 = .ok (.iconst 1, 1) := by decide +kernel
theorem dX10_sure_2 : decode cX10_sure 2 = .ok (.if_icmp .lt 17, 3) := by decide +kernel
theorem dX10_sure_5 : decode cX10_sure 5 = .ok (.iload_n 1, 1) := by decide +kernel
theorem dX10_sure_6 : decode cX10_sure 6 = .ok (.iconst 3, 1) := by decide +kernel
theorem dX10_sure_7 : decode cX10_sure 7 = .ok (.if_icmp .gt 12, 3) := by decide +kernel
theorem dX10_sure_10 : decode cX10_sure 10 = .ok (.iload_n 2, 1) := by decide +kernel
theorem dX10_sure_11 : decode cX10_sure 11 = .ok (.ifCond .lt 8, 3) := by decide +kernel
theorem dX10_sure_14 : decode cX10_sure 14 = .ok (.iload_n 2, 1) := by decide +kernel
theorem dX10_sure_15 : decode cX10_sure 15 = .ok (.iload_n 1, 1) := by decide +kernel
theorem dX10_sure_16 : decode cX10_sure 16 = .ok (.if_icmp .lt 5, 3) := by decide +kernel
theorem dX10_sure_19 : decode cX10_sure 19 = .ok (.iconst (-1), 1) := by decide +kernel
theorem dX10_sure_20 : decode cX10_sure 20 = .ok (.ireturn, 1) := by decide +kernel
theorem dX10_sure_21 : decode cX10_sure 21 = .ok (.aload_n 0, 1) := by decide +kernel
theorem dX10_sure_22 : decode cX10_sure 22 = .ok (.getfield 89, 3) := by decide +kernel
theorem dX10_sure_25 : decode cX10_sure 25 = .ok (.iload_n 1, 1) := by decide +kernel
theorem dX10_sure_26 : decode cX10_sure 26 = .ok (.iload_n 3, 1) := by decide +kernel
theorem dX10_sure_27 : decode cX10_sure 27 = .ok (.invokevirtual 252, 3) := by decide +kernel
theorem dX10_sure_30 : decode cX10_sure 30 = .ok (.ifCond .ne 7, 3) := by decide +kernel
theorem dX10_sure_33 : decode cX10_sure 33 = .ok (.iconst (-1), 1) := by decide +kernel
theorem dX10_sure_34 : decode cX10_sure 34 = .ok (.goto 12, 3) := by decide +kernel
theorem dX10_sure_37 : decode cX10_sure 37 = .ok (.aload_n 0, 1) := by decide +kernel
theorem dX10_sure_38 : decode cX10_sure 38 = .ok (.getfield 89, 3) := by decide +kernel
theorem dX10_sure_41 : decode cX10_sure 41 = .ok (.getfield 259, 3) := by decide +kernel
theorem dX10_sure_44 : decode cX10_sure 44 = .ok (.iload_n 2, 1) := by decide +kernel
theorem dX10_sure_45 : decode cX10_sure 45 = .ok (.iaload, 1) := by decide +kernel
theorem dX10_sure_46 : decode cX10_sure 46 = .ok (.ireturn, 1) := by decide +kernel
